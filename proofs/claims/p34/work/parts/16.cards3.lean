/-! Cards, the end -/
section CC
variable {Γ : zΓ} {d : Nat} {w : zW} {b : Nat} {B : zB}
theorem jfst_r {n : Nat} {f : Int → Int} {lo hi : Int} (h : ∀ i : Int, 0 ≤ i → i < n → lo ≤ f i ∧ f i ≤ hi) (h0 : lo ≤ 0 ∧ 0 ≤ hi) : lo ≤ jfst n f ∧ jfst n f ≤ hi := by
  rcases jfst_spec n f with ⟨a, _⟩ | ⟨j, j1, j2, j3, j4, _⟩
  · rw [a]; exact h0
  · rw [j4]; exact h j j1 j2
theorem jcor_r {P : Int → Int} (hP : ∀ z, 0 ≤ P z ∧ P z ≤ 90) (c k : Int) : 0 ≤ jcor P c k ∧ jcor P c k ≤ 90 := jfst_r (fun i _ _ => hP _) (by decide)
def jisco (P : Int → Int) (c n : Int) : Int := jcnt 4 (fun k => decide (jcor P c k = n))
theorem jcnt_pos {n : Nat} {q : Int → Bool} {k : Int} (h1 : 0 ≤ k) (h2 : k < n) (h : q k = true) : jcnt n q ≠ 0 := by
  induction n with
  | zero => omega
  | succ n ih =>
    have e : jcnt (n + 1) q = jcnt n q + jb (q (n : Int) = true) := rfl
    have a := jcnt_nn n q
    have b := jb_r (P := q (n : Int) = true)
    by_cases hk : k = n
    · rw [e, jb_pos (by rw [← hk]; exact h)]
      omega
    · have := ih (by omega)
      omega
theorem jcnt_none {n : Nat} {q : Int → Bool} (h : ∀ k : Int, 0 ≤ k → k < n → q k = false) : jcnt n q = 0 := by
  induction n with
  | zero => rfl
  | succ n ih =>
    have e : jcnt (n + 1) q = jcnt n q + jb (q (n : Int) = true) := rfl
    rw [e, ih (fun k h1 h2 => h k h1 (by omega)), jb_neg (by rw [h n (by omega) (by omega)]; decide)]
    rfl
theorem s_isCorner (n : Int) (hn : 1 ≤ n ∧ n ≤ 90) (hr : 0 ≤ B 1 n ∧ B 1 n < 18) (hP : ∀ z, 0 ≤ B 0 z ∧ B 0 z ≤ 90) : zFn Γ md_X1_isCorner (d + 1) [.ref (b + 1), .int (jI n)] (bk b B w) (some (.int (jI (jb (jisco (B 0) (B 1 n / 3) n ≠ 0))))) (bk b B w) := by
  refine zFn.of_run (lv := [some (.ref (b + 1)), some (.int (jI n)), none]) (by decide) rfl (Nat.le_of_ble_eq_true rfl) rfl (fun n9 g9 => ?_)
  refine zr_iconst dX1_isCorner_0 (rfl : 0 + 1 = 1) ?_
  refine zr_istore_n (lv' := [_, _, _]) dX1_isCorner_1 (rfl : 1 + 1 = 2) (Nat.le_of_ble_eq_true rfl) rfl ?_
  refine zfor1 0 4 (fun i _ => ∀ k : Int, 0 ≤ k → k < i → ¬ jcor (B 0) (B 1 n / 3) k = n) (fun i (_ : Unit) => [some (.ref (b + 1)), some (.int (jI n)), some (.int (jI i))]) (fun _ _ => bk b B w) () (fun k h1 h2 => by omega) ?_ ?_
  · intro i _ h0 h9 hI hk
    have hcr := jcor_r hP (B 1 n / 3) i
    refine zr_iload_n dX1_isCorner_2 (rfl : 2 + 1 = 3) rfl ?_
    refine zr_iconst dX1_isCorner_3 (rfl : 3 + 1 = 4) ?_
    refine zr_icmp_ge (tgt := 32) dX1_isCorner_4 (by decide) (rfl : 4 + 3 = 7) (jI_le (by first | omega | (simp only [bset, reduceIte, Nat.reduceEqDiff]; omega)) (by first | omega | (simp only [bset, reduceIte, Nat.reduceEqDiff]; omega)) (by first | omega | (simp only [bset, reduceIte, Nat.reduceEqDiff]; omega)) (by first | omega | (simp only [bset, reduceIte, Nat.reduceEqDiff]; omega))) (fun h4 => ?_) (fun h4 => ?_)
    · first
      | (exfalso; omega)
      | (
        refine zr_iconst dX1_isCorner_32 (rfl : 32 + 1 = 33) ?_
        refine zr_iret dX1_isCorner_33 rfl (by first | exact jb_nar | rfl) ?_ rfl rfl rfl
        first | rfl | rw [jb_pos (by first | assumption | omega)] | rw [jb_neg (by first | assumption | omega)] | rw [if_pos (by first | assumption | omega)] | rw [if_neg (by first | assumption | omega)])
    · first
      | (exfalso; omega)
      | (
        refine zr_aload_n dX1_isCorner_7 (rfl : 7 + 1 = 8) rfl ?_
        refine zr_aload_n dX1_isCorner_8 (rfl : 8 + 1 = 9) rfl ?_
        refine zr_getf dX1_isCorner_9 (rfl : 9 + 3 = 12) f_X1_15 (by first | assumption | exact mw_167 | exact mw_168 | exact mw_169 | exact mw_170 | exact bk_0 | exact bk_1 | exact bk_2 | exact bk_3 | exact bk_4 | exact bk_5 | exact bk_6 | exact bk_7 | exact bk_8 | exact bk_9 | exact bk_10 | exact bk_11 | exact bk_12 | exact bk_13 | exact bk_14 | exact bk_15 | exact bk_16 | exact zup_self | exact (zup_ne (by first | assumption | omega)).trans (by first | assumption | exact zup_self) | exact (zup_ne (by first | assumption | omega)).trans ((zup_ne (by first | assumption | omega)).trans (by first | assumption | exact zup_self)) | exact (bk_out (by first | omega | (simp only [bset, reduceIte, Nat.reduceEqDiff]; omega))).trans (by first | exact bk_0 | exact bk_1 | exact bk_2 | exact bk_3 | exact bk_4 | exact bk_5 | exact bk_6 | exact bk_7 | exact bk_8 | exact bk_9 | exact bk_10 | exact bk_11 | exact bk_12 | exact bk_13 | exact bk_14 | exact bk_15 | exact bk_16 | exact cr_5 | exact cr_23 | exact cr_24 | exact cr_25 | exact cr_26 | exact cr_27 | exact cr_28 | exact cr_29 | exact cr_30 | assumption)) rfl ?_
        refine zr_iload_n dX1_isCorner_12 (rfl : 12 + 1 = 13) rfl ?_
        refine zr_iald dX1_isCorner_13 (rfl : 13 + 1 = 14) (by first | assumption | exact mw_167 | exact mw_168 | exact mw_169 | exact mw_170 | exact bk_0 | exact bk_1 | exact bk_2 | exact bk_3 | exact bk_4 | exact bk_5 | exact bk_6 | exact bk_7 | exact bk_8 | exact bk_9 | exact bk_10 | exact bk_11 | exact bk_12 | exact bk_13 | exact bk_14 | exact bk_15 | exact bk_16 | exact zup_self | exact (zup_ne (by first | assumption | omega)).trans (by first | assumption | exact zup_self) | exact (zup_ne (by first | assumption | omega)).trans ((zup_ne (by first | assumption | omega)).trans (by first | assumption | exact zup_self)) | exact (bk_out (by first | omega | (simp only [bset, reduceIte, Nat.reduceEqDiff]; omega))).trans (by first | exact bk_0 | exact bk_1 | exact bk_2 | exact bk_3 | exact bk_4 | exact bk_5 | exact bk_6 | exact bk_7 | exact bk_8 | exact bk_9 | exact bk_10 | exact bk_11 | exact bk_12 | exact bk_13 | exact bk_14 | exact bk_15 | exact bk_16 | exact cr_5 | exact cr_23 | exact cr_24 | exact cr_25 | exact cr_26 | exact cr_27 | exact cr_28 | exact cr_29 | exact cr_30 | assumption)) (by decide) (by first | omega | (simp only [bset, reduceIte, Nat.reduceEqDiff]; omega)) (by first | omega | (simp only [bset, reduceIte, Nat.reduceEqDiff]; omega)) ?_
        refine zr_iconst dX1_isCorner_14 (rfl : 14 + 1 = 15) ?_
        refine zr_idiv dX1_isCorner_15 (rfl : 15 + 1 = 16) (fun q => absurd ((jI_z (by first | omega | (simp only [bset, reduceIte, Nat.reduceEqDiff]; omega)) (by first | omega | (simp only [bset, reduceIte, Nat.reduceEqDiff]; omega))).mp q) (by first | omega | (simp only [bset, reduceIte, Nat.reduceEqDiff]; omega))) (jI_div (by first | omega | (simp only [bset, reduceIte, Nat.reduceEqDiff]; omega)) (by first | omega | (simp only [bset, reduceIte, Nat.reduceEqDiff]; omega)) (by first | omega | (simp only [bset, reduceIte, Nat.reduceEqDiff]; omega)) (by first | omega | (simp only [bset, reduceIte, Nat.reduceEqDiff]; omega))) ?_
        refine zr_iload_n dX1_isCorner_16 (rfl : 16 + 1 = 17) rfl ?_
        refine zr_fnV dX1_isCorner_17 (rfl : 17 + 3 = 20) l_X1_70 (s_corner _ i (by first | omega | (simp only [bset, reduceIte, Nat.reduceEqDiff]; omega)) (by first | omega | (simp only [bset, reduceIte, Nat.reduceEqDiff]; omega)) hP) (by first | assumption | exact mw_167 | exact mw_168 | exact mw_169 | exact mw_170 | exact bk_0 | exact bk_1 | exact bk_2 | exact bk_3 | exact bk_4 | exact bk_5 | exact bk_6 | exact bk_7 | exact bk_8 | exact bk_9 | exact bk_10 | exact bk_11 | exact bk_12 | exact bk_13 | exact bk_14 | exact bk_15 | exact bk_16 | exact zup_self | exact (zup_ne (by first | assumption | omega)).trans (by first | assumption | exact zup_self) | exact (zup_ne (by first | assumption | omega)).trans ((zup_ne (by first | assumption | omega)).trans (by first | assumption | exact zup_self)) | exact (bk_out (by first | omega | (simp only [bset, reduceIte, Nat.reduceEqDiff]; omega))).trans (by first | exact bk_0 | exact bk_1 | exact bk_2 | exact bk_3 | exact bk_4 | exact bk_5 | exact bk_6 | exact bk_7 | exact bk_8 | exact bk_9 | exact bk_10 | exact bk_11 | exact bk_12 | exact bk_13 | exact bk_14 | exact bk_15 | exact bk_16 | exact cr_5 | exact cr_23 | exact cr_24 | exact cr_25 | exact cr_26 | exact cr_27 | exact cr_28 | exact cr_29 | exact cr_30 | assumption)) rfl rfl rfl (Nat.le_of_ble_eq_true rfl) ?_
        refine zr_iload_n dX1_isCorner_20 (rfl : 20 + 1 = 21) rfl ?_
        refine zr_icmp_ne (tgt := 26) dX1_isCorner_21 (by decide) (rfl : 21 + 3 = 24) (jI_eq (by first | omega | (simp only [bset, reduceIte, Nat.reduceEqDiff]; omega)) (by first | omega | (simp only [bset, reduceIte, Nat.reduceEqDiff]; omega)) (by first | omega | (simp only [bset, reduceIte, Nat.reduceEqDiff]; omega)) (by first | omega | (simp only [bset, reduceIte, Nat.reduceEqDiff]; omega))) (fun h21 => ?_) (fun h21 => ?_)
        · first
          | (exfalso; omega)
          | (
            refine zr_iinc (lv' := [_, _, _]) dX1_isCorner_26 (rfl : 26 + 3 = 29) (Nat.le_of_ble_eq_true rfl) rfl (by first | exact jI_add _ _ | rfl) rfl ?_
            refine zr_goto (tgt := 2) dX1_isCorner_29 (by decide) ?_
            refine hk () ?_
            intro k h1 h2
            by_cases hki : k = i
            · rw [hki]; omega
            · exact hI k h1 (by omega))
        · first
          | (exfalso; omega)
          | (
            refine zr_iconst dX1_isCorner_24 (rfl : 24 + 1 = 25) ?_
            refine zr_iret dX1_isCorner_25 rfl (by first | exact jb_nar | rfl) ?_ rfl rfl rfl
            rw [jb_pos]
            exact jcnt_pos h0 h9 (by simpa using (by omega : jcor (B 0) (B 1 n / 3) i = n))))
  · intro _ hI
    refine zr_iload_n dX1_isCorner_2 (rfl : 2 + 1 = 3) rfl ?_
    refine zr_iconst dX1_isCorner_3 (rfl : 3 + 1 = 4) ?_
    refine zr_icmp_ge (tgt := 32) dX1_isCorner_4 (by decide) (rfl : 4 + 3 = 7) (jI_le (by first | omega | (simp only [bset, reduceIte, Nat.reduceEqDiff]; omega)) (by first | omega | (simp only [bset, reduceIte, Nat.reduceEqDiff]; omega)) (by first | omega | (simp only [bset, reduceIte, Nat.reduceEqDiff]; omega)) (by first | omega | (simp only [bset, reduceIte, Nat.reduceEqDiff]; omega))) (fun h4 => ?_) (fun h4 => ?_)
    · first
      | (exfalso; omega)
      | (
        refine zr_iconst dX1_isCorner_32 (rfl : 32 + 1 = 33) ?_
        refine zr_iret dX1_isCorner_33 rfl (by first | exact jb_nar | rfl) ?_ rfl rfl rfl
        rw [jb_neg]
        intro h
        exact h (jcnt_none (fun k h1 h2 => by simpa using hI k h1 h2)))
    · first
      | (exfalso; omega)
      | (
        refine zr_aload_n dX1_isCorner_7 (rfl : 7 + 1 = 8) rfl ?_
        refine zr_aload_n dX1_isCorner_8 (rfl : 8 + 1 = 9) rfl ?_
        refine zr_getf dX1_isCorner_9 (rfl : 9 + 3 = 12) f_X1_15 (by first | assumption | exact mw_167 | exact mw_168 | exact mw_169 | exact mw_170 | exact bk_0 | exact bk_1 | exact bk_2 | exact bk_3 | exact bk_4 | exact bk_5 | exact bk_6 | exact bk_7 | exact bk_8 | exact bk_9 | exact bk_10 | exact bk_11 | exact bk_12 | exact bk_13 | exact bk_14 | exact bk_15 | exact bk_16 | exact zup_self | exact (zup_ne (by first | assumption | omega)).trans (by first | assumption | exact zup_self) | exact (zup_ne (by first | assumption | omega)).trans ((zup_ne (by first | assumption | omega)).trans (by first | assumption | exact zup_self)) | exact (bk_out (by first | omega | (simp only [bset, reduceIte, Nat.reduceEqDiff]; omega))).trans (by first | exact bk_0 | exact bk_1 | exact bk_2 | exact bk_3 | exact bk_4 | exact bk_5 | exact bk_6 | exact bk_7 | exact bk_8 | exact bk_9 | exact bk_10 | exact bk_11 | exact bk_12 | exact bk_13 | exact bk_14 | exact bk_15 | exact bk_16 | exact cr_5 | exact cr_23 | exact cr_24 | exact cr_25 | exact cr_26 | exact cr_27 | exact cr_28 | exact cr_29 | exact cr_30 | assumption)) rfl ?_
        refine zr_iload_n dX1_isCorner_12 (rfl : 12 + 1 = 13) rfl ?_
        refine zr_iald dX1_isCorner_13 (rfl : 13 + 1 = 14) (by first | assumption | exact mw_167 | exact mw_168 | exact mw_169 | exact mw_170 | exact bk_0 | exact bk_1 | exact bk_2 | exact bk_3 | exact bk_4 | exact bk_5 | exact bk_6 | exact bk_7 | exact bk_8 | exact bk_9 | exact bk_10 | exact bk_11 | exact bk_12 | exact bk_13 | exact bk_14 | exact bk_15 | exact bk_16 | exact zup_self | exact (zup_ne (by first | assumption | omega)).trans (by first | assumption | exact zup_self) | exact (zup_ne (by first | assumption | omega)).trans ((zup_ne (by first | assumption | omega)).trans (by first | assumption | exact zup_self)) | exact (bk_out (by first | omega | (simp only [bset, reduceIte, Nat.reduceEqDiff]; omega))).trans (by first | exact bk_0 | exact bk_1 | exact bk_2 | exact bk_3 | exact bk_4 | exact bk_5 | exact bk_6 | exact bk_7 | exact bk_8 | exact bk_9 | exact bk_10 | exact bk_11 | exact bk_12 | exact bk_13 | exact bk_14 | exact bk_15 | exact bk_16 | exact cr_5 | exact cr_23 | exact cr_24 | exact cr_25 | exact cr_26 | exact cr_27 | exact cr_28 | exact cr_29 | exact cr_30 | assumption)) (by decide) (by first | omega | (simp only [bset, reduceIte, Nat.reduceEqDiff]; omega)) (by first | omega | (simp only [bset, reduceIte, Nat.reduceEqDiff]; omega)) ?_
        refine zr_iconst dX1_isCorner_14 (rfl : 14 + 1 = 15) ?_
        refine zr_idiv dX1_isCorner_15 (rfl : 15 + 1 = 16) (fun q => absurd ((jI_z (by first | omega | (simp only [bset, reduceIte, Nat.reduceEqDiff]; omega)) (by first | omega | (simp only [bset, reduceIte, Nat.reduceEqDiff]; omega))).mp q) (by first | omega | (simp only [bset, reduceIte, Nat.reduceEqDiff]; omega))) (jI_div (by first | omega | (simp only [bset, reduceIte, Nat.reduceEqDiff]; omega)) (by first | omega | (simp only [bset, reduceIte, Nat.reduceEqDiff]; omega)) (by first | omega | (simp only [bset, reduceIte, Nat.reduceEqDiff]; omega)) (by first | omega | (simp only [bset, reduceIte, Nat.reduceEqDiff]; omega))) ?_
        refine zr_iload_n dX1_isCorner_16 (rfl : 16 + 1 = 17) rfl ?_
        exfalso; omega)
variable {ma : Nat} {mk : Int → Int}
theorem s_unmarkedCorners (c : Int) (hc : 0 ≤ c ∧ c < 6) (hP : ∀ z, 0 ≤ B 0 z ∧ B 0 z ≤ 90) (hm : bk b B w ma = some (zia 91 mk)) (hmk : ∀ z, 0 ≤ mk z ∧ mk z < 2147483648) : zFn Γ md_X1_unmarkedCorners (d + 1) [.ref (b + 1), .int (jI c), .ref ma] (bk b B w) (some (.int (jI (jucor (B 0) mk c)))) (bk b B w) := by
  refine zFn.of_run (lv := [some (.ref (b + 1)), some (.int (jI c)), some (.ref ma), none, none]) (by decide) rfl (Nat.le_of_ble_eq_true rfl) rfl (fun n9 g9 => ?_)
  refine zr_iconst dX1_unmarkedCorners_0 (rfl : 0 + 1 = 1) ?_
  refine zr_istore_n (lv' := [_, _, _, _, _]) dX1_unmarkedCorners_1 (rfl : 1 + 1 = 2) (Nat.le_of_ble_eq_true rfl) rfl ?_
  refine zr_iconst dX1_unmarkedCorners_2 (rfl : 2 + 1 = 3) ?_
  refine zr_istore (lv' := [_, _, _, _, _]) dX1_unmarkedCorners_3 (rfl : 3 + 2 = 5) (Nat.le_of_ble_eq_true rfl) rfl ?_
  refine zfor1 0 4 (fun i m => m = jcnt i.toNat (fun k => decide (0 < jcor (B 0) c k ∧ mk (jcor (B 0) c k) = 0))) (fun i m => [some (.ref (b + 1)), some (.int (jI c)), some (.ref ma), some (.int (jI m)), some (.int (jI i))]) (fun _ _ => bk b B w) 0 rfl ?_ ?_
  · intro i m h0 h9 hm2 hk
    have hcr := jcor_r hP c i
    have hj := jcnt_next (q := fun k => decide (0 < jcor (B 0) c k ∧ mk (jcor (B 0) c k) = 0)) h0
    refine zr_iload dX1_unmarkedCorners_5 (rfl : 5 + 2 = 7) rfl ?_
    refine zr_iconst dX1_unmarkedCorners_7 (rfl : 7 + 1 = 8) ?_
    refine zr_icmp_ge (tgt := 39) dX1_unmarkedCorners_8 (by decide) (rfl : 8 + 3 = 11) (jI_le (by first | omega | (simp only [bset, reduceIte, Nat.reduceEqDiff]; omega)) (by first | omega | (simp only [bset, reduceIte, Nat.reduceEqDiff]; omega)) (by first | omega | (simp only [bset, reduceIte, Nat.reduceEqDiff]; omega)) (by first | omega | (simp only [bset, reduceIte, Nat.reduceEqDiff]; omega))) (fun h8 => ?_) (fun h8 => ?_)
    · first
      | (exfalso; omega)
      | (
        refine zr_iload_n dX1_unmarkedCorners_39 (rfl : 39 + 1 = 40) rfl ?_
        refine zr_iret dX1_unmarkedCorners_40 rfl rfl ?_ rfl rfl rfl
        first | rfl | rw [jb_pos (by first | assumption | omega)] | rw [jb_neg (by first | assumption | omega)] | rw [if_pos (by first | assumption | omega)] | rw [if_neg (by first | assumption | omega)])
    · first
      | (exfalso; omega)
      | (
        refine zr_iload_n dX1_unmarkedCorners_11 (rfl : 11 + 1 = 12) rfl ?_
        refine zr_aload_n dX1_unmarkedCorners_12 (rfl : 12 + 1 = 13) rfl ?_
        refine zr_iload_n dX1_unmarkedCorners_13 (rfl : 13 + 1 = 14) rfl ?_
        refine zr_iload dX1_unmarkedCorners_14 (rfl : 14 + 2 = 16) rfl ?_
        refine zr_fnV dX1_unmarkedCorners_16 (rfl : 16 + 3 = 19) l_X1_70 (s_corner _ i (by first | omega | (simp only [bset, reduceIte, Nat.reduceEqDiff]; omega)) (by first | omega | (simp only [bset, reduceIte, Nat.reduceEqDiff]; omega)) hP) (by first | assumption | exact mw_167 | exact mw_168 | exact mw_169 | exact mw_170 | exact bk_0 | exact bk_1 | exact bk_2 | exact bk_3 | exact bk_4 | exact bk_5 | exact bk_6 | exact bk_7 | exact bk_8 | exact bk_9 | exact bk_10 | exact bk_11 | exact bk_12 | exact bk_13 | exact bk_14 | exact bk_15 | exact bk_16 | exact zup_self | exact (zup_ne (by first | assumption | omega)).trans (by first | assumption | exact zup_self) | exact (zup_ne (by first | assumption | omega)).trans ((zup_ne (by first | assumption | omega)).trans (by first | assumption | exact zup_self)) | exact (bk_out (by first | omega | (simp only [bset, reduceIte, Nat.reduceEqDiff]; omega))).trans (by first | exact bk_0 | exact bk_1 | exact bk_2 | exact bk_3 | exact bk_4 | exact bk_5 | exact bk_6 | exact bk_7 | exact bk_8 | exact bk_9 | exact bk_10 | exact bk_11 | exact bk_12 | exact bk_13 | exact bk_14 | exact bk_15 | exact bk_16 | exact cr_5 | exact cr_23 | exact cr_24 | exact cr_25 | exact cr_26 | exact cr_27 | exact cr_28 | exact cr_29 | exact cr_30 | assumption)) rfl rfl rfl (Nat.le_of_ble_eq_true rfl) ?_
        refine zr_aload_n dX1_unmarkedCorners_19 (rfl : 19 + 1 = 20) rfl ?_
        refine zr_fnS dX1_unmarkedCorners_20 (rfl : 20 + 3 = 23) l_X1_59 (s_isUnmarked _ (by first | omega | (simp only [bset, reduceIte, Nat.reduceEqDiff]; omega)) hm hmk) rfl rfl (Nat.le_of_ble_eq_true rfl) ?_
        refine zr_if_eq (tgt := 30) dX1_unmarkedCorners_23 (by decide) (rfl : 23 + 3 = 26) (by first | exact jb_iff | exact jI_z (by first | omega | (simp only [bset, reduceIte, Nat.reduceEqDiff]; omega)) (by first | omega | (simp only [bset, reduceIte, Nat.reduceEqDiff]; omega))) (fun h23 => ?_) (fun h23 => ?_)
        · first
          | (exfalso; omega)
          | (
            refine zr_iconst dX1_unmarkedCorners_30 (rfl : 30 + 1 = 31) ?_
            refine zr_iadd dX1_unmarkedCorners_31 (rfl : 31 + 1 = 32) (by first | exact jI_add _ _ | rfl) ?_
            refine zr_istore_n (lv' := [_, _, _, _, _]) dX1_unmarkedCorners_32 (rfl : 32 + 1 = 33) (Nat.le_of_ble_eq_true rfl) rfl ?_
            refine zr_iinc (lv' := [_, _, _, _, _]) dX1_unmarkedCorners_33 (rfl : 33 + 3 = 36) (Nat.le_of_ble_eq_true rfl) rfl (by first | exact jI_add _ _ | rfl) rfl ?_
            refine zr_goto (tgt := 5) dX1_unmarkedCorners_36 (by decide) ?_
            refine hk _ ?_
            rw [hj, hm2]
            first | rw [jb_pos (by simpa using h23)] | rw [jb_neg (by simpa using h23)])
        · first
          | (exfalso; omega)
          | (
            refine zr_iconst dX1_unmarkedCorners_26 (rfl : 26 + 1 = 27) ?_
            refine zr_goto (tgt := 31) dX1_unmarkedCorners_27 (by decide) ?_
            refine zr_iadd dX1_unmarkedCorners_31 (rfl : 31 + 1 = 32) (by first | exact jI_add _ _ | rfl) ?_
            refine zr_istore_n (lv' := [_, _, _, _, _]) dX1_unmarkedCorners_32 (rfl : 32 + 1 = 33) (Nat.le_of_ble_eq_true rfl) rfl ?_
            refine zr_iinc (lv' := [_, _, _, _, _]) dX1_unmarkedCorners_33 (rfl : 33 + 3 = 36) (Nat.le_of_ble_eq_true rfl) rfl (by first | exact jI_add _ _ | rfl) rfl ?_
            refine zr_goto (tgt := 5) dX1_unmarkedCorners_36 (by decide) ?_
            refine hk _ ?_
            rw [hj, hm2]
            first | rw [jb_pos (by simpa using h23)] | rw [jb_neg (by simpa using h23)]))
  · intro m hm2
    refine zr_iload dX1_unmarkedCorners_5 (rfl : 5 + 2 = 7) rfl ?_
    refine zr_iconst dX1_unmarkedCorners_7 (rfl : 7 + 1 = 8) ?_
    refine zr_icmp_ge (tgt := 39) dX1_unmarkedCorners_8 (by decide) (rfl : 8 + 3 = 11) (jI_le (by first | omega | (simp only [bset, reduceIte, Nat.reduceEqDiff]; omega)) (by first | omega | (simp only [bset, reduceIte, Nat.reduceEqDiff]; omega)) (by first | omega | (simp only [bset, reduceIte, Nat.reduceEqDiff]; omega)) (by first | omega | (simp only [bset, reduceIte, Nat.reduceEqDiff]; omega))) (fun h8 => ?_) (fun h8 => ?_)
    · first
      | (exfalso; omega)
      | (
        refine zr_iload_n dX1_unmarkedCorners_39 (rfl : 39 + 1 = 40) rfl ?_
        refine zr_iret dX1_unmarkedCorners_40 rfl rfl ?_ rfl rfl rfl
        rw [hm2]; rfl)
    · first
      | (exfalso; omega)
      | (
        refine zr_iload_n dX1_unmarkedCorners_11 (rfl : 11 + 1 = 12) rfl ?_
        refine zr_aload_n dX1_unmarkedCorners_12 (rfl : 12 + 1 = 13) rfl ?_
        refine zr_iload_n dX1_unmarkedCorners_13 (rfl : 13 + 1 = 14) rfl ?_
        refine zr_iload dX1_unmarkedCorners_14 (rfl : 14 + 2 = 16) rfl ?_
        exfalso; omega)
theorem s_unmarkedOfGame (c g : Int) (hc : 0 ≤ c ∧ c < 6) (hg : 0 ≤ g ∧ g < 4) (hP : ∀ z, 0 ≤ B 0 z ∧ B 0 z ≤ 90) (hm : bk b B w ma = some (zia 91 mk)) (hmk : ∀ z, 0 ≤ mk z ∧ mk z < 2147483648) : zFn Γ md_X1_unmarkedOfGame (d + 2) [.ref (b + 1), .int (jI c), .int (jI g), .ref ma] (bk b B w) (some (.int (jI (juo (B 0) mk c g)))) (bk b B w) := by
  refine zFn.of_run (lv := [some (.ref (b + 1)), some (.int (jI c)), some (.int (jI g)), some (.ref ma), none, none, none, none, none]) (by decide) rfl (Nat.le_of_ble_eq_true rfl) rfl (fun n9 g9 => ?_)
  have u1 := jur_r (B 0) mk (c * 3)
  have u2 := jur_r (B 0) mk (c * 3 + 1)
  have u3 := jur_r (B 0) mk (c * 3 + 1 + 1)
  refine zr_iload_n dX1_unmarkedOfGame_0 (rfl : 0 + 1 = 1) rfl ?_
  refine zr_iconst dX1_unmarkedOfGame_1 (rfl : 1 + 1 = 2) ?_
  refine zr_icmp_ne (tgt := 12) dX1_unmarkedOfGame_2 (by decide) (rfl : 2 + 3 = 5) (jI_eq (by first | omega | (simp only [bset, reduceIte, Nat.reduceEqDiff]; omega)) (by first | omega | (simp only [bset, reduceIte, Nat.reduceEqDiff]; omega)) (by first | omega | (simp only [bset, reduceIte, Nat.reduceEqDiff]; omega)) (by first | omega | (simp only [bset, reduceIte, Nat.reduceEqDiff]; omega))) (fun h2 => ?_) (fun h2 => ?_)
  · first
    | (exfalso; omega)
    | (
      refine zr_iconst dX1_unmarkedOfGame_12 (rfl : 12 + 1 = 13) ?_
      refine zr_istore (lv' := [_, _, _, _, _, _, _, _, _]) dX1_unmarkedOfGame_13 (rfl : 13 + 2 = 15) (Nat.le_of_ble_eq_true rfl) rfl ?_
      refine zr_iconst dX1_unmarkedOfGame_15 (rfl : 15 + 1 = 16) ?_
      refine zr_istore (lv' := [_, _, _, _, _, _, _, _, _]) dX1_unmarkedOfGame_16 (rfl : 16 + 2 = 18) (Nat.le_of_ble_eq_true rfl) rfl ?_
      refine zr_iconst dX1_unmarkedOfGame_18 (rfl : 18 + 1 = 19) ?_
      refine zr_istore (lv' := [_, _, _, _, _, _, _, _, _]) dX1_unmarkedOfGame_19 (rfl : 19 + 2 = 21) (Nat.le_of_ble_eq_true rfl) rfl ?_
      refine zr_iload_n dX1_unmarkedOfGame_21 (rfl : 21 + 1 = 22) rfl ?_
      refine zr_iconst dX1_unmarkedOfGame_22 (rfl : 22 + 1 = 23) ?_
      refine zr_imul dX1_unmarkedOfGame_23 (rfl : 23 + 1 = 24) (by first | exact jI_mul _ _ | rfl) ?_
      refine zr_istore (lv' := [_, _, _, _, _, _, _, _, _]) dX1_unmarkedOfGame_24 (rfl : 24 + 2 = 26) (Nat.le_of_ble_eq_true rfl) rfl ?_
      refine zr_iload dX1_unmarkedOfGame_26 (rfl : 26 + 2 = 28) rfl ?_
      refine zr_iload_n dX1_unmarkedOfGame_28 (rfl : 28 + 1 = 29) rfl ?_
      refine zr_iconst dX1_unmarkedOfGame_29 (rfl : 29 + 1 = 30) ?_
      refine zr_imul dX1_unmarkedOfGame_30 (rfl : 30 + 1 = 31) (by first | exact jI_mul _ _ | rfl) ?_
      refine zr_iconst dX1_unmarkedOfGame_31 (rfl : 31 + 1 = 32) ?_
      refine zr_iadd dX1_unmarkedOfGame_32 (rfl : 32 + 1 = 33) (by first | exact jI_add _ _ | rfl) ?_
      refine zr_icmp_ge (tgt := 76) dX1_unmarkedOfGame_33 (by decide) (rfl : 33 + 3 = 36) (jI_le (by first | omega | (simp only [bset, reduceIte, Nat.reduceEqDiff]; omega)) (by first | omega | (simp only [bset, reduceIte, Nat.reduceEqDiff]; omega)) (by first | omega | (simp only [bset, reduceIte, Nat.reduceEqDiff]; omega)) (by first | omega | (simp only [bset, reduceIte, Nat.reduceEqDiff]; omega))) (fun h33 => ?_) (fun h33 => ?_)
      · first
        | (exfalso; omega)
        | (
          refine zr_iload_n dX1_unmarkedOfGame_76 (rfl : 76 + 1 = 77) rfl ?_
          refine zr_if_ne (tgt := 83) dX1_unmarkedOfGame_77 (by decide) (rfl : 77 + 3 = 80) (by first | exact jb_iff | exact jI_z (by first | omega | (simp only [bset, reduceIte, Nat.reduceEqDiff]; omega)) (by first | omega | (simp only [bset, reduceIte, Nat.reduceEqDiff]; omega))) (fun h77 => ?_) (fun h77 => ?_)
          · first
            | (exfalso; omega)
            | (
              refine zr_iload_n dX1_unmarkedOfGame_83 (rfl : 83 + 1 = 84) rfl ?_
              refine zr_iconst dX1_unmarkedOfGame_84 (rfl : 84 + 1 = 85) ?_
              refine zr_icmp_ne (tgt := 96) dX1_unmarkedOfGame_85 (by decide) (rfl : 85 + 3 = 88) (jI_eq (by first | omega | (simp only [bset, reduceIte, Nat.reduceEqDiff]; omega)) (by first | omega | (simp only [bset, reduceIte, Nat.reduceEqDiff]; omega)) (by first | omega | (simp only [bset, reduceIte, Nat.reduceEqDiff]; omega)) (by first | omega | (simp only [bset, reduceIte, Nat.reduceEqDiff]; omega))) (fun h85 => ?_) (fun h85 => ?_)
              · first
                | (exfalso; omega)
                | (
                  refine zr_iload dX1_unmarkedOfGame_96 (rfl : 96 + 2 = 98) rfl ?_
                  refine zr_iret dX1_unmarkedOfGame_98 rfl rfl ?_ rfl rfl rfl
                  unfold juo
                  first | rw [if_neg (by omega), if_neg (by omega), if_pos (by omega)] | rw [if_neg (by omega), if_neg (by omega), if_neg (by omega)])
              · first
                | (exfalso; omega)
                | (
                  refine zr_iload dX1_unmarkedOfGame_88 (rfl : 88 + 2 = 90) rfl ?_
                  refine zr_iload dX1_unmarkedOfGame_90 (rfl : 90 + 2 = 92) rfl ?_
                  refine zr_isub dX1_unmarkedOfGame_92 (rfl : 92 + 1 = 93) (by first | exact jI_sub _ _ | rfl) ?_
                  refine zr_goto (tgt := 98) dX1_unmarkedOfGame_93 (by decide) ?_
                  refine zr_iret dX1_unmarkedOfGame_98 rfl rfl ?_ rfl rfl rfl
                  unfold juo
                  first | rw [if_neg (by omega), if_neg (by omega), if_pos (by omega)] | rw [if_neg (by omega), if_neg (by omega), if_neg (by omega)]))
          · first
            | (exfalso; omega)
            | (
              refine zr_iload dX1_unmarkedOfGame_80 (rfl : 80 + 2 = 82) rfl ?_
              refine zr_iret dX1_unmarkedOfGame_82 rfl rfl ?_ rfl rfl rfl
              unfold juo; rw [if_neg (by omega), if_pos (by omega)]))
      · first
        | (exfalso; omega)
        | (
          refine zr_aload_n dX1_unmarkedOfGame_36 (rfl : 36 + 1 = 37) rfl ?_
          refine zr_iload dX1_unmarkedOfGame_37 (rfl : 37 + 2 = 39) rfl ?_
          refine zr_aload_n dX1_unmarkedOfGame_39 (rfl : 39 + 1 = 40) rfl ?_
          refine zr_fnV dX1_unmarkedOfGame_40 (rfl : 40 + 3 = 43) l_X1_63 (s_unmarkedInRow _ (by first | omega | (simp only [bset, reduceIte, Nat.reduceEqDiff]; omega)) hP hm hmk) (by first | assumption | exact mw_167 | exact mw_168 | exact mw_169 | exact mw_170 | exact bk_0 | exact bk_1 | exact bk_2 | exact bk_3 | exact bk_4 | exact bk_5 | exact bk_6 | exact bk_7 | exact bk_8 | exact bk_9 | exact bk_10 | exact bk_11 | exact bk_12 | exact bk_13 | exact bk_14 | exact bk_15 | exact bk_16 | exact zup_self | exact (zup_ne (by first | assumption | omega)).trans (by first | assumption | exact zup_self) | exact (zup_ne (by first | assumption | omega)).trans ((zup_ne (by first | assumption | omega)).trans (by first | assumption | exact zup_self)) | exact (bk_out (by first | omega | (simp only [bset, reduceIte, Nat.reduceEqDiff]; omega))).trans (by first | exact bk_0 | exact bk_1 | exact bk_2 | exact bk_3 | exact bk_4 | exact bk_5 | exact bk_6 | exact bk_7 | exact bk_8 | exact bk_9 | exact bk_10 | exact bk_11 | exact bk_12 | exact bk_13 | exact bk_14 | exact bk_15 | exact bk_16 | exact cr_5 | exact cr_23 | exact cr_24 | exact cr_25 | exact cr_26 | exact cr_27 | exact cr_28 | exact cr_29 | exact cr_30 | assumption)) rfl rfl rfl (Nat.le_of_ble_eq_true rfl) ?_
          refine zr_istore (lv' := [_, _, _, _, _, _, _, _, _]) dX1_unmarkedOfGame_43 (rfl : 43 + 2 = 45) (Nat.le_of_ble_eq_true rfl) rfl ?_
          refine zr_iload dX1_unmarkedOfGame_45 (rfl : 45 + 2 = 47) rfl ?_
          refine zr_iload dX1_unmarkedOfGame_47 (rfl : 47 + 2 = 49) rfl ?_
          refine zr_iadd dX1_unmarkedOfGame_49 (rfl : 49 + 1 = 50) (by first | exact jI_add _ _ | rfl) ?_
          refine zr_istore (lv' := [_, _, _, _, _, _, _, _, _]) dX1_unmarkedOfGame_50 (rfl : 50 + 2 = 52) (Nat.le_of_ble_eq_true rfl) rfl ?_
          refine zr_iload dX1_unmarkedOfGame_52 (rfl : 52 + 2 = 54) rfl ?_
          refine zr_iload dX1_unmarkedOfGame_54 (rfl : 54 + 2 = 56) rfl ?_
          refine zr_minI dX1_unmarkedOfGame_56 (rfl : 56 + 3 = 59) l_X1_76 ⟨⟨by omega, by omega⟩, by omega, by omega⟩ (Nat.le_of_ble_eq_true rfl) ?_
          refine zr_istore (lv' := [_, _, _, _, _, _, _, _, _]) dX1_unmarkedOfGame_59 (rfl : 59 + 2 = 61) (Nat.le_of_ble_eq_true rfl) rfl ?_
          refine zr_iload dX1_unmarkedOfGame_61 (rfl : 61 + 2 = 63) rfl ?_
          refine zr_iload dX1_unmarkedOfGame_63 (rfl : 63 + 2 = 65) rfl ?_
          refine zr_maxI dX1_unmarkedOfGame_65 (rfl : 65 + 3 = 68) l_X1_81 ⟨⟨by omega, by omega⟩, by omega, by omega⟩ (Nat.le_of_ble_eq_true rfl) ?_
          refine zr_istore (lv' := [_, _, _, _, _, _, _, _, _]) dX1_unmarkedOfGame_68 (rfl : 68 + 2 = 70) (Nat.le_of_ble_eq_true rfl) rfl ?_
          refine zr_iinc (lv' := [_, _, _, _, _, _, _, _, _]) dX1_unmarkedOfGame_70 (rfl : 70 + 3 = 73) (Nat.le_of_ble_eq_true rfl) rfl (by first | exact jI_add _ _ | rfl) rfl ?_
          refine zr_goto (tgt := 26) dX1_unmarkedOfGame_73 (by decide) ?_
          refine zr_iload dX1_unmarkedOfGame_26 (rfl : 26 + 2 = 28) rfl ?_
          refine zr_iload_n dX1_unmarkedOfGame_28 (rfl : 28 + 1 = 29) rfl ?_
          refine zr_iconst dX1_unmarkedOfGame_29 (rfl : 29 + 1 = 30) ?_
          refine zr_imul dX1_unmarkedOfGame_30 (rfl : 30 + 1 = 31) (by first | exact jI_mul _ _ | rfl) ?_
          refine zr_iconst dX1_unmarkedOfGame_31 (rfl : 31 + 1 = 32) ?_
          refine zr_iadd dX1_unmarkedOfGame_32 (rfl : 32 + 1 = 33) (by first | exact jI_add _ _ | rfl) ?_
          refine zr_icmp_ge (tgt := 76) dX1_unmarkedOfGame_33 (by decide) (rfl : 33 + 3 = 36) (jI_le (by first | omega | (simp only [bset, reduceIte, Nat.reduceEqDiff]; omega)) (by first | omega | (simp only [bset, reduceIte, Nat.reduceEqDiff]; omega)) (by first | omega | (simp only [bset, reduceIte, Nat.reduceEqDiff]; omega)) (by first | omega | (simp only [bset, reduceIte, Nat.reduceEqDiff]; omega))) (fun h33 => ?_) (fun h33 => ?_)
          · first
            | (exfalso; omega)
            | (
              refine zr_iload_n dX1_unmarkedOfGame_76 (rfl : 76 + 1 = 77) rfl ?_
              refine zr_if_ne (tgt := 83) dX1_unmarkedOfGame_77 (by decide) (rfl : 77 + 3 = 80) (by first | exact jb_iff | exact jI_z (by first | omega | (simp only [bset, reduceIte, Nat.reduceEqDiff]; omega)) (by first | omega | (simp only [bset, reduceIte, Nat.reduceEqDiff]; omega))) (fun h77 => ?_) (fun h77 => ?_)
              · first
                | (exfalso; omega)
                | (
                  refine zr_iload_n dX1_unmarkedOfGame_83 (rfl : 83 + 1 = 84) rfl ?_
                  refine zr_iconst dX1_unmarkedOfGame_84 (rfl : 84 + 1 = 85) ?_
                  refine zr_icmp_ne (tgt := 96) dX1_unmarkedOfGame_85 (by decide) (rfl : 85 + 3 = 88) (jI_eq (by first | omega | (simp only [bset, reduceIte, Nat.reduceEqDiff]; omega)) (by first | omega | (simp only [bset, reduceIte, Nat.reduceEqDiff]; omega)) (by first | omega | (simp only [bset, reduceIte, Nat.reduceEqDiff]; omega)) (by first | omega | (simp only [bset, reduceIte, Nat.reduceEqDiff]; omega))) (fun h85 => ?_) (fun h85 => ?_)
                  · first
                    | (exfalso; omega)
                    | (
                      refine zr_iload dX1_unmarkedOfGame_96 (rfl : 96 + 2 = 98) rfl ?_
                      refine zr_iret dX1_unmarkedOfGame_98 rfl rfl ?_ rfl rfl rfl
                      unfold juo
                      first | rw [if_neg (by omega), if_neg (by omega), if_pos (by omega)] | rw [if_neg (by omega), if_neg (by omega), if_neg (by omega)])
                  · first
                    | (exfalso; omega)
                    | (
                      refine zr_iload dX1_unmarkedOfGame_88 (rfl : 88 + 2 = 90) rfl ?_
                      refine zr_iload dX1_unmarkedOfGame_90 (rfl : 90 + 2 = 92) rfl ?_
                      refine zr_isub dX1_unmarkedOfGame_92 (rfl : 92 + 1 = 93) (by first | exact jI_sub _ _ | rfl) ?_
                      refine zr_goto (tgt := 98) dX1_unmarkedOfGame_93 (by decide) ?_
                      refine zr_iret dX1_unmarkedOfGame_98 rfl rfl ?_ rfl rfl rfl
                      unfold juo
                      first | rw [if_neg (by omega), if_neg (by omega), if_pos (by omega)] | rw [if_neg (by omega), if_neg (by omega), if_neg (by omega)]))
              · first
                | (exfalso; omega)
                | (
                  refine zr_iload dX1_unmarkedOfGame_80 (rfl : 80 + 2 = 82) rfl ?_
                  refine zr_iret dX1_unmarkedOfGame_82 rfl rfl ?_ rfl rfl rfl
                  unfold juo; rw [if_neg (by omega), if_pos (by omega)]))
          · first
            | (exfalso; omega)
            | (
              refine zr_aload_n dX1_unmarkedOfGame_36 (rfl : 36 + 1 = 37) rfl ?_
              refine zr_iload dX1_unmarkedOfGame_37 (rfl : 37 + 2 = 39) rfl ?_
              refine zr_aload_n dX1_unmarkedOfGame_39 (rfl : 39 + 1 = 40) rfl ?_
              refine zr_fnV dX1_unmarkedOfGame_40 (rfl : 40 + 3 = 43) l_X1_63 (s_unmarkedInRow _ (by first | omega | (simp only [bset, reduceIte, Nat.reduceEqDiff]; omega)) hP hm hmk) (by first | assumption | exact mw_167 | exact mw_168 | exact mw_169 | exact mw_170 | exact bk_0 | exact bk_1 | exact bk_2 | exact bk_3 | exact bk_4 | exact bk_5 | exact bk_6 | exact bk_7 | exact bk_8 | exact bk_9 | exact bk_10 | exact bk_11 | exact bk_12 | exact bk_13 | exact bk_14 | exact bk_15 | exact bk_16 | exact zup_self | exact (zup_ne (by first | assumption | omega)).trans (by first | assumption | exact zup_self) | exact (zup_ne (by first | assumption | omega)).trans ((zup_ne (by first | assumption | omega)).trans (by first | assumption | exact zup_self)) | exact (bk_out (by first | omega | (simp only [bset, reduceIte, Nat.reduceEqDiff]; omega))).trans (by first | exact bk_0 | exact bk_1 | exact bk_2 | exact bk_3 | exact bk_4 | exact bk_5 | exact bk_6 | exact bk_7 | exact bk_8 | exact bk_9 | exact bk_10 | exact bk_11 | exact bk_12 | exact bk_13 | exact bk_14 | exact bk_15 | exact bk_16 | exact cr_5 | exact cr_23 | exact cr_24 | exact cr_25 | exact cr_26 | exact cr_27 | exact cr_28 | exact cr_29 | exact cr_30 | assumption)) rfl rfl rfl (Nat.le_of_ble_eq_true rfl) ?_
              refine zr_istore (lv' := [_, _, _, _, _, _, _, _, _]) dX1_unmarkedOfGame_43 (rfl : 43 + 2 = 45) (Nat.le_of_ble_eq_true rfl) rfl ?_
              refine zr_iload dX1_unmarkedOfGame_45 (rfl : 45 + 2 = 47) rfl ?_
              refine zr_iload dX1_unmarkedOfGame_47 (rfl : 47 + 2 = 49) rfl ?_
              refine zr_iadd dX1_unmarkedOfGame_49 (rfl : 49 + 1 = 50) (by first | exact jI_add _ _ | rfl) ?_
              refine zr_istore (lv' := [_, _, _, _, _, _, _, _, _]) dX1_unmarkedOfGame_50 (rfl : 50 + 2 = 52) (Nat.le_of_ble_eq_true rfl) rfl ?_
              refine zr_iload dX1_unmarkedOfGame_52 (rfl : 52 + 2 = 54) rfl ?_
              refine zr_iload dX1_unmarkedOfGame_54 (rfl : 54 + 2 = 56) rfl ?_
              refine zr_minI dX1_unmarkedOfGame_56 (rfl : 56 + 3 = 59) l_X1_76 ⟨⟨by omega, by omega⟩, by omega, by omega⟩ (Nat.le_of_ble_eq_true rfl) ?_
              refine zr_istore (lv' := [_, _, _, _, _, _, _, _, _]) dX1_unmarkedOfGame_59 (rfl : 59 + 2 = 61) (Nat.le_of_ble_eq_true rfl) rfl ?_
              refine zr_iload dX1_unmarkedOfGame_61 (rfl : 61 + 2 = 63) rfl ?_
              refine zr_iload dX1_unmarkedOfGame_63 (rfl : 63 + 2 = 65) rfl ?_
              refine zr_maxI dX1_unmarkedOfGame_65 (rfl : 65 + 3 = 68) l_X1_81 ⟨⟨by omega, by omega⟩, by omega, by omega⟩ (Nat.le_of_ble_eq_true rfl) ?_
              refine zr_istore (lv' := [_, _, _, _, _, _, _, _, _]) dX1_unmarkedOfGame_68 (rfl : 68 + 2 = 70) (Nat.le_of_ble_eq_true rfl) rfl ?_
              refine zr_iinc (lv' := [_, _, _, _, _, _, _, _, _]) dX1_unmarkedOfGame_70 (rfl : 70 + 3 = 73) (Nat.le_of_ble_eq_true rfl) rfl (by first | exact jI_add _ _ | rfl) rfl ?_
              refine zr_goto (tgt := 26) dX1_unmarkedOfGame_73 (by decide) ?_
              refine zr_iload dX1_unmarkedOfGame_26 (rfl : 26 + 2 = 28) rfl ?_
              refine zr_iload_n dX1_unmarkedOfGame_28 (rfl : 28 + 1 = 29) rfl ?_
              refine zr_iconst dX1_unmarkedOfGame_29 (rfl : 29 + 1 = 30) ?_
              refine zr_imul dX1_unmarkedOfGame_30 (rfl : 30 + 1 = 31) (by first | exact jI_mul _ _ | rfl) ?_
              refine zr_iconst dX1_unmarkedOfGame_31 (rfl : 31 + 1 = 32) ?_
              refine zr_iadd dX1_unmarkedOfGame_32 (rfl : 32 + 1 = 33) (by first | exact jI_add _ _ | rfl) ?_
              refine zr_icmp_ge (tgt := 76) dX1_unmarkedOfGame_33 (by decide) (rfl : 33 + 3 = 36) (jI_le (by first | omega | (simp only [bset, reduceIte, Nat.reduceEqDiff]; omega)) (by first | omega | (simp only [bset, reduceIte, Nat.reduceEqDiff]; omega)) (by first | omega | (simp only [bset, reduceIte, Nat.reduceEqDiff]; omega)) (by first | omega | (simp only [bset, reduceIte, Nat.reduceEqDiff]; omega))) (fun h33 => ?_) (fun h33 => ?_)
              · first
                | (exfalso; omega)
                | (
                  refine zr_iload_n dX1_unmarkedOfGame_76 (rfl : 76 + 1 = 77) rfl ?_
                  refine zr_if_ne (tgt := 83) dX1_unmarkedOfGame_77 (by decide) (rfl : 77 + 3 = 80) (by first | exact jb_iff | exact jI_z (by first | omega | (simp only [bset, reduceIte, Nat.reduceEqDiff]; omega)) (by first | omega | (simp only [bset, reduceIte, Nat.reduceEqDiff]; omega))) (fun h77 => ?_) (fun h77 => ?_)
                  · first
                    | (exfalso; omega)
                    | (
                      refine zr_iload_n dX1_unmarkedOfGame_83 (rfl : 83 + 1 = 84) rfl ?_
                      refine zr_iconst dX1_unmarkedOfGame_84 (rfl : 84 + 1 = 85) ?_
                      refine zr_icmp_ne (tgt := 96) dX1_unmarkedOfGame_85 (by decide) (rfl : 85 + 3 = 88) (jI_eq (by first | omega | (simp only [bset, reduceIte, Nat.reduceEqDiff]; omega)) (by first | omega | (simp only [bset, reduceIte, Nat.reduceEqDiff]; omega)) (by first | omega | (simp only [bset, reduceIte, Nat.reduceEqDiff]; omega)) (by first | omega | (simp only [bset, reduceIte, Nat.reduceEqDiff]; omega))) (fun h85 => ?_) (fun h85 => ?_)
                      · first
                        | (exfalso; omega)
                        | (
                          refine zr_iload dX1_unmarkedOfGame_96 (rfl : 96 + 2 = 98) rfl ?_
                          refine zr_iret dX1_unmarkedOfGame_98 rfl rfl ?_ rfl rfl rfl
                          unfold juo
                          first | rw [if_neg (by omega), if_neg (by omega), if_pos (by omega)] | rw [if_neg (by omega), if_neg (by omega), if_neg (by omega)])
                      · first
                        | (exfalso; omega)
                        | (
                          refine zr_iload dX1_unmarkedOfGame_88 (rfl : 88 + 2 = 90) rfl ?_
                          refine zr_iload dX1_unmarkedOfGame_90 (rfl : 90 + 2 = 92) rfl ?_
                          refine zr_isub dX1_unmarkedOfGame_92 (rfl : 92 + 1 = 93) (by first | exact jI_sub _ _ | rfl) ?_
                          refine zr_goto (tgt := 98) dX1_unmarkedOfGame_93 (by decide) ?_
                          refine zr_iret dX1_unmarkedOfGame_98 rfl rfl ?_ rfl rfl rfl
                          unfold juo
                          first | rw [if_neg (by omega), if_neg (by omega), if_pos (by omega)] | rw [if_neg (by omega), if_neg (by omega), if_neg (by omega)]))
                  · first
                    | (exfalso; omega)
                    | (
                      refine zr_iload dX1_unmarkedOfGame_80 (rfl : 80 + 2 = 82) rfl ?_
                      refine zr_iret dX1_unmarkedOfGame_82 rfl rfl ?_ rfl rfl rfl
                      unfold juo; rw [if_neg (by omega), if_pos (by omega)]))
              · first
                | (exfalso; omega)
                | (
                  refine zr_aload_n dX1_unmarkedOfGame_36 (rfl : 36 + 1 = 37) rfl ?_
                  refine zr_iload dX1_unmarkedOfGame_37 (rfl : 37 + 2 = 39) rfl ?_
                  refine zr_aload_n dX1_unmarkedOfGame_39 (rfl : 39 + 1 = 40) rfl ?_
                  refine zr_fnV dX1_unmarkedOfGame_40 (rfl : 40 + 3 = 43) l_X1_63 (s_unmarkedInRow _ (by first | omega | (simp only [bset, reduceIte, Nat.reduceEqDiff]; omega)) hP hm hmk) (by first | assumption | exact mw_167 | exact mw_168 | exact mw_169 | exact mw_170 | exact bk_0 | exact bk_1 | exact bk_2 | exact bk_3 | exact bk_4 | exact bk_5 | exact bk_6 | exact bk_7 | exact bk_8 | exact bk_9 | exact bk_10 | exact bk_11 | exact bk_12 | exact bk_13 | exact bk_14 | exact bk_15 | exact bk_16 | exact zup_self | exact (zup_ne (by first | assumption | omega)).trans (by first | assumption | exact zup_self) | exact (zup_ne (by first | assumption | omega)).trans ((zup_ne (by first | assumption | omega)).trans (by first | assumption | exact zup_self)) | exact (bk_out (by first | omega | (simp only [bset, reduceIte, Nat.reduceEqDiff]; omega))).trans (by first | exact bk_0 | exact bk_1 | exact bk_2 | exact bk_3 | exact bk_4 | exact bk_5 | exact bk_6 | exact bk_7 | exact bk_8 | exact bk_9 | exact bk_10 | exact bk_11 | exact bk_12 | exact bk_13 | exact bk_14 | exact bk_15 | exact bk_16 | exact cr_5 | exact cr_23 | exact cr_24 | exact cr_25 | exact cr_26 | exact cr_27 | exact cr_28 | exact cr_29 | exact cr_30 | assumption)) rfl rfl rfl (Nat.le_of_ble_eq_true rfl) ?_
                  refine zr_istore (lv' := [_, _, _, _, _, _, _, _, _]) dX1_unmarkedOfGame_43 (rfl : 43 + 2 = 45) (Nat.le_of_ble_eq_true rfl) rfl ?_
                  refine zr_iload dX1_unmarkedOfGame_45 (rfl : 45 + 2 = 47) rfl ?_
                  refine zr_iload dX1_unmarkedOfGame_47 (rfl : 47 + 2 = 49) rfl ?_
                  refine zr_iadd dX1_unmarkedOfGame_49 (rfl : 49 + 1 = 50) (by first | exact jI_add _ _ | rfl) ?_
                  refine zr_istore (lv' := [_, _, _, _, _, _, _, _, _]) dX1_unmarkedOfGame_50 (rfl : 50 + 2 = 52) (Nat.le_of_ble_eq_true rfl) rfl ?_
                  refine zr_iload dX1_unmarkedOfGame_52 (rfl : 52 + 2 = 54) rfl ?_
                  refine zr_iload dX1_unmarkedOfGame_54 (rfl : 54 + 2 = 56) rfl ?_
                  refine zr_minI dX1_unmarkedOfGame_56 (rfl : 56 + 3 = 59) l_X1_76 ⟨⟨by omega, by omega⟩, by omega, by omega⟩ (Nat.le_of_ble_eq_true rfl) ?_
                  refine zr_istore (lv' := [_, _, _, _, _, _, _, _, _]) dX1_unmarkedOfGame_59 (rfl : 59 + 2 = 61) (Nat.le_of_ble_eq_true rfl) rfl ?_
                  refine zr_iload dX1_unmarkedOfGame_61 (rfl : 61 + 2 = 63) rfl ?_
                  refine zr_iload dX1_unmarkedOfGame_63 (rfl : 63 + 2 = 65) rfl ?_
                  refine zr_maxI dX1_unmarkedOfGame_65 (rfl : 65 + 3 = 68) l_X1_81 ⟨⟨by omega, by omega⟩, by omega, by omega⟩ (Nat.le_of_ble_eq_true rfl) ?_
                  refine zr_istore (lv' := [_, _, _, _, _, _, _, _, _]) dX1_unmarkedOfGame_68 (rfl : 68 + 2 = 70) (Nat.le_of_ble_eq_true rfl) rfl ?_
                  refine zr_iinc (lv' := [_, _, _, _, _, _, _, _, _]) dX1_unmarkedOfGame_70 (rfl : 70 + 3 = 73) (Nat.le_of_ble_eq_true rfl) rfl (by first | exact jI_add _ _ | rfl) rfl ?_
                  refine zr_goto (tgt := 26) dX1_unmarkedOfGame_73 (by decide) ?_
                  refine zr_iload dX1_unmarkedOfGame_26 (rfl : 26 + 2 = 28) rfl ?_
                  refine zr_iload_n dX1_unmarkedOfGame_28 (rfl : 28 + 1 = 29) rfl ?_
                  refine zr_iconst dX1_unmarkedOfGame_29 (rfl : 29 + 1 = 30) ?_
                  refine zr_imul dX1_unmarkedOfGame_30 (rfl : 30 + 1 = 31) (by first | exact jI_mul _ _ | rfl) ?_
                  refine zr_iconst dX1_unmarkedOfGame_31 (rfl : 31 + 1 = 32) ?_
                  refine zr_iadd dX1_unmarkedOfGame_32 (rfl : 32 + 1 = 33) (by first | exact jI_add _ _ | rfl) ?_
                  refine zr_icmp_ge (tgt := 76) dX1_unmarkedOfGame_33 (by decide) (rfl : 33 + 3 = 36) (jI_le (by first | omega | (simp only [bset, reduceIte, Nat.reduceEqDiff]; omega)) (by first | omega | (simp only [bset, reduceIte, Nat.reduceEqDiff]; omega)) (by first | omega | (simp only [bset, reduceIte, Nat.reduceEqDiff]; omega)) (by first | omega | (simp only [bset, reduceIte, Nat.reduceEqDiff]; omega))) (fun h33 => ?_) (fun h33 => ?_)
                  · first
                    | (exfalso; omega)
                    | (
                      refine zr_iload_n dX1_unmarkedOfGame_76 (rfl : 76 + 1 = 77) rfl ?_
                      refine zr_if_ne (tgt := 83) dX1_unmarkedOfGame_77 (by decide) (rfl : 77 + 3 = 80) (by first | exact jb_iff | exact jI_z (by first | omega | (simp only [bset, reduceIte, Nat.reduceEqDiff]; omega)) (by first | omega | (simp only [bset, reduceIte, Nat.reduceEqDiff]; omega))) (fun h77 => ?_) (fun h77 => ?_)
                      · first
                        | (exfalso; omega)
                        | (
                          refine zr_iload_n dX1_unmarkedOfGame_83 (rfl : 83 + 1 = 84) rfl ?_
                          refine zr_iconst dX1_unmarkedOfGame_84 (rfl : 84 + 1 = 85) ?_
                          refine zr_icmp_ne (tgt := 96) dX1_unmarkedOfGame_85 (by decide) (rfl : 85 + 3 = 88) (jI_eq (by first | omega | (simp only [bset, reduceIte, Nat.reduceEqDiff]; omega)) (by first | omega | (simp only [bset, reduceIte, Nat.reduceEqDiff]; omega)) (by first | omega | (simp only [bset, reduceIte, Nat.reduceEqDiff]; omega)) (by first | omega | (simp only [bset, reduceIte, Nat.reduceEqDiff]; omega))) (fun h85 => ?_) (fun h85 => ?_)
                          · first
                            | (exfalso; omega)
                            | (
                              refine zr_iload dX1_unmarkedOfGame_96 (rfl : 96 + 2 = 98) rfl ?_
                              refine zr_iret dX1_unmarkedOfGame_98 rfl rfl ?_ rfl rfl rfl
                              unfold juo
                              first | rw [if_neg (by omega), if_neg (by omega), if_pos (by omega)] | rw [if_neg (by omega), if_neg (by omega), if_neg (by omega)])
                          · first
                            | (exfalso; omega)
                            | (
                              refine zr_iload dX1_unmarkedOfGame_88 (rfl : 88 + 2 = 90) rfl ?_
                              refine zr_iload dX1_unmarkedOfGame_90 (rfl : 90 + 2 = 92) rfl ?_
                              refine zr_isub dX1_unmarkedOfGame_92 (rfl : 92 + 1 = 93) (by first | exact jI_sub _ _ | rfl) ?_
                              refine zr_goto (tgt := 98) dX1_unmarkedOfGame_93 (by decide) ?_
                              refine zr_iret dX1_unmarkedOfGame_98 rfl rfl ?_ rfl rfl rfl
                              unfold juo
                              first | rw [if_neg (by omega), if_neg (by omega), if_pos (by omega)] | rw [if_neg (by omega), if_neg (by omega), if_neg (by omega)]))
                      · first
                        | (exfalso; omega)
                        | (
                          refine zr_iload dX1_unmarkedOfGame_80 (rfl : 80 + 2 = 82) rfl ?_
                          refine zr_iret dX1_unmarkedOfGame_82 rfl rfl ?_ rfl rfl rfl
                          unfold juo; rw [if_neg (by omega), if_pos (by omega)]))
                  · first
                    | (exfalso; omega)
                    | (
                      refine zr_aload_n dX1_unmarkedOfGame_36 (rfl : 36 + 1 = 37) rfl ?_
                      refine zr_iload dX1_unmarkedOfGame_37 (rfl : 37 + 2 = 39) rfl ?_
                      refine zr_aload_n dX1_unmarkedOfGame_39 (rfl : 39 + 1 = 40) rfl ?_
                      refine zr_fnV dX1_unmarkedOfGame_40 (rfl : 40 + 3 = 43) l_X1_63 (s_unmarkedInRow _ (by first | omega | (simp only [bset, reduceIte, Nat.reduceEqDiff]; omega)) hP hm hmk) (by first | assumption | exact mw_167 | exact mw_168 | exact mw_169 | exact mw_170 | exact bk_0 | exact bk_1 | exact bk_2 | exact bk_3 | exact bk_4 | exact bk_5 | exact bk_6 | exact bk_7 | exact bk_8 | exact bk_9 | exact bk_10 | exact bk_11 | exact bk_12 | exact bk_13 | exact bk_14 | exact bk_15 | exact bk_16 | exact zup_self | exact (zup_ne (by first | assumption | omega)).trans (by first | assumption | exact zup_self) | exact (zup_ne (by first | assumption | omega)).trans ((zup_ne (by first | assumption | omega)).trans (by first | assumption | exact zup_self)) | exact (bk_out (by first | omega | (simp only [bset, reduceIte, Nat.reduceEqDiff]; omega))).trans (by first | exact bk_0 | exact bk_1 | exact bk_2 | exact bk_3 | exact bk_4 | exact bk_5 | exact bk_6 | exact bk_7 | exact bk_8 | exact bk_9 | exact bk_10 | exact bk_11 | exact bk_12 | exact bk_13 | exact bk_14 | exact bk_15 | exact bk_16 | exact cr_5 | exact cr_23 | exact cr_24 | exact cr_25 | exact cr_26 | exact cr_27 | exact cr_28 | exact cr_29 | exact cr_30 | assumption)) rfl rfl rfl (Nat.le_of_ble_eq_true rfl) ?_
                      refine zr_istore (lv' := [_, _, _, _, _, _, _, _, _]) dX1_unmarkedOfGame_43 (rfl : 43 + 2 = 45) (Nat.le_of_ble_eq_true rfl) rfl ?_
                      refine zr_iload dX1_unmarkedOfGame_45 (rfl : 45 + 2 = 47) rfl ?_
                      refine zr_iload dX1_unmarkedOfGame_47 (rfl : 47 + 2 = 49) rfl ?_
                      refine zr_iadd dX1_unmarkedOfGame_49 (rfl : 49 + 1 = 50) (by first | exact jI_add _ _ | rfl) ?_
                      refine zr_istore (lv' := [_, _, _, _, _, _, _, _, _]) dX1_unmarkedOfGame_50 (rfl : 50 + 2 = 52) (Nat.le_of_ble_eq_true rfl) rfl ?_
                      refine zr_iload dX1_unmarkedOfGame_52 (rfl : 52 + 2 = 54) rfl ?_
                      refine zr_iload dX1_unmarkedOfGame_54 (rfl : 54 + 2 = 56) rfl ?_
                      refine zr_minI dX1_unmarkedOfGame_56 (rfl : 56 + 3 = 59) l_X1_76 ⟨⟨by omega, by omega⟩, by omega, by omega⟩ (Nat.le_of_ble_eq_true rfl) ?_
                      refine zr_istore (lv' := [_, _, _, _, _, _, _, _, _]) dX1_unmarkedOfGame_59 (rfl : 59 + 2 = 61) (Nat.le_of_ble_eq_true rfl) rfl ?_
                      refine zr_iload dX1_unmarkedOfGame_61 (rfl : 61 + 2 = 63) rfl ?_
                      refine zr_iload dX1_unmarkedOfGame_63 (rfl : 63 + 2 = 65) rfl ?_
                      refine zr_maxI dX1_unmarkedOfGame_65 (rfl : 65 + 3 = 68) l_X1_81 ⟨⟨by omega, by omega⟩, by omega, by omega⟩ (Nat.le_of_ble_eq_true rfl) ?_
                      refine zr_istore (lv' := [_, _, _, _, _, _, _, _, _]) dX1_unmarkedOfGame_68 (rfl : 68 + 2 = 70) (Nat.le_of_ble_eq_true rfl) rfl ?_
                      refine zr_iinc (lv' := [_, _, _, _, _, _, _, _, _]) dX1_unmarkedOfGame_70 (rfl : 70 + 3 = 73) (Nat.le_of_ble_eq_true rfl) rfl (by first | exact jI_add _ _ | rfl) rfl ?_
                      refine zr_goto (tgt := 26) dX1_unmarkedOfGame_73 (by decide) ?_
                      exfalso; omega)))))
  · first
    | (exfalso; omega)
    | (
      refine zr_aload_n dX1_unmarkedOfGame_5 (rfl : 5 + 1 = 6) rfl ?_
      refine zr_iload_n dX1_unmarkedOfGame_6 (rfl : 6 + 1 = 7) rfl ?_
      refine zr_aload_n dX1_unmarkedOfGame_7 (rfl : 7 + 1 = 8) rfl ?_
      refine zr_fnV dX1_unmarkedOfGame_8 (rfl : 8 + 3 = 11) l_X1_73 (s_unmarkedCorners c hc hP hm hmk) (by first | assumption | exact mw_167 | exact mw_168 | exact mw_169 | exact mw_170 | exact bk_0 | exact bk_1 | exact bk_2 | exact bk_3 | exact bk_4 | exact bk_5 | exact bk_6 | exact bk_7 | exact bk_8 | exact bk_9 | exact bk_10 | exact bk_11 | exact bk_12 | exact bk_13 | exact bk_14 | exact bk_15 | exact bk_16 | exact zup_self | exact (zup_ne (by first | assumption | omega)).trans (by first | assumption | exact zup_self) | exact (zup_ne (by first | assumption | omega)).trans ((zup_ne (by first | assumption | omega)).trans (by first | assumption | exact zup_self)) | exact (bk_out (by first | omega | (simp only [bset, reduceIte, Nat.reduceEqDiff]; omega))).trans (by first | exact bk_0 | exact bk_1 | exact bk_2 | exact bk_3 | exact bk_4 | exact bk_5 | exact bk_6 | exact bk_7 | exact bk_8 | exact bk_9 | exact bk_10 | exact bk_11 | exact bk_12 | exact bk_13 | exact bk_14 | exact bk_15 | exact bk_16 | exact cr_5 | exact cr_23 | exact cr_24 | exact cr_25 | exact cr_26 | exact cr_27 | exact cr_28 | exact cr_29 | exact cr_30 | assumption)) rfl rfl rfl (Nat.le_of_ble_eq_true rfl) ?_
      refine zr_iret dX1_unmarkedOfGame_11 rfl rfl ?_ rfl rfl rfl
      unfold juo; rw [if_pos (by omega)])
theorem s_firstUnmarkedCorner (c : Int) (hc : 0 ≤ c ∧ c < 6) (hP : ∀ z, 0 ≤ B 0 z ∧ B 0 z ≤ 90) (hm : bk b B w ma = some (zia 91 mk)) (hmk : ∀ z, 0 ≤ mk z ∧ mk z < 2147483648) : zFn Γ md_X1_firstUnmarkedCorner (d + 1) [.ref (b + 1), .int (jI c), .ref ma] (bk b B w) (some (.int (jI (jfuc (B 0) mk c)))) (bk b B w) := by
  refine zFn.of_run (lv := [some (.ref (b + 1)), some (.int (jI c)), some (.ref ma), none]) (by decide) rfl (Nat.le_of_ble_eq_true rfl) rfl (fun n9 g9 => ?_)
  refine zr_iconst dX1_firstUnmarkedCorner_0 (rfl : 0 + 1 = 1) ?_
  refine zr_istore_n (lv' := [_, _, _, _]) dX1_firstUnmarkedCorner_1 (rfl : 1 + 1 = 2) (Nat.le_of_ble_eq_true rfl) rfl ?_
  refine zfor1 0 4 (fun i _ => ∀ k : Int, 0 ≤ k → k < i → (if 0 < jcor (B 0) c k ∧ mk (jcor (B 0) c k) = 0 then jcor (B 0) c k else 0) = 0) (fun i (_ : Unit) => [some (.ref (b + 1)), some (.int (jI c)), some (.ref ma), some (.int (jI i))]) (fun _ _ => bk b B w) () (fun k h1 h2 => by omega) ?_ ?_
  · intro i _ h0 h9 hI hk
    have hcr := jcor_r hP c i
    refine zr_iload_n dX1_firstUnmarkedCorner_2 (rfl : 2 + 1 = 3) rfl ?_
    refine zr_iconst dX1_firstUnmarkedCorner_3 (rfl : 3 + 1 = 4) ?_
    refine zr_icmp_ge (tgt := 33) dX1_firstUnmarkedCorner_4 (by decide) (rfl : 4 + 3 = 7) (jI_le (by first | omega | (simp only [bset, reduceIte, Nat.reduceEqDiff]; omega)) (by first | omega | (simp only [bset, reduceIte, Nat.reduceEqDiff]; omega)) (by first | omega | (simp only [bset, reduceIte, Nat.reduceEqDiff]; omega)) (by first | omega | (simp only [bset, reduceIte, Nat.reduceEqDiff]; omega))) (fun h4 => ?_) (fun h4 => ?_)
    · first
      | (exfalso; omega)
      | (
        refine zr_iconst dX1_firstUnmarkedCorner_33 (rfl : 33 + 1 = 34) ?_
        refine zr_iret dX1_firstUnmarkedCorner_34 rfl rfl ?_ rfl rfl rfl
        first | rfl | rw [jb_pos (by first | assumption | omega)] | rw [jb_neg (by first | assumption | omega)] | rw [if_pos (by first | assumption | omega)] | rw [if_neg (by first | assumption | omega)])
    · first
      | (exfalso; omega)
      | (
        refine zr_aload_n dX1_firstUnmarkedCorner_7 (rfl : 7 + 1 = 8) rfl ?_
        refine zr_iload_n dX1_firstUnmarkedCorner_8 (rfl : 8 + 1 = 9) rfl ?_
        refine zr_iload_n dX1_firstUnmarkedCorner_9 (rfl : 9 + 1 = 10) rfl ?_
        refine zr_fnV dX1_firstUnmarkedCorner_10 (rfl : 10 + 3 = 13) l_X1_70 (s_corner _ i (by first | omega | (simp only [bset, reduceIte, Nat.reduceEqDiff]; omega)) (by first | omega | (simp only [bset, reduceIte, Nat.reduceEqDiff]; omega)) hP) (by first | assumption | exact mw_167 | exact mw_168 | exact mw_169 | exact mw_170 | exact bk_0 | exact bk_1 | exact bk_2 | exact bk_3 | exact bk_4 | exact bk_5 | exact bk_6 | exact bk_7 | exact bk_8 | exact bk_9 | exact bk_10 | exact bk_11 | exact bk_12 | exact bk_13 | exact bk_14 | exact bk_15 | exact bk_16 | exact zup_self | exact (zup_ne (by first | assumption | omega)).trans (by first | assumption | exact zup_self) | exact (zup_ne (by first | assumption | omega)).trans ((zup_ne (by first | assumption | omega)).trans (by first | assumption | exact zup_self)) | exact (bk_out (by first | omega | (simp only [bset, reduceIte, Nat.reduceEqDiff]; omega))).trans (by first | exact bk_0 | exact bk_1 | exact bk_2 | exact bk_3 | exact bk_4 | exact bk_5 | exact bk_6 | exact bk_7 | exact bk_8 | exact bk_9 | exact bk_10 | exact bk_11 | exact bk_12 | exact bk_13 | exact bk_14 | exact bk_15 | exact bk_16 | exact cr_5 | exact cr_23 | exact cr_24 | exact cr_25 | exact cr_26 | exact cr_27 | exact cr_28 | exact cr_29 | exact cr_30 | assumption)) rfl rfl rfl (Nat.le_of_ble_eq_true rfl) ?_
        refine zr_aload_n dX1_firstUnmarkedCorner_13 (rfl : 13 + 1 = 14) rfl ?_
        refine zr_fnS dX1_firstUnmarkedCorner_14 (rfl : 14 + 3 = 17) l_X1_59 (s_isUnmarked _ (by first | omega | (simp only [bset, reduceIte, Nat.reduceEqDiff]; omega)) hm hmk) rfl rfl (Nat.le_of_ble_eq_true rfl) ?_
        refine zr_if_eq (tgt := 27) dX1_firstUnmarkedCorner_17 (by decide) (rfl : 17 + 3 = 20) (by first | exact jb_iff | exact jI_z (by first | omega | (simp only [bset, reduceIte, Nat.reduceEqDiff]; omega)) (by first | omega | (simp only [bset, reduceIte, Nat.reduceEqDiff]; omega))) (fun h17 => ?_) (fun h17 => ?_)
        · first
          | (exfalso; omega)
          | (
            refine zr_iinc (lv' := [_, _, _, _]) dX1_firstUnmarkedCorner_27 (rfl : 27 + 3 = 30) (Nat.le_of_ble_eq_true rfl) rfl (by first | exact jI_add _ _ | rfl) rfl ?_
            refine zr_goto (tgt := 2) dX1_firstUnmarkedCorner_30 (by decide) ?_
            refine hk () ?_
            intro k h1 h2
            by_cases hki : k = i
            · rw [hki, if_neg (by omega)]
            · exact hI k h1 (by omega))
        · first
          | (exfalso; omega)
          | (
            refine zr_aload_n dX1_firstUnmarkedCorner_20 (rfl : 20 + 1 = 21) rfl ?_
            refine zr_iload_n dX1_firstUnmarkedCorner_21 (rfl : 21 + 1 = 22) rfl ?_
            refine zr_iload_n dX1_firstUnmarkedCorner_22 (rfl : 22 + 1 = 23) rfl ?_
            refine zr_fnV dX1_firstUnmarkedCorner_23 (rfl : 23 + 3 = 26) l_X1_70 (s_corner _ i (by first | omega | (simp only [bset, reduceIte, Nat.reduceEqDiff]; omega)) (by first | omega | (simp only [bset, reduceIte, Nat.reduceEqDiff]; omega)) hP) (by first | assumption | exact mw_167 | exact mw_168 | exact mw_169 | exact mw_170 | exact bk_0 | exact bk_1 | exact bk_2 | exact bk_3 | exact bk_4 | exact bk_5 | exact bk_6 | exact bk_7 | exact bk_8 | exact bk_9 | exact bk_10 | exact bk_11 | exact bk_12 | exact bk_13 | exact bk_14 | exact bk_15 | exact bk_16 | exact zup_self | exact (zup_ne (by first | assumption | omega)).trans (by first | assumption | exact zup_self) | exact (zup_ne (by first | assumption | omega)).trans ((zup_ne (by first | assumption | omega)).trans (by first | assumption | exact zup_self)) | exact (bk_out (by first | omega | (simp only [bset, reduceIte, Nat.reduceEqDiff]; omega))).trans (by first | exact bk_0 | exact bk_1 | exact bk_2 | exact bk_3 | exact bk_4 | exact bk_5 | exact bk_6 | exact bk_7 | exact bk_8 | exact bk_9 | exact bk_10 | exact bk_11 | exact bk_12 | exact bk_13 | exact bk_14 | exact bk_15 | exact bk_16 | exact cr_5 | exact cr_23 | exact cr_24 | exact cr_25 | exact cr_26 | exact cr_27 | exact cr_28 | exact cr_29 | exact cr_30 | assumption)) rfl rfl rfl (Nat.le_of_ble_eq_true rfl) ?_
            refine zr_iret dX1_firstUnmarkedCorner_26 rfl rfl ?_ rfl rfl rfl
            have h17' : 0 < jcor (B 0) c i ∧ mk (jcor (B 0) c i) = 0 := by omega
            unfold jfuc jn1
            rw [jfst_at (k := i) h0 h9 (by rw [if_pos h17']; omega) hI, if_pos h17', if_neg (by omega)]))
  · intro _ hI
    refine zr_iload_n dX1_firstUnmarkedCorner_2 (rfl : 2 + 1 = 3) rfl ?_
    refine zr_iconst dX1_firstUnmarkedCorner_3 (rfl : 3 + 1 = 4) ?_
    refine zr_icmp_ge (tgt := 33) dX1_firstUnmarkedCorner_4 (by decide) (rfl : 4 + 3 = 7) (jI_le (by first | omega | (simp only [bset, reduceIte, Nat.reduceEqDiff]; omega)) (by first | omega | (simp only [bset, reduceIte, Nat.reduceEqDiff]; omega)) (by first | omega | (simp only [bset, reduceIte, Nat.reduceEqDiff]; omega)) (by first | omega | (simp only [bset, reduceIte, Nat.reduceEqDiff]; omega))) (fun h4 => ?_) (fun h4 => ?_)
    · first
      | (exfalso; omega)
      | (
        refine zr_iconst dX1_firstUnmarkedCorner_33 (rfl : 33 + 1 = 34) ?_
        refine zr_iret dX1_firstUnmarkedCorner_34 rfl rfl ?_ rfl rfl rfl
        unfold jfuc jn1
        rw [jfst_none hI, if_pos rfl])
    · first
      | (exfalso; omega)
      | (
        refine zr_aload_n dX1_firstUnmarkedCorner_7 (rfl : 7 + 1 = 8) rfl ?_
        refine zr_iload_n dX1_firstUnmarkedCorner_8 (rfl : 8 + 1 = 9) rfl ?_
        refine zr_iload_n dX1_firstUnmarkedCorner_9 (rfl : 9 + 1 = 10) rfl ?_
        exfalso; omega)
theorem s_firstUnmarkedIn (r : Int) (hr : 0 ≤ r ∧ r < 18) (hP : ∀ z, 0 ≤ B 0 z ∧ B 0 z ≤ 90) (hm : bk b B w ma = some (zia 91 mk)) (hmk : ∀ z, 0 ≤ mk z ∧ mk z < 2147483648) : zFn Γ md_X1_firstUnmarkedIn (d + 1) [.ref (b + 1), .int (jI r), .ref ma] (bk b B w) (some (.int (jI (jfui (B 0) mk r)))) (bk b B w) := by
  refine zFn.of_run (lv := [some (.ref (b + 1)), some (.int (jI r)), some (.ref ma), none]) (by decide) rfl (Nat.le_of_ble_eq_true rfl) rfl (fun n9 g9 => ?_)
  refine zr_iconst dX1_firstUnmarkedIn_0 (rfl : 0 + 1 = 1) ?_
  refine zr_istore_n (lv' := [_, _, _, _]) dX1_firstUnmarkedIn_1 (rfl : 1 + 1 = 2) (Nat.le_of_ble_eq_true rfl) rfl ?_
  refine zfor1 0 9 (fun i _ => ∀ k : Int, 0 ≤ k → k < i → (if 0 < B 0 (r * 9 + k) ∧ mk (B 0 (r * 9 + k)) = 0 then B 0 (r * 9 + k) else 0) = 0) (fun i (_ : Unit) => [some (.ref (b + 1)), some (.int (jI r)), some (.ref ma), some (.int (jI i))]) (fun _ _ => bk b B w) () (fun k h1 h2 => by omega) ?_ ?_
  · intro i _ h0 h9 hI hk
    have hcr := hP (r * 9 + i)
    refine zr_iload_n dX1_firstUnmarkedIn_2 (rfl : 2 + 1 = 3) rfl ?_
    refine zr_bipush dX1_firstUnmarkedIn_3 (rfl : 3 + 2 = 5) (by decide) ?_
    refine zr_icmp_ge (tgt := 34) dX1_firstUnmarkedIn_5 (by decide) (rfl : 5 + 3 = 8) (jI_le (by first | omega | (simp only [bset, reduceIte, Nat.reduceEqDiff]; omega)) (by first | omega | (simp only [bset, reduceIte, Nat.reduceEqDiff]; omega)) (by first | omega | (simp only [bset, reduceIte, Nat.reduceEqDiff]; omega)) (by first | omega | (simp only [bset, reduceIte, Nat.reduceEqDiff]; omega))) (fun h5 => ?_) (fun h5 => ?_)
    · first
      | (exfalso; omega)
      | (
        refine zr_iconst dX1_firstUnmarkedIn_34 (rfl : 34 + 1 = 35) ?_
        refine zr_iret dX1_firstUnmarkedIn_35 rfl rfl ?_ rfl rfl rfl
        first | rfl | rw [jb_pos (by first | assumption | omega)] | rw [jb_neg (by first | assumption | omega)] | rw [if_pos (by first | assumption | omega)] | rw [if_neg (by first | assumption | omega)])
    · first
      | (exfalso; omega)
      | (
        refine zr_aload_n dX1_firstUnmarkedIn_8 (rfl : 8 + 1 = 9) rfl ?_
        refine zr_iload_n dX1_firstUnmarkedIn_9 (rfl : 9 + 1 = 10) rfl ?_
        refine zr_iload_n dX1_firstUnmarkedIn_10 (rfl : 10 + 1 = 11) rfl ?_
        refine zr_fnV dX1_firstUnmarkedIn_11 (rfl : 11 + 3 = 14) l_X1_42 (s_numberIn r i (by first | omega | (simp only [bset, reduceIte, Nat.reduceEqDiff]; omega)) (by first | omega | (simp only [bset, reduceIte, Nat.reduceEqDiff]; omega))) (by first | assumption | exact mw_167 | exact mw_168 | exact mw_169 | exact mw_170 | exact bk_0 | exact bk_1 | exact bk_2 | exact bk_3 | exact bk_4 | exact bk_5 | exact bk_6 | exact bk_7 | exact bk_8 | exact bk_9 | exact bk_10 | exact bk_11 | exact bk_12 | exact bk_13 | exact bk_14 | exact bk_15 | exact bk_16 | exact zup_self | exact (zup_ne (by first | assumption | omega)).trans (by first | assumption | exact zup_self) | exact (zup_ne (by first | assumption | omega)).trans ((zup_ne (by first | assumption | omega)).trans (by first | assumption | exact zup_self)) | exact (bk_out (by first | omega | (simp only [bset, reduceIte, Nat.reduceEqDiff]; omega))).trans (by first | exact bk_0 | exact bk_1 | exact bk_2 | exact bk_3 | exact bk_4 | exact bk_5 | exact bk_6 | exact bk_7 | exact bk_8 | exact bk_9 | exact bk_10 | exact bk_11 | exact bk_12 | exact bk_13 | exact bk_14 | exact bk_15 | exact bk_16 | exact cr_5 | exact cr_23 | exact cr_24 | exact cr_25 | exact cr_26 | exact cr_27 | exact cr_28 | exact cr_29 | exact cr_30 | assumption)) rfl rfl rfl (Nat.le_of_ble_eq_true rfl) ?_
        refine zr_aload_n dX1_firstUnmarkedIn_14 (rfl : 14 + 1 = 15) rfl ?_
        refine zr_fnS dX1_firstUnmarkedIn_15 (rfl : 15 + 3 = 18) l_X1_59 (s_isUnmarked _ (by first | omega | (simp only [bset, reduceIte, Nat.reduceEqDiff]; omega)) hm hmk) rfl rfl (Nat.le_of_ble_eq_true rfl) ?_
        refine zr_if_eq (tgt := 28) dX1_firstUnmarkedIn_18 (by decide) (rfl : 18 + 3 = 21) (by first | exact jb_iff | exact jI_z (by first | omega | (simp only [bset, reduceIte, Nat.reduceEqDiff]; omega)) (by first | omega | (simp only [bset, reduceIte, Nat.reduceEqDiff]; omega))) (fun h18 => ?_) (fun h18 => ?_)
        · first
          | (exfalso; omega)
          | (
            refine zr_iinc (lv' := [_, _, _, _]) dX1_firstUnmarkedIn_28 (rfl : 28 + 3 = 31) (Nat.le_of_ble_eq_true rfl) rfl (by first | exact jI_add _ _ | rfl) rfl ?_
            refine zr_goto (tgt := 2) dX1_firstUnmarkedIn_31 (by decide) ?_
            refine hk () ?_
            intro k h1 h2
            by_cases hki : k = i
            · rw [hki, if_neg (by omega)]
            · exact hI k h1 (by omega))
        · first
          | (exfalso; omega)
          | (
            refine zr_aload_n dX1_firstUnmarkedIn_21 (rfl : 21 + 1 = 22) rfl ?_
            refine zr_iload_n dX1_firstUnmarkedIn_22 (rfl : 22 + 1 = 23) rfl ?_
            refine zr_iload_n dX1_firstUnmarkedIn_23 (rfl : 23 + 1 = 24) rfl ?_
            refine zr_fnV dX1_firstUnmarkedIn_24 (rfl : 24 + 3 = 27) l_X1_42 (s_numberIn r i (by first | omega | (simp only [bset, reduceIte, Nat.reduceEqDiff]; omega)) (by first | omega | (simp only [bset, reduceIte, Nat.reduceEqDiff]; omega))) (by first | assumption | exact mw_167 | exact mw_168 | exact mw_169 | exact mw_170 | exact bk_0 | exact bk_1 | exact bk_2 | exact bk_3 | exact bk_4 | exact bk_5 | exact bk_6 | exact bk_7 | exact bk_8 | exact bk_9 | exact bk_10 | exact bk_11 | exact bk_12 | exact bk_13 | exact bk_14 | exact bk_15 | exact bk_16 | exact zup_self | exact (zup_ne (by first | assumption | omega)).trans (by first | assumption | exact zup_self) | exact (zup_ne (by first | assumption | omega)).trans ((zup_ne (by first | assumption | omega)).trans (by first | assumption | exact zup_self)) | exact (bk_out (by first | omega | (simp only [bset, reduceIte, Nat.reduceEqDiff]; omega))).trans (by first | exact bk_0 | exact bk_1 | exact bk_2 | exact bk_3 | exact bk_4 | exact bk_5 | exact bk_6 | exact bk_7 | exact bk_8 | exact bk_9 | exact bk_10 | exact bk_11 | exact bk_12 | exact bk_13 | exact bk_14 | exact bk_15 | exact bk_16 | exact cr_5 | exact cr_23 | exact cr_24 | exact cr_25 | exact cr_26 | exact cr_27 | exact cr_28 | exact cr_29 | exact cr_30 | assumption)) rfl rfl rfl (Nat.le_of_ble_eq_true rfl) ?_
            refine zr_iret dX1_firstUnmarkedIn_27 rfl rfl ?_ rfl rfl rfl
            have h18' : 0 < B 0 (r * 9 + i) ∧ mk (B 0 (r * 9 + i)) = 0 := by omega
            unfold jfui jn1
            rw [jfst_at (k := i) h0 h9 (by rw [if_pos h18']; omega) hI, if_pos h18', if_neg (by omega)]))
  · intro _ hI
    refine zr_iload_n dX1_firstUnmarkedIn_2 (rfl : 2 + 1 = 3) rfl ?_
    refine zr_bipush dX1_firstUnmarkedIn_3 (rfl : 3 + 2 = 5) (by decide) ?_
    refine zr_icmp_ge (tgt := 34) dX1_firstUnmarkedIn_5 (by decide) (rfl : 5 + 3 = 8) (jI_le (by first | omega | (simp only [bset, reduceIte, Nat.reduceEqDiff]; omega)) (by first | omega | (simp only [bset, reduceIte, Nat.reduceEqDiff]; omega)) (by first | omega | (simp only [bset, reduceIte, Nat.reduceEqDiff]; omega)) (by first | omega | (simp only [bset, reduceIte, Nat.reduceEqDiff]; omega))) (fun h5 => ?_) (fun h5 => ?_)
    · first
      | (exfalso; omega)
      | (
        refine zr_iconst dX1_firstUnmarkedIn_34 (rfl : 34 + 1 = 35) ?_
        refine zr_iret dX1_firstUnmarkedIn_35 rfl rfl ?_ rfl rfl rfl
        unfold jfui jn1
        rw [jfst_none hI, if_pos rfl])
    · first
      | (exfalso; omega)
      | (
        refine zr_aload_n dX1_firstUnmarkedIn_8 (rfl : 8 + 1 = 9) rfl ?_
        refine zr_iload_n dX1_firstUnmarkedIn_9 (rfl : 9 + 1 = 10) rfl ?_
        refine zr_iload_n dX1_firstUnmarkedIn_10 (rfl : 10 + 1 = 11) rfl ?_
        exfalso; omega)
theorem s_onlyUnmarked (c g : Int) (hc : 0 ≤ c ∧ c < 6) (hg : 0 ≤ g ∧ g < 4) (hP : ∀ z, 0 ≤ B 0 z ∧ B 0 z ≤ 90) (hm : bk b B w ma = some (zia 91 mk)) (hmk : ∀ z, 0 ≤ mk z ∧ mk z < 2147483648) : zFn Γ md_X1_onlyUnmarked (d + 2) [.ref (b + 1), .int (jI c), .int (jI g), .ref ma] (bk b B w) (some (.int (jI (jonly (B 0) mk c g)))) (bk b B w) := by
  refine zFn.of_run (lv := [some (.ref (b + 1)), some (.int (jI c)), some (.int (jI g)), some (.ref ma), none]) (by decide) rfl (Nat.le_of_ble_eq_true rfl) rfl (fun n9 g9 => ?_)
  have u1 := jur_r (B 0) mk (c * 3)
  have u2 := jur_r (B 0) mk (c * 3 + 1)
  have u3 := jur_r (B 0) mk (c * 3 + 1 + 1)
  refine zr_iload_n dX1_onlyUnmarked_0 (rfl : 0 + 1 = 1) rfl ?_
  refine zr_iconst dX1_onlyUnmarked_1 (rfl : 1 + 1 = 2) ?_
  refine zr_icmp_ne (tgt := 12) dX1_onlyUnmarked_2 (by decide) (rfl : 2 + 3 = 5) (jI_eq (by first | omega | (simp only [bset, reduceIte, Nat.reduceEqDiff]; omega)) (by first | omega | (simp only [bset, reduceIte, Nat.reduceEqDiff]; omega)) (by first | omega | (simp only [bset, reduceIte, Nat.reduceEqDiff]; omega)) (by first | omega | (simp only [bset, reduceIte, Nat.reduceEqDiff]; omega))) (fun h2 => ?_) (fun h2 => ?_)
  · first
    | (exfalso; omega)
    | (
      refine zr_iload_n dX1_onlyUnmarked_12 (rfl : 12 + 1 = 13) rfl ?_
      refine zr_iconst dX1_onlyUnmarked_13 (rfl : 13 + 1 = 14) ?_
      refine zr_imul dX1_onlyUnmarked_14 (rfl : 14 + 1 = 15) (by first | exact jI_mul _ _ | rfl) ?_
      refine zr_istore (lv' := [_, _, _, _, _]) dX1_onlyUnmarked_15 (rfl : 15 + 2 = 17) (Nat.le_of_ble_eq_true rfl) rfl ?_
      refine zr_iload dX1_onlyUnmarked_17 (rfl : 17 + 2 = 19) rfl ?_
      refine zr_iload_n dX1_onlyUnmarked_19 (rfl : 19 + 1 = 20) rfl ?_
      refine zr_iconst dX1_onlyUnmarked_20 (rfl : 20 + 1 = 21) ?_
      refine zr_imul dX1_onlyUnmarked_21 (rfl : 21 + 1 = 22) (by first | exact jI_mul _ _ | rfl) ?_
      refine zr_iconst dX1_onlyUnmarked_22 (rfl : 22 + 1 = 23) ?_
      refine zr_iadd dX1_onlyUnmarked_23 (rfl : 23 + 1 = 24) (by first | exact jI_add _ _ | rfl) ?_
      refine zr_icmp_ge (tgt := 52) dX1_onlyUnmarked_24 (by decide) (rfl : 24 + 3 = 27) (jI_le (by first | omega | (simp only [bset, reduceIte, Nat.reduceEqDiff]; omega)) (by first | omega | (simp only [bset, reduceIte, Nat.reduceEqDiff]; omega)) (by first | omega | (simp only [bset, reduceIte, Nat.reduceEqDiff]; omega)) (by first | omega | (simp only [bset, reduceIte, Nat.reduceEqDiff]; omega))) (fun h24 => ?_) (fun h24 => ?_)
      · first
        | (exfalso; omega)
        | (
          refine zr_iconst dX1_onlyUnmarked_52 (rfl : 52 + 1 = 53) ?_
          refine zr_iret dX1_onlyUnmarked_53 rfl rfl ?_ rfl rfl rfl
          unfold jonly
          rw [if_neg (by omega), if_neg (by omega), if_neg (by omega), if_neg (by omega)])
      · first
        | (exfalso; omega)
        | (
          refine zr_aload_n dX1_onlyUnmarked_27 (rfl : 27 + 1 = 28) rfl ?_
          refine zr_iload dX1_onlyUnmarked_28 (rfl : 28 + 2 = 30) rfl ?_
          refine zr_aload_n dX1_onlyUnmarked_30 (rfl : 30 + 1 = 31) rfl ?_
          refine zr_fnV dX1_onlyUnmarked_31 (rfl : 31 + 3 = 34) l_X1_63 (s_unmarkedInRow _ (by first | omega | (simp only [bset, reduceIte, Nat.reduceEqDiff]; omega)) hP hm hmk) (by first | assumption | exact mw_167 | exact mw_168 | exact mw_169 | exact mw_170 | exact bk_0 | exact bk_1 | exact bk_2 | exact bk_3 | exact bk_4 | exact bk_5 | exact bk_6 | exact bk_7 | exact bk_8 | exact bk_9 | exact bk_10 | exact bk_11 | exact bk_12 | exact bk_13 | exact bk_14 | exact bk_15 | exact bk_16 | exact zup_self | exact (zup_ne (by first | assumption | omega)).trans (by first | assumption | exact zup_self) | exact (zup_ne (by first | assumption | omega)).trans ((zup_ne (by first | assumption | omega)).trans (by first | assumption | exact zup_self)) | exact (bk_out (by first | omega | (simp only [bset, reduceIte, Nat.reduceEqDiff]; omega))).trans (by first | exact bk_0 | exact bk_1 | exact bk_2 | exact bk_3 | exact bk_4 | exact bk_5 | exact bk_6 | exact bk_7 | exact bk_8 | exact bk_9 | exact bk_10 | exact bk_11 | exact bk_12 | exact bk_13 | exact bk_14 | exact bk_15 | exact bk_16 | exact cr_5 | exact cr_23 | exact cr_24 | exact cr_25 | exact cr_26 | exact cr_27 | exact cr_28 | exact cr_29 | exact cr_30 | assumption)) rfl rfl rfl (Nat.le_of_ble_eq_true rfl) ?_
          refine zr_iconst dX1_onlyUnmarked_34 (rfl : 34 + 1 = 35) ?_
          refine zr_icmp_ne (tgt := 46) dX1_onlyUnmarked_35 (by decide) (rfl : 35 + 3 = 38) (jI_eq (by first | omega | (simp only [bset, reduceIte, Nat.reduceEqDiff]; omega)) (by first | omega | (simp only [bset, reduceIte, Nat.reduceEqDiff]; omega)) (by first | omega | (simp only [bset, reduceIte, Nat.reduceEqDiff]; omega)) (by first | omega | (simp only [bset, reduceIte, Nat.reduceEqDiff]; omega))) (fun h35 => ?_) (fun h35 => ?_)
          · first
            | (exfalso; omega)
            | (
              refine zr_iinc (lv' := [_, _, _, _, _]) dX1_onlyUnmarked_46 (rfl : 46 + 3 = 49) (Nat.le_of_ble_eq_true rfl) rfl (by first | exact jI_add _ _ | rfl) rfl ?_
              refine zr_goto (tgt := 17) dX1_onlyUnmarked_49 (by decide) ?_
              refine zr_iload dX1_onlyUnmarked_17 (rfl : 17 + 2 = 19) rfl ?_
              refine zr_iload_n dX1_onlyUnmarked_19 (rfl : 19 + 1 = 20) rfl ?_
              refine zr_iconst dX1_onlyUnmarked_20 (rfl : 20 + 1 = 21) ?_
              refine zr_imul dX1_onlyUnmarked_21 (rfl : 21 + 1 = 22) (by first | exact jI_mul _ _ | rfl) ?_
              refine zr_iconst dX1_onlyUnmarked_22 (rfl : 22 + 1 = 23) ?_
              refine zr_iadd dX1_onlyUnmarked_23 (rfl : 23 + 1 = 24) (by first | exact jI_add _ _ | rfl) ?_
              refine zr_icmp_ge (tgt := 52) dX1_onlyUnmarked_24 (by decide) (rfl : 24 + 3 = 27) (jI_le (by first | omega | (simp only [bset, reduceIte, Nat.reduceEqDiff]; omega)) (by first | omega | (simp only [bset, reduceIte, Nat.reduceEqDiff]; omega)) (by first | omega | (simp only [bset, reduceIte, Nat.reduceEqDiff]; omega)) (by first | omega | (simp only [bset, reduceIte, Nat.reduceEqDiff]; omega))) (fun h24 => ?_) (fun h24 => ?_)
              · first
                | (exfalso; omega)
                | (
                  refine zr_iconst dX1_onlyUnmarked_52 (rfl : 52 + 1 = 53) ?_
                  refine zr_iret dX1_onlyUnmarked_53 rfl rfl ?_ rfl rfl rfl
                  unfold jonly
                  rw [if_neg (by omega), if_neg (by omega), if_neg (by omega), if_neg (by omega)])
              · first
                | (exfalso; omega)
                | (
                  refine zr_aload_n dX1_onlyUnmarked_27 (rfl : 27 + 1 = 28) rfl ?_
                  refine zr_iload dX1_onlyUnmarked_28 (rfl : 28 + 2 = 30) rfl ?_
                  refine zr_aload_n dX1_onlyUnmarked_30 (rfl : 30 + 1 = 31) rfl ?_
                  refine zr_fnV dX1_onlyUnmarked_31 (rfl : 31 + 3 = 34) l_X1_63 (s_unmarkedInRow _ (by first | omega | (simp only [bset, reduceIte, Nat.reduceEqDiff]; omega)) hP hm hmk) (by first | assumption | exact mw_167 | exact mw_168 | exact mw_169 | exact mw_170 | exact bk_0 | exact bk_1 | exact bk_2 | exact bk_3 | exact bk_4 | exact bk_5 | exact bk_6 | exact bk_7 | exact bk_8 | exact bk_9 | exact bk_10 | exact bk_11 | exact bk_12 | exact bk_13 | exact bk_14 | exact bk_15 | exact bk_16 | exact zup_self | exact (zup_ne (by first | assumption | omega)).trans (by first | assumption | exact zup_self) | exact (zup_ne (by first | assumption | omega)).trans ((zup_ne (by first | assumption | omega)).trans (by first | assumption | exact zup_self)) | exact (bk_out (by first | omega | (simp only [bset, reduceIte, Nat.reduceEqDiff]; omega))).trans (by first | exact bk_0 | exact bk_1 | exact bk_2 | exact bk_3 | exact bk_4 | exact bk_5 | exact bk_6 | exact bk_7 | exact bk_8 | exact bk_9 | exact bk_10 | exact bk_11 | exact bk_12 | exact bk_13 | exact bk_14 | exact bk_15 | exact bk_16 | exact cr_5 | exact cr_23 | exact cr_24 | exact cr_25 | exact cr_26 | exact cr_27 | exact cr_28 | exact cr_29 | exact cr_30 | assumption)) rfl rfl rfl (Nat.le_of_ble_eq_true rfl) ?_
                  refine zr_iconst dX1_onlyUnmarked_34 (rfl : 34 + 1 = 35) ?_
                  refine zr_icmp_ne (tgt := 46) dX1_onlyUnmarked_35 (by decide) (rfl : 35 + 3 = 38) (jI_eq (by first | omega | (simp only [bset, reduceIte, Nat.reduceEqDiff]; omega)) (by first | omega | (simp only [bset, reduceIte, Nat.reduceEqDiff]; omega)) (by first | omega | (simp only [bset, reduceIte, Nat.reduceEqDiff]; omega)) (by first | omega | (simp only [bset, reduceIte, Nat.reduceEqDiff]; omega))) (fun h35 => ?_) (fun h35 => ?_)
                  · first
                    | (exfalso; omega)
                    | (
                      refine zr_iinc (lv' := [_, _, _, _, _]) dX1_onlyUnmarked_46 (rfl : 46 + 3 = 49) (Nat.le_of_ble_eq_true rfl) rfl (by first | exact jI_add _ _ | rfl) rfl ?_
                      refine zr_goto (tgt := 17) dX1_onlyUnmarked_49 (by decide) ?_
                      refine zr_iload dX1_onlyUnmarked_17 (rfl : 17 + 2 = 19) rfl ?_
                      refine zr_iload_n dX1_onlyUnmarked_19 (rfl : 19 + 1 = 20) rfl ?_
                      refine zr_iconst dX1_onlyUnmarked_20 (rfl : 20 + 1 = 21) ?_
                      refine zr_imul dX1_onlyUnmarked_21 (rfl : 21 + 1 = 22) (by first | exact jI_mul _ _ | rfl) ?_
                      refine zr_iconst dX1_onlyUnmarked_22 (rfl : 22 + 1 = 23) ?_
                      refine zr_iadd dX1_onlyUnmarked_23 (rfl : 23 + 1 = 24) (by first | exact jI_add _ _ | rfl) ?_
                      refine zr_icmp_ge (tgt := 52) dX1_onlyUnmarked_24 (by decide) (rfl : 24 + 3 = 27) (jI_le (by first | omega | (simp only [bset, reduceIte, Nat.reduceEqDiff]; omega)) (by first | omega | (simp only [bset, reduceIte, Nat.reduceEqDiff]; omega)) (by first | omega | (simp only [bset, reduceIte, Nat.reduceEqDiff]; omega)) (by first | omega | (simp only [bset, reduceIte, Nat.reduceEqDiff]; omega))) (fun h24 => ?_) (fun h24 => ?_)
                      · first
                        | (exfalso; omega)
                        | (
                          refine zr_iconst dX1_onlyUnmarked_52 (rfl : 52 + 1 = 53) ?_
                          refine zr_iret dX1_onlyUnmarked_53 rfl rfl ?_ rfl rfl rfl
                          unfold jonly
                          rw [if_neg (by omega), if_neg (by omega), if_neg (by omega), if_neg (by omega)])
                      · first
                        | (exfalso; omega)
                        | (
                          refine zr_aload_n dX1_onlyUnmarked_27 (rfl : 27 + 1 = 28) rfl ?_
                          refine zr_iload dX1_onlyUnmarked_28 (rfl : 28 + 2 = 30) rfl ?_
                          refine zr_aload_n dX1_onlyUnmarked_30 (rfl : 30 + 1 = 31) rfl ?_
                          refine zr_fnV dX1_onlyUnmarked_31 (rfl : 31 + 3 = 34) l_X1_63 (s_unmarkedInRow _ (by first | omega | (simp only [bset, reduceIte, Nat.reduceEqDiff]; omega)) hP hm hmk) (by first | assumption | exact mw_167 | exact mw_168 | exact mw_169 | exact mw_170 | exact bk_0 | exact bk_1 | exact bk_2 | exact bk_3 | exact bk_4 | exact bk_5 | exact bk_6 | exact bk_7 | exact bk_8 | exact bk_9 | exact bk_10 | exact bk_11 | exact bk_12 | exact bk_13 | exact bk_14 | exact bk_15 | exact bk_16 | exact zup_self | exact (zup_ne (by first | assumption | omega)).trans (by first | assumption | exact zup_self) | exact (zup_ne (by first | assumption | omega)).trans ((zup_ne (by first | assumption | omega)).trans (by first | assumption | exact zup_self)) | exact (bk_out (by first | omega | (simp only [bset, reduceIte, Nat.reduceEqDiff]; omega))).trans (by first | exact bk_0 | exact bk_1 | exact bk_2 | exact bk_3 | exact bk_4 | exact bk_5 | exact bk_6 | exact bk_7 | exact bk_8 | exact bk_9 | exact bk_10 | exact bk_11 | exact bk_12 | exact bk_13 | exact bk_14 | exact bk_15 | exact bk_16 | exact cr_5 | exact cr_23 | exact cr_24 | exact cr_25 | exact cr_26 | exact cr_27 | exact cr_28 | exact cr_29 | exact cr_30 | assumption)) rfl rfl rfl (Nat.le_of_ble_eq_true rfl) ?_
                          refine zr_iconst dX1_onlyUnmarked_34 (rfl : 34 + 1 = 35) ?_
                          refine zr_icmp_ne (tgt := 46) dX1_onlyUnmarked_35 (by decide) (rfl : 35 + 3 = 38) (jI_eq (by first | omega | (simp only [bset, reduceIte, Nat.reduceEqDiff]; omega)) (by first | omega | (simp only [bset, reduceIte, Nat.reduceEqDiff]; omega)) (by first | omega | (simp only [bset, reduceIte, Nat.reduceEqDiff]; omega)) (by first | omega | (simp only [bset, reduceIte, Nat.reduceEqDiff]; omega))) (fun h35 => ?_) (fun h35 => ?_)
                          · first
                            | (exfalso; omega)
                            | (
                              refine zr_iinc (lv' := [_, _, _, _, _]) dX1_onlyUnmarked_46 (rfl : 46 + 3 = 49) (Nat.le_of_ble_eq_true rfl) rfl (by first | exact jI_add _ _ | rfl) rfl ?_
                              refine zr_goto (tgt := 17) dX1_onlyUnmarked_49 (by decide) ?_
                              refine zr_iload dX1_onlyUnmarked_17 (rfl : 17 + 2 = 19) rfl ?_
                              refine zr_iload_n dX1_onlyUnmarked_19 (rfl : 19 + 1 = 20) rfl ?_
                              refine zr_iconst dX1_onlyUnmarked_20 (rfl : 20 + 1 = 21) ?_
                              refine zr_imul dX1_onlyUnmarked_21 (rfl : 21 + 1 = 22) (by first | exact jI_mul _ _ | rfl) ?_
                              refine zr_iconst dX1_onlyUnmarked_22 (rfl : 22 + 1 = 23) ?_
                              refine zr_iadd dX1_onlyUnmarked_23 (rfl : 23 + 1 = 24) (by first | exact jI_add _ _ | rfl) ?_
                              refine zr_icmp_ge (tgt := 52) dX1_onlyUnmarked_24 (by decide) (rfl : 24 + 3 = 27) (jI_le (by first | omega | (simp only [bset, reduceIte, Nat.reduceEqDiff]; omega)) (by first | omega | (simp only [bset, reduceIte, Nat.reduceEqDiff]; omega)) (by first | omega | (simp only [bset, reduceIte, Nat.reduceEqDiff]; omega)) (by first | omega | (simp only [bset, reduceIte, Nat.reduceEqDiff]; omega))) (fun h24 => ?_) (fun h24 => ?_)
                              · first
                                | (exfalso; omega)
                                | (
                                  refine zr_iconst dX1_onlyUnmarked_52 (rfl : 52 + 1 = 53) ?_
                                  refine zr_iret dX1_onlyUnmarked_53 rfl rfl ?_ rfl rfl rfl
                                  unfold jonly
                                  rw [if_neg (by omega), if_neg (by omega), if_neg (by omega), if_neg (by omega)])
                              · first
                                | (exfalso; omega)
                                | (
                                  refine zr_aload_n dX1_onlyUnmarked_27 (rfl : 27 + 1 = 28) rfl ?_
                                  refine zr_iload dX1_onlyUnmarked_28 (rfl : 28 + 2 = 30) rfl ?_
                                  refine zr_aload_n dX1_onlyUnmarked_30 (rfl : 30 + 1 = 31) rfl ?_
                                  refine zr_fnV dX1_onlyUnmarked_31 (rfl : 31 + 3 = 34) l_X1_63 (s_unmarkedInRow _ (by first | omega | (simp only [bset, reduceIte, Nat.reduceEqDiff]; omega)) hP hm hmk) (by first | assumption | exact mw_167 | exact mw_168 | exact mw_169 | exact mw_170 | exact bk_0 | exact bk_1 | exact bk_2 | exact bk_3 | exact bk_4 | exact bk_5 | exact bk_6 | exact bk_7 | exact bk_8 | exact bk_9 | exact bk_10 | exact bk_11 | exact bk_12 | exact bk_13 | exact bk_14 | exact bk_15 | exact bk_16 | exact zup_self | exact (zup_ne (by first | assumption | omega)).trans (by first | assumption | exact zup_self) | exact (zup_ne (by first | assumption | omega)).trans ((zup_ne (by first | assumption | omega)).trans (by first | assumption | exact zup_self)) | exact (bk_out (by first | omega | (simp only [bset, reduceIte, Nat.reduceEqDiff]; omega))).trans (by first | exact bk_0 | exact bk_1 | exact bk_2 | exact bk_3 | exact bk_4 | exact bk_5 | exact bk_6 | exact bk_7 | exact bk_8 | exact bk_9 | exact bk_10 | exact bk_11 | exact bk_12 | exact bk_13 | exact bk_14 | exact bk_15 | exact bk_16 | exact cr_5 | exact cr_23 | exact cr_24 | exact cr_25 | exact cr_26 | exact cr_27 | exact cr_28 | exact cr_29 | exact cr_30 | assumption)) rfl rfl rfl (Nat.le_of_ble_eq_true rfl) ?_
                                  refine zr_iconst dX1_onlyUnmarked_34 (rfl : 34 + 1 = 35) ?_
                                  refine zr_icmp_ne (tgt := 46) dX1_onlyUnmarked_35 (by decide) (rfl : 35 + 3 = 38) (jI_eq (by first | omega | (simp only [bset, reduceIte, Nat.reduceEqDiff]; omega)) (by first | omega | (simp only [bset, reduceIte, Nat.reduceEqDiff]; omega)) (by first | omega | (simp only [bset, reduceIte, Nat.reduceEqDiff]; omega)) (by first | omega | (simp only [bset, reduceIte, Nat.reduceEqDiff]; omega))) (fun h35 => ?_) (fun h35 => ?_)
                                  · first
                                    | (exfalso; omega)
                                    | (
                                      refine zr_iinc (lv' := [_, _, _, _, _]) dX1_onlyUnmarked_46 (rfl : 46 + 3 = 49) (Nat.le_of_ble_eq_true rfl) rfl (by first | exact jI_add _ _ | rfl) rfl ?_
                                      refine zr_goto (tgt := 17) dX1_onlyUnmarked_49 (by decide) ?_
                                      exfalso; omega)
                                  · first
                                    | (exfalso; omega)
                                    | (
                                      refine zr_aload_n dX1_onlyUnmarked_38 (rfl : 38 + 1 = 39) rfl ?_
                                      refine zr_iload dX1_onlyUnmarked_39 (rfl : 39 + 2 = 41) rfl ?_
                                      refine zr_aload_n dX1_onlyUnmarked_41 (rfl : 41 + 1 = 42) rfl ?_
                                      refine zr_fnV dX1_onlyUnmarked_42 (rfl : 42 + 3 = 45) l_X1_87 (s_firstUnmarkedIn _ (by first | omega | (simp only [bset, reduceIte, Nat.reduceEqDiff]; omega)) hP hm hmk) (by first | assumption | exact mw_167 | exact mw_168 | exact mw_169 | exact mw_170 | exact bk_0 | exact bk_1 | exact bk_2 | exact bk_3 | exact bk_4 | exact bk_5 | exact bk_6 | exact bk_7 | exact bk_8 | exact bk_9 | exact bk_10 | exact bk_11 | exact bk_12 | exact bk_13 | exact bk_14 | exact bk_15 | exact bk_16 | exact zup_self | exact (zup_ne (by first | assumption | omega)).trans (by first | assumption | exact zup_self) | exact (zup_ne (by first | assumption | omega)).trans ((zup_ne (by first | assumption | omega)).trans (by first | assumption | exact zup_self)) | exact (bk_out (by first | omega | (simp only [bset, reduceIte, Nat.reduceEqDiff]; omega))).trans (by first | exact bk_0 | exact bk_1 | exact bk_2 | exact bk_3 | exact bk_4 | exact bk_5 | exact bk_6 | exact bk_7 | exact bk_8 | exact bk_9 | exact bk_10 | exact bk_11 | exact bk_12 | exact bk_13 | exact bk_14 | exact bk_15 | exact bk_16 | exact cr_5 | exact cr_23 | exact cr_24 | exact cr_25 | exact cr_26 | exact cr_27 | exact cr_28 | exact cr_29 | exact cr_30 | assumption)) rfl rfl rfl (Nat.le_of_ble_eq_true rfl) ?_
                                      refine zr_iret dX1_onlyUnmarked_45 rfl rfl ?_ rfl rfl rfl
                                      unfold jonly
                                      first | rw [if_neg (by omega), if_pos (by omega)] | rw [if_neg (by omega), if_neg (by omega), if_pos (by omega)] | rw [if_neg (by omega), if_neg (by omega), if_neg (by omega), if_pos (by omega)])))
                          · first
                            | (exfalso; omega)
                            | (
                              refine zr_aload_n dX1_onlyUnmarked_38 (rfl : 38 + 1 = 39) rfl ?_
                              refine zr_iload dX1_onlyUnmarked_39 (rfl : 39 + 2 = 41) rfl ?_
                              refine zr_aload_n dX1_onlyUnmarked_41 (rfl : 41 + 1 = 42) rfl ?_
                              refine zr_fnV dX1_onlyUnmarked_42 (rfl : 42 + 3 = 45) l_X1_87 (s_firstUnmarkedIn _ (by first | omega | (simp only [bset, reduceIte, Nat.reduceEqDiff]; omega)) hP hm hmk) (by first | assumption | exact mw_167 | exact mw_168 | exact mw_169 | exact mw_170 | exact bk_0 | exact bk_1 | exact bk_2 | exact bk_3 | exact bk_4 | exact bk_5 | exact bk_6 | exact bk_7 | exact bk_8 | exact bk_9 | exact bk_10 | exact bk_11 | exact bk_12 | exact bk_13 | exact bk_14 | exact bk_15 | exact bk_16 | exact zup_self | exact (zup_ne (by first | assumption | omega)).trans (by first | assumption | exact zup_self) | exact (zup_ne (by first | assumption | omega)).trans ((zup_ne (by first | assumption | omega)).trans (by first | assumption | exact zup_self)) | exact (bk_out (by first | omega | (simp only [bset, reduceIte, Nat.reduceEqDiff]; omega))).trans (by first | exact bk_0 | exact bk_1 | exact bk_2 | exact bk_3 | exact bk_4 | exact bk_5 | exact bk_6 | exact bk_7 | exact bk_8 | exact bk_9 | exact bk_10 | exact bk_11 | exact bk_12 | exact bk_13 | exact bk_14 | exact bk_15 | exact bk_16 | exact cr_5 | exact cr_23 | exact cr_24 | exact cr_25 | exact cr_26 | exact cr_27 | exact cr_28 | exact cr_29 | exact cr_30 | assumption)) rfl rfl rfl (Nat.le_of_ble_eq_true rfl) ?_
                              refine zr_iret dX1_onlyUnmarked_45 rfl rfl ?_ rfl rfl rfl
                              unfold jonly
                              first | rw [if_neg (by omega), if_pos (by omega)] | rw [if_neg (by omega), if_neg (by omega), if_pos (by omega)] | rw [if_neg (by omega), if_neg (by omega), if_neg (by omega), if_pos (by omega)])))
                  · first
                    | (exfalso; omega)
                    | (
                      refine zr_aload_n dX1_onlyUnmarked_38 (rfl : 38 + 1 = 39) rfl ?_
                      refine zr_iload dX1_onlyUnmarked_39 (rfl : 39 + 2 = 41) rfl ?_
                      refine zr_aload_n dX1_onlyUnmarked_41 (rfl : 41 + 1 = 42) rfl ?_
                      refine zr_fnV dX1_onlyUnmarked_42 (rfl : 42 + 3 = 45) l_X1_87 (s_firstUnmarkedIn _ (by first | omega | (simp only [bset, reduceIte, Nat.reduceEqDiff]; omega)) hP hm hmk) (by first | assumption | exact mw_167 | exact mw_168 | exact mw_169 | exact mw_170 | exact bk_0 | exact bk_1 | exact bk_2 | exact bk_3 | exact bk_4 | exact bk_5 | exact bk_6 | exact bk_7 | exact bk_8 | exact bk_9 | exact bk_10 | exact bk_11 | exact bk_12 | exact bk_13 | exact bk_14 | exact bk_15 | exact bk_16 | exact zup_self | exact (zup_ne (by first | assumption | omega)).trans (by first | assumption | exact zup_self) | exact (zup_ne (by first | assumption | omega)).trans ((zup_ne (by first | assumption | omega)).trans (by first | assumption | exact zup_self)) | exact (bk_out (by first | omega | (simp only [bset, reduceIte, Nat.reduceEqDiff]; omega))).trans (by first | exact bk_0 | exact bk_1 | exact bk_2 | exact bk_3 | exact bk_4 | exact bk_5 | exact bk_6 | exact bk_7 | exact bk_8 | exact bk_9 | exact bk_10 | exact bk_11 | exact bk_12 | exact bk_13 | exact bk_14 | exact bk_15 | exact bk_16 | exact cr_5 | exact cr_23 | exact cr_24 | exact cr_25 | exact cr_26 | exact cr_27 | exact cr_28 | exact cr_29 | exact cr_30 | assumption)) rfl rfl rfl (Nat.le_of_ble_eq_true rfl) ?_
                      refine zr_iret dX1_onlyUnmarked_45 rfl rfl ?_ rfl rfl rfl
                      unfold jonly
                      first | rw [if_neg (by omega), if_pos (by omega)] | rw [if_neg (by omega), if_neg (by omega), if_pos (by omega)] | rw [if_neg (by omega), if_neg (by omega), if_neg (by omega), if_pos (by omega)])))
          · first
            | (exfalso; omega)
            | (
              refine zr_aload_n dX1_onlyUnmarked_38 (rfl : 38 + 1 = 39) rfl ?_
              refine zr_iload dX1_onlyUnmarked_39 (rfl : 39 + 2 = 41) rfl ?_
              refine zr_aload_n dX1_onlyUnmarked_41 (rfl : 41 + 1 = 42) rfl ?_
              refine zr_fnV dX1_onlyUnmarked_42 (rfl : 42 + 3 = 45) l_X1_87 (s_firstUnmarkedIn _ (by first | omega | (simp only [bset, reduceIte, Nat.reduceEqDiff]; omega)) hP hm hmk) (by first | assumption | exact mw_167 | exact mw_168 | exact mw_169 | exact mw_170 | exact bk_0 | exact bk_1 | exact bk_2 | exact bk_3 | exact bk_4 | exact bk_5 | exact bk_6 | exact bk_7 | exact bk_8 | exact bk_9 | exact bk_10 | exact bk_11 | exact bk_12 | exact bk_13 | exact bk_14 | exact bk_15 | exact bk_16 | exact zup_self | exact (zup_ne (by first | assumption | omega)).trans (by first | assumption | exact zup_self) | exact (zup_ne (by first | assumption | omega)).trans ((zup_ne (by first | assumption | omega)).trans (by first | assumption | exact zup_self)) | exact (bk_out (by first | omega | (simp only [bset, reduceIte, Nat.reduceEqDiff]; omega))).trans (by first | exact bk_0 | exact bk_1 | exact bk_2 | exact bk_3 | exact bk_4 | exact bk_5 | exact bk_6 | exact bk_7 | exact bk_8 | exact bk_9 | exact bk_10 | exact bk_11 | exact bk_12 | exact bk_13 | exact bk_14 | exact bk_15 | exact bk_16 | exact cr_5 | exact cr_23 | exact cr_24 | exact cr_25 | exact cr_26 | exact cr_27 | exact cr_28 | exact cr_29 | exact cr_30 | assumption)) rfl rfl rfl (Nat.le_of_ble_eq_true rfl) ?_
              refine zr_iret dX1_onlyUnmarked_45 rfl rfl ?_ rfl rfl rfl
              unfold jonly
              first | rw [if_neg (by omega), if_pos (by omega)] | rw [if_neg (by omega), if_neg (by omega), if_pos (by omega)] | rw [if_neg (by omega), if_neg (by omega), if_neg (by omega), if_pos (by omega)])))
  · first
    | (exfalso; omega)
    | (
      refine zr_aload_n dX1_onlyUnmarked_5 (rfl : 5 + 1 = 6) rfl ?_
      refine zr_iload_n dX1_onlyUnmarked_6 (rfl : 6 + 1 = 7) rfl ?_
      refine zr_aload_n dX1_onlyUnmarked_7 (rfl : 7 + 1 = 8) rfl ?_
      refine zr_fnV dX1_onlyUnmarked_8 (rfl : 8 + 3 = 11) l_X1_84 (s_firstUnmarkedCorner c hc hP hm hmk) (by first | assumption | exact mw_167 | exact mw_168 | exact mw_169 | exact mw_170 | exact bk_0 | exact bk_1 | exact bk_2 | exact bk_3 | exact bk_4 | exact bk_5 | exact bk_6 | exact bk_7 | exact bk_8 | exact bk_9 | exact bk_10 | exact bk_11 | exact bk_12 | exact bk_13 | exact bk_14 | exact bk_15 | exact bk_16 | exact zup_self | exact (zup_ne (by first | assumption | omega)).trans (by first | assumption | exact zup_self) | exact (zup_ne (by first | assumption | omega)).trans ((zup_ne (by first | assumption | omega)).trans (by first | assumption | exact zup_self)) | exact (bk_out (by first | omega | (simp only [bset, reduceIte, Nat.reduceEqDiff]; omega))).trans (by first | exact bk_0 | exact bk_1 | exact bk_2 | exact bk_3 | exact bk_4 | exact bk_5 | exact bk_6 | exact bk_7 | exact bk_8 | exact bk_9 | exact bk_10 | exact bk_11 | exact bk_12 | exact bk_13 | exact bk_14 | exact bk_15 | exact bk_16 | exact cr_5 | exact cr_23 | exact cr_24 | exact cr_25 | exact cr_26 | exact cr_27 | exact cr_28 | exact cr_29 | exact cr_30 | assumption)) rfl rfl rfl (Nat.le_of_ble_eq_true rfl) ?_
      refine zr_iret dX1_onlyUnmarked_11 rfl rfl ?_ rfl rfl rfl
      unfold jonly; rw [if_pos (by omega)])
theorem s_reasonAgainst (r n : Int) (hr : 0 ≤ r ∧ r < 18) (hn : 1 ≤ n ∧ n ≤ 90) (hP : ∀ z, 0 ≤ B 0 z ∧ B 0 z ≤ 90) (hR : ∀ z, -1 ≤ B 1 z ∧ B 1 z < 18) : zFn Γ md_X1_reasonAgainst (d + 2) [.ref (b + 1), .int (jI r), .int (jI n)] (bk b B w) (some (.int (jI (jra (B 0) (B 1) r n)))) (bk b B w) := by
  refine zFn.of_run (lv := [some (.ref (b + 1)), some (.int (jI r)), some (.int (jI n))]) (by decide) rfl (Nat.le_of_ble_eq_true rfl) rfl (fun n9 g9 => ?_)
  have hcol := jcol_r (n := n) (by omega)
  have h1n := hR n
  have hpn := hP (r * 9 + jcol n)
  have hrs := jrs_r (B 0) r
  refine zr_aload_n dX1_reasonAgainst_0 (rfl : 0 + 1 = 1) rfl ?_
  refine zr_getf dX1_reasonAgainst_1 (rfl : 1 + 3 = 4) f_X1_15 (by first | assumption | exact mw_167 | exact mw_168 | exact mw_169 | exact mw_170 | exact bk_0 | exact bk_1 | exact bk_2 | exact bk_3 | exact bk_4 | exact bk_5 | exact bk_6 | exact bk_7 | exact bk_8 | exact bk_9 | exact bk_10 | exact bk_11 | exact bk_12 | exact bk_13 | exact bk_14 | exact bk_15 | exact bk_16 | exact zup_self | exact (zup_ne (by first | assumption | omega)).trans (by first | assumption | exact zup_self) | exact (zup_ne (by first | assumption | omega)).trans ((zup_ne (by first | assumption | omega)).trans (by first | assumption | exact zup_self)) | exact (bk_out (by first | omega | (simp only [bset, reduceIte, Nat.reduceEqDiff]; omega))).trans (by first | exact bk_0 | exact bk_1 | exact bk_2 | exact bk_3 | exact bk_4 | exact bk_5 | exact bk_6 | exact bk_7 | exact bk_8 | exact bk_9 | exact bk_10 | exact bk_11 | exact bk_12 | exact bk_13 | exact bk_14 | exact bk_15 | exact bk_16 | exact cr_5 | exact cr_23 | exact cr_24 | exact cr_25 | exact cr_26 | exact cr_27 | exact cr_28 | exact cr_29 | exact cr_30 | assumption)) rfl ?_
  refine zr_iload_n dX1_reasonAgainst_4 (rfl : 4 + 1 = 5) rfl ?_
  refine zr_iald dX1_reasonAgainst_5 (rfl : 5 + 1 = 6) (by first | assumption | exact mw_167 | exact mw_168 | exact mw_169 | exact mw_170 | exact bk_0 | exact bk_1 | exact bk_2 | exact bk_3 | exact bk_4 | exact bk_5 | exact bk_6 | exact bk_7 | exact bk_8 | exact bk_9 | exact bk_10 | exact bk_11 | exact bk_12 | exact bk_13 | exact bk_14 | exact bk_15 | exact bk_16 | exact zup_self | exact (zup_ne (by first | assumption | omega)).trans (by first | assumption | exact zup_self) | exact (zup_ne (by first | assumption | omega)).trans ((zup_ne (by first | assumption | omega)).trans (by first | assumption | exact zup_self)) | exact (bk_out (by first | omega | (simp only [bset, reduceIte, Nat.reduceEqDiff]; omega))).trans (by first | exact bk_0 | exact bk_1 | exact bk_2 | exact bk_3 | exact bk_4 | exact bk_5 | exact bk_6 | exact bk_7 | exact bk_8 | exact bk_9 | exact bk_10 | exact bk_11 | exact bk_12 | exact bk_13 | exact bk_14 | exact bk_15 | exact bk_16 | exact cr_5 | exact cr_23 | exact cr_24 | exact cr_25 | exact cr_26 | exact cr_27 | exact cr_28 | exact cr_29 | exact cr_30 | assumption)) (by decide) (by first | omega | (simp only [bset, reduceIte, Nat.reduceEqDiff]; omega)) (by first | omega | (simp only [bset, reduceIte, Nat.reduceEqDiff]; omega)) ?_
  refine zr_iconst dX1_reasonAgainst_6 (rfl : 6 + 1 = 7) ?_
  refine zr_icmp_eq (tgt := 12) dX1_reasonAgainst_7 (by decide) (rfl : 7 + 3 = 10) (jI_eq (by first | omega | (simp only [bset, reduceIte, Nat.reduceEqDiff]; omega)) (by first | omega | (simp only [bset, reduceIte, Nat.reduceEqDiff]; omega)) (by first | omega | (simp only [bset, reduceIte, Nat.reduceEqDiff]; omega)) (by first | omega | (simp only [bset, reduceIte, Nat.reduceEqDiff]; omega))) (fun h7 => ?_) (fun h7 => ?_)
  · first
    | (exfalso; omega)
    | (
      refine zr_aload_n dX1_reasonAgainst_12 (rfl : 12 + 1 = 13) rfl ?_
      refine zr_iload_n dX1_reasonAgainst_13 (rfl : 13 + 1 = 14) rfl ?_
      refine zr_iload_n dX1_reasonAgainst_14 (rfl : 14 + 1 = 15) rfl ?_
      refine zr_fnS dX1_reasonAgainst_15 (rfl : 15 + 3 = 18) l_X1_38 (s_columnOf n (by first | omega | (simp only [bset, reduceIte, Nat.reduceEqDiff]; omega))) rfl rfl (Nat.le_of_ble_eq_true rfl) ?_
      refine zr_fnV dX1_reasonAgainst_18 (rfl : 18 + 3 = 21) l_X1_42 (s_numberIn r _ (by first | omega | (simp only [bset, reduceIte, Nat.reduceEqDiff]; omega)) (by first | omega | (simp only [bset, reduceIte, Nat.reduceEqDiff]; omega))) (by first | assumption | exact mw_167 | exact mw_168 | exact mw_169 | exact mw_170 | exact bk_0 | exact bk_1 | exact bk_2 | exact bk_3 | exact bk_4 | exact bk_5 | exact bk_6 | exact bk_7 | exact bk_8 | exact bk_9 | exact bk_10 | exact bk_11 | exact bk_12 | exact bk_13 | exact bk_14 | exact bk_15 | exact bk_16 | exact zup_self | exact (zup_ne (by first | assumption | omega)).trans (by first | assumption | exact zup_self) | exact (zup_ne (by first | assumption | omega)).trans ((zup_ne (by first | assumption | omega)).trans (by first | assumption | exact zup_self)) | exact (bk_out (by first | omega | (simp only [bset, reduceIte, Nat.reduceEqDiff]; omega))).trans (by first | exact bk_0 | exact bk_1 | exact bk_2 | exact bk_3 | exact bk_4 | exact bk_5 | exact bk_6 | exact bk_7 | exact bk_8 | exact bk_9 | exact bk_10 | exact bk_11 | exact bk_12 | exact bk_13 | exact bk_14 | exact bk_15 | exact bk_16 | exact cr_5 | exact cr_23 | exact cr_24 | exact cr_25 | exact cr_26 | exact cr_27 | exact cr_28 | exact cr_29 | exact cr_30 | assumption)) rfl rfl rfl (Nat.le_of_ble_eq_true rfl) ?_
      refine zr_if_eq (tgt := 26) dX1_reasonAgainst_21 (by decide) (rfl : 21 + 3 = 24) (by first | exact jb_iff | exact jI_z (by first | omega | (simp only [bset, reduceIte, Nat.reduceEqDiff]; omega)) (by first | omega | (simp only [bset, reduceIte, Nat.reduceEqDiff]; omega))) (fun h21 => ?_) (fun h21 => ?_)
      · first
        | (exfalso; omega)
        | (
          refine zr_aload_n dX1_reasonAgainst_26 (rfl : 26 + 1 = 27) rfl ?_
          refine zr_iload_n dX1_reasonAgainst_27 (rfl : 27 + 1 = 28) rfl ?_
          refine zr_fnV dX1_reasonAgainst_28 (rfl : 28 + 3 = 31) l_X1_46 (s_rowSize _ (by first | omega | (simp only [bset, reduceIte, Nat.reduceEqDiff]; omega)) hP) (by first | assumption | exact mw_167 | exact mw_168 | exact mw_169 | exact mw_170 | exact bk_0 | exact bk_1 | exact bk_2 | exact bk_3 | exact bk_4 | exact bk_5 | exact bk_6 | exact bk_7 | exact bk_8 | exact bk_9 | exact bk_10 | exact bk_11 | exact bk_12 | exact bk_13 | exact bk_14 | exact bk_15 | exact bk_16 | exact zup_self | exact (zup_ne (by first | assumption | omega)).trans (by first | assumption | exact zup_self) | exact (zup_ne (by first | assumption | omega)).trans ((zup_ne (by first | assumption | omega)).trans (by first | assumption | exact zup_self)) | exact (bk_out (by first | omega | (simp only [bset, reduceIte, Nat.reduceEqDiff]; omega))).trans (by first | exact bk_0 | exact bk_1 | exact bk_2 | exact bk_3 | exact bk_4 | exact bk_5 | exact bk_6 | exact bk_7 | exact bk_8 | exact bk_9 | exact bk_10 | exact bk_11 | exact bk_12 | exact bk_13 | exact bk_14 | exact bk_15 | exact bk_16 | exact cr_5 | exact cr_23 | exact cr_24 | exact cr_25 | exact cr_26 | exact cr_27 | exact cr_28 | exact cr_29 | exact cr_30 | assumption)) rfl rfl rfl (Nat.le_of_ble_eq_true rfl) ?_
          refine zr_iconst dX1_reasonAgainst_31 (rfl : 31 + 1 = 32) ?_
          refine zr_icmp_ne (tgt := 37) dX1_reasonAgainst_32 (by decide) (rfl : 32 + 3 = 35) (jI_eq (by first | omega | (simp only [bset, reduceIte, Nat.reduceEqDiff]; omega)) (by first | omega | (simp only [bset, reduceIte, Nat.reduceEqDiff]; omega)) (by first | omega | (simp only [bset, reduceIte, Nat.reduceEqDiff]; omega)) (by first | omega | (simp only [bset, reduceIte, Nat.reduceEqDiff]; omega))) (fun h32 => ?_) (fun h32 => ?_)
          · first
            | (exfalso; omega)
            | (
              refine zr_aload_n dX1_reasonAgainst_37 (rfl : 37 + 1 = 38) rfl ?_
              refine zr_iload_n dX1_reasonAgainst_38 (rfl : 38 + 1 = 39) rfl ?_
              refine zr_iload_n dX1_reasonAgainst_39 (rfl : 39 + 1 = 40) rfl ?_
              refine zr_fnV dX1_reasonAgainst_40 (rfl : 40 + 3 = 43) l_X1_49 (s_breaksColumn r n (by first | omega | (simp only [bset, reduceIte, Nat.reduceEqDiff]; omega)) (by first | omega | (simp only [bset, reduceIte, Nat.reduceEqDiff]; omega)) hP) (by first | assumption | exact mw_167 | exact mw_168 | exact mw_169 | exact mw_170 | exact bk_0 | exact bk_1 | exact bk_2 | exact bk_3 | exact bk_4 | exact bk_5 | exact bk_6 | exact bk_7 | exact bk_8 | exact bk_9 | exact bk_10 | exact bk_11 | exact bk_12 | exact bk_13 | exact bk_14 | exact bk_15 | exact bk_16 | exact zup_self | exact (zup_ne (by first | assumption | omega)).trans (by first | assumption | exact zup_self) | exact (zup_ne (by first | assumption | omega)).trans ((zup_ne (by first | assumption | omega)).trans (by first | assumption | exact zup_self)) | exact (bk_out (by first | omega | (simp only [bset, reduceIte, Nat.reduceEqDiff]; omega))).trans (by first | exact bk_0 | exact bk_1 | exact bk_2 | exact bk_3 | exact bk_4 | exact bk_5 | exact bk_6 | exact bk_7 | exact bk_8 | exact bk_9 | exact bk_10 | exact bk_11 | exact bk_12 | exact bk_13 | exact bk_14 | exact bk_15 | exact bk_16 | exact cr_5 | exact cr_23 | exact cr_24 | exact cr_25 | exact cr_26 | exact cr_27 | exact cr_28 | exact cr_29 | exact cr_30 | assumption)) rfl rfl rfl (Nat.le_of_ble_eq_true rfl) ?_
              refine zr_if_eq (tgt := 50) dX1_reasonAgainst_43 (by decide) (rfl : 43 + 3 = 46) (by first | exact jb_iff | exact jI_z (by first | omega | (simp only [bset, reduceIte, Nat.reduceEqDiff]; omega)) (by first | omega | (simp only [bset, reduceIte, Nat.reduceEqDiff]; omega))) (fun h43 => ?_) (fun h43 => ?_)
              · first
                | (exfalso; omega)
                | (
                  refine zr_iconst dX1_reasonAgainst_50 (rfl : 50 + 1 = 51) ?_
                  refine zr_iret dX1_reasonAgainst_51 rfl rfl ?_ rfl rfl rfl
                  unfold jra
                  first | rw [if_neg (by omega), if_neg (by omega), if_neg (by omega), if_pos (Classical.not_not.mp h43)] | rw [if_neg (by omega), if_neg (by omega), if_neg (by omega), if_neg h43])
              · first
                | (exfalso; omega)
                | (
                  refine zr_iconst dX1_reasonAgainst_46 (rfl : 46 + 1 = 47) ?_
                  refine zr_goto (tgt := 51) dX1_reasonAgainst_47 (by decide) ?_
                  refine zr_iret dX1_reasonAgainst_51 rfl rfl ?_ rfl rfl rfl
                  unfold jra
                  first | rw [if_neg (by omega), if_neg (by omega), if_neg (by omega), if_pos (Classical.not_not.mp h43)] | rw [if_neg (by omega), if_neg (by omega), if_neg (by omega), if_neg h43]))
          · first
            | (exfalso; omega)
            | (
              refine zr_iconst dX1_reasonAgainst_35 (rfl : 35 + 1 = 36) ?_
              refine zr_iret dX1_reasonAgainst_36 rfl rfl ?_ rfl rfl rfl
              unfold jra; rw [if_neg (by omega), if_neg (by omega), if_pos (by omega)]))
      · first
        | (exfalso; omega)
        | (
          refine zr_iconst dX1_reasonAgainst_24 (rfl : 24 + 1 = 25) ?_
          refine zr_iret dX1_reasonAgainst_25 rfl rfl ?_ rfl rfl rfl
          unfold jra; rw [if_neg (by omega), if_pos (by omega)]))
  · first
    | (exfalso; omega)
    | (
      refine zr_iconst dX1_reasonAgainst_10 (rfl : 10 + 1 = 11) ?_
      refine zr_iret dX1_reasonAgainst_11 rfl rfl ?_ rfl rfl rfl
      unfold jra; rw [if_pos (by omega)])
end CC

