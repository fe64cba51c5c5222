/-! Cards, on -/
section LQ
variable {Γ : zΓ} {M : zMd} {d : Nat} {Q : zQ} {μ : zMu} {pc pc' : Nat} {α β γ : Type} {lv : List (Option Value)} {st : List Value} {w : zW}
/-- a loop from s, N turns, told by the counter's value -/
theorem zfor1 (s : Int) (N : Nat) (I : Int → α → Prop) (lv : Int → α → List (Option Value)) (w : Int → α → zW) (a0 : α) (h0 : I s a0) (hstep : ∀ (j : Int) (a : α), s ≤ j → j < s + N → I j a → (∀ a', I (j + 1) a' → zRun Γ M d none pc (lv (j + 1) a') [] μ (w (j + 1) a') Q) → zRun Γ M d none pc (lv j a) [] μ (w j a) Q) (hend : ∀ a, I (s + N) a → zRun Γ M d none pc (lv (s + N) a) [] μ (w (s + N) a) Q) : zRun Γ M d none pc (lv s a0) [] μ (w s a0) Q := by
  have := zloop1 (Γ := Γ) (M := M) (d := d) (Q := Q) (μ := μ) (pc := pc) N (fun i a => I (s + i) a) (fun i a => lv (s + i) a) (fun i a => w (s + i) a) a0 (by rw [Int.add_zero]; exact h0) (fun i a h1 h2 h3 h4 => hstep (s + i) a (by omega) (by omega) h3 (fun a' h => by rw [Int.add_assoc] at h ⊢; exact h4 a' h)) hend
  rw [Int.add_zero] at this
  exact this
theorem zfor2 (s : Int) (N : Nat) (I : Int → α → β → Prop) (lv : Int → α → β → List (Option Value)) (w : Int → α → β → zW) (a0 : α) (b0 : β) (h0 : I s a0 b0) (hstep : ∀ (j : Int) (a : α) (b : β), s ≤ j → j < s + N → I j a b → (∀ a' b', I (j + 1) a' b' → zRun Γ M d none pc (lv (j + 1) a' b') [] μ (w (j + 1) a' b') Q) → zRun Γ M d none pc (lv j a b) [] μ (w j a b) Q) (hend : ∀ a b, I (s + N) a b → zRun Γ M d none pc (lv (s + N) a b) [] μ (w (s + N) a b) Q) : zRun Γ M d none pc (lv s a0 b0) [] μ (w s a0 b0) Q :=
  zfor1 s N (fun i a => I i a.1 a.2) (fun i a => lv i a.1 a.2) (fun i a => w i a.1 a.2) (a0, b0) h0 (fun i a h1 h2 h3 h4 => hstep i a.1 a.2 h1 h2 h3 (fun a' b' h => h4 (a', b') h)) (fun a h => hend a.1 a.2 h)
theorem zr_maxI {idx : Nat} {a b : Int} (hd : decode M.2.1 pc = .ok (.invokestatic idx, 3)) (hp : pc + 3 = pc') (hg : zG [.methodLink M.1.cls idx Lib.Math.max.name, .static Lib.Math.max.name, .initialized "java/lang/Math", .code Lib.Math.max.name Lib.Math.max.code 2 (some .int)]) (hr : (-2147483648 ≤ a ∧ a < 2147483648) ∧ (-2147483648 ≤ b ∧ b < 2147483648)) (hcat : (st.map fun v => v.category).sum ≤ 8) (k : zRun Γ M (d + 1) none pc' lv (.int (jI (max a b)) :: st) μ w Q) : zRun Γ M (d + 1) none pc lv (.int (jI b) :: .int (jI a) :: st) μ w Q := by
  refine zr_max hd hp hg hr hcat ?_
  rw [show (if a < b then b else a) = max a b by split <;> omega]
  exact k
theorem zr_minI {idx : Nat} {a b : Int} (hd : decode M.2.1 pc = .ok (.invokestatic idx, 3)) (hp : pc + 3 = pc') (hg : zG [.methodLink M.1.cls idx Lib.Math.min.name, .static Lib.Math.min.name, .initialized "java/lang/Math", .code Lib.Math.min.name Lib.Math.min.code 2 (some .int)]) (hr : (-2147483648 ≤ a ∧ a < 2147483648) ∧ (-2147483648 ≤ b ∧ b < 2147483648)) (hcat : (st.map fun v => v.category).sum ≤ 8) (k : zRun Γ M (d + 1) none pc' lv (.int (jI (min a b)) :: st) μ w Q) : zRun Γ M (d + 1) none pc lv (.int (jI b) :: .int (jI a) :: st) μ w Q := by
  refine zr_min hd hp hg hr hcat ?_
  rw [show (if b < a then b else a) = min a b by split <;> omega]
  exact k
end LQ
/-- a row's numbers without a mark, by columns -/
def jur (P mk : Int → Int) (r : Int) : Int := jcnt 9 (fun c => decide (0 < P (r * 9 + c) ∧ mk (P (r * 9 + c)) = 0))
theorem jur_r (P mk : Int → Int) (r : Int) : 0 ≤ jur P mk r ∧ jur P mk r ≤ 9 := jcnt_nn 9 _
/-- the numbers of a card -/
def jcs (P : Int → Int) (c : Int) : Int := jrs P (c * 3) + jrs P (c * 3 + 1) + jrs P (c * 3 + 1 + 1)
theorem jcs_r (P : Int → Int) (c : Int) : 0 ≤ jcs P c ∧ jcs P c ≤ 27 := by
  have h1 := jrs_r P (c * 3)
  have h2 := jrs_r P (c * 3 + 1)
  have h3 := jrs_r P (c * 3 + 1 + 1)
  unfold jcs
  omega
/-- the marked numbers of a card -/
def jmc (P mk : Int → Int) (c : Int) : Int := (jrs P (c * 3) - jur P mk (c * 3)) + (jrs P (c * 3 + 1) - jur P mk (c * 3 + 1)) + (jrs P (c * 3 + 1 + 1) - jur P mk (c * 3 + 1 + 1))
abbrev jisl (P mk : Int → Int) (r : Int) : Prop := jrs P r = 5 ∧ jur P mk r = 0
/-- a corner: rank 0, 1 of the first row, 2, 3 of the last -/
def jcor (P : Int → Int) (c k : Int) : Int := jfst 9 (fun i => P ((c * 3 + (if k < 2 then 0 else 2)) * 9 + (if k % 2 = 0 then i else 8 - i)))
def jucor (P mk : Int → Int) (c : Int) : Int := jcnt 4 (fun k => decide (0 < jcor P c k ∧ mk (jcor P c k) = 0))
/-- what a card lacks for a game -/
def juo (P mk : Int → Int) (c g : Int) : Int :=
  if g = 1 then jucor P mk c else if g = 0 then min (min (min 5 (jur P mk (c * 3))) (jur P mk (c * 3 + 1))) (jur P mk (c * 3 + 1 + 1))
  else if g = 2 then (0 + jur P mk (c * 3) + jur P mk (c * 3 + 1) + jur P mk (c * 3 + 1 + 1)) - max (max (max 0 (jur P mk (c * 3))) (jur P mk (c * 3 + 1))) (jur P mk (c * 3 + 1 + 1))
  else 0 + jur P mk (c * 3) + jur P mk (c * 3 + 1) + jur P mk (c * 3 + 1 + 1)
def jn1 (x : Int) : Int := if x = 0 then -1 else x
def jfuc (P mk : Int → Int) (c : Int) : Int := jn1 (jfst 4 (fun k => if 0 < jcor P c k ∧ mk (jcor P c k) = 0 then jcor P c k else 0))
def jfui (P mk : Int → Int) (r : Int) : Int := jn1 (jfst 9 (fun i => if 0 < P (r * 9 + i) ∧ mk (P (r * 9 + i)) = 0 then P (r * 9 + i) else 0))
def jonly (P mk : Int → Int) (c g : Int) : Int :=
  if g = 1 then jfuc P mk c else if jur P mk (c * 3) = 1 then jfui P mk (c * 3) else if jur P mk (c * 3 + 1) = 1 then jfui P mk (c * 3 + 1) else if jur P mk (c * 3 + 1 + 1) = 1 then jfui P mk (c * 3 + 1 + 1) else -1
/-- whether a number would break its column's order in its card, by the row k -/
abbrev jbk1 (P : Int → Int) (r n k : Int) : Prop := P (k * 9 + jcol n) ≠ 0 ∧ ((k < r ∧ n < P (k * 9 + jcol n)) ∨ (r < k ∧ P (k * 9 + jcol n) < n))
abbrev jbrk (P : Int → Int) (r n : Int) : Prop := jbk1 P r n (r / 3 * 3) ∨ jbk1 P r n (r / 3 * 3 + 1) ∨ jbk1 P r n (r / 3 * 3 + 2)
def jra (P Ro : Int → Int) (r n : Int) : Int := if Ro n ≠ -1 then 1 else if P (r * 9 + jcol n) ≠ 0 then 2 else if jrs P r = 5 then 3 else if jbrk P r n then 4 else 0
section CB
variable {Γ : zΓ} {d : Nat} {w : zW} {b : Nat} {B : zB}
theorem s_breaksColumn (r n : Int) (hr : 0 ≤ r ∧ r < 18) (hn : 1 ≤ n ∧ n ≤ 90) (hP : ∀ z, 0 ≤ B 0 z ∧ B 0 z ≤ 90) : zFn Γ md_X1_breaksColumn (d + 1) [.ref (b + 1), .int (jI r), .int (jI n)] (bk b B w) (some (.int (jI (jb (jbrk (B 0) r n))))) (bk b B w) := by
  refine zFn.of_run (lv := [some (.ref (b + 1)), some (.int (jI r)), some (.int (jI n)), none, none, none, none]) (by decide) rfl (Nat.le_of_ble_eq_true rfl) rfl (fun n9 g9 => ?_)
  have hcol := jcol_r (n := n) (by omega)
  refine zr_iload_n dX1_breaksColumn_0 (rfl : 0 + 1 = 1) rfl ?_
  refine zr_iconst dX1_breaksColumn_1 (rfl : 1 + 1 = 2) ?_
  refine zr_idiv dX1_breaksColumn_2 (rfl : 2 + 1 = 3) (fun q => absurd ((jI_z (by first | omega | (simp only [bset, reduceIte, Nat.reduceEqDiff]; omega)) (by first | omega | (simp only [bset, reduceIte, Nat.reduceEqDiff]; omega))).mp q) (by first | omega | (simp only [bset, reduceIte, Nat.reduceEqDiff]; omega))) (jI_div (by first | omega | (simp only [bset, reduceIte, Nat.reduceEqDiff]; omega)) (by first | omega | (simp only [bset, reduceIte, Nat.reduceEqDiff]; omega)) (by first | omega | (simp only [bset, reduceIte, Nat.reduceEqDiff]; omega)) (by first | omega | (simp only [bset, reduceIte, Nat.reduceEqDiff]; omega))) ?_
  refine zr_iconst dX1_breaksColumn_3 (rfl : 3 + 1 = 4) ?_
  refine zr_imul dX1_breaksColumn_4 (rfl : 4 + 1 = 5) (by first | exact jI_mul _ _ | rfl) ?_
  refine zr_istore_n (lv' := [_, _, _, _, _, _, _]) dX1_breaksColumn_5 (rfl : 5 + 1 = 6) (Nat.le_of_ble_eq_true rfl) rfl ?_
  refine zr_iload_n dX1_breaksColumn_6 (rfl : 6 + 1 = 7) rfl ?_
  refine zr_fnS dX1_breaksColumn_7 (rfl : 7 + 3 = 10) l_X1_38 (s_columnOf n (by first | omega | (simp only [bset, reduceIte, Nat.reduceEqDiff]; omega))) rfl rfl (Nat.le_of_ble_eq_true rfl) ?_
  refine zr_istore (lv' := [_, _, _, _, _, _, _]) dX1_breaksColumn_10 (rfl : 10 + 2 = 12) (Nat.le_of_ble_eq_true rfl) rfl ?_
  refine zr_iload_n dX1_breaksColumn_12 (rfl : 12 + 1 = 13) rfl ?_
  refine zr_istore (lv' := [_, _, _, _, _, _, _]) dX1_breaksColumn_13 (rfl : 13 + 2 = 15) (Nat.le_of_ble_eq_true rfl) rfl ?_
  refine zfor1 (r / 3 * 3) 3 (fun j _ => ∀ k : Int, r / 3 * 3 ≤ k → k < j → ¬ jbk1 (B 0) r n k) (fun j o => [some (.ref (b + 1)), some (.int (jI r)), some (.int (jI n)), some (.int (jI (r / 3 * 3))), some (.int (jI (jcol n))), some (.int (jI j)), o]) (fun _ _ => bk b B w) none (fun k h1 h2 => by omega) ?_ ?_
  · intro j o hj1 hj2 hI hk
    have hp := hP (j * 9 + jcol n)
    refine zr_iload dX1_breaksColumn_15 (rfl : 15 + 2 = 17) rfl ?_
    refine zr_iload_n dX1_breaksColumn_17 (rfl : 17 + 1 = 18) rfl ?_
    refine zr_iconst dX1_breaksColumn_18 (rfl : 18 + 1 = 19) ?_
    refine zr_iadd dX1_breaksColumn_19 (rfl : 19 + 1 = 20) (by first | exact jI_add _ _ | rfl) ?_
    refine zr_icmp_ge (tgt := 75) dX1_breaksColumn_20 (by decide) (rfl : 20 + 3 = 23) (jI_le (by first | omega | (simp only [bset, reduceIte, Nat.reduceEqDiff]; omega)) (by first | omega | (simp only [bset, reduceIte, Nat.reduceEqDiff]; omega)) (by first | omega | (simp only [bset, reduceIte, Nat.reduceEqDiff]; omega)) (by first | omega | (simp only [bset, reduceIte, Nat.reduceEqDiff]; omega))) (fun h20 => ?_) (fun h20 => ?_)
    · first
      | (exfalso; omega)
      | (
        refine zr_iconst dX1_breaksColumn_75 (rfl : 75 + 1 = 76) ?_
        refine zr_iret dX1_breaksColumn_76 rfl (by first | exact jb_nar | rfl) ?_ rfl rfl rfl
        first | rfl | rw [jb_pos (by first | assumption | omega)] | rw [jb_neg (by first | assumption | omega)] | rw [if_pos (by first | assumption | omega)] | rw [if_neg (by first | assumption | omega)])
    · first
      | (exfalso; omega)
      | (
        refine zr_aload_n dX1_breaksColumn_23 (rfl : 23 + 1 = 24) rfl ?_
        refine zr_getf dX1_breaksColumn_24 (rfl : 24 + 3 = 27) f_X1_9 (by first | assumption | exact mw_167 | exact mw_168 | exact mw_169 | exact mw_170 | exact bk_0 | exact bk_1 | exact bk_2 | exact bk_3 | exact bk_4 | exact bk_5 | exact bk_6 | exact bk_7 | exact bk_8 | exact bk_9 | exact bk_10 | exact bk_11 | exact bk_12 | exact bk_13 | exact bk_14 | exact bk_15 | exact bk_16 | exact zup_self | exact (zup_ne (by first | assumption | omega)).trans (by first | assumption | exact zup_self) | exact (zup_ne (by first | assumption | omega)).trans ((zup_ne (by first | assumption | omega)).trans (by first | assumption | exact zup_self)) | exact (bk_out (by first | omega | (simp only [bset, reduceIte, Nat.reduceEqDiff]; omega))).trans (by first | exact bk_0 | exact bk_1 | exact bk_2 | exact bk_3 | exact bk_4 | exact bk_5 | exact bk_6 | exact bk_7 | exact bk_8 | exact bk_9 | exact bk_10 | exact bk_11 | exact bk_12 | exact bk_13 | exact bk_14 | exact bk_15 | exact bk_16 | exact cr_5 | exact cr_23 | exact cr_24 | exact cr_25 | exact cr_26 | exact cr_27 | exact cr_28 | exact cr_29 | exact cr_30 | assumption)) rfl ?_
        refine zr_iload dX1_breaksColumn_27 (rfl : 27 + 2 = 29) rfl ?_
        refine zr_bipush dX1_breaksColumn_29 (rfl : 29 + 2 = 31) (by decide) ?_
        refine zr_imul dX1_breaksColumn_31 (rfl : 31 + 1 = 32) (by first | exact jI_mul _ _ | rfl) ?_
        refine zr_iload dX1_breaksColumn_32 (rfl : 32 + 2 = 34) rfl ?_
        refine zr_iadd dX1_breaksColumn_34 (rfl : 34 + 1 = 35) (by first | exact jI_add _ _ | rfl) ?_
        refine zr_iald dX1_breaksColumn_35 (rfl : 35 + 1 = 36) (by first | assumption | exact mw_167 | exact mw_168 | exact mw_169 | exact mw_170 | exact bk_0 | exact bk_1 | exact bk_2 | exact bk_3 | exact bk_4 | exact bk_5 | exact bk_6 | exact bk_7 | exact bk_8 | exact bk_9 | exact bk_10 | exact bk_11 | exact bk_12 | exact bk_13 | exact bk_14 | exact bk_15 | exact bk_16 | exact zup_self | exact (zup_ne (by first | assumption | omega)).trans (by first | assumption | exact zup_self) | exact (zup_ne (by first | assumption | omega)).trans ((zup_ne (by first | assumption | omega)).trans (by first | assumption | exact zup_self)) | exact (bk_out (by first | omega | (simp only [bset, reduceIte, Nat.reduceEqDiff]; omega))).trans (by first | exact bk_0 | exact bk_1 | exact bk_2 | exact bk_3 | exact bk_4 | exact bk_5 | exact bk_6 | exact bk_7 | exact bk_8 | exact bk_9 | exact bk_10 | exact bk_11 | exact bk_12 | exact bk_13 | exact bk_14 | exact bk_15 | exact bk_16 | exact cr_5 | exact cr_23 | exact cr_24 | exact cr_25 | exact cr_26 | exact cr_27 | exact cr_28 | exact cr_29 | exact cr_30 | assumption)) (by decide) (by first | omega | (simp only [bset, reduceIte, Nat.reduceEqDiff]; omega)) (by first | omega | (simp only [bset, reduceIte, Nat.reduceEqDiff]; omega)) ?_
        refine zr_istore (lv' := [_, _, _, _, _, _, _]) dX1_breaksColumn_36 (rfl : 36 + 2 = 38) (Nat.le_of_ble_eq_true rfl) rfl ?_
        refine zr_iload dX1_breaksColumn_38 (rfl : 38 + 2 = 40) rfl ?_
        refine zr_if_eq (tgt := 69) dX1_breaksColumn_40 (by decide) (rfl : 40 + 3 = 43) (by first | exact jb_iff | exact jI_z (by first | omega | (simp only [bset, reduceIte, Nat.reduceEqDiff]; omega)) (by first | omega | (simp only [bset, reduceIte, Nat.reduceEqDiff]; omega))) (fun h40 => ?_) (fun h40 => ?_)
        · first
          | (exfalso; omega)
          | (
            refine zr_iinc (lv' := [_, _, _, _, _, _, _]) dX1_breaksColumn_69 (rfl : 69 + 3 = 72) (Nat.le_of_ble_eq_true rfl) rfl (by first | exact jI_add _ _ | rfl) rfl ?_
            refine zr_goto (tgt := 15) dX1_breaksColumn_72 (by decide) ?_
            refine hk _ ?_
            intro k h1 h2
            by_cases hkj : k = j
            · rw [hkj]; omega
            · exact hI k h1 (by omega))
        · first
          | (exfalso; omega)
          | (
            refine zr_iload dX1_breaksColumn_43 (rfl : 43 + 2 = 45) rfl ?_
            refine zr_iload_n dX1_breaksColumn_45 (rfl : 45 + 1 = 46) rfl ?_
            refine zr_icmp_ge (tgt := 55) dX1_breaksColumn_46 (by decide) (rfl : 46 + 3 = 49) (jI_le (by first | omega | (simp only [bset, reduceIte, Nat.reduceEqDiff]; omega)) (by first | omega | (simp only [bset, reduceIte, Nat.reduceEqDiff]; omega)) (by first | omega | (simp only [bset, reduceIte, Nat.reduceEqDiff]; omega)) (by first | omega | (simp only [bset, reduceIte, Nat.reduceEqDiff]; omega))) (fun h46 => ?_) (fun h46 => ?_)
            · first
              | (exfalso; omega)
              | (
                refine zr_iload dX1_breaksColumn_55 (rfl : 55 + 2 = 57) rfl ?_
                refine zr_iload_n dX1_breaksColumn_57 (rfl : 57 + 1 = 58) rfl ?_
                refine zr_icmp_le (tgt := 69) dX1_breaksColumn_58 (by decide) (rfl : 58 + 3 = 61) (jI_le (by first | omega | (simp only [bset, reduceIte, Nat.reduceEqDiff]; omega)) (by first | omega | (simp only [bset, reduceIte, Nat.reduceEqDiff]; omega)) (by first | omega | (simp only [bset, reduceIte, Nat.reduceEqDiff]; omega)) (by first | omega | (simp only [bset, reduceIte, Nat.reduceEqDiff]; omega))) (fun h58 => ?_) (fun h58 => ?_)
                · first
                  | (exfalso; omega)
                  | (
                    refine zr_iinc (lv' := [_, _, _, _, _, _, _]) dX1_breaksColumn_69 (rfl : 69 + 3 = 72) (Nat.le_of_ble_eq_true rfl) rfl (by first | exact jI_add _ _ | rfl) rfl ?_
                    refine zr_goto (tgt := 15) dX1_breaksColumn_72 (by decide) ?_
                    refine hk _ ?_
                    intro k h1 h2
                    by_cases hkj : k = j
                    · rw [hkj]; omega
                    · exact hI k h1 (by omega))
                · first
                  | (exfalso; omega)
                  | (
                    refine zr_iload dX1_breaksColumn_61 (rfl : 61 + 2 = 63) rfl ?_
                    refine zr_iload_n dX1_breaksColumn_63 (rfl : 63 + 1 = 64) rfl ?_
                    refine zr_icmp_ge (tgt := 69) dX1_breaksColumn_64 (by decide) (rfl : 64 + 3 = 67) (jI_le (by first | omega | (simp only [bset, reduceIte, Nat.reduceEqDiff]; omega)) (by first | omega | (simp only [bset, reduceIte, Nat.reduceEqDiff]; omega)) (by first | omega | (simp only [bset, reduceIte, Nat.reduceEqDiff]; omega)) (by first | omega | (simp only [bset, reduceIte, Nat.reduceEqDiff]; omega))) (fun h64 => ?_) (fun h64 => ?_)
                    · first
                      | (exfalso; omega)
                      | (
                        refine zr_iinc (lv' := [_, _, _, _, _, _, _]) dX1_breaksColumn_69 (rfl : 69 + 3 = 72) (Nat.le_of_ble_eq_true rfl) rfl (by first | exact jI_add _ _ | rfl) rfl ?_
                        refine zr_goto (tgt := 15) dX1_breaksColumn_72 (by decide) ?_
                        refine hk _ ?_
                        intro k h1 h2
                        by_cases hkj : k = j
                        · rw [hkj]; omega
                        · exact hI k h1 (by omega))
                    · first
                      | (exfalso; omega)
                      | (
                        refine zr_iconst dX1_breaksColumn_67 (rfl : 67 + 1 = 68) ?_
                        refine zr_iret dX1_breaksColumn_68 rfl (by first | exact jb_nar | rfl) ?_ rfl rfl rfl
                        rw [jb_pos]
                        have hjj : jbk1 (B 0) r n j := by omega
                        rcases (by omega : j = r / 3 * 3 ∨ j = r / 3 * 3 + 1 ∨ j = r / 3 * 3 + 2) with h | h | h
                        · exact Or.inl (h ▸ hjj)
                        · exact Or.inr (Or.inl (h ▸ hjj))
                        · exact Or.inr (Or.inr (h ▸ hjj)))))
            · first
              | (exfalso; omega)
              | (
                refine zr_iload dX1_breaksColumn_49 (rfl : 49 + 2 = 51) rfl ?_
                refine zr_iload_n dX1_breaksColumn_51 (rfl : 51 + 1 = 52) rfl ?_
                refine zr_icmp_gt (tgt := 67) dX1_breaksColumn_52 (by decide) (rfl : 52 + 3 = 55) (jI_lt (by first | omega | (simp only [bset, reduceIte, Nat.reduceEqDiff]; omega)) (by first | omega | (simp only [bset, reduceIte, Nat.reduceEqDiff]; omega)) (by first | omega | (simp only [bset, reduceIte, Nat.reduceEqDiff]; omega)) (by first | omega | (simp only [bset, reduceIte, Nat.reduceEqDiff]; omega))) (fun h52 => ?_) (fun h52 => ?_)
                · first
                  | (exfalso; omega)
                  | (
                    refine zr_iconst dX1_breaksColumn_67 (rfl : 67 + 1 = 68) ?_
                    refine zr_iret dX1_breaksColumn_68 rfl (by first | exact jb_nar | rfl) ?_ rfl rfl rfl
                    rw [jb_pos]
                    have hjj : jbk1 (B 0) r n j := by omega
                    rcases (by omega : j = r / 3 * 3 ∨ j = r / 3 * 3 + 1 ∨ j = r / 3 * 3 + 2) with h | h | h
                    · exact Or.inl (h ▸ hjj)
                    · exact Or.inr (Or.inl (h ▸ hjj))
                    · exact Or.inr (Or.inr (h ▸ hjj)))
                · first
                  | (exfalso; omega)
                  | (
                    refine zr_iload dX1_breaksColumn_55 (rfl : 55 + 2 = 57) rfl ?_
                    refine zr_iload_n dX1_breaksColumn_57 (rfl : 57 + 1 = 58) rfl ?_
                    refine zr_icmp_le (tgt := 69) dX1_breaksColumn_58 (by decide) (rfl : 58 + 3 = 61) (jI_le (by first | omega | (simp only [bset, reduceIte, Nat.reduceEqDiff]; omega)) (by first | omega | (simp only [bset, reduceIte, Nat.reduceEqDiff]; omega)) (by first | omega | (simp only [bset, reduceIte, Nat.reduceEqDiff]; omega)) (by first | omega | (simp only [bset, reduceIte, Nat.reduceEqDiff]; omega))) (fun h58 => ?_) (fun h58 => ?_)
                    · first
                      | (exfalso; omega)
                      | (
                        refine zr_iinc (lv' := [_, _, _, _, _, _, _]) dX1_breaksColumn_69 (rfl : 69 + 3 = 72) (Nat.le_of_ble_eq_true rfl) rfl (by first | exact jI_add _ _ | rfl) rfl ?_
                        refine zr_goto (tgt := 15) dX1_breaksColumn_72 (by decide) ?_
                        refine hk _ ?_
                        intro k h1 h2
                        by_cases hkj : k = j
                        · rw [hkj]; omega
                        · exact hI k h1 (by omega))
                    · first
                      | (exfalso; omega)
                      | (
                        refine zr_iload dX1_breaksColumn_61 (rfl : 61 + 2 = 63) rfl ?_
                        refine zr_iload_n dX1_breaksColumn_63 (rfl : 63 + 1 = 64) rfl ?_
                        refine zr_icmp_ge (tgt := 69) dX1_breaksColumn_64 (by decide) (rfl : 64 + 3 = 67) (jI_le (by first | omega | (simp only [bset, reduceIte, Nat.reduceEqDiff]; omega)) (by first | omega | (simp only [bset, reduceIte, Nat.reduceEqDiff]; omega)) (by first | omega | (simp only [bset, reduceIte, Nat.reduceEqDiff]; omega)) (by first | omega | (simp only [bset, reduceIte, Nat.reduceEqDiff]; omega))) (fun h64 => ?_) (fun h64 => ?_)
                        · first
                          | (exfalso; omega)
                          | (
                            refine zr_iinc (lv' := [_, _, _, _, _, _, _]) dX1_breaksColumn_69 (rfl : 69 + 3 = 72) (Nat.le_of_ble_eq_true rfl) rfl (by first | exact jI_add _ _ | rfl) rfl ?_
                            refine zr_goto (tgt := 15) dX1_breaksColumn_72 (by decide) ?_
                            refine hk _ ?_
                            intro k h1 h2
                            by_cases hkj : k = j
                            · rw [hkj]; omega
                            · exact hI k h1 (by omega))
                        · first
                          | (exfalso; omega)
                          | (
                            refine zr_iconst dX1_breaksColumn_67 (rfl : 67 + 1 = 68) ?_
                            refine zr_iret dX1_breaksColumn_68 rfl (by first | exact jb_nar | rfl) ?_ rfl rfl rfl
                            rw [jb_pos]
                            have hjj : jbk1 (B 0) r n j := by omega
                            rcases (by omega : j = r / 3 * 3 ∨ j = r / 3 * 3 + 1 ∨ j = r / 3 * 3 + 2) with h | h | h
                            · exact Or.inl (h ▸ hjj)
                            · exact Or.inr (Or.inl (h ▸ hjj))
                            · exact Or.inr (Or.inr (h ▸ hjj))))))))
  · intro o hI
    refine zr_iload dX1_breaksColumn_15 (rfl : 15 + 2 = 17) rfl ?_
    refine zr_iload_n dX1_breaksColumn_17 (rfl : 17 + 1 = 18) rfl ?_
    refine zr_iconst dX1_breaksColumn_18 (rfl : 18 + 1 = 19) ?_
    refine zr_iadd dX1_breaksColumn_19 (rfl : 19 + 1 = 20) (by first | exact jI_add _ _ | rfl) ?_
    refine zr_icmp_ge (tgt := 75) dX1_breaksColumn_20 (by decide) (rfl : 20 + 3 = 23) (jI_le (by first | omega | (simp only [bset, reduceIte, Nat.reduceEqDiff]; omega)) (by first | omega | (simp only [bset, reduceIte, Nat.reduceEqDiff]; omega)) (by first | omega | (simp only [bset, reduceIte, Nat.reduceEqDiff]; omega)) (by first | omega | (simp only [bset, reduceIte, Nat.reduceEqDiff]; omega))) (fun h20 => ?_) (fun h20 => ?_)
    · first
      | (exfalso; omega)
      | (
        refine zr_iconst dX1_breaksColumn_75 (rfl : 75 + 1 = 76) ?_
        refine zr_iret dX1_breaksColumn_76 rfl (by first | exact jb_nar | rfl) ?_ rfl rfl rfl
        rw [jb_neg]
        rintro (h | h | h)
        · exact hI _ (by omega) (by omega) h
        · exact hI _ (by omega) (by omega) h
        · exact hI _ (by omega) (by omega) h)
    · first
      | (exfalso; omega)
      | (
        refine zr_aload_n dX1_breaksColumn_23 (rfl : 23 + 1 = 24) rfl ?_
        refine zr_getf dX1_breaksColumn_24 (rfl : 24 + 3 = 27) f_X1_9 (by first | assumption | exact mw_167 | exact mw_168 | exact mw_169 | exact mw_170 | exact bk_0 | exact bk_1 | exact bk_2 | exact bk_3 | exact bk_4 | exact bk_5 | exact bk_6 | exact bk_7 | exact bk_8 | exact bk_9 | exact bk_10 | exact bk_11 | exact bk_12 | exact bk_13 | exact bk_14 | exact bk_15 | exact bk_16 | exact zup_self | exact (zup_ne (by first | assumption | omega)).trans (by first | assumption | exact zup_self) | exact (zup_ne (by first | assumption | omega)).trans ((zup_ne (by first | assumption | omega)).trans (by first | assumption | exact zup_self)) | exact (bk_out (by first | omega | (simp only [bset, reduceIte, Nat.reduceEqDiff]; omega))).trans (by first | exact bk_0 | exact bk_1 | exact bk_2 | exact bk_3 | exact bk_4 | exact bk_5 | exact bk_6 | exact bk_7 | exact bk_8 | exact bk_9 | exact bk_10 | exact bk_11 | exact bk_12 | exact bk_13 | exact bk_14 | exact bk_15 | exact bk_16 | exact cr_5 | exact cr_23 | exact cr_24 | exact cr_25 | exact cr_26 | exact cr_27 | exact cr_28 | exact cr_29 | exact cr_30 | assumption)) rfl ?_
        refine zr_iload dX1_breaksColumn_27 (rfl : 27 + 2 = 29) rfl ?_
        refine zr_bipush dX1_breaksColumn_29 (rfl : 29 + 2 = 31) (by decide) ?_
        refine zr_imul dX1_breaksColumn_31 (rfl : 31 + 1 = 32) (by first | exact jI_mul _ _ | rfl) ?_
        refine zr_iload dX1_breaksColumn_32 (rfl : 32 + 2 = 34) rfl ?_
        refine zr_iadd dX1_breaksColumn_34 (rfl : 34 + 1 = 35) (by first | exact jI_add _ _ | rfl) ?_
        refine zr_iald dX1_breaksColumn_35 (rfl : 35 + 1 = 36) (by first | assumption | exact mw_167 | exact mw_168 | exact mw_169 | exact mw_170 | exact bk_0 | exact bk_1 | exact bk_2 | exact bk_3 | exact bk_4 | exact bk_5 | exact bk_6 | exact bk_7 | exact bk_8 | exact bk_9 | exact bk_10 | exact bk_11 | exact bk_12 | exact bk_13 | exact bk_14 | exact bk_15 | exact bk_16 | exact zup_self | exact (zup_ne (by first | assumption | omega)).trans (by first | assumption | exact zup_self) | exact (zup_ne (by first | assumption | omega)).trans ((zup_ne (by first | assumption | omega)).trans (by first | assumption | exact zup_self)) | exact (bk_out (by first | omega | (simp only [bset, reduceIte, Nat.reduceEqDiff]; omega))).trans (by first | exact bk_0 | exact bk_1 | exact bk_2 | exact bk_3 | exact bk_4 | exact bk_5 | exact bk_6 | exact bk_7 | exact bk_8 | exact bk_9 | exact bk_10 | exact bk_11 | exact bk_12 | exact bk_13 | exact bk_14 | exact bk_15 | exact bk_16 | exact cr_5 | exact cr_23 | exact cr_24 | exact cr_25 | exact cr_26 | exact cr_27 | exact cr_28 | exact cr_29 | exact cr_30 | assumption)) (by decide) (by first | omega | (simp only [bset, reduceIte, Nat.reduceEqDiff]; omega)) (by first | omega | (simp only [bset, reduceIte, Nat.reduceEqDiff]; omega)) ?_
        refine zr_istore (lv' := [_, _, _, _, _, _, _]) dX1_breaksColumn_36 (rfl : 36 + 2 = 38) (Nat.le_of_ble_eq_true rfl) rfl ?_
        refine zr_iload dX1_breaksColumn_38 (rfl : 38 + 2 = 40) rfl ?_
        refine zr_if_eq (tgt := 69) dX1_breaksColumn_40 (by decide) (rfl : 40 + 3 = 43) (by first | exact jb_iff | exact jI_z (by first | omega | (simp only [bset, reduceIte, Nat.reduceEqDiff]; omega)) (by first | omega | (simp only [bset, reduceIte, Nat.reduceEqDiff]; omega))) (fun h40 => ?_) (fun h40 => ?_)
        · first
          | (exfalso; omega)
          | (
            refine zr_iinc (lv' := [_, _, _, _, _, _, _]) dX1_breaksColumn_69 (rfl : 69 + 3 = 72) (Nat.le_of_ble_eq_true rfl) rfl (by first | exact jI_add _ _ | rfl) rfl ?_
            refine zr_goto (tgt := 15) dX1_breaksColumn_72 (by decide) ?_
            exfalso; omega)
        · first
          | (exfalso; omega)
          | (
            refine zr_iload dX1_breaksColumn_43 (rfl : 43 + 2 = 45) rfl ?_
            refine zr_iload_n dX1_breaksColumn_45 (rfl : 45 + 1 = 46) rfl ?_
            refine zr_icmp_ge (tgt := 55) dX1_breaksColumn_46 (by decide) (rfl : 46 + 3 = 49) (jI_le (by first | omega | (simp only [bset, reduceIte, Nat.reduceEqDiff]; omega)) (by first | omega | (simp only [bset, reduceIte, Nat.reduceEqDiff]; omega)) (by first | omega | (simp only [bset, reduceIte, Nat.reduceEqDiff]; omega)) (by first | omega | (simp only [bset, reduceIte, Nat.reduceEqDiff]; omega))) (fun h46 => ?_) (fun h46 => ?_)
            · first
              | (exfalso; omega)
              | (
                refine zr_iload dX1_breaksColumn_55 (rfl : 55 + 2 = 57) rfl ?_
                refine zr_iload_n dX1_breaksColumn_57 (rfl : 57 + 1 = 58) rfl ?_
                refine zr_icmp_le (tgt := 69) dX1_breaksColumn_58 (by decide) (rfl : 58 + 3 = 61) (jI_le (by first | omega | (simp only [bset, reduceIte, Nat.reduceEqDiff]; omega)) (by first | omega | (simp only [bset, reduceIte, Nat.reduceEqDiff]; omega)) (by first | omega | (simp only [bset, reduceIte, Nat.reduceEqDiff]; omega)) (by first | omega | (simp only [bset, reduceIte, Nat.reduceEqDiff]; omega))) (fun h58 => ?_) (fun h58 => ?_)
                · first
                  | (exfalso; omega)
                  | (
                    refine zr_iinc (lv' := [_, _, _, _, _, _, _]) dX1_breaksColumn_69 (rfl : 69 + 3 = 72) (Nat.le_of_ble_eq_true rfl) rfl (by first | exact jI_add _ _ | rfl) rfl ?_
                    refine zr_goto (tgt := 15) dX1_breaksColumn_72 (by decide) ?_
                    exfalso; omega)
                · first
                  | (exfalso; omega)
                  | (
                    refine zr_iload dX1_breaksColumn_61 (rfl : 61 + 2 = 63) rfl ?_
                    refine zr_iload_n dX1_breaksColumn_63 (rfl : 63 + 1 = 64) rfl ?_
                    refine zr_icmp_ge (tgt := 69) dX1_breaksColumn_64 (by decide) (rfl : 64 + 3 = 67) (jI_le (by first | omega | (simp only [bset, reduceIte, Nat.reduceEqDiff]; omega)) (by first | omega | (simp only [bset, reduceIte, Nat.reduceEqDiff]; omega)) (by first | omega | (simp only [bset, reduceIte, Nat.reduceEqDiff]; omega)) (by first | omega | (simp only [bset, reduceIte, Nat.reduceEqDiff]; omega))) (fun h64 => ?_) (fun h64 => ?_)
                    · first
                      | (exfalso; omega)
                      | (
                        refine zr_iinc (lv' := [_, _, _, _, _, _, _]) dX1_breaksColumn_69 (rfl : 69 + 3 = 72) (Nat.le_of_ble_eq_true rfl) rfl (by first | exact jI_add _ _ | rfl) rfl ?_
                        refine zr_goto (tgt := 15) dX1_breaksColumn_72 (by decide) ?_
                        exfalso; omega)
                    · first
                      | (exfalso; omega)
                      | (
                        refine zr_iconst dX1_breaksColumn_67 (rfl : 67 + 1 = 68) ?_
                        refine zr_iret dX1_breaksColumn_68 rfl (by first | exact jb_nar | rfl) ?_ rfl rfl rfl
                        first | rfl | rw [jb_pos (by first | assumption | omega)] | rw [jb_neg (by first | assumption | omega)] | rw [if_pos (by first | assumption | omega)] | rw [if_neg (by first | assumption | omega)])))
            · first
              | (exfalso; omega)
              | (
                refine zr_iload dX1_breaksColumn_49 (rfl : 49 + 2 = 51) rfl ?_
                refine zr_iload_n dX1_breaksColumn_51 (rfl : 51 + 1 = 52) rfl ?_
                refine zr_icmp_gt (tgt := 67) dX1_breaksColumn_52 (by decide) (rfl : 52 + 3 = 55) (jI_lt (by first | omega | (simp only [bset, reduceIte, Nat.reduceEqDiff]; omega)) (by first | omega | (simp only [bset, reduceIte, Nat.reduceEqDiff]; omega)) (by first | omega | (simp only [bset, reduceIte, Nat.reduceEqDiff]; omega)) (by first | omega | (simp only [bset, reduceIte, Nat.reduceEqDiff]; omega))) (fun h52 => ?_) (fun h52 => ?_)
                · first
                  | (exfalso; omega)
                  | (
                    refine zr_iconst dX1_breaksColumn_67 (rfl : 67 + 1 = 68) ?_
                    refine zr_iret dX1_breaksColumn_68 rfl (by first | exact jb_nar | rfl) ?_ rfl rfl rfl
                    first | rfl | rw [jb_pos (by first | assumption | omega)] | rw [jb_neg (by first | assumption | omega)] | rw [if_pos (by first | assumption | omega)] | rw [if_neg (by first | assumption | omega)])
                · first
                  | (exfalso; omega)
                  | (
                    refine zr_iload dX1_breaksColumn_55 (rfl : 55 + 2 = 57) rfl ?_
                    refine zr_iload_n dX1_breaksColumn_57 (rfl : 57 + 1 = 58) rfl ?_
                    refine zr_icmp_le (tgt := 69) dX1_breaksColumn_58 (by decide) (rfl : 58 + 3 = 61) (jI_le (by first | omega | (simp only [bset, reduceIte, Nat.reduceEqDiff]; omega)) (by first | omega | (simp only [bset, reduceIte, Nat.reduceEqDiff]; omega)) (by first | omega | (simp only [bset, reduceIte, Nat.reduceEqDiff]; omega)) (by first | omega | (simp only [bset, reduceIte, Nat.reduceEqDiff]; omega))) (fun h58 => ?_) (fun h58 => ?_)
                    · first
                      | (exfalso; omega)
                      | (
                        refine zr_iinc (lv' := [_, _, _, _, _, _, _]) dX1_breaksColumn_69 (rfl : 69 + 3 = 72) (Nat.le_of_ble_eq_true rfl) rfl (by first | exact jI_add _ _ | rfl) rfl ?_
                        refine zr_goto (tgt := 15) dX1_breaksColumn_72 (by decide) ?_
                        exfalso; omega)
                    · first
                      | (exfalso; omega)
                      | (
                        refine zr_iload dX1_breaksColumn_61 (rfl : 61 + 2 = 63) rfl ?_
                        refine zr_iload_n dX1_breaksColumn_63 (rfl : 63 + 1 = 64) rfl ?_
                        refine zr_icmp_ge (tgt := 69) dX1_breaksColumn_64 (by decide) (rfl : 64 + 3 = 67) (jI_le (by first | omega | (simp only [bset, reduceIte, Nat.reduceEqDiff]; omega)) (by first | omega | (simp only [bset, reduceIte, Nat.reduceEqDiff]; omega)) (by first | omega | (simp only [bset, reduceIte, Nat.reduceEqDiff]; omega)) (by first | omega | (simp only [bset, reduceIte, Nat.reduceEqDiff]; omega))) (fun h64 => ?_) (fun h64 => ?_)
                        · first
                          | (exfalso; omega)
                          | (
                            refine zr_iinc (lv' := [_, _, _, _, _, _, _]) dX1_breaksColumn_69 (rfl : 69 + 3 = 72) (Nat.le_of_ble_eq_true rfl) rfl (by first | exact jI_add _ _ | rfl) rfl ?_
                            refine zr_goto (tgt := 15) dX1_breaksColumn_72 (by decide) ?_
                            exfalso; omega)
                        · first
                          | (exfalso; omega)
                          | (
                            refine zr_iconst dX1_breaksColumn_67 (rfl : 67 + 1 = 68) ?_
                            refine zr_iret dX1_breaksColumn_68 rfl (by first | exact jb_nar | rfl) ?_ rfl rfl rfl
                            first | rfl | rw [jb_pos (by first | assumption | omega)] | rw [jb_neg (by first | assumption | omega)] | rw [if_pos (by first | assumption | omega)] | rw [if_neg (by first | assumption | omega)]))))))
theorem s_cardSize (c : Int) (hc : 0 ≤ c ∧ c < 6) (hP : ∀ z, 0 ≤ B 0 z ∧ B 0 z ≤ 90) : zFn Γ md_X1_cardSize (d + 1) [.ref (b + 1), .int (jI c)] (bk b B w) (some (.int (jI (jcs (B 0) c)))) (bk b B w) := by
  refine zFn.of_run (lv := [some (.ref (b + 1)), some (.int (jI c)), none, none]) (by decide) rfl (Nat.le_of_ble_eq_true rfl) rfl (fun n9 g9 => ?_)
  refine zr_iconst dX1_cardSize_0 (rfl : 0 + 1 = 1) ?_
  refine zr_istore_n (lv' := [_, _, _, _]) dX1_cardSize_1 (rfl : 1 + 1 = 2) (Nat.le_of_ble_eq_true rfl) rfl ?_
  refine zr_iload_n dX1_cardSize_2 (rfl : 2 + 1 = 3) rfl ?_
  refine zr_iconst dX1_cardSize_3 (rfl : 3 + 1 = 4) ?_
  refine zr_imul dX1_cardSize_4 (rfl : 4 + 1 = 5) (by first | exact jI_mul _ _ | rfl) ?_
  refine zr_istore_n (lv' := [_, _, _, _]) dX1_cardSize_5 (rfl : 5 + 1 = 6) (Nat.le_of_ble_eq_true rfl) rfl ?_
  refine zr_iload_n dX1_cardSize_6 (rfl : 6 + 1 = 7) rfl ?_
  refine zr_iload_n dX1_cardSize_7 (rfl : 7 + 1 = 8) rfl ?_
  refine zr_iconst dX1_cardSize_8 (rfl : 8 + 1 = 9) ?_
  refine zr_imul dX1_cardSize_9 (rfl : 9 + 1 = 10) (by first | exact jI_mul _ _ | rfl) ?_
  refine zr_iconst dX1_cardSize_10 (rfl : 10 + 1 = 11) ?_
  refine zr_iadd dX1_cardSize_11 (rfl : 11 + 1 = 12) (by first | exact jI_add _ _ | rfl) ?_
  refine zr_icmp_ge (tgt := 29) dX1_cardSize_12 (by decide) (rfl : 12 + 3 = 15) (jI_le (by first | omega | (simp only [bset, reduceIte, Nat.reduceEqDiff]; omega)) (by first | omega | (simp only [bset, reduceIte, Nat.reduceEqDiff]; omega)) (by first | omega | (simp only [bset, reduceIte, Nat.reduceEqDiff]; omega)) (by first | omega | (simp only [bset, reduceIte, Nat.reduceEqDiff]; omega))) (fun h12 => ?_) (fun h12 => ?_)
  · first
    | (exfalso; omega)
    | (
      refine zr_iload_n dX1_cardSize_29 (rfl : 29 + 1 = 30) rfl ?_
      refine zr_iret dX1_cardSize_30 rfl rfl ?_ rfl rfl rfl
      unfold jcs
      rw [show (0 + jrs (B 0) (c * 3) : Int) = jrs (B 0) (c * 3) by omega])
  · first
    | (exfalso; omega)
    | (
      refine zr_iload_n dX1_cardSize_15 (rfl : 15 + 1 = 16) rfl ?_
      refine zr_aload_n dX1_cardSize_16 (rfl : 16 + 1 = 17) rfl ?_
      refine zr_iload_n dX1_cardSize_17 (rfl : 17 + 1 = 18) rfl ?_
      refine zr_fnV dX1_cardSize_18 (rfl : 18 + 3 = 21) l_X1_46 (s_rowSize _ (by first | omega | (simp only [bset, reduceIte, Nat.reduceEqDiff]; omega)) hP) (by first | assumption | exact mw_167 | exact mw_168 | exact mw_169 | exact mw_170 | exact bk_0 | exact bk_1 | exact bk_2 | exact bk_3 | exact bk_4 | exact bk_5 | exact bk_6 | exact bk_7 | exact bk_8 | exact bk_9 | exact bk_10 | exact bk_11 | exact bk_12 | exact bk_13 | exact bk_14 | exact bk_15 | exact bk_16 | exact zup_self | exact (zup_ne (by first | assumption | omega)).trans (by first | assumption | exact zup_self) | exact (zup_ne (by first | assumption | omega)).trans ((zup_ne (by first | assumption | omega)).trans (by first | assumption | exact zup_self)) | exact (bk_out (by first | omega | (simp only [bset, reduceIte, Nat.reduceEqDiff]; omega))).trans (by first | exact bk_0 | exact bk_1 | exact bk_2 | exact bk_3 | exact bk_4 | exact bk_5 | exact bk_6 | exact bk_7 | exact bk_8 | exact bk_9 | exact bk_10 | exact bk_11 | exact bk_12 | exact bk_13 | exact bk_14 | exact bk_15 | exact bk_16 | exact cr_5 | exact cr_23 | exact cr_24 | exact cr_25 | exact cr_26 | exact cr_27 | exact cr_28 | exact cr_29 | exact cr_30 | assumption)) rfl rfl rfl (Nat.le_of_ble_eq_true rfl) ?_
      refine zr_iadd dX1_cardSize_21 (rfl : 21 + 1 = 22) (by first | exact jI_add _ _ | rfl) ?_
      refine zr_istore_n (lv' := [_, _, _, _]) dX1_cardSize_22 (rfl : 22 + 1 = 23) (Nat.le_of_ble_eq_true rfl) rfl ?_
      refine zr_iinc (lv' := [_, _, _, _]) dX1_cardSize_23 (rfl : 23 + 3 = 26) (Nat.le_of_ble_eq_true rfl) rfl (by first | exact jI_add _ _ | rfl) rfl ?_
      refine zr_goto (tgt := 6) dX1_cardSize_26 (by decide) ?_
      refine zr_iload_n dX1_cardSize_6 (rfl : 6 + 1 = 7) rfl ?_
      refine zr_iload_n dX1_cardSize_7 (rfl : 7 + 1 = 8) rfl ?_
      refine zr_iconst dX1_cardSize_8 (rfl : 8 + 1 = 9) ?_
      refine zr_imul dX1_cardSize_9 (rfl : 9 + 1 = 10) (by first | exact jI_mul _ _ | rfl) ?_
      refine zr_iconst dX1_cardSize_10 (rfl : 10 + 1 = 11) ?_
      refine zr_iadd dX1_cardSize_11 (rfl : 11 + 1 = 12) (by first | exact jI_add _ _ | rfl) ?_
      refine zr_icmp_ge (tgt := 29) dX1_cardSize_12 (by decide) (rfl : 12 + 3 = 15) (jI_le (by first | omega | (simp only [bset, reduceIte, Nat.reduceEqDiff]; omega)) (by first | omega | (simp only [bset, reduceIte, Nat.reduceEqDiff]; omega)) (by first | omega | (simp only [bset, reduceIte, Nat.reduceEqDiff]; omega)) (by first | omega | (simp only [bset, reduceIte, Nat.reduceEqDiff]; omega))) (fun h12 => ?_) (fun h12 => ?_)
      · first
        | (exfalso; omega)
        | (
          refine zr_iload_n dX1_cardSize_29 (rfl : 29 + 1 = 30) rfl ?_
          refine zr_iret dX1_cardSize_30 rfl rfl ?_ rfl rfl rfl
          unfold jcs
          rw [show (0 + jrs (B 0) (c * 3) : Int) = jrs (B 0) (c * 3) by omega])
      · first
        | (exfalso; omega)
        | (
          refine zr_iload_n dX1_cardSize_15 (rfl : 15 + 1 = 16) rfl ?_
          refine zr_aload_n dX1_cardSize_16 (rfl : 16 + 1 = 17) rfl ?_
          refine zr_iload_n dX1_cardSize_17 (rfl : 17 + 1 = 18) rfl ?_
          refine zr_fnV dX1_cardSize_18 (rfl : 18 + 3 = 21) l_X1_46 (s_rowSize _ (by first | omega | (simp only [bset, reduceIte, Nat.reduceEqDiff]; omega)) hP) (by first | assumption | exact mw_167 | exact mw_168 | exact mw_169 | exact mw_170 | exact bk_0 | exact bk_1 | exact bk_2 | exact bk_3 | exact bk_4 | exact bk_5 | exact bk_6 | exact bk_7 | exact bk_8 | exact bk_9 | exact bk_10 | exact bk_11 | exact bk_12 | exact bk_13 | exact bk_14 | exact bk_15 | exact bk_16 | exact zup_self | exact (zup_ne (by first | assumption | omega)).trans (by first | assumption | exact zup_self) | exact (zup_ne (by first | assumption | omega)).trans ((zup_ne (by first | assumption | omega)).trans (by first | assumption | exact zup_self)) | exact (bk_out (by first | omega | (simp only [bset, reduceIte, Nat.reduceEqDiff]; omega))).trans (by first | exact bk_0 | exact bk_1 | exact bk_2 | exact bk_3 | exact bk_4 | exact bk_5 | exact bk_6 | exact bk_7 | exact bk_8 | exact bk_9 | exact bk_10 | exact bk_11 | exact bk_12 | exact bk_13 | exact bk_14 | exact bk_15 | exact bk_16 | exact cr_5 | exact cr_23 | exact cr_24 | exact cr_25 | exact cr_26 | exact cr_27 | exact cr_28 | exact cr_29 | exact cr_30 | assumption)) rfl rfl rfl (Nat.le_of_ble_eq_true rfl) ?_
          refine zr_iadd dX1_cardSize_21 (rfl : 21 + 1 = 22) (by first | exact jI_add _ _ | rfl) ?_
          refine zr_istore_n (lv' := [_, _, _, _]) dX1_cardSize_22 (rfl : 22 + 1 = 23) (Nat.le_of_ble_eq_true rfl) rfl ?_
          refine zr_iinc (lv' := [_, _, _, _]) dX1_cardSize_23 (rfl : 23 + 3 = 26) (Nat.le_of_ble_eq_true rfl) rfl (by first | exact jI_add _ _ | rfl) rfl ?_
          refine zr_goto (tgt := 6) dX1_cardSize_26 (by decide) ?_
          refine zr_iload_n dX1_cardSize_6 (rfl : 6 + 1 = 7) rfl ?_
          refine zr_iload_n dX1_cardSize_7 (rfl : 7 + 1 = 8) rfl ?_
          refine zr_iconst dX1_cardSize_8 (rfl : 8 + 1 = 9) ?_
          refine zr_imul dX1_cardSize_9 (rfl : 9 + 1 = 10) (by first | exact jI_mul _ _ | rfl) ?_
          refine zr_iconst dX1_cardSize_10 (rfl : 10 + 1 = 11) ?_
          refine zr_iadd dX1_cardSize_11 (rfl : 11 + 1 = 12) (by first | exact jI_add _ _ | rfl) ?_
          refine zr_icmp_ge (tgt := 29) dX1_cardSize_12 (by decide) (rfl : 12 + 3 = 15) (jI_le (by first | omega | (simp only [bset, reduceIte, Nat.reduceEqDiff]; omega)) (by first | omega | (simp only [bset, reduceIte, Nat.reduceEqDiff]; omega)) (by first | omega | (simp only [bset, reduceIte, Nat.reduceEqDiff]; omega)) (by first | omega | (simp only [bset, reduceIte, Nat.reduceEqDiff]; omega))) (fun h12 => ?_) (fun h12 => ?_)
          · first
            | (exfalso; omega)
            | (
              refine zr_iload_n dX1_cardSize_29 (rfl : 29 + 1 = 30) rfl ?_
              refine zr_iret dX1_cardSize_30 rfl rfl ?_ rfl rfl rfl
              unfold jcs
              rw [show (0 + jrs (B 0) (c * 3) : Int) = jrs (B 0) (c * 3) by omega])
          · first
            | (exfalso; omega)
            | (
              refine zr_iload_n dX1_cardSize_15 (rfl : 15 + 1 = 16) rfl ?_
              refine zr_aload_n dX1_cardSize_16 (rfl : 16 + 1 = 17) rfl ?_
              refine zr_iload_n dX1_cardSize_17 (rfl : 17 + 1 = 18) rfl ?_
              refine zr_fnV dX1_cardSize_18 (rfl : 18 + 3 = 21) l_X1_46 (s_rowSize _ (by first | omega | (simp only [bset, reduceIte, Nat.reduceEqDiff]; omega)) hP) (by first | assumption | exact mw_167 | exact mw_168 | exact mw_169 | exact mw_170 | exact bk_0 | exact bk_1 | exact bk_2 | exact bk_3 | exact bk_4 | exact bk_5 | exact bk_6 | exact bk_7 | exact bk_8 | exact bk_9 | exact bk_10 | exact bk_11 | exact bk_12 | exact bk_13 | exact bk_14 | exact bk_15 | exact bk_16 | exact zup_self | exact (zup_ne (by first | assumption | omega)).trans (by first | assumption | exact zup_self) | exact (zup_ne (by first | assumption | omega)).trans ((zup_ne (by first | assumption | omega)).trans (by first | assumption | exact zup_self)) | exact (bk_out (by first | omega | (simp only [bset, reduceIte, Nat.reduceEqDiff]; omega))).trans (by first | exact bk_0 | exact bk_1 | exact bk_2 | exact bk_3 | exact bk_4 | exact bk_5 | exact bk_6 | exact bk_7 | exact bk_8 | exact bk_9 | exact bk_10 | exact bk_11 | exact bk_12 | exact bk_13 | exact bk_14 | exact bk_15 | exact bk_16 | exact cr_5 | exact cr_23 | exact cr_24 | exact cr_25 | exact cr_26 | exact cr_27 | exact cr_28 | exact cr_29 | exact cr_30 | assumption)) rfl rfl rfl (Nat.le_of_ble_eq_true rfl) ?_
              refine zr_iadd dX1_cardSize_21 (rfl : 21 + 1 = 22) (by first | exact jI_add _ _ | rfl) ?_
              refine zr_istore_n (lv' := [_, _, _, _]) dX1_cardSize_22 (rfl : 22 + 1 = 23) (Nat.le_of_ble_eq_true rfl) rfl ?_
              refine zr_iinc (lv' := [_, _, _, _]) dX1_cardSize_23 (rfl : 23 + 3 = 26) (Nat.le_of_ble_eq_true rfl) rfl (by first | exact jI_add _ _ | rfl) rfl ?_
              refine zr_goto (tgt := 6) dX1_cardSize_26 (by decide) ?_
              refine zr_iload_n dX1_cardSize_6 (rfl : 6 + 1 = 7) rfl ?_
              refine zr_iload_n dX1_cardSize_7 (rfl : 7 + 1 = 8) rfl ?_
              refine zr_iconst dX1_cardSize_8 (rfl : 8 + 1 = 9) ?_
              refine zr_imul dX1_cardSize_9 (rfl : 9 + 1 = 10) (by first | exact jI_mul _ _ | rfl) ?_
              refine zr_iconst dX1_cardSize_10 (rfl : 10 + 1 = 11) ?_
              refine zr_iadd dX1_cardSize_11 (rfl : 11 + 1 = 12) (by first | exact jI_add _ _ | rfl) ?_
              refine zr_icmp_ge (tgt := 29) dX1_cardSize_12 (by decide) (rfl : 12 + 3 = 15) (jI_le (by first | omega | (simp only [bset, reduceIte, Nat.reduceEqDiff]; omega)) (by first | omega | (simp only [bset, reduceIte, Nat.reduceEqDiff]; omega)) (by first | omega | (simp only [bset, reduceIte, Nat.reduceEqDiff]; omega)) (by first | omega | (simp only [bset, reduceIte, Nat.reduceEqDiff]; omega))) (fun h12 => ?_) (fun h12 => ?_)
              · first
                | (exfalso; omega)
                | (
                  refine zr_iload_n dX1_cardSize_29 (rfl : 29 + 1 = 30) rfl ?_
                  refine zr_iret dX1_cardSize_30 rfl rfl ?_ rfl rfl rfl
                  unfold jcs
                  rw [show (0 + jrs (B 0) (c * 3) : Int) = jrs (B 0) (c * 3) by omega])
              · first
                | (exfalso; omega)
                | (
                  refine zr_iload_n dX1_cardSize_15 (rfl : 15 + 1 = 16) rfl ?_
                  refine zr_aload_n dX1_cardSize_16 (rfl : 16 + 1 = 17) rfl ?_
                  refine zr_iload_n dX1_cardSize_17 (rfl : 17 + 1 = 18) rfl ?_
                  refine zr_fnV dX1_cardSize_18 (rfl : 18 + 3 = 21) l_X1_46 (s_rowSize _ (by first | omega | (simp only [bset, reduceIte, Nat.reduceEqDiff]; omega)) hP) (by first | assumption | exact mw_167 | exact mw_168 | exact mw_169 | exact mw_170 | exact bk_0 | exact bk_1 | exact bk_2 | exact bk_3 | exact bk_4 | exact bk_5 | exact bk_6 | exact bk_7 | exact bk_8 | exact bk_9 | exact bk_10 | exact bk_11 | exact bk_12 | exact bk_13 | exact bk_14 | exact bk_15 | exact bk_16 | exact zup_self | exact (zup_ne (by first | assumption | omega)).trans (by first | assumption | exact zup_self) | exact (zup_ne (by first | assumption | omega)).trans ((zup_ne (by first | assumption | omega)).trans (by first | assumption | exact zup_self)) | exact (bk_out (by first | omega | (simp only [bset, reduceIte, Nat.reduceEqDiff]; omega))).trans (by first | exact bk_0 | exact bk_1 | exact bk_2 | exact bk_3 | exact bk_4 | exact bk_5 | exact bk_6 | exact bk_7 | exact bk_8 | exact bk_9 | exact bk_10 | exact bk_11 | exact bk_12 | exact bk_13 | exact bk_14 | exact bk_15 | exact bk_16 | exact cr_5 | exact cr_23 | exact cr_24 | exact cr_25 | exact cr_26 | exact cr_27 | exact cr_28 | exact cr_29 | exact cr_30 | assumption)) rfl rfl rfl (Nat.le_of_ble_eq_true rfl) ?_
                  refine zr_iadd dX1_cardSize_21 (rfl : 21 + 1 = 22) (by first | exact jI_add _ _ | rfl) ?_
                  refine zr_istore_n (lv' := [_, _, _, _]) dX1_cardSize_22 (rfl : 22 + 1 = 23) (Nat.le_of_ble_eq_true rfl) rfl ?_
                  refine zr_iinc (lv' := [_, _, _, _]) dX1_cardSize_23 (rfl : 23 + 3 = 26) (Nat.le_of_ble_eq_true rfl) rfl (by first | exact jI_add _ _ | rfl) rfl ?_
                  refine zr_goto (tgt := 6) dX1_cardSize_26 (by decide) ?_
                  exfalso; omega))))
theorem s_isWhole (c : Int) (hc : 0 ≤ c ∧ c < 6) (hP : ∀ z, 0 ≤ B 0 z ∧ B 0 z ≤ 90) : zFn Γ md_X1_isWhole (d + 2) [.ref (b + 1), .int (jI c)] (bk b B w) (some (.int (jI (jb (jcs (B 0) c = 15))))) (bk b B w) := by
  refine zFn.of_run (lv := [some (.ref (b + 1)), some (.int (jI c))]) (by decide) rfl (Nat.le_of_ble_eq_true rfl) rfl (fun n9 g9 => ?_)
  have hs := jcs_r (B 0) c
  refine zr_aload_n dX1_isWhole_0 (rfl : 0 + 1 = 1) rfl ?_
  refine zr_iload_n dX1_isWhole_1 (rfl : 1 + 1 = 2) rfl ?_
  refine zr_fnV dX1_isWhole_2 (rfl : 2 + 3 = 5) l_X1_53 (s_cardSize c hc hP) (by first | assumption | exact mw_167 | exact mw_168 | exact mw_169 | exact mw_170 | exact bk_0 | exact bk_1 | exact bk_2 | exact bk_3 | exact bk_4 | exact bk_5 | exact bk_6 | exact bk_7 | exact bk_8 | exact bk_9 | exact bk_10 | exact bk_11 | exact bk_12 | exact bk_13 | exact bk_14 | exact bk_15 | exact bk_16 | exact zup_self | exact (zup_ne (by first | assumption | omega)).trans (by first | assumption | exact zup_self) | exact (zup_ne (by first | assumption | omega)).trans ((zup_ne (by first | assumption | omega)).trans (by first | assumption | exact zup_self)) | exact (bk_out (by first | omega | (simp only [bset, reduceIte, Nat.reduceEqDiff]; omega))).trans (by first | exact bk_0 | exact bk_1 | exact bk_2 | exact bk_3 | exact bk_4 | exact bk_5 | exact bk_6 | exact bk_7 | exact bk_8 | exact bk_9 | exact bk_10 | exact bk_11 | exact bk_12 | exact bk_13 | exact bk_14 | exact bk_15 | exact bk_16 | exact cr_5 | exact cr_23 | exact cr_24 | exact cr_25 | exact cr_26 | exact cr_27 | exact cr_28 | exact cr_29 | exact cr_30 | assumption)) rfl rfl rfl (Nat.le_of_ble_eq_true rfl) ?_
  refine zr_bipush dX1_isWhole_5 (rfl : 5 + 2 = 7) (by decide) ?_
  refine zr_icmp_ne (tgt := 14) dX1_isWhole_7 (by decide) (rfl : 7 + 3 = 10) (jI_eq (by first | omega | (simp only [bset, reduceIte, Nat.reduceEqDiff]; omega)) (by first | omega | (simp only [bset, reduceIte, Nat.reduceEqDiff]; omega)) (by first | omega | (simp only [bset, reduceIte, Nat.reduceEqDiff]; omega)) (by first | omega | (simp only [bset, reduceIte, Nat.reduceEqDiff]; omega))) (fun h7 => ?_) (fun h7 => ?_)
  · first
    | (exfalso; omega)
    | (
      refine zr_iconst dX1_isWhole_14 (rfl : 14 + 1 = 15) ?_
      refine zr_iret dX1_isWhole_15 rfl (by first | exact jb_nar | rfl) ?_ rfl rfl rfl
      first | rfl | rw [jb_pos (by first | assumption | omega)] | rw [jb_neg (by first | assumption | omega)] | rw [if_pos (by first | assumption | omega)] | rw [if_neg (by first | assumption | omega)])
  · first
    | (exfalso; omega)
    | (
      refine zr_iconst dX1_isWhole_10 (rfl : 10 + 1 = 11) ?_
      refine zr_goto (tgt := 15) dX1_isWhole_11 (by decide) ?_
      refine zr_iret dX1_isWhole_15 rfl (by first | exact jb_nar | rfl) ?_ rfl rfl rfl
      first | rfl | rw [jb_pos (by first | assumption | omega)] | rw [jb_neg (by first | assumption | omega)] | rw [if_pos (by first | assumption | omega)] | rw [if_neg (by first | assumption | omega)])
theorem s_wholeCards (hP : ∀ z, 0 ≤ B 0 z ∧ B 0 z ≤ 90) : zFn Γ md_X1_wholeCards (d + 3) [.ref (b + 1)] (bk b B w) (some (.int (jI (jcnt 6 (fun c => decide (jcs (B 0) c = 15)))))) (bk b B w) := by
  refine zFn.of_run (lv := [some (.ref (b + 1)), none, none]) (by decide) rfl (Nat.le_of_ble_eq_true rfl) rfl (fun n9 g9 => ?_)
  refine zr_iconst dX1_wholeCards_0 (rfl : 0 + 1 = 1) ?_
  refine zr_istore_n (lv' := [_, _, _]) dX1_wholeCards_1 (rfl : 1 + 1 = 2) (Nat.le_of_ble_eq_true rfl) rfl ?_
  refine zr_iconst dX1_wholeCards_2 (rfl : 2 + 1 = 3) ?_
  refine zr_istore_n (lv' := [_, _, _]) dX1_wholeCards_3 (rfl : 3 + 1 = 4) (Nat.le_of_ble_eq_true rfl) rfl ?_
  refine zfor1 0 6 (fun i m => m = jcnt i.toNat (fun c => decide (jcs (B 0) c = 15))) (fun i m => [some (.ref (b + 1)), some (.int (jI m)), some (.int (jI i))]) (fun _ _ => bk b B w) 0 rfl ?_ ?_
  · intro i m h0 h9 hm hk
    have hj := jcnt_next (q := fun c => decide (jcs (B 0) c = 15)) h0
    refine zr_iload_n dX1_wholeCards_4 (rfl : 4 + 1 = 5) rfl ?_
    refine zr_bipush dX1_wholeCards_5 (rfl : 5 + 2 = 7) (by decide) ?_
    refine zr_icmp_ge (tgt := 32) dX1_wholeCards_7 (by decide) (rfl : 7 + 3 = 10) (jI_le (by first | omega | (simp only [bset, reduceIte, Nat.reduceEqDiff]; omega)) (by first | omega | (simp only [bset, reduceIte, Nat.reduceEqDiff]; omega)) (by first | omega | (simp only [bset, reduceIte, Nat.reduceEqDiff]; omega)) (by first | omega | (simp only [bset, reduceIte, Nat.reduceEqDiff]; omega))) (fun h7 => ?_) (fun h7 => ?_)
    · first
      | (exfalso; omega)
      | (
        refine zr_iload_n dX1_wholeCards_32 (rfl : 32 + 1 = 33) rfl ?_
        refine zr_iret dX1_wholeCards_33 rfl rfl ?_ rfl rfl rfl
        first | rfl | rw [jb_pos (by first | assumption | omega)] | rw [jb_neg (by first | assumption | omega)] | rw [if_pos (by first | assumption | omega)] | rw [if_neg (by first | assumption | omega)])
    · first
      | (exfalso; omega)
      | (
        refine zr_iload_n dX1_wholeCards_10 (rfl : 10 + 1 = 11) rfl ?_
        refine zr_aload_n dX1_wholeCards_11 (rfl : 11 + 1 = 12) rfl ?_
        refine zr_iload_n dX1_wholeCards_12 (rfl : 12 + 1 = 13) rfl ?_
        refine zr_fnV dX1_wholeCards_13 (rfl : 13 + 3 = 16) l_X1_56 (s_isWhole i (by first | omega | (simp only [bset, reduceIte, Nat.reduceEqDiff]; omega)) hP) (by first | assumption | exact mw_167 | exact mw_168 | exact mw_169 | exact mw_170 | exact bk_0 | exact bk_1 | exact bk_2 | exact bk_3 | exact bk_4 | exact bk_5 | exact bk_6 | exact bk_7 | exact bk_8 | exact bk_9 | exact bk_10 | exact bk_11 | exact bk_12 | exact bk_13 | exact bk_14 | exact bk_15 | exact bk_16 | exact zup_self | exact (zup_ne (by first | assumption | omega)).trans (by first | assumption | exact zup_self) | exact (zup_ne (by first | assumption | omega)).trans ((zup_ne (by first | assumption | omega)).trans (by first | assumption | exact zup_self)) | exact (bk_out (by first | omega | (simp only [bset, reduceIte, Nat.reduceEqDiff]; omega))).trans (by first | exact bk_0 | exact bk_1 | exact bk_2 | exact bk_3 | exact bk_4 | exact bk_5 | exact bk_6 | exact bk_7 | exact bk_8 | exact bk_9 | exact bk_10 | exact bk_11 | exact bk_12 | exact bk_13 | exact bk_14 | exact bk_15 | exact bk_16 | exact cr_5 | exact cr_23 | exact cr_24 | exact cr_25 | exact cr_26 | exact cr_27 | exact cr_28 | exact cr_29 | exact cr_30 | assumption)) rfl rfl rfl (Nat.le_of_ble_eq_true rfl) ?_
        refine zr_if_eq (tgt := 23) dX1_wholeCards_16 (by decide) (rfl : 16 + 3 = 19) (by first | exact jb_iff | exact jI_z (by first | omega | (simp only [bset, reduceIte, Nat.reduceEqDiff]; omega)) (by first | omega | (simp only [bset, reduceIte, Nat.reduceEqDiff]; omega))) (fun h16 => ?_) (fun h16 => ?_)
        · first
          | (exfalso; omega)
          | (
            refine zr_iconst dX1_wholeCards_23 (rfl : 23 + 1 = 24) ?_
            refine zr_iadd dX1_wholeCards_24 (rfl : 24 + 1 = 25) (by first | exact jI_add _ _ | rfl) ?_
            refine zr_istore_n (lv' := [_, _, _]) dX1_wholeCards_25 (rfl : 25 + 1 = 26) (Nat.le_of_ble_eq_true rfl) rfl ?_
            refine zr_iinc (lv' := [_, _, _]) dX1_wholeCards_26 (rfl : 26 + 3 = 29) (Nat.le_of_ble_eq_true rfl) rfl (by first | exact jI_add _ _ | rfl) rfl ?_
            refine zr_goto (tgt := 4) dX1_wholeCards_29 (by decide) ?_
            refine hk _ ?_
            rw [hj, hm]
            first | rw [jb_pos (by simpa using h16)] | rw [jb_neg (by simpa using h16)])
        · first
          | (exfalso; omega)
          | (
            refine zr_iconst dX1_wholeCards_19 (rfl : 19 + 1 = 20) ?_
            refine zr_goto (tgt := 24) dX1_wholeCards_20 (by decide) ?_
            refine zr_iadd dX1_wholeCards_24 (rfl : 24 + 1 = 25) (by first | exact jI_add _ _ | rfl) ?_
            refine zr_istore_n (lv' := [_, _, _]) dX1_wholeCards_25 (rfl : 25 + 1 = 26) (Nat.le_of_ble_eq_true rfl) rfl ?_
            refine zr_iinc (lv' := [_, _, _]) dX1_wholeCards_26 (rfl : 26 + 3 = 29) (Nat.le_of_ble_eq_true rfl) rfl (by first | exact jI_add _ _ | rfl) rfl ?_
            refine zr_goto (tgt := 4) dX1_wholeCards_29 (by decide) ?_
            refine hk _ ?_
            rw [hj, hm]
            first | rw [jb_pos (by simpa using h16)] | rw [jb_neg (by simpa using h16)]))
  · intro m hm
    refine zr_iload_n dX1_wholeCards_4 (rfl : 4 + 1 = 5) rfl ?_
    refine zr_bipush dX1_wholeCards_5 (rfl : 5 + 2 = 7) (by decide) ?_
    refine zr_icmp_ge (tgt := 32) dX1_wholeCards_7 (by decide) (rfl : 7 + 3 = 10) (jI_le (by first | omega | (simp only [bset, reduceIte, Nat.reduceEqDiff]; omega)) (by first | omega | (simp only [bset, reduceIte, Nat.reduceEqDiff]; omega)) (by first | omega | (simp only [bset, reduceIte, Nat.reduceEqDiff]; omega)) (by first | omega | (simp only [bset, reduceIte, Nat.reduceEqDiff]; omega))) (fun h7 => ?_) (fun h7 => ?_)
    · first
      | (exfalso; omega)
      | (
        refine zr_iload_n dX1_wholeCards_32 (rfl : 32 + 1 = 33) rfl ?_
        refine zr_iret dX1_wholeCards_33 rfl rfl ?_ rfl rfl rfl
        rw [hm]; rfl)
    · first
      | (exfalso; omega)
      | (
        refine zr_iload_n dX1_wholeCards_10 (rfl : 10 + 1 = 11) rfl ?_
        refine zr_aload_n dX1_wholeCards_11 (rfl : 11 + 1 = 12) rfl ?_
        refine zr_iload_n dX1_wholeCards_12 (rfl : 12 + 1 = 13) rfl ?_
        exfalso; omega)
variable {ma : Nat} {mk : Int → Int}
theorem s_isUnmarked {w : zW} (x : Int) (hx : 0 ≤ x ∧ x ≤ 90) (hm : w ma = some (zia 91 mk)) (hmk : ∀ z, 0 ≤ mk z ∧ mk z < 2147483648) : zFn Γ md_X1_isUnmarked d [.int (jI x), .ref ma] w (some (.int (jI (jb (0 < x ∧ mk x = 0))))) w := by
  refine zFn.of_run (lv := [some (.int (jI x)), some (.ref ma)]) (by decide) rfl (Nat.le_of_ble_eq_true rfl) rfl (fun n9 g9 => ?_)
  have h9 := hmk x
  refine zr_iload_n dX1_isUnmarked_0 (rfl : 0 + 1 = 1) rfl ?_
  refine zr_if_le (tgt := 14) dX1_isUnmarked_1 (by decide) (rfl : 1 + 3 = 4) (jI_lez (by first | omega | (simp only [bset, reduceIte, Nat.reduceEqDiff]; omega)) (by first | omega | (simp only [bset, reduceIte, Nat.reduceEqDiff]; omega))) (fun h1 => ?_) (fun h1 => ?_)
  · first
    | (exfalso; omega)
    | (
      refine zr_iconst dX1_isUnmarked_14 (rfl : 14 + 1 = 15) ?_
      refine zr_iret dX1_isUnmarked_15 rfl (by first | exact jb_nar | rfl) ?_ rfl rfl rfl
      first | rfl | rw [jb_pos (by first | assumption | omega)] | rw [jb_neg (by first | assumption | omega)] | rw [if_pos (by first | assumption | omega)] | rw [if_neg (by first | assumption | omega)])
  · first
    | (exfalso; omega)
    | (
      refine zr_aload_n dX1_isUnmarked_4 (rfl : 4 + 1 = 5) rfl ?_
      refine zr_iload_n dX1_isUnmarked_5 (rfl : 5 + 1 = 6) rfl ?_
      refine zr_iald dX1_isUnmarked_6 (rfl : 6 + 1 = 7) (by first | assumption | exact mw_167 | exact mw_168 | exact mw_169 | exact mw_170 | exact bk_0 | exact bk_1 | exact bk_2 | exact bk_3 | exact bk_4 | exact bk_5 | exact bk_6 | exact bk_7 | exact bk_8 | exact bk_9 | exact bk_10 | exact bk_11 | exact bk_12 | exact bk_13 | exact bk_14 | exact bk_15 | exact bk_16 | exact zup_self | exact (zup_ne (by first | assumption | omega)).trans (by first | assumption | exact zup_self) | exact (zup_ne (by first | assumption | omega)).trans ((zup_ne (by first | assumption | omega)).trans (by first | assumption | exact zup_self)) | exact (bk_out (by first | omega | (simp only [bset, reduceIte, Nat.reduceEqDiff]; omega))).trans (by first | exact bk_0 | exact bk_1 | exact bk_2 | exact bk_3 | exact bk_4 | exact bk_5 | exact bk_6 | exact bk_7 | exact bk_8 | exact bk_9 | exact bk_10 | exact bk_11 | exact bk_12 | exact bk_13 | exact bk_14 | exact bk_15 | exact bk_16 | exact cr_5 | exact cr_23 | exact cr_24 | exact cr_25 | exact cr_26 | exact cr_27 | exact cr_28 | exact cr_29 | exact cr_30 | assumption)) (by decide) (by first | omega | (simp only [bset, reduceIte, Nat.reduceEqDiff]; omega)) (by first | omega | (simp only [bset, reduceIte, Nat.reduceEqDiff]; omega)) ?_
      refine zr_if_ne (tgt := 14) dX1_isUnmarked_7 (by decide) (rfl : 7 + 3 = 10) (by first | exact jb_iff | exact jI_z (by first | omega | (simp only [bset, reduceIte, Nat.reduceEqDiff]; omega)) (by first | omega | (simp only [bset, reduceIte, Nat.reduceEqDiff]; omega))) (fun h7 => ?_) (fun h7 => ?_)
      · first
        | (exfalso; omega)
        | (
          refine zr_iconst dX1_isUnmarked_14 (rfl : 14 + 1 = 15) ?_
          refine zr_iret dX1_isUnmarked_15 rfl (by first | exact jb_nar | rfl) ?_ rfl rfl rfl
          first | rfl | rw [jb_pos (by first | assumption | omega)] | rw [jb_neg (by first | assumption | omega)] | rw [if_pos (by first | assumption | omega)] | rw [if_neg (by first | assumption | omega)])
      · first
        | (exfalso; omega)
        | (
          refine zr_iconst dX1_isUnmarked_10 (rfl : 10 + 1 = 11) ?_
          refine zr_goto (tgt := 15) dX1_isUnmarked_11 (by decide) ?_
          refine zr_iret dX1_isUnmarked_15 rfl (by first | exact jb_nar | rfl) ?_ rfl rfl rfl
          first | rfl | rw [jb_pos (by first | assumption | omega)] | rw [jb_neg (by first | assumption | omega)] | rw [if_pos (by first | assumption | omega)] | rw [if_neg (by first | assumption | omega)]))
theorem s_unmarkedInRow (r : Int) (hr : 0 ≤ r ∧ r < 18) (hP : ∀ z, 0 ≤ B 0 z ∧ B 0 z ≤ 90) (hm : bk b B w ma = some (zia 91 mk)) (hmk : ∀ z, 0 ≤ mk z ∧ mk z < 2147483648) : zFn Γ md_X1_unmarkedInRow (d + 1) [.ref (b + 1), .int (jI r), .ref ma] (bk b B w) (some (.int (jI (jur (B 0) mk r)))) (bk b B w) := by
  refine zFn.of_run (lv := [some (.ref (b + 1)), some (.int (jI r)), some (.ref ma), none, none]) (by decide) rfl (Nat.le_of_ble_eq_true rfl) rfl (fun n9 g9 => ?_)
  refine zr_iconst dX1_unmarkedInRow_0 (rfl : 0 + 1 = 1) ?_
  refine zr_istore_n (lv' := [_, _, _, _, _]) dX1_unmarkedInRow_1 (rfl : 1 + 1 = 2) (Nat.le_of_ble_eq_true rfl) rfl ?_
  refine zr_iconst dX1_unmarkedInRow_2 (rfl : 2 + 1 = 3) ?_
  refine zr_istore (lv' := [_, _, _, _, _]) dX1_unmarkedInRow_3 (rfl : 3 + 2 = 5) (Nat.le_of_ble_eq_true rfl) rfl ?_
  refine zfor1 0 9 (fun i m => m = jcnt i.toNat (fun c => decide (0 < B 0 (r * 9 + c) ∧ mk (B 0 (r * 9 + c)) = 0))) (fun i m => [some (.ref (b + 1)), some (.int (jI r)), some (.ref ma), some (.int (jI m)), some (.int (jI i))]) (fun _ _ => bk b B w) 0 rfl ?_ ?_
  · intro i m h0 h9 hm2 hk
    have hp := hP (r * 9 + i)
    have hj := jcnt_next (q := fun c => decide (0 < B 0 (r * 9 + c) ∧ mk (B 0 (r * 9 + c)) = 0)) h0
    refine zr_iload dX1_unmarkedInRow_5 (rfl : 5 + 2 = 7) rfl ?_
    refine zr_bipush dX1_unmarkedInRow_7 (rfl : 7 + 2 = 9) (by decide) ?_
    refine zr_icmp_ge (tgt := 45) dX1_unmarkedInRow_9 (by decide) (rfl : 9 + 3 = 12) (jI_le (by first | omega | (simp only [bset, reduceIte, Nat.reduceEqDiff]; omega)) (by first | omega | (simp only [bset, reduceIte, Nat.reduceEqDiff]; omega)) (by first | omega | (simp only [bset, reduceIte, Nat.reduceEqDiff]; omega)) (by first | omega | (simp only [bset, reduceIte, Nat.reduceEqDiff]; omega))) (fun h9 => ?_) (fun h9 => ?_)
    · first
      | (exfalso; omega)
      | (
        refine zr_iload_n dX1_unmarkedInRow_45 (rfl : 45 + 1 = 46) rfl ?_
        refine zr_iret dX1_unmarkedInRow_46 rfl rfl ?_ rfl rfl rfl
        first | rfl | rw [jb_pos (by first | assumption | omega)] | rw [jb_neg (by first | assumption | omega)] | rw [if_pos (by first | assumption | omega)] | rw [if_neg (by first | assumption | omega)])
    · first
      | (exfalso; omega)
      | (
        refine zr_iload_n dX1_unmarkedInRow_12 (rfl : 12 + 1 = 13) rfl ?_
        refine zr_aload_n dX1_unmarkedInRow_13 (rfl : 13 + 1 = 14) rfl ?_
        refine zr_getf dX1_unmarkedInRow_14 (rfl : 14 + 3 = 17) f_X1_9 (by first | assumption | exact mw_167 | exact mw_168 | exact mw_169 | exact mw_170 | exact bk_0 | exact bk_1 | exact bk_2 | exact bk_3 | exact bk_4 | exact bk_5 | exact bk_6 | exact bk_7 | exact bk_8 | exact bk_9 | exact bk_10 | exact bk_11 | exact bk_12 | exact bk_13 | exact bk_14 | exact bk_15 | exact bk_16 | exact zup_self | exact (zup_ne (by first | assumption | omega)).trans (by first | assumption | exact zup_self) | exact (zup_ne (by first | assumption | omega)).trans ((zup_ne (by first | assumption | omega)).trans (by first | assumption | exact zup_self)) | exact (bk_out (by first | omega | (simp only [bset, reduceIte, Nat.reduceEqDiff]; omega))).trans (by first | exact bk_0 | exact bk_1 | exact bk_2 | exact bk_3 | exact bk_4 | exact bk_5 | exact bk_6 | exact bk_7 | exact bk_8 | exact bk_9 | exact bk_10 | exact bk_11 | exact bk_12 | exact bk_13 | exact bk_14 | exact bk_15 | exact bk_16 | exact cr_5 | exact cr_23 | exact cr_24 | exact cr_25 | exact cr_26 | exact cr_27 | exact cr_28 | exact cr_29 | exact cr_30 | assumption)) rfl ?_
        refine zr_iload_n dX1_unmarkedInRow_17 (rfl : 17 + 1 = 18) rfl ?_
        refine zr_bipush dX1_unmarkedInRow_18 (rfl : 18 + 2 = 20) (by decide) ?_
        refine zr_imul dX1_unmarkedInRow_20 (rfl : 20 + 1 = 21) (by first | exact jI_mul _ _ | rfl) ?_
        refine zr_iload dX1_unmarkedInRow_21 (rfl : 21 + 2 = 23) rfl ?_
        refine zr_iadd dX1_unmarkedInRow_23 (rfl : 23 + 1 = 24) (by first | exact jI_add _ _ | rfl) ?_
        refine zr_iald dX1_unmarkedInRow_24 (rfl : 24 + 1 = 25) (by first | assumption | exact mw_167 | exact mw_168 | exact mw_169 | exact mw_170 | exact bk_0 | exact bk_1 | exact bk_2 | exact bk_3 | exact bk_4 | exact bk_5 | exact bk_6 | exact bk_7 | exact bk_8 | exact bk_9 | exact bk_10 | exact bk_11 | exact bk_12 | exact bk_13 | exact bk_14 | exact bk_15 | exact bk_16 | exact zup_self | exact (zup_ne (by first | assumption | omega)).trans (by first | assumption | exact zup_self) | exact (zup_ne (by first | assumption | omega)).trans ((zup_ne (by first | assumption | omega)).trans (by first | assumption | exact zup_self)) | exact (bk_out (by first | omega | (simp only [bset, reduceIte, Nat.reduceEqDiff]; omega))).trans (by first | exact bk_0 | exact bk_1 | exact bk_2 | exact bk_3 | exact bk_4 | exact bk_5 | exact bk_6 | exact bk_7 | exact bk_8 | exact bk_9 | exact bk_10 | exact bk_11 | exact bk_12 | exact bk_13 | exact bk_14 | exact bk_15 | exact bk_16 | exact cr_5 | exact cr_23 | exact cr_24 | exact cr_25 | exact cr_26 | exact cr_27 | exact cr_28 | exact cr_29 | exact cr_30 | assumption)) (by decide) (by first | omega | (simp only [bset, reduceIte, Nat.reduceEqDiff]; omega)) (by first | omega | (simp only [bset, reduceIte, Nat.reduceEqDiff]; omega)) ?_
        refine zr_aload_n dX1_unmarkedInRow_25 (rfl : 25 + 1 = 26) rfl ?_
        refine zr_fnS dX1_unmarkedInRow_26 (rfl : 26 + 3 = 29) l_X1_59 (s_isUnmarked _ (by first | omega | (simp only [bset, reduceIte, Nat.reduceEqDiff]; omega)) hm hmk) rfl rfl (Nat.le_of_ble_eq_true rfl) ?_
        refine zr_if_eq (tgt := 36) dX1_unmarkedInRow_29 (by decide) (rfl : 29 + 3 = 32) (by first | exact jb_iff | exact jI_z (by first | omega | (simp only [bset, reduceIte, Nat.reduceEqDiff]; omega)) (by first | omega | (simp only [bset, reduceIte, Nat.reduceEqDiff]; omega))) (fun h29 => ?_) (fun h29 => ?_)
        · first
          | (exfalso; omega)
          | (
            refine zr_iconst dX1_unmarkedInRow_36 (rfl : 36 + 1 = 37) ?_
            refine zr_iadd dX1_unmarkedInRow_37 (rfl : 37 + 1 = 38) (by first | exact jI_add _ _ | rfl) ?_
            refine zr_istore_n (lv' := [_, _, _, _, _]) dX1_unmarkedInRow_38 (rfl : 38 + 1 = 39) (Nat.le_of_ble_eq_true rfl) rfl ?_
            refine zr_iinc (lv' := [_, _, _, _, _]) dX1_unmarkedInRow_39 (rfl : 39 + 3 = 42) (Nat.le_of_ble_eq_true rfl) rfl (by first | exact jI_add _ _ | rfl) rfl ?_
            refine zr_goto (tgt := 5) dX1_unmarkedInRow_42 (by decide) ?_
            refine hk _ ?_
            rw [hj, hm2]
            first | rw [jb_pos (by simpa using h29)] | rw [jb_neg (by simpa using h29)])
        · first
          | (exfalso; omega)
          | (
            refine zr_iconst dX1_unmarkedInRow_32 (rfl : 32 + 1 = 33) ?_
            refine zr_goto (tgt := 37) dX1_unmarkedInRow_33 (by decide) ?_
            refine zr_iadd dX1_unmarkedInRow_37 (rfl : 37 + 1 = 38) (by first | exact jI_add _ _ | rfl) ?_
            refine zr_istore_n (lv' := [_, _, _, _, _]) dX1_unmarkedInRow_38 (rfl : 38 + 1 = 39) (Nat.le_of_ble_eq_true rfl) rfl ?_
            refine zr_iinc (lv' := [_, _, _, _, _]) dX1_unmarkedInRow_39 (rfl : 39 + 3 = 42) (Nat.le_of_ble_eq_true rfl) rfl (by first | exact jI_add _ _ | rfl) rfl ?_
            refine zr_goto (tgt := 5) dX1_unmarkedInRow_42 (by decide) ?_
            refine hk _ ?_
            rw [hj, hm2]
            first | rw [jb_pos (by simpa using h29)] | rw [jb_neg (by simpa using h29)]))
  · intro m hm2
    refine zr_iload dX1_unmarkedInRow_5 (rfl : 5 + 2 = 7) rfl ?_
    refine zr_bipush dX1_unmarkedInRow_7 (rfl : 7 + 2 = 9) (by decide) ?_
    refine zr_icmp_ge (tgt := 45) dX1_unmarkedInRow_9 (by decide) (rfl : 9 + 3 = 12) (jI_le (by first | omega | (simp only [bset, reduceIte, Nat.reduceEqDiff]; omega)) (by first | omega | (simp only [bset, reduceIte, Nat.reduceEqDiff]; omega)) (by first | omega | (simp only [bset, reduceIte, Nat.reduceEqDiff]; omega)) (by first | omega | (simp only [bset, reduceIte, Nat.reduceEqDiff]; omega))) (fun h9 => ?_) (fun h9 => ?_)
    · first
      | (exfalso; omega)
      | (
        refine zr_iload_n dX1_unmarkedInRow_45 (rfl : 45 + 1 = 46) rfl ?_
        refine zr_iret dX1_unmarkedInRow_46 rfl rfl ?_ rfl rfl rfl
        rw [hm2]; rfl)
    · first
      | (exfalso; omega)
      | (
        refine zr_iload_n dX1_unmarkedInRow_12 (rfl : 12 + 1 = 13) rfl ?_
        refine zr_aload_n dX1_unmarkedInRow_13 (rfl : 13 + 1 = 14) rfl ?_
        refine zr_getf dX1_unmarkedInRow_14 (rfl : 14 + 3 = 17) f_X1_9 (by first | assumption | exact mw_167 | exact mw_168 | exact mw_169 | exact mw_170 | exact bk_0 | exact bk_1 | exact bk_2 | exact bk_3 | exact bk_4 | exact bk_5 | exact bk_6 | exact bk_7 | exact bk_8 | exact bk_9 | exact bk_10 | exact bk_11 | exact bk_12 | exact bk_13 | exact bk_14 | exact bk_15 | exact bk_16 | exact zup_self | exact (zup_ne (by first | assumption | omega)).trans (by first | assumption | exact zup_self) | exact (zup_ne (by first | assumption | omega)).trans ((zup_ne (by first | assumption | omega)).trans (by first | assumption | exact zup_self)) | exact (bk_out (by first | omega | (simp only [bset, reduceIte, Nat.reduceEqDiff]; omega))).trans (by first | exact bk_0 | exact bk_1 | exact bk_2 | exact bk_3 | exact bk_4 | exact bk_5 | exact bk_6 | exact bk_7 | exact bk_8 | exact bk_9 | exact bk_10 | exact bk_11 | exact bk_12 | exact bk_13 | exact bk_14 | exact bk_15 | exact bk_16 | exact cr_5 | exact cr_23 | exact cr_24 | exact cr_25 | exact cr_26 | exact cr_27 | exact cr_28 | exact cr_29 | exact cr_30 | assumption)) rfl ?_
        refine zr_iload_n dX1_unmarkedInRow_17 (rfl : 17 + 1 = 18) rfl ?_
        refine zr_bipush dX1_unmarkedInRow_18 (rfl : 18 + 2 = 20) (by decide) ?_
        refine zr_imul dX1_unmarkedInRow_20 (rfl : 20 + 1 = 21) (by first | exact jI_mul _ _ | rfl) ?_
        refine zr_iload dX1_unmarkedInRow_21 (rfl : 21 + 2 = 23) rfl ?_
        refine zr_iadd dX1_unmarkedInRow_23 (rfl : 23 + 1 = 24) (by first | exact jI_add _ _ | rfl) ?_
        refine zr_iald dX1_unmarkedInRow_24 (rfl : 24 + 1 = 25) (by first | assumption | exact mw_167 | exact mw_168 | exact mw_169 | exact mw_170 | exact bk_0 | exact bk_1 | exact bk_2 | exact bk_3 | exact bk_4 | exact bk_5 | exact bk_6 | exact bk_7 | exact bk_8 | exact bk_9 | exact bk_10 | exact bk_11 | exact bk_12 | exact bk_13 | exact bk_14 | exact bk_15 | exact bk_16 | exact zup_self | exact (zup_ne (by first | assumption | omega)).trans (by first | assumption | exact zup_self) | exact (zup_ne (by first | assumption | omega)).trans ((zup_ne (by first | assumption | omega)).trans (by first | assumption | exact zup_self)) | exact (bk_out (by first | omega | (simp only [bset, reduceIte, Nat.reduceEqDiff]; omega))).trans (by first | exact bk_0 | exact bk_1 | exact bk_2 | exact bk_3 | exact bk_4 | exact bk_5 | exact bk_6 | exact bk_7 | exact bk_8 | exact bk_9 | exact bk_10 | exact bk_11 | exact bk_12 | exact bk_13 | exact bk_14 | exact bk_15 | exact bk_16 | exact cr_5 | exact cr_23 | exact cr_24 | exact cr_25 | exact cr_26 | exact cr_27 | exact cr_28 | exact cr_29 | exact cr_30 | assumption)) (by decide) (by first | omega | (simp only [bset, reduceIte, Nat.reduceEqDiff]; omega)) (by first | omega | (simp only [bset, reduceIte, Nat.reduceEqDiff]; omega)) ?_
        refine zr_aload_n dX1_unmarkedInRow_25 (rfl : 25 + 1 = 26) rfl ?_
        exfalso; omega)
theorem s_markedInCard (c : Int) (hc : 0 ≤ c ∧ c < 6) (hP : ∀ z, 0 ≤ B 0 z ∧ B 0 z ≤ 90) (hm : bk b B w ma = some (zia 91 mk)) (hmk : ∀ z, 0 ≤ mk z ∧ mk z < 2147483648) : zFn Γ md_X1_markedInCard (d + 2) [.ref (b + 1), .int (jI c), .ref ma] (bk b B w) (some (.int (jI (jmc (B 0) mk c)))) (bk b B w) := by
  refine zFn.of_run (lv := [some (.ref (b + 1)), some (.int (jI c)), some (.ref ma), none, none]) (by decide) rfl (Nat.le_of_ble_eq_true rfl) rfl (fun n9 g9 => ?_)
  refine zr_iconst dX1_markedInCard_0 (rfl : 0 + 1 = 1) ?_
  refine zr_istore_n (lv' := [_, _, _, _, _]) dX1_markedInCard_1 (rfl : 1 + 1 = 2) (Nat.le_of_ble_eq_true rfl) rfl ?_
  refine zr_iload_n dX1_markedInCard_2 (rfl : 2 + 1 = 3) rfl ?_
  refine zr_iconst dX1_markedInCard_3 (rfl : 3 + 1 = 4) ?_
  refine zr_imul dX1_markedInCard_4 (rfl : 4 + 1 = 5) (by first | exact jI_mul _ _ | rfl) ?_
  refine zr_istore (lv' := [_, _, _, _, _]) dX1_markedInCard_5 (rfl : 5 + 2 = 7) (Nat.le_of_ble_eq_true rfl) rfl ?_
  refine zr_iload dX1_markedInCard_7 (rfl : 7 + 2 = 9) rfl ?_
  refine zr_iload_n dX1_markedInCard_9 (rfl : 9 + 1 = 10) rfl ?_
  refine zr_iconst dX1_markedInCard_10 (rfl : 10 + 1 = 11) ?_
  refine zr_imul dX1_markedInCard_11 (rfl : 11 + 1 = 12) (by first | exact jI_mul _ _ | rfl) ?_
  refine zr_iconst dX1_markedInCard_12 (rfl : 12 + 1 = 13) ?_
  refine zr_iadd dX1_markedInCard_13 (rfl : 13 + 1 = 14) (by first | exact jI_add _ _ | rfl) ?_
  refine zr_icmp_ge (tgt := 40) dX1_markedInCard_14 (by decide) (rfl : 14 + 3 = 17) (jI_le (by first | omega | (simp only [bset, reduceIte, Nat.reduceEqDiff]; omega)) (by first | omega | (simp only [bset, reduceIte, Nat.reduceEqDiff]; omega)) (by first | omega | (simp only [bset, reduceIte, Nat.reduceEqDiff]; omega)) (by first | omega | (simp only [bset, reduceIte, Nat.reduceEqDiff]; omega))) (fun h14 => ?_) (fun h14 => ?_)
  · first
    | (exfalso; omega)
    | (
      refine zr_iload_n dX1_markedInCard_40 (rfl : 40 + 1 = 41) rfl ?_
      refine zr_iret dX1_markedInCard_41 rfl rfl ?_ rfl rfl rfl
      unfold jmc
      rw [show (0 + (jrs (B 0) (c * 3) - jur (B 0) mk (c * 3)) : Int) = (jrs (B 0) (c * 3) - jur (B 0) mk (c * 3)) by omega])
  · first
    | (exfalso; omega)
    | (
      refine zr_iload_n dX1_markedInCard_17 (rfl : 17 + 1 = 18) rfl ?_
      refine zr_aload_n dX1_markedInCard_18 (rfl : 18 + 1 = 19) rfl ?_
      refine zr_iload dX1_markedInCard_19 (rfl : 19 + 2 = 21) rfl ?_
      refine zr_fnV dX1_markedInCard_21 (rfl : 21 + 3 = 24) l_X1_46 (s_rowSize _ (by first | omega | (simp only [bset, reduceIte, Nat.reduceEqDiff]; omega)) hP) (by first | assumption | exact mw_167 | exact mw_168 | exact mw_169 | exact mw_170 | exact bk_0 | exact bk_1 | exact bk_2 | exact bk_3 | exact bk_4 | exact bk_5 | exact bk_6 | exact bk_7 | exact bk_8 | exact bk_9 | exact bk_10 | exact bk_11 | exact bk_12 | exact bk_13 | exact bk_14 | exact bk_15 | exact bk_16 | exact zup_self | exact (zup_ne (by first | assumption | omega)).trans (by first | assumption | exact zup_self) | exact (zup_ne (by first | assumption | omega)).trans ((zup_ne (by first | assumption | omega)).trans (by first | assumption | exact zup_self)) | exact (bk_out (by first | omega | (simp only [bset, reduceIte, Nat.reduceEqDiff]; omega))).trans (by first | exact bk_0 | exact bk_1 | exact bk_2 | exact bk_3 | exact bk_4 | exact bk_5 | exact bk_6 | exact bk_7 | exact bk_8 | exact bk_9 | exact bk_10 | exact bk_11 | exact bk_12 | exact bk_13 | exact bk_14 | exact bk_15 | exact bk_16 | exact cr_5 | exact cr_23 | exact cr_24 | exact cr_25 | exact cr_26 | exact cr_27 | exact cr_28 | exact cr_29 | exact cr_30 | assumption)) rfl rfl rfl (Nat.le_of_ble_eq_true rfl) ?_
      refine zr_aload_n dX1_markedInCard_24 (rfl : 24 + 1 = 25) rfl ?_
      refine zr_iload dX1_markedInCard_25 (rfl : 25 + 2 = 27) rfl ?_
      refine zr_aload_n dX1_markedInCard_27 (rfl : 27 + 1 = 28) rfl ?_
      refine zr_fnV dX1_markedInCard_28 (rfl : 28 + 3 = 31) l_X1_63 (s_unmarkedInRow _ (by first | omega | (simp only [bset, reduceIte, Nat.reduceEqDiff]; omega)) hP hm hmk) (by first | assumption | exact mw_167 | exact mw_168 | exact mw_169 | exact mw_170 | exact bk_0 | exact bk_1 | exact bk_2 | exact bk_3 | exact bk_4 | exact bk_5 | exact bk_6 | exact bk_7 | exact bk_8 | exact bk_9 | exact bk_10 | exact bk_11 | exact bk_12 | exact bk_13 | exact bk_14 | exact bk_15 | exact bk_16 | exact zup_self | exact (zup_ne (by first | assumption | omega)).trans (by first | assumption | exact zup_self) | exact (zup_ne (by first | assumption | omega)).trans ((zup_ne (by first | assumption | omega)).trans (by first | assumption | exact zup_self)) | exact (bk_out (by first | omega | (simp only [bset, reduceIte, Nat.reduceEqDiff]; omega))).trans (by first | exact bk_0 | exact bk_1 | exact bk_2 | exact bk_3 | exact bk_4 | exact bk_5 | exact bk_6 | exact bk_7 | exact bk_8 | exact bk_9 | exact bk_10 | exact bk_11 | exact bk_12 | exact bk_13 | exact bk_14 | exact bk_15 | exact bk_16 | exact cr_5 | exact cr_23 | exact cr_24 | exact cr_25 | exact cr_26 | exact cr_27 | exact cr_28 | exact cr_29 | exact cr_30 | assumption)) rfl rfl rfl (Nat.le_of_ble_eq_true rfl) ?_
      refine zr_isub dX1_markedInCard_31 (rfl : 31 + 1 = 32) (by first | exact jI_sub _ _ | rfl) ?_
      refine zr_iadd dX1_markedInCard_32 (rfl : 32 + 1 = 33) (by first | exact jI_add _ _ | rfl) ?_
      refine zr_istore_n (lv' := [_, _, _, _, _]) dX1_markedInCard_33 (rfl : 33 + 1 = 34) (Nat.le_of_ble_eq_true rfl) rfl ?_
      refine zr_iinc (lv' := [_, _, _, _, _]) dX1_markedInCard_34 (rfl : 34 + 3 = 37) (Nat.le_of_ble_eq_true rfl) rfl (by first | exact jI_add _ _ | rfl) rfl ?_
      refine zr_goto (tgt := 7) dX1_markedInCard_37 (by decide) ?_
      refine zr_iload dX1_markedInCard_7 (rfl : 7 + 2 = 9) rfl ?_
      refine zr_iload_n dX1_markedInCard_9 (rfl : 9 + 1 = 10) rfl ?_
      refine zr_iconst dX1_markedInCard_10 (rfl : 10 + 1 = 11) ?_
      refine zr_imul dX1_markedInCard_11 (rfl : 11 + 1 = 12) (by first | exact jI_mul _ _ | rfl) ?_
      refine zr_iconst dX1_markedInCard_12 (rfl : 12 + 1 = 13) ?_
      refine zr_iadd dX1_markedInCard_13 (rfl : 13 + 1 = 14) (by first | exact jI_add _ _ | rfl) ?_
      refine zr_icmp_ge (tgt := 40) dX1_markedInCard_14 (by decide) (rfl : 14 + 3 = 17) (jI_le (by first | omega | (simp only [bset, reduceIte, Nat.reduceEqDiff]; omega)) (by first | omega | (simp only [bset, reduceIte, Nat.reduceEqDiff]; omega)) (by first | omega | (simp only [bset, reduceIte, Nat.reduceEqDiff]; omega)) (by first | omega | (simp only [bset, reduceIte, Nat.reduceEqDiff]; omega))) (fun h14 => ?_) (fun h14 => ?_)
      · first
        | (exfalso; omega)
        | (
          refine zr_iload_n dX1_markedInCard_40 (rfl : 40 + 1 = 41) rfl ?_
          refine zr_iret dX1_markedInCard_41 rfl rfl ?_ rfl rfl rfl
          unfold jmc
          rw [show (0 + (jrs (B 0) (c * 3) - jur (B 0) mk (c * 3)) : Int) = (jrs (B 0) (c * 3) - jur (B 0) mk (c * 3)) by omega])
      · first
        | (exfalso; omega)
        | (
          refine zr_iload_n dX1_markedInCard_17 (rfl : 17 + 1 = 18) rfl ?_
          refine zr_aload_n dX1_markedInCard_18 (rfl : 18 + 1 = 19) rfl ?_
          refine zr_iload dX1_markedInCard_19 (rfl : 19 + 2 = 21) rfl ?_
          refine zr_fnV dX1_markedInCard_21 (rfl : 21 + 3 = 24) l_X1_46 (s_rowSize _ (by first | omega | (simp only [bset, reduceIte, Nat.reduceEqDiff]; omega)) hP) (by first | assumption | exact mw_167 | exact mw_168 | exact mw_169 | exact mw_170 | exact bk_0 | exact bk_1 | exact bk_2 | exact bk_3 | exact bk_4 | exact bk_5 | exact bk_6 | exact bk_7 | exact bk_8 | exact bk_9 | exact bk_10 | exact bk_11 | exact bk_12 | exact bk_13 | exact bk_14 | exact bk_15 | exact bk_16 | exact zup_self | exact (zup_ne (by first | assumption | omega)).trans (by first | assumption | exact zup_self) | exact (zup_ne (by first | assumption | omega)).trans ((zup_ne (by first | assumption | omega)).trans (by first | assumption | exact zup_self)) | exact (bk_out (by first | omega | (simp only [bset, reduceIte, Nat.reduceEqDiff]; omega))).trans (by first | exact bk_0 | exact bk_1 | exact bk_2 | exact bk_3 | exact bk_4 | exact bk_5 | exact bk_6 | exact bk_7 | exact bk_8 | exact bk_9 | exact bk_10 | exact bk_11 | exact bk_12 | exact bk_13 | exact bk_14 | exact bk_15 | exact bk_16 | exact cr_5 | exact cr_23 | exact cr_24 | exact cr_25 | exact cr_26 | exact cr_27 | exact cr_28 | exact cr_29 | exact cr_30 | assumption)) rfl rfl rfl (Nat.le_of_ble_eq_true rfl) ?_
          refine zr_aload_n dX1_markedInCard_24 (rfl : 24 + 1 = 25) rfl ?_
          refine zr_iload dX1_markedInCard_25 (rfl : 25 + 2 = 27) rfl ?_
          refine zr_aload_n dX1_markedInCard_27 (rfl : 27 + 1 = 28) rfl ?_
          refine zr_fnV dX1_markedInCard_28 (rfl : 28 + 3 = 31) l_X1_63 (s_unmarkedInRow _ (by first | omega | (simp only [bset, reduceIte, Nat.reduceEqDiff]; omega)) hP hm hmk) (by first | assumption | exact mw_167 | exact mw_168 | exact mw_169 | exact mw_170 | exact bk_0 | exact bk_1 | exact bk_2 | exact bk_3 | exact bk_4 | exact bk_5 | exact bk_6 | exact bk_7 | exact bk_8 | exact bk_9 | exact bk_10 | exact bk_11 | exact bk_12 | exact bk_13 | exact bk_14 | exact bk_15 | exact bk_16 | exact zup_self | exact (zup_ne (by first | assumption | omega)).trans (by first | assumption | exact zup_self) | exact (zup_ne (by first | assumption | omega)).trans ((zup_ne (by first | assumption | omega)).trans (by first | assumption | exact zup_self)) | exact (bk_out (by first | omega | (simp only [bset, reduceIte, Nat.reduceEqDiff]; omega))).trans (by first | exact bk_0 | exact bk_1 | exact bk_2 | exact bk_3 | exact bk_4 | exact bk_5 | exact bk_6 | exact bk_7 | exact bk_8 | exact bk_9 | exact bk_10 | exact bk_11 | exact bk_12 | exact bk_13 | exact bk_14 | exact bk_15 | exact bk_16 | exact cr_5 | exact cr_23 | exact cr_24 | exact cr_25 | exact cr_26 | exact cr_27 | exact cr_28 | exact cr_29 | exact cr_30 | assumption)) rfl rfl rfl (Nat.le_of_ble_eq_true rfl) ?_
          refine zr_isub dX1_markedInCard_31 (rfl : 31 + 1 = 32) (by first | exact jI_sub _ _ | rfl) ?_
          refine zr_iadd dX1_markedInCard_32 (rfl : 32 + 1 = 33) (by first | exact jI_add _ _ | rfl) ?_
          refine zr_istore_n (lv' := [_, _, _, _, _]) dX1_markedInCard_33 (rfl : 33 + 1 = 34) (Nat.le_of_ble_eq_true rfl) rfl ?_
          refine zr_iinc (lv' := [_, _, _, _, _]) dX1_markedInCard_34 (rfl : 34 + 3 = 37) (Nat.le_of_ble_eq_true rfl) rfl (by first | exact jI_add _ _ | rfl) rfl ?_
          refine zr_goto (tgt := 7) dX1_markedInCard_37 (by decide) ?_
          refine zr_iload dX1_markedInCard_7 (rfl : 7 + 2 = 9) rfl ?_
          refine zr_iload_n dX1_markedInCard_9 (rfl : 9 + 1 = 10) rfl ?_
          refine zr_iconst dX1_markedInCard_10 (rfl : 10 + 1 = 11) ?_
          refine zr_imul dX1_markedInCard_11 (rfl : 11 + 1 = 12) (by first | exact jI_mul _ _ | rfl) ?_
          refine zr_iconst dX1_markedInCard_12 (rfl : 12 + 1 = 13) ?_
          refine zr_iadd dX1_markedInCard_13 (rfl : 13 + 1 = 14) (by first | exact jI_add _ _ | rfl) ?_
          refine zr_icmp_ge (tgt := 40) dX1_markedInCard_14 (by decide) (rfl : 14 + 3 = 17) (jI_le (by first | omega | (simp only [bset, reduceIte, Nat.reduceEqDiff]; omega)) (by first | omega | (simp only [bset, reduceIte, Nat.reduceEqDiff]; omega)) (by first | omega | (simp only [bset, reduceIte, Nat.reduceEqDiff]; omega)) (by first | omega | (simp only [bset, reduceIte, Nat.reduceEqDiff]; omega))) (fun h14 => ?_) (fun h14 => ?_)
          · first
            | (exfalso; omega)
            | (
              refine zr_iload_n dX1_markedInCard_40 (rfl : 40 + 1 = 41) rfl ?_
              refine zr_iret dX1_markedInCard_41 rfl rfl ?_ rfl rfl rfl
              unfold jmc
              rw [show (0 + (jrs (B 0) (c * 3) - jur (B 0) mk (c * 3)) : Int) = (jrs (B 0) (c * 3) - jur (B 0) mk (c * 3)) by omega])
          · first
            | (exfalso; omega)
            | (
              refine zr_iload_n dX1_markedInCard_17 (rfl : 17 + 1 = 18) rfl ?_
              refine zr_aload_n dX1_markedInCard_18 (rfl : 18 + 1 = 19) rfl ?_
              refine zr_iload dX1_markedInCard_19 (rfl : 19 + 2 = 21) rfl ?_
              refine zr_fnV dX1_markedInCard_21 (rfl : 21 + 3 = 24) l_X1_46 (s_rowSize _ (by first | omega | (simp only [bset, reduceIte, Nat.reduceEqDiff]; omega)) hP) (by first | assumption | exact mw_167 | exact mw_168 | exact mw_169 | exact mw_170 | exact bk_0 | exact bk_1 | exact bk_2 | exact bk_3 | exact bk_4 | exact bk_5 | exact bk_6 | exact bk_7 | exact bk_8 | exact bk_9 | exact bk_10 | exact bk_11 | exact bk_12 | exact bk_13 | exact bk_14 | exact bk_15 | exact bk_16 | exact zup_self | exact (zup_ne (by first | assumption | omega)).trans (by first | assumption | exact zup_self) | exact (zup_ne (by first | assumption | omega)).trans ((zup_ne (by first | assumption | omega)).trans (by first | assumption | exact zup_self)) | exact (bk_out (by first | omega | (simp only [bset, reduceIte, Nat.reduceEqDiff]; omega))).trans (by first | exact bk_0 | exact bk_1 | exact bk_2 | exact bk_3 | exact bk_4 | exact bk_5 | exact bk_6 | exact bk_7 | exact bk_8 | exact bk_9 | exact bk_10 | exact bk_11 | exact bk_12 | exact bk_13 | exact bk_14 | exact bk_15 | exact bk_16 | exact cr_5 | exact cr_23 | exact cr_24 | exact cr_25 | exact cr_26 | exact cr_27 | exact cr_28 | exact cr_29 | exact cr_30 | assumption)) rfl rfl rfl (Nat.le_of_ble_eq_true rfl) ?_
              refine zr_aload_n dX1_markedInCard_24 (rfl : 24 + 1 = 25) rfl ?_
              refine zr_iload dX1_markedInCard_25 (rfl : 25 + 2 = 27) rfl ?_
              refine zr_aload_n dX1_markedInCard_27 (rfl : 27 + 1 = 28) rfl ?_
              refine zr_fnV dX1_markedInCard_28 (rfl : 28 + 3 = 31) l_X1_63 (s_unmarkedInRow _ (by first | omega | (simp only [bset, reduceIte, Nat.reduceEqDiff]; omega)) hP hm hmk) (by first | assumption | exact mw_167 | exact mw_168 | exact mw_169 | exact mw_170 | exact bk_0 | exact bk_1 | exact bk_2 | exact bk_3 | exact bk_4 | exact bk_5 | exact bk_6 | exact bk_7 | exact bk_8 | exact bk_9 | exact bk_10 | exact bk_11 | exact bk_12 | exact bk_13 | exact bk_14 | exact bk_15 | exact bk_16 | exact zup_self | exact (zup_ne (by first | assumption | omega)).trans (by first | assumption | exact zup_self) | exact (zup_ne (by first | assumption | omega)).trans ((zup_ne (by first | assumption | omega)).trans (by first | assumption | exact zup_self)) | exact (bk_out (by first | omega | (simp only [bset, reduceIte, Nat.reduceEqDiff]; omega))).trans (by first | exact bk_0 | exact bk_1 | exact bk_2 | exact bk_3 | exact bk_4 | exact bk_5 | exact bk_6 | exact bk_7 | exact bk_8 | exact bk_9 | exact bk_10 | exact bk_11 | exact bk_12 | exact bk_13 | exact bk_14 | exact bk_15 | exact bk_16 | exact cr_5 | exact cr_23 | exact cr_24 | exact cr_25 | exact cr_26 | exact cr_27 | exact cr_28 | exact cr_29 | exact cr_30 | assumption)) rfl rfl rfl (Nat.le_of_ble_eq_true rfl) ?_
              refine zr_isub dX1_markedInCard_31 (rfl : 31 + 1 = 32) (by first | exact jI_sub _ _ | rfl) ?_
              refine zr_iadd dX1_markedInCard_32 (rfl : 32 + 1 = 33) (by first | exact jI_add _ _ | rfl) ?_
              refine zr_istore_n (lv' := [_, _, _, _, _]) dX1_markedInCard_33 (rfl : 33 + 1 = 34) (Nat.le_of_ble_eq_true rfl) rfl ?_
              refine zr_iinc (lv' := [_, _, _, _, _]) dX1_markedInCard_34 (rfl : 34 + 3 = 37) (Nat.le_of_ble_eq_true rfl) rfl (by first | exact jI_add _ _ | rfl) rfl ?_
              refine zr_goto (tgt := 7) dX1_markedInCard_37 (by decide) ?_
              refine zr_iload dX1_markedInCard_7 (rfl : 7 + 2 = 9) rfl ?_
              refine zr_iload_n dX1_markedInCard_9 (rfl : 9 + 1 = 10) rfl ?_
              refine zr_iconst dX1_markedInCard_10 (rfl : 10 + 1 = 11) ?_
              refine zr_imul dX1_markedInCard_11 (rfl : 11 + 1 = 12) (by first | exact jI_mul _ _ | rfl) ?_
              refine zr_iconst dX1_markedInCard_12 (rfl : 12 + 1 = 13) ?_
              refine zr_iadd dX1_markedInCard_13 (rfl : 13 + 1 = 14) (by first | exact jI_add _ _ | rfl) ?_
              refine zr_icmp_ge (tgt := 40) dX1_markedInCard_14 (by decide) (rfl : 14 + 3 = 17) (jI_le (by first | omega | (simp only [bset, reduceIte, Nat.reduceEqDiff]; omega)) (by first | omega | (simp only [bset, reduceIte, Nat.reduceEqDiff]; omega)) (by first | omega | (simp only [bset, reduceIte, Nat.reduceEqDiff]; omega)) (by first | omega | (simp only [bset, reduceIte, Nat.reduceEqDiff]; omega))) (fun h14 => ?_) (fun h14 => ?_)
              · first
                | (exfalso; omega)
                | (
                  refine zr_iload_n dX1_markedInCard_40 (rfl : 40 + 1 = 41) rfl ?_
                  refine zr_iret dX1_markedInCard_41 rfl rfl ?_ rfl rfl rfl
                  unfold jmc
                  rw [show (0 + (jrs (B 0) (c * 3) - jur (B 0) mk (c * 3)) : Int) = (jrs (B 0) (c * 3) - jur (B 0) mk (c * 3)) by omega])
              · first
                | (exfalso; omega)
                | (
                  refine zr_iload_n dX1_markedInCard_17 (rfl : 17 + 1 = 18) rfl ?_
                  refine zr_aload_n dX1_markedInCard_18 (rfl : 18 + 1 = 19) rfl ?_
                  refine zr_iload dX1_markedInCard_19 (rfl : 19 + 2 = 21) rfl ?_
                  refine zr_fnV dX1_markedInCard_21 (rfl : 21 + 3 = 24) l_X1_46 (s_rowSize _ (by first | omega | (simp only [bset, reduceIte, Nat.reduceEqDiff]; omega)) hP) (by first | assumption | exact mw_167 | exact mw_168 | exact mw_169 | exact mw_170 | exact bk_0 | exact bk_1 | exact bk_2 | exact bk_3 | exact bk_4 | exact bk_5 | exact bk_6 | exact bk_7 | exact bk_8 | exact bk_9 | exact bk_10 | exact bk_11 | exact bk_12 | exact bk_13 | exact bk_14 | exact bk_15 | exact bk_16 | exact zup_self | exact (zup_ne (by first | assumption | omega)).trans (by first | assumption | exact zup_self) | exact (zup_ne (by first | assumption | omega)).trans ((zup_ne (by first | assumption | omega)).trans (by first | assumption | exact zup_self)) | exact (bk_out (by first | omega | (simp only [bset, reduceIte, Nat.reduceEqDiff]; omega))).trans (by first | exact bk_0 | exact bk_1 | exact bk_2 | exact bk_3 | exact bk_4 | exact bk_5 | exact bk_6 | exact bk_7 | exact bk_8 | exact bk_9 | exact bk_10 | exact bk_11 | exact bk_12 | exact bk_13 | exact bk_14 | exact bk_15 | exact bk_16 | exact cr_5 | exact cr_23 | exact cr_24 | exact cr_25 | exact cr_26 | exact cr_27 | exact cr_28 | exact cr_29 | exact cr_30 | assumption)) rfl rfl rfl (Nat.le_of_ble_eq_true rfl) ?_
                  refine zr_aload_n dX1_markedInCard_24 (rfl : 24 + 1 = 25) rfl ?_
                  refine zr_iload dX1_markedInCard_25 (rfl : 25 + 2 = 27) rfl ?_
                  refine zr_aload_n dX1_markedInCard_27 (rfl : 27 + 1 = 28) rfl ?_
                  refine zr_fnV dX1_markedInCard_28 (rfl : 28 + 3 = 31) l_X1_63 (s_unmarkedInRow _ (by first | omega | (simp only [bset, reduceIte, Nat.reduceEqDiff]; omega)) hP hm hmk) (by first | assumption | exact mw_167 | exact mw_168 | exact mw_169 | exact mw_170 | exact bk_0 | exact bk_1 | exact bk_2 | exact bk_3 | exact bk_4 | exact bk_5 | exact bk_6 | exact bk_7 | exact bk_8 | exact bk_9 | exact bk_10 | exact bk_11 | exact bk_12 | exact bk_13 | exact bk_14 | exact bk_15 | exact bk_16 | exact zup_self | exact (zup_ne (by first | assumption | omega)).trans (by first | assumption | exact zup_self) | exact (zup_ne (by first | assumption | omega)).trans ((zup_ne (by first | assumption | omega)).trans (by first | assumption | exact zup_self)) | exact (bk_out (by first | omega | (simp only [bset, reduceIte, Nat.reduceEqDiff]; omega))).trans (by first | exact bk_0 | exact bk_1 | exact bk_2 | exact bk_3 | exact bk_4 | exact bk_5 | exact bk_6 | exact bk_7 | exact bk_8 | exact bk_9 | exact bk_10 | exact bk_11 | exact bk_12 | exact bk_13 | exact bk_14 | exact bk_15 | exact bk_16 | exact cr_5 | exact cr_23 | exact cr_24 | exact cr_25 | exact cr_26 | exact cr_27 | exact cr_28 | exact cr_29 | exact cr_30 | assumption)) rfl rfl rfl (Nat.le_of_ble_eq_true rfl) ?_
                  refine zr_isub dX1_markedInCard_31 (rfl : 31 + 1 = 32) (by first | exact jI_sub _ _ | rfl) ?_
                  refine zr_iadd dX1_markedInCard_32 (rfl : 32 + 1 = 33) (by first | exact jI_add _ _ | rfl) ?_
                  refine zr_istore_n (lv' := [_, _, _, _, _]) dX1_markedInCard_33 (rfl : 33 + 1 = 34) (Nat.le_of_ble_eq_true rfl) rfl ?_
                  refine zr_iinc (lv' := [_, _, _, _, _]) dX1_markedInCard_34 (rfl : 34 + 3 = 37) (Nat.le_of_ble_eq_true rfl) rfl (by first | exact jI_add _ _ | rfl) rfl ?_
                  refine zr_goto (tgt := 7) dX1_markedInCard_37 (by decide) ?_
                  exfalso; omega))))
theorem s_isLine (r : Int) (hr : 0 ≤ r ∧ r < 18) (hP : ∀ z, 0 ≤ B 0 z ∧ B 0 z ≤ 90) (hm : bk b B w ma = some (zia 91 mk)) (hmk : ∀ z, 0 ≤ mk z ∧ mk z < 2147483648) : zFn Γ md_X1_isLine (d + 2) [.ref (b + 1), .int (jI r), .ref ma] (bk b B w) (some (.int (jI (jb (jisl (B 0) mk r))))) (bk b B w) := by
  refine zFn.of_run (lv := [some (.ref (b + 1)), some (.int (jI r)), some (.ref ma)]) (by decide) rfl (Nat.le_of_ble_eq_true rfl) rfl (fun n9 g9 => ?_)
  have h1 := jrs_r (B 0) r
  have h2 := jur_r (B 0) mk r
  refine zr_aload_n dX1_isLine_0 (rfl : 0 + 1 = 1) rfl ?_
  refine zr_iload_n dX1_isLine_1 (rfl : 1 + 1 = 2) rfl ?_
  refine zr_fnV dX1_isLine_2 (rfl : 2 + 3 = 5) l_X1_46 (s_rowSize _ (by first | omega | (simp only [bset, reduceIte, Nat.reduceEqDiff]; omega)) hP) (by first | assumption | exact mw_167 | exact mw_168 | exact mw_169 | exact mw_170 | exact bk_0 | exact bk_1 | exact bk_2 | exact bk_3 | exact bk_4 | exact bk_5 | exact bk_6 | exact bk_7 | exact bk_8 | exact bk_9 | exact bk_10 | exact bk_11 | exact bk_12 | exact bk_13 | exact bk_14 | exact bk_15 | exact bk_16 | exact zup_self | exact (zup_ne (by first | assumption | omega)).trans (by first | assumption | exact zup_self) | exact (zup_ne (by first | assumption | omega)).trans ((zup_ne (by first | assumption | omega)).trans (by first | assumption | exact zup_self)) | exact (bk_out (by first | omega | (simp only [bset, reduceIte, Nat.reduceEqDiff]; omega))).trans (by first | exact bk_0 | exact bk_1 | exact bk_2 | exact bk_3 | exact bk_4 | exact bk_5 | exact bk_6 | exact bk_7 | exact bk_8 | exact bk_9 | exact bk_10 | exact bk_11 | exact bk_12 | exact bk_13 | exact bk_14 | exact bk_15 | exact bk_16 | exact cr_5 | exact cr_23 | exact cr_24 | exact cr_25 | exact cr_26 | exact cr_27 | exact cr_28 | exact cr_29 | exact cr_30 | assumption)) rfl rfl rfl (Nat.le_of_ble_eq_true rfl) ?_
  refine zr_iconst dX1_isLine_5 (rfl : 5 + 1 = 6) ?_
  refine zr_icmp_ne (tgt := 22) dX1_isLine_6 (by decide) (rfl : 6 + 3 = 9) (jI_eq (by first | omega | (simp only [bset, reduceIte, Nat.reduceEqDiff]; omega)) (by first | omega | (simp only [bset, reduceIte, Nat.reduceEqDiff]; omega)) (by first | omega | (simp only [bset, reduceIte, Nat.reduceEqDiff]; omega)) (by first | omega | (simp only [bset, reduceIte, Nat.reduceEqDiff]; omega))) (fun h6 => ?_) (fun h6 => ?_)
  · first
    | (exfalso; omega)
    | (
      refine zr_iconst dX1_isLine_22 (rfl : 22 + 1 = 23) ?_
      refine zr_iret dX1_isLine_23 rfl (by first | exact jb_nar | rfl) ?_ rfl rfl rfl
      first | rfl | rw [jb_pos (by first | assumption | omega)] | rw [jb_neg (by first | assumption | omega)] | rw [if_pos (by first | assumption | omega)] | rw [if_neg (by first | assumption | omega)])
  · first
    | (exfalso; omega)
    | (
      refine zr_aload_n dX1_isLine_9 (rfl : 9 + 1 = 10) rfl ?_
      refine zr_iload_n dX1_isLine_10 (rfl : 10 + 1 = 11) rfl ?_
      refine zr_aload_n dX1_isLine_11 (rfl : 11 + 1 = 12) rfl ?_
      refine zr_fnV dX1_isLine_12 (rfl : 12 + 3 = 15) l_X1_63 (s_unmarkedInRow _ (by first | omega | (simp only [bset, reduceIte, Nat.reduceEqDiff]; omega)) hP hm hmk) (by first | assumption | exact mw_167 | exact mw_168 | exact mw_169 | exact mw_170 | exact bk_0 | exact bk_1 | exact bk_2 | exact bk_3 | exact bk_4 | exact bk_5 | exact bk_6 | exact bk_7 | exact bk_8 | exact bk_9 | exact bk_10 | exact bk_11 | exact bk_12 | exact bk_13 | exact bk_14 | exact bk_15 | exact bk_16 | exact zup_self | exact (zup_ne (by first | assumption | omega)).trans (by first | assumption | exact zup_self) | exact (zup_ne (by first | assumption | omega)).trans ((zup_ne (by first | assumption | omega)).trans (by first | assumption | exact zup_self)) | exact (bk_out (by first | omega | (simp only [bset, reduceIte, Nat.reduceEqDiff]; omega))).trans (by first | exact bk_0 | exact bk_1 | exact bk_2 | exact bk_3 | exact bk_4 | exact bk_5 | exact bk_6 | exact bk_7 | exact bk_8 | exact bk_9 | exact bk_10 | exact bk_11 | exact bk_12 | exact bk_13 | exact bk_14 | exact bk_15 | exact bk_16 | exact cr_5 | exact cr_23 | exact cr_24 | exact cr_25 | exact cr_26 | exact cr_27 | exact cr_28 | exact cr_29 | exact cr_30 | assumption)) rfl rfl rfl (Nat.le_of_ble_eq_true rfl) ?_
      refine zr_if_ne (tgt := 22) dX1_isLine_15 (by decide) (rfl : 15 + 3 = 18) (by first | exact jb_iff | exact jI_z (by first | omega | (simp only [bset, reduceIte, Nat.reduceEqDiff]; omega)) (by first | omega | (simp only [bset, reduceIte, Nat.reduceEqDiff]; omega))) (fun h15 => ?_) (fun h15 => ?_)
      · first
        | (exfalso; omega)
        | (
          refine zr_iconst dX1_isLine_22 (rfl : 22 + 1 = 23) ?_
          refine zr_iret dX1_isLine_23 rfl (by first | exact jb_nar | rfl) ?_ rfl rfl rfl
          first | rfl | rw [jb_pos (by first | assumption | omega)] | rw [jb_neg (by first | assumption | omega)] | rw [if_pos (by first | assumption | omega)] | rw [if_neg (by first | assumption | omega)])
      · first
        | (exfalso; omega)
        | (
          refine zr_iconst dX1_isLine_18 (rfl : 18 + 1 = 19) ?_
          refine zr_goto (tgt := 23) dX1_isLine_19 (by decide) ?_
          refine zr_iret dX1_isLine_23 rfl (by first | exact jb_nar | rfl) ?_ rfl rfl rfl
          first | rfl | rw [jb_pos (by first | assumption | omega)] | rw [jb_neg (by first | assumption | omega)] | rw [if_pos (by first | assumption | omega)] | rw [if_neg (by first | assumption | omega)]))
/-- the lines of a card -/
def jln (P mk : Int → Int) (c : Int) : Int := jcnt 3 (fun k => decide (jisl P mk (c * 3 + k)))
theorem s_linesOf (c : Int) (hc : 0 ≤ c ∧ c < 6) (hP : ∀ z, 0 ≤ B 0 z ∧ B 0 z ≤ 90) (hm : bk b B w ma = some (zia 91 mk)) (hmk : ∀ z, 0 ≤ mk z ∧ mk z < 2147483648) : zFn Γ md_X1_linesOf (d + 3) [.ref (b + 1), .int (jI c), .ref ma] (bk b B w) (some (.int (jI (jln (B 0) mk c)))) (bk b B w) := by
  refine zFn.of_run (lv := [some (.ref (b + 1)), some (.int (jI c)), some (.ref ma), none, none]) (by decide) rfl (Nat.le_of_ble_eq_true rfl) rfl (fun n9 g9 => ?_)
  refine zr_iconst dX1_linesOf_0 (rfl : 0 + 1 = 1) ?_
  refine zr_istore_n (lv' := [_, _, _, _, _]) dX1_linesOf_1 (rfl : 1 + 1 = 2) (Nat.le_of_ble_eq_true rfl) rfl ?_
  refine zr_iload_n dX1_linesOf_2 (rfl : 2 + 1 = 3) rfl ?_
  refine zr_iconst dX1_linesOf_3 (rfl : 3 + 1 = 4) ?_
  refine zr_imul dX1_linesOf_4 (rfl : 4 + 1 = 5) (by first | exact jI_mul _ _ | rfl) ?_
  refine zr_istore (lv' := [_, _, _, _, _]) dX1_linesOf_5 (rfl : 5 + 2 = 7) (Nat.le_of_ble_eq_true rfl) rfl ?_
  refine zfor1 (c * 3) 3 (fun j m => m = jcnt (j - c * 3).toNat (fun k => decide (jisl (B 0) mk (c * 3 + k)))) (fun i m => [some (.ref (b + 1)), some (.int (jI c)), some (.ref ma), some (.int (jI m)), some (.int (jI i))]) (fun _ _ => bk b B w) 0 (by rw [Int.sub_self]; rfl) ?_ ?_
  · intro j m h0 h9 hm2 hk
    have hj := jcnt_next (q := fun k => decide (jisl (B 0) mk (c * 3 + k))) (i := j - c * 3) (by omega)
    rw [show c * 3 + (j - c * 3) = j by omega] at hj
    refine zr_iload dX1_linesOf_7 (rfl : 7 + 2 = 9) rfl ?_
    refine zr_iload_n dX1_linesOf_9 (rfl : 9 + 1 = 10) rfl ?_
    refine zr_iconst dX1_linesOf_10 (rfl : 10 + 1 = 11) ?_
    refine zr_imul dX1_linesOf_11 (rfl : 11 + 1 = 12) (by first | exact jI_mul _ _ | rfl) ?_
    refine zr_iconst dX1_linesOf_12 (rfl : 12 + 1 = 13) ?_
    refine zr_iadd dX1_linesOf_13 (rfl : 13 + 1 = 14) (by first | exact jI_add _ _ | rfl) ?_
    refine zr_icmp_ge (tgt := 41) dX1_linesOf_14 (by decide) (rfl : 14 + 3 = 17) (jI_le (by first | omega | (simp only [bset, reduceIte, Nat.reduceEqDiff]; omega)) (by first | omega | (simp only [bset, reduceIte, Nat.reduceEqDiff]; omega)) (by first | omega | (simp only [bset, reduceIte, Nat.reduceEqDiff]; omega)) (by first | omega | (simp only [bset, reduceIte, Nat.reduceEqDiff]; omega))) (fun h14 => ?_) (fun h14 => ?_)
    · first
      | (exfalso; omega)
      | (
        refine zr_iload_n dX1_linesOf_41 (rfl : 41 + 1 = 42) rfl ?_
        refine zr_iret dX1_linesOf_42 rfl rfl ?_ rfl rfl rfl
        first | rfl | rw [jb_pos (by first | assumption | omega)] | rw [jb_neg (by first | assumption | omega)] | rw [if_pos (by first | assumption | omega)] | rw [if_neg (by first | assumption | omega)])
    · first
      | (exfalso; omega)
      | (
        refine zr_iload_n dX1_linesOf_17 (rfl : 17 + 1 = 18) rfl ?_
        refine zr_aload_n dX1_linesOf_18 (rfl : 18 + 1 = 19) rfl ?_
        refine zr_iload dX1_linesOf_19 (rfl : 19 + 2 = 21) rfl ?_
        refine zr_aload_n dX1_linesOf_21 (rfl : 21 + 1 = 22) rfl ?_
        refine zr_fnV dX1_linesOf_22 (rfl : 22 + 3 = 25) l_X1_67 (s_isLine _ (by first | omega | (simp only [bset, reduceIte, Nat.reduceEqDiff]; omega)) hP hm hmk) (by first | assumption | exact mw_167 | exact mw_168 | exact mw_169 | exact mw_170 | exact bk_0 | exact bk_1 | exact bk_2 | exact bk_3 | exact bk_4 | exact bk_5 | exact bk_6 | exact bk_7 | exact bk_8 | exact bk_9 | exact bk_10 | exact bk_11 | exact bk_12 | exact bk_13 | exact bk_14 | exact bk_15 | exact bk_16 | exact zup_self | exact (zup_ne (by first | assumption | omega)).trans (by first | assumption | exact zup_self) | exact (zup_ne (by first | assumption | omega)).trans ((zup_ne (by first | assumption | omega)).trans (by first | assumption | exact zup_self)) | exact (bk_out (by first | omega | (simp only [bset, reduceIte, Nat.reduceEqDiff]; omega))).trans (by first | exact bk_0 | exact bk_1 | exact bk_2 | exact bk_3 | exact bk_4 | exact bk_5 | exact bk_6 | exact bk_7 | exact bk_8 | exact bk_9 | exact bk_10 | exact bk_11 | exact bk_12 | exact bk_13 | exact bk_14 | exact bk_15 | exact bk_16 | exact cr_5 | exact cr_23 | exact cr_24 | exact cr_25 | exact cr_26 | exact cr_27 | exact cr_28 | exact cr_29 | exact cr_30 | assumption)) rfl rfl rfl (Nat.le_of_ble_eq_true rfl) ?_
        refine zr_if_eq (tgt := 32) dX1_linesOf_25 (by decide) (rfl : 25 + 3 = 28) (by first | exact jb_iff | exact jI_z (by first | omega | (simp only [bset, reduceIte, Nat.reduceEqDiff]; omega)) (by first | omega | (simp only [bset, reduceIte, Nat.reduceEqDiff]; omega))) (fun h25 => ?_) (fun h25 => ?_)
        · first
          | (exfalso; omega)
          | (
            refine zr_iconst dX1_linesOf_32 (rfl : 32 + 1 = 33) ?_
            refine zr_iadd dX1_linesOf_33 (rfl : 33 + 1 = 34) (by first | exact jI_add _ _ | rfl) ?_
            refine zr_istore_n (lv' := [_, _, _, _, _]) dX1_linesOf_34 (rfl : 34 + 1 = 35) (Nat.le_of_ble_eq_true rfl) rfl ?_
            refine zr_iinc (lv' := [_, _, _, _, _]) dX1_linesOf_35 (rfl : 35 + 3 = 38) (Nat.le_of_ble_eq_true rfl) rfl (by first | exact jI_add _ _ | rfl) rfl ?_
            refine zr_goto (tgt := 7) dX1_linesOf_38 (by decide) ?_
            refine hk _ ?_
            rw [show j + 1 - c * 3 = j - c * 3 + 1 by omega, hj, hm2]
            first | rw [jb_pos (by simpa using h25)] | rw [jb_neg (by simpa using h25)])
        · first
          | (exfalso; omega)
          | (
            refine zr_iconst dX1_linesOf_28 (rfl : 28 + 1 = 29) ?_
            refine zr_goto (tgt := 33) dX1_linesOf_29 (by decide) ?_
            refine zr_iadd dX1_linesOf_33 (rfl : 33 + 1 = 34) (by first | exact jI_add _ _ | rfl) ?_
            refine zr_istore_n (lv' := [_, _, _, _, _]) dX1_linesOf_34 (rfl : 34 + 1 = 35) (Nat.le_of_ble_eq_true rfl) rfl ?_
            refine zr_iinc (lv' := [_, _, _, _, _]) dX1_linesOf_35 (rfl : 35 + 3 = 38) (Nat.le_of_ble_eq_true rfl) rfl (by first | exact jI_add _ _ | rfl) rfl ?_
            refine zr_goto (tgt := 7) dX1_linesOf_38 (by decide) ?_
            refine hk _ ?_
            rw [show j + 1 - c * 3 = j - c * 3 + 1 by omega, hj, hm2]
            first | rw [jb_pos (by simpa using h25)] | rw [jb_neg (by simpa using h25)]))
  · intro m hm2
    refine zr_iload dX1_linesOf_7 (rfl : 7 + 2 = 9) rfl ?_
    refine zr_iload_n dX1_linesOf_9 (rfl : 9 + 1 = 10) rfl ?_
    refine zr_iconst dX1_linesOf_10 (rfl : 10 + 1 = 11) ?_
    refine zr_imul dX1_linesOf_11 (rfl : 11 + 1 = 12) (by first | exact jI_mul _ _ | rfl) ?_
    refine zr_iconst dX1_linesOf_12 (rfl : 12 + 1 = 13) ?_
    refine zr_iadd dX1_linesOf_13 (rfl : 13 + 1 = 14) (by first | exact jI_add _ _ | rfl) ?_
    refine zr_icmp_ge (tgt := 41) dX1_linesOf_14 (by decide) (rfl : 14 + 3 = 17) (jI_le (by first | omega | (simp only [bset, reduceIte, Nat.reduceEqDiff]; omega)) (by first | omega | (simp only [bset, reduceIte, Nat.reduceEqDiff]; omega)) (by first | omega | (simp only [bset, reduceIte, Nat.reduceEqDiff]; omega)) (by first | omega | (simp only [bset, reduceIte, Nat.reduceEqDiff]; omega))) (fun h14 => ?_) (fun h14 => ?_)
    · first
      | (exfalso; omega)
      | (
        refine zr_iload_n dX1_linesOf_41 (rfl : 41 + 1 = 42) rfl ?_
        refine zr_iret dX1_linesOf_42 rfl rfl ?_ rfl rfl rfl
        rw [hm2, show c * 3 + ((3 : Nat) : Int) - c * 3 = 3 by omega]; rfl)
    · first
      | (exfalso; omega)
      | (
        refine zr_iload_n dX1_linesOf_17 (rfl : 17 + 1 = 18) rfl ?_
        refine zr_aload_n dX1_linesOf_18 (rfl : 18 + 1 = 19) rfl ?_
        refine zr_iload dX1_linesOf_19 (rfl : 19 + 2 = 21) rfl ?_
        refine zr_aload_n dX1_linesOf_21 (rfl : 21 + 1 = 22) rfl ?_
        exfalso; omega)
theorem s_corner (c k : Int) (hc : 0 ≤ c ∧ c < 6) (hk4 : 0 ≤ k ∧ k < 4) (hP : ∀ z, 0 ≤ B 0 z ∧ B 0 z ≤ 90) : zFn Γ md_X1_corner d [.ref (b + 1), .int (jI c), .int (jI k)] (bk b B w) (some (.int (jI (jcor (B 0) c k)))) (bk b B w) := by
  refine zFn.of_run (lv := [some (.ref (b + 1)), some (.int (jI c)), some (.int (jI k)), none, none, none, none]) (by decide) rfl (Nat.le_of_ble_eq_true rfl) rfl (fun n9 g9 => ?_)
  have key : ∀ x : Int, x = (if k < 2 then 0 else 2) → zRun Γ md_X1_corner d none 18 [some (.ref (b + 1)), some (.int (jI c)), some (.int (jI k)), some (.int (jI (c * 3 + x))), some (.int (jI 0)), none, none] [] (n9, g9, 0, 0) (bk b B w) (zDone md_X1_corner (some (.int (jI (jcor (B 0) c k)))) (bk b B w) n9 g9) := by
    intro x hx
    have hx2 : 0 ≤ x ∧ x ≤ 2 := by rw [hx]; split <;> omega
    unfold jcor
    rw [← hx]
    refine zfor2 0 9 (fun i _ _ => ∀ i' : Int, 0 ≤ i' → i' < i → B 0 ((c * 3 + x) * 9 + (if k % 2 = 0 then i' else 8 - i')) = 0) (fun i o5 o6 => [some (.ref (b + 1)), some (.int (jI c)), some (.int (jI k)), some (.int (jI (c * 3 + x))), some (.int (jI i)), o5, o6]) (fun _ _ _ => bk b B w) none none (fun i' h1 h2 => by omega) ?_ ?_
    · intro i o5 o6 h0 h9 hI hk
      have hp1 := hP ((c * 3 + x) * 9 + i)
      have hp2 := hP ((c * 3 + x) * 9 + (8 - i))
      refine zr_iload dX1_corner_18 (rfl : 18 + 2 = 20) rfl ?_
      refine zr_bipush dX1_corner_20 (rfl : 20 + 2 = 22) (by decide) ?_
      refine zr_icmp_ge (tgt := 71) dX1_corner_22 (by decide) (rfl : 22 + 3 = 25) (jI_le (by first | omega | (simp only [bset, reduceIte, Nat.reduceEqDiff]; omega)) (by first | omega | (simp only [bset, reduceIte, Nat.reduceEqDiff]; omega)) (by first | omega | (simp only [bset, reduceIte, Nat.reduceEqDiff]; omega)) (by first | omega | (simp only [bset, reduceIte, Nat.reduceEqDiff]; omega))) (fun h22 => ?_) (fun h22 => ?_)
      · first
        | (exfalso; omega)
        | (
          refine zr_iconst dX1_corner_71 (rfl : 71 + 1 = 72) ?_
          refine zr_iret dX1_corner_72 rfl rfl ?_ rfl rfl rfl
          rw [jfst_at (k := i) h0 h9 ?_ hI]
          · first | rw [if_pos (by omega)] | rw [if_neg (by omega)]
          · first | (rw [if_pos (by omega)]; omega) | (rw [if_neg (by omega)]; omega))
      · first
        | (exfalso; omega)
        | (
          refine zr_iload_n dX1_corner_25 (rfl : 25 + 1 = 26) rfl ?_
          refine zr_iconst dX1_corner_26 (rfl : 26 + 1 = 27) ?_
          refine zr_irem dX1_corner_27 (rfl : 27 + 1 = 28) (fun q => absurd ((jI_z (by first | omega | (simp only [bset, reduceIte, Nat.reduceEqDiff]; omega)) (by first | omega | (simp only [bset, reduceIte, Nat.reduceEqDiff]; omega))).mp q) (by first | omega | (simp only [bset, reduceIte, Nat.reduceEqDiff]; omega))) (jI_rem (by first | omega | (simp only [bset, reduceIte, Nat.reduceEqDiff]; omega)) (by first | omega | (simp only [bset, reduceIte, Nat.reduceEqDiff]; omega)) (by first | omega | (simp only [bset, reduceIte, Nat.reduceEqDiff]; omega)) (by first | omega | (simp only [bset, reduceIte, Nat.reduceEqDiff]; omega))) ?_
          refine zr_if_ne (tgt := 36) dX1_corner_28 (by decide) (rfl : 28 + 3 = 31) (by first | exact jb_iff | exact jI_z (by first | omega | (simp only [bset, reduceIte, Nat.reduceEqDiff]; omega)) (by first | omega | (simp only [bset, reduceIte, Nat.reduceEqDiff]; omega))) (fun h28 => ?_) (fun h28 => ?_)
          · first
            | (exfalso; omega)
            | (
              refine zr_bipush dX1_corner_36 (rfl : 36 + 2 = 38) (by decide) ?_
              refine zr_iload dX1_corner_38 (rfl : 38 + 2 = 40) rfl ?_
              refine zr_isub dX1_corner_40 (rfl : 40 + 1 = 41) (by first | exact jI_sub _ _ | rfl) ?_
              refine zr_istore (lv' := [_, _, _, _, _, _, _]) dX1_corner_41 (rfl : 41 + 2 = 43) (Nat.le_of_ble_eq_true rfl) rfl ?_
              refine zr_aload_n dX1_corner_43 (rfl : 43 + 1 = 44) rfl ?_
              refine zr_getf dX1_corner_44 (rfl : 44 + 3 = 47) f_X1_9 (by first | assumption | exact mw_167 | exact mw_168 | exact mw_169 | exact mw_170 | exact bk_0 | exact bk_1 | exact bk_2 | exact bk_3 | exact bk_4 | exact bk_5 | exact bk_6 | exact bk_7 | exact bk_8 | exact bk_9 | exact bk_10 | exact bk_11 | exact bk_12 | exact bk_13 | exact bk_14 | exact bk_15 | exact bk_16 | exact zup_self | exact (zup_ne (by first | assumption | omega)).trans (by first | assumption | exact zup_self) | exact (zup_ne (by first | assumption | omega)).trans ((zup_ne (by first | assumption | omega)).trans (by first | assumption | exact zup_self)) | exact (bk_out (by first | omega | (simp only [bset, reduceIte, Nat.reduceEqDiff]; omega))).trans (by first | exact bk_0 | exact bk_1 | exact bk_2 | exact bk_3 | exact bk_4 | exact bk_5 | exact bk_6 | exact bk_7 | exact bk_8 | exact bk_9 | exact bk_10 | exact bk_11 | exact bk_12 | exact bk_13 | exact bk_14 | exact bk_15 | exact bk_16 | exact cr_5 | exact cr_23 | exact cr_24 | exact cr_25 | exact cr_26 | exact cr_27 | exact cr_28 | exact cr_29 | exact cr_30 | assumption)) rfl ?_
              refine zr_iload_n dX1_corner_47 (rfl : 47 + 1 = 48) rfl ?_
              refine zr_bipush dX1_corner_48 (rfl : 48 + 2 = 50) (by decide) ?_
              refine zr_imul dX1_corner_50 (rfl : 50 + 1 = 51) (by first | exact jI_mul _ _ | rfl) ?_
              refine zr_iload dX1_corner_51 (rfl : 51 + 2 = 53) rfl ?_
              refine zr_iadd dX1_corner_53 (rfl : 53 + 1 = 54) (by first | exact jI_add _ _ | rfl) ?_
              refine zr_iald dX1_corner_54 (rfl : 54 + 1 = 55) (by first | assumption | exact mw_167 | exact mw_168 | exact mw_169 | exact mw_170 | exact bk_0 | exact bk_1 | exact bk_2 | exact bk_3 | exact bk_4 | exact bk_5 | exact bk_6 | exact bk_7 | exact bk_8 | exact bk_9 | exact bk_10 | exact bk_11 | exact bk_12 | exact bk_13 | exact bk_14 | exact bk_15 | exact bk_16 | exact zup_self | exact (zup_ne (by first | assumption | omega)).trans (by first | assumption | exact zup_self) | exact (zup_ne (by first | assumption | omega)).trans ((zup_ne (by first | assumption | omega)).trans (by first | assumption | exact zup_self)) | exact (bk_out (by first | omega | (simp only [bset, reduceIte, Nat.reduceEqDiff]; omega))).trans (by first | exact bk_0 | exact bk_1 | exact bk_2 | exact bk_3 | exact bk_4 | exact bk_5 | exact bk_6 | exact bk_7 | exact bk_8 | exact bk_9 | exact bk_10 | exact bk_11 | exact bk_12 | exact bk_13 | exact bk_14 | exact bk_15 | exact bk_16 | exact cr_5 | exact cr_23 | exact cr_24 | exact cr_25 | exact cr_26 | exact cr_27 | exact cr_28 | exact cr_29 | exact cr_30 | assumption)) (by decide) (by first | omega | (simp only [bset, reduceIte, Nat.reduceEqDiff]; omega)) (by first | omega | (simp only [bset, reduceIte, Nat.reduceEqDiff]; omega)) ?_
              refine zr_istore (lv' := [_, _, _, _, _, _, _]) dX1_corner_55 (rfl : 55 + 2 = 57) (Nat.le_of_ble_eq_true rfl) rfl ?_
              refine zr_iload dX1_corner_57 (rfl : 57 + 2 = 59) rfl ?_
              refine zr_if_eq (tgt := 65) dX1_corner_59 (by decide) (rfl : 59 + 3 = 62) (by first | exact jb_iff | exact jI_z (by first | omega | (simp only [bset, reduceIte, Nat.reduceEqDiff]; omega)) (by first | omega | (simp only [bset, reduceIte, Nat.reduceEqDiff]; omega))) (fun h59 => ?_) (fun h59 => ?_)
              · first
                | (exfalso; omega)
                | (
                  refine zr_iinc (lv' := [_, _, _, _, _, _, _]) dX1_corner_65 (rfl : 65 + 3 = 68) (Nat.le_of_ble_eq_true rfl) rfl (by first | exact jI_add _ _ | rfl) rfl ?_
                  refine zr_goto (tgt := 18) dX1_corner_68 (by decide) ?_
                  refine hk _ _ ?_
                  intro i' h1 h2
                  by_cases hi : i' = i
                  · rw [hi]; first | (rw [if_pos (by omega)]; omega) | (rw [if_neg (by omega)]; omega)
                  · exact hI i' h1 (by omega))
              · first
                | (exfalso; omega)
                | (
                  refine zr_iload dX1_corner_62 (rfl : 62 + 2 = 64) rfl ?_
                  refine zr_iret dX1_corner_64 rfl rfl ?_ rfl rfl rfl
                  rw [jfst_at (k := i) h0 h9 ?_ hI]
                  · first | rw [if_pos (by omega)] | rw [if_neg (by omega)]
                  · first | (rw [if_pos (by omega)]; omega) | (rw [if_neg (by omega)]; omega)))
          · first
            | (exfalso; omega)
            | (
              refine zr_iload dX1_corner_31 (rfl : 31 + 2 = 33) rfl ?_
              refine zr_goto (tgt := 41) dX1_corner_33 (by decide) ?_
              refine zr_istore (lv' := [_, _, _, _, _, _, _]) dX1_corner_41 (rfl : 41 + 2 = 43) (Nat.le_of_ble_eq_true rfl) rfl ?_
              refine zr_aload_n dX1_corner_43 (rfl : 43 + 1 = 44) rfl ?_
              refine zr_getf dX1_corner_44 (rfl : 44 + 3 = 47) f_X1_9 (by first | assumption | exact mw_167 | exact mw_168 | exact mw_169 | exact mw_170 | exact bk_0 | exact bk_1 | exact bk_2 | exact bk_3 | exact bk_4 | exact bk_5 | exact bk_6 | exact bk_7 | exact bk_8 | exact bk_9 | exact bk_10 | exact bk_11 | exact bk_12 | exact bk_13 | exact bk_14 | exact bk_15 | exact bk_16 | exact zup_self | exact (zup_ne (by first | assumption | omega)).trans (by first | assumption | exact zup_self) | exact (zup_ne (by first | assumption | omega)).trans ((zup_ne (by first | assumption | omega)).trans (by first | assumption | exact zup_self)) | exact (bk_out (by first | omega | (simp only [bset, reduceIte, Nat.reduceEqDiff]; omega))).trans (by first | exact bk_0 | exact bk_1 | exact bk_2 | exact bk_3 | exact bk_4 | exact bk_5 | exact bk_6 | exact bk_7 | exact bk_8 | exact bk_9 | exact bk_10 | exact bk_11 | exact bk_12 | exact bk_13 | exact bk_14 | exact bk_15 | exact bk_16 | exact cr_5 | exact cr_23 | exact cr_24 | exact cr_25 | exact cr_26 | exact cr_27 | exact cr_28 | exact cr_29 | exact cr_30 | assumption)) rfl ?_
              refine zr_iload_n dX1_corner_47 (rfl : 47 + 1 = 48) rfl ?_
              refine zr_bipush dX1_corner_48 (rfl : 48 + 2 = 50) (by decide) ?_
              refine zr_imul dX1_corner_50 (rfl : 50 + 1 = 51) (by first | exact jI_mul _ _ | rfl) ?_
              refine zr_iload dX1_corner_51 (rfl : 51 + 2 = 53) rfl ?_
              refine zr_iadd dX1_corner_53 (rfl : 53 + 1 = 54) (by first | exact jI_add _ _ | rfl) ?_
              refine zr_iald dX1_corner_54 (rfl : 54 + 1 = 55) (by first | assumption | exact mw_167 | exact mw_168 | exact mw_169 | exact mw_170 | exact bk_0 | exact bk_1 | exact bk_2 | exact bk_3 | exact bk_4 | exact bk_5 | exact bk_6 | exact bk_7 | exact bk_8 | exact bk_9 | exact bk_10 | exact bk_11 | exact bk_12 | exact bk_13 | exact bk_14 | exact bk_15 | exact bk_16 | exact zup_self | exact (zup_ne (by first | assumption | omega)).trans (by first | assumption | exact zup_self) | exact (zup_ne (by first | assumption | omega)).trans ((zup_ne (by first | assumption | omega)).trans (by first | assumption | exact zup_self)) | exact (bk_out (by first | omega | (simp only [bset, reduceIte, Nat.reduceEqDiff]; omega))).trans (by first | exact bk_0 | exact bk_1 | exact bk_2 | exact bk_3 | exact bk_4 | exact bk_5 | exact bk_6 | exact bk_7 | exact bk_8 | exact bk_9 | exact bk_10 | exact bk_11 | exact bk_12 | exact bk_13 | exact bk_14 | exact bk_15 | exact bk_16 | exact cr_5 | exact cr_23 | exact cr_24 | exact cr_25 | exact cr_26 | exact cr_27 | exact cr_28 | exact cr_29 | exact cr_30 | assumption)) (by decide) (by first | omega | (simp only [bset, reduceIte, Nat.reduceEqDiff]; omega)) (by first | omega | (simp only [bset, reduceIte, Nat.reduceEqDiff]; omega)) ?_
              refine zr_istore (lv' := [_, _, _, _, _, _, _]) dX1_corner_55 (rfl : 55 + 2 = 57) (Nat.le_of_ble_eq_true rfl) rfl ?_
              refine zr_iload dX1_corner_57 (rfl : 57 + 2 = 59) rfl ?_
              refine zr_if_eq (tgt := 65) dX1_corner_59 (by decide) (rfl : 59 + 3 = 62) (by first | exact jb_iff | exact jI_z (by first | omega | (simp only [bset, reduceIte, Nat.reduceEqDiff]; omega)) (by first | omega | (simp only [bset, reduceIte, Nat.reduceEqDiff]; omega))) (fun h59 => ?_) (fun h59 => ?_)
              · first
                | (exfalso; omega)
                | (
                  refine zr_iinc (lv' := [_, _, _, _, _, _, _]) dX1_corner_65 (rfl : 65 + 3 = 68) (Nat.le_of_ble_eq_true rfl) rfl (by first | exact jI_add _ _ | rfl) rfl ?_
                  refine zr_goto (tgt := 18) dX1_corner_68 (by decide) ?_
                  refine hk _ _ ?_
                  intro i' h1 h2
                  by_cases hi : i' = i
                  · rw [hi]; first | (rw [if_pos (by omega)]; omega) | (rw [if_neg (by omega)]; omega)
                  · exact hI i' h1 (by omega))
              · first
                | (exfalso; omega)
                | (
                  refine zr_iload dX1_corner_62 (rfl : 62 + 2 = 64) rfl ?_
                  refine zr_iret dX1_corner_64 rfl rfl ?_ rfl rfl rfl
                  rw [jfst_at (k := i) h0 h9 ?_ hI]
                  · first | rw [if_pos (by omega)] | rw [if_neg (by omega)]
                  · first | (rw [if_pos (by omega)]; omega) | (rw [if_neg (by omega)]; omega))))
    · intro o5 o6 hI
      refine zr_iload dX1_corner_18 (rfl : 18 + 2 = 20) rfl ?_
      refine zr_bipush dX1_corner_20 (rfl : 20 + 2 = 22) (by decide) ?_
      refine zr_icmp_ge (tgt := 71) dX1_corner_22 (by decide) (rfl : 22 + 3 = 25) (jI_le (by first | omega | (simp only [bset, reduceIte, Nat.reduceEqDiff]; omega)) (by first | omega | (simp only [bset, reduceIte, Nat.reduceEqDiff]; omega)) (by first | omega | (simp only [bset, reduceIte, Nat.reduceEqDiff]; omega)) (by first | omega | (simp only [bset, reduceIte, Nat.reduceEqDiff]; omega))) (fun h22 => ?_) (fun h22 => ?_)
      · first
        | (exfalso; omega)
        | (
          refine zr_iconst dX1_corner_71 (rfl : 71 + 1 = 72) ?_
          refine zr_iret dX1_corner_72 rfl rfl ?_ rfl rfl rfl
          rw [jfst_none hI])
      · first
        | (exfalso; omega)
        | (
          refine zr_iload_n dX1_corner_25 (rfl : 25 + 1 = 26) rfl ?_
          refine zr_iconst dX1_corner_26 (rfl : 26 + 1 = 27) ?_
          refine zr_irem dX1_corner_27 (rfl : 27 + 1 = 28) (fun q => absurd ((jI_z (by first | omega | (simp only [bset, reduceIte, Nat.reduceEqDiff]; omega)) (by first | omega | (simp only [bset, reduceIte, Nat.reduceEqDiff]; omega))).mp q) (by first | omega | (simp only [bset, reduceIte, Nat.reduceEqDiff]; omega))) (jI_rem (by first | omega | (simp only [bset, reduceIte, Nat.reduceEqDiff]; omega)) (by first | omega | (simp only [bset, reduceIte, Nat.reduceEqDiff]; omega)) (by first | omega | (simp only [bset, reduceIte, Nat.reduceEqDiff]; omega)) (by first | omega | (simp only [bset, reduceIte, Nat.reduceEqDiff]; omega))) ?_
          refine zr_if_ne (tgt := 36) dX1_corner_28 (by decide) (rfl : 28 + 3 = 31) (by first | exact jb_iff | exact jI_z (by first | omega | (simp only [bset, reduceIte, Nat.reduceEqDiff]; omega)) (by first | omega | (simp only [bset, reduceIte, Nat.reduceEqDiff]; omega))) (fun h28 => ?_) (fun h28 => ?_)
          · first
            | (exfalso; omega)
            | (
              refine zr_bipush dX1_corner_36 (rfl : 36 + 2 = 38) (by decide) ?_
              refine zr_iload dX1_corner_38 (rfl : 38 + 2 = 40) rfl ?_
              refine zr_isub dX1_corner_40 (rfl : 40 + 1 = 41) (by first | exact jI_sub _ _ | rfl) ?_
              refine zr_istore (lv' := [_, _, _, _, _, _, _]) dX1_corner_41 (rfl : 41 + 2 = 43) (Nat.le_of_ble_eq_true rfl) rfl ?_
              refine zr_aload_n dX1_corner_43 (rfl : 43 + 1 = 44) rfl ?_
              refine zr_getf dX1_corner_44 (rfl : 44 + 3 = 47) f_X1_9 (by first | assumption | exact mw_167 | exact mw_168 | exact mw_169 | exact mw_170 | exact bk_0 | exact bk_1 | exact bk_2 | exact bk_3 | exact bk_4 | exact bk_5 | exact bk_6 | exact bk_7 | exact bk_8 | exact bk_9 | exact bk_10 | exact bk_11 | exact bk_12 | exact bk_13 | exact bk_14 | exact bk_15 | exact bk_16 | exact zup_self | exact (zup_ne (by first | assumption | omega)).trans (by first | assumption | exact zup_self) | exact (zup_ne (by first | assumption | omega)).trans ((zup_ne (by first | assumption | omega)).trans (by first | assumption | exact zup_self)) | exact (bk_out (by first | omega | (simp only [bset, reduceIte, Nat.reduceEqDiff]; omega))).trans (by first | exact bk_0 | exact bk_1 | exact bk_2 | exact bk_3 | exact bk_4 | exact bk_5 | exact bk_6 | exact bk_7 | exact bk_8 | exact bk_9 | exact bk_10 | exact bk_11 | exact bk_12 | exact bk_13 | exact bk_14 | exact bk_15 | exact bk_16 | exact cr_5 | exact cr_23 | exact cr_24 | exact cr_25 | exact cr_26 | exact cr_27 | exact cr_28 | exact cr_29 | exact cr_30 | assumption)) rfl ?_
              refine zr_iload_n dX1_corner_47 (rfl : 47 + 1 = 48) rfl ?_
              refine zr_bipush dX1_corner_48 (rfl : 48 + 2 = 50) (by decide) ?_
              refine zr_imul dX1_corner_50 (rfl : 50 + 1 = 51) (by first | exact jI_mul _ _ | rfl) ?_
              refine zr_iload dX1_corner_51 (rfl : 51 + 2 = 53) rfl ?_
              refine zr_iadd dX1_corner_53 (rfl : 53 + 1 = 54) (by first | exact jI_add _ _ | rfl) ?_
              refine zr_iald dX1_corner_54 (rfl : 54 + 1 = 55) (by first | assumption | exact mw_167 | exact mw_168 | exact mw_169 | exact mw_170 | exact bk_0 | exact bk_1 | exact bk_2 | exact bk_3 | exact bk_4 | exact bk_5 | exact bk_6 | exact bk_7 | exact bk_8 | exact bk_9 | exact bk_10 | exact bk_11 | exact bk_12 | exact bk_13 | exact bk_14 | exact bk_15 | exact bk_16 | exact zup_self | exact (zup_ne (by first | assumption | omega)).trans (by first | assumption | exact zup_self) | exact (zup_ne (by first | assumption | omega)).trans ((zup_ne (by first | assumption | omega)).trans (by first | assumption | exact zup_self)) | exact (bk_out (by first | omega | (simp only [bset, reduceIte, Nat.reduceEqDiff]; omega))).trans (by first | exact bk_0 | exact bk_1 | exact bk_2 | exact bk_3 | exact bk_4 | exact bk_5 | exact bk_6 | exact bk_7 | exact bk_8 | exact bk_9 | exact bk_10 | exact bk_11 | exact bk_12 | exact bk_13 | exact bk_14 | exact bk_15 | exact bk_16 | exact cr_5 | exact cr_23 | exact cr_24 | exact cr_25 | exact cr_26 | exact cr_27 | exact cr_28 | exact cr_29 | exact cr_30 | assumption)) (by decide) (by first | omega | (simp only [bset, reduceIte, Nat.reduceEqDiff]; omega)) (by first | omega | (simp only [bset, reduceIte, Nat.reduceEqDiff]; omega)) ?_
              refine zr_istore (lv' := [_, _, _, _, _, _, _]) dX1_corner_55 (rfl : 55 + 2 = 57) (Nat.le_of_ble_eq_true rfl) rfl ?_
              refine zr_iload dX1_corner_57 (rfl : 57 + 2 = 59) rfl ?_
              refine zr_if_eq (tgt := 65) dX1_corner_59 (by decide) (rfl : 59 + 3 = 62) (by first | exact jb_iff | exact jI_z (by first | omega | (simp only [bset, reduceIte, Nat.reduceEqDiff]; omega)) (by first | omega | (simp only [bset, reduceIte, Nat.reduceEqDiff]; omega))) (fun h59 => ?_) (fun h59 => ?_)
              · first
                | (exfalso; omega)
                | (
                  refine zr_iinc (lv' := [_, _, _, _, _, _, _]) dX1_corner_65 (rfl : 65 + 3 = 68) (Nat.le_of_ble_eq_true rfl) rfl (by first | exact jI_add _ _ | rfl) rfl ?_
                  refine zr_goto (tgt := 18) dX1_corner_68 (by decide) ?_
                  exfalso; omega)
              · first
                | (exfalso; omega)
                | (
                  refine zr_iload dX1_corner_62 (rfl : 62 + 2 = 64) rfl ?_
                  refine zr_iret dX1_corner_64 rfl rfl ?_ rfl rfl rfl
                  rw [jfst_none hI]))
          · first
            | (exfalso; omega)
            | (
              refine zr_iload dX1_corner_31 (rfl : 31 + 2 = 33) rfl ?_
              refine zr_goto (tgt := 41) dX1_corner_33 (by decide) ?_
              refine zr_istore (lv' := [_, _, _, _, _, _, _]) dX1_corner_41 (rfl : 41 + 2 = 43) (Nat.le_of_ble_eq_true rfl) rfl ?_
              refine zr_aload_n dX1_corner_43 (rfl : 43 + 1 = 44) rfl ?_
              refine zr_getf dX1_corner_44 (rfl : 44 + 3 = 47) f_X1_9 (by first | assumption | exact mw_167 | exact mw_168 | exact mw_169 | exact mw_170 | exact bk_0 | exact bk_1 | exact bk_2 | exact bk_3 | exact bk_4 | exact bk_5 | exact bk_6 | exact bk_7 | exact bk_8 | exact bk_9 | exact bk_10 | exact bk_11 | exact bk_12 | exact bk_13 | exact bk_14 | exact bk_15 | exact bk_16 | exact zup_self | exact (zup_ne (by first | assumption | omega)).trans (by first | assumption | exact zup_self) | exact (zup_ne (by first | assumption | omega)).trans ((zup_ne (by first | assumption | omega)).trans (by first | assumption | exact zup_self)) | exact (bk_out (by first | omega | (simp only [bset, reduceIte, Nat.reduceEqDiff]; omega))).trans (by first | exact bk_0 | exact bk_1 | exact bk_2 | exact bk_3 | exact bk_4 | exact bk_5 | exact bk_6 | exact bk_7 | exact bk_8 | exact bk_9 | exact bk_10 | exact bk_11 | exact bk_12 | exact bk_13 | exact bk_14 | exact bk_15 | exact bk_16 | exact cr_5 | exact cr_23 | exact cr_24 | exact cr_25 | exact cr_26 | exact cr_27 | exact cr_28 | exact cr_29 | exact cr_30 | assumption)) rfl ?_
              refine zr_iload_n dX1_corner_47 (rfl : 47 + 1 = 48) rfl ?_
              refine zr_bipush dX1_corner_48 (rfl : 48 + 2 = 50) (by decide) ?_
              refine zr_imul dX1_corner_50 (rfl : 50 + 1 = 51) (by first | exact jI_mul _ _ | rfl) ?_
              refine zr_iload dX1_corner_51 (rfl : 51 + 2 = 53) rfl ?_
              refine zr_iadd dX1_corner_53 (rfl : 53 + 1 = 54) (by first | exact jI_add _ _ | rfl) ?_
              refine zr_iald dX1_corner_54 (rfl : 54 + 1 = 55) (by first | assumption | exact mw_167 | exact mw_168 | exact mw_169 | exact mw_170 | exact bk_0 | exact bk_1 | exact bk_2 | exact bk_3 | exact bk_4 | exact bk_5 | exact bk_6 | exact bk_7 | exact bk_8 | exact bk_9 | exact bk_10 | exact bk_11 | exact bk_12 | exact bk_13 | exact bk_14 | exact bk_15 | exact bk_16 | exact zup_self | exact (zup_ne (by first | assumption | omega)).trans (by first | assumption | exact zup_self) | exact (zup_ne (by first | assumption | omega)).trans ((zup_ne (by first | assumption | omega)).trans (by first | assumption | exact zup_self)) | exact (bk_out (by first | omega | (simp only [bset, reduceIte, Nat.reduceEqDiff]; omega))).trans (by first | exact bk_0 | exact bk_1 | exact bk_2 | exact bk_3 | exact bk_4 | exact bk_5 | exact bk_6 | exact bk_7 | exact bk_8 | exact bk_9 | exact bk_10 | exact bk_11 | exact bk_12 | exact bk_13 | exact bk_14 | exact bk_15 | exact bk_16 | exact cr_5 | exact cr_23 | exact cr_24 | exact cr_25 | exact cr_26 | exact cr_27 | exact cr_28 | exact cr_29 | exact cr_30 | assumption)) (by decide) (by first | omega | (simp only [bset, reduceIte, Nat.reduceEqDiff]; omega)) (by first | omega | (simp only [bset, reduceIte, Nat.reduceEqDiff]; omega)) ?_
              refine zr_istore (lv' := [_, _, _, _, _, _, _]) dX1_corner_55 (rfl : 55 + 2 = 57) (Nat.le_of_ble_eq_true rfl) rfl ?_
              refine zr_iload dX1_corner_57 (rfl : 57 + 2 = 59) rfl ?_
              refine zr_if_eq (tgt := 65) dX1_corner_59 (by decide) (rfl : 59 + 3 = 62) (by first | exact jb_iff | exact jI_z (by first | omega | (simp only [bset, reduceIte, Nat.reduceEqDiff]; omega)) (by first | omega | (simp only [bset, reduceIte, Nat.reduceEqDiff]; omega))) (fun h59 => ?_) (fun h59 => ?_)
              · first
                | (exfalso; omega)
                | (
                  refine zr_iinc (lv' := [_, _, _, _, _, _, _]) dX1_corner_65 (rfl : 65 + 3 = 68) (Nat.le_of_ble_eq_true rfl) rfl (by first | exact jI_add _ _ | rfl) rfl ?_
                  refine zr_goto (tgt := 18) dX1_corner_68 (by decide) ?_
                  exfalso; omega)
              · first
                | (exfalso; omega)
                | (
                  refine zr_iload dX1_corner_62 (rfl : 62 + 2 = 64) rfl ?_
                  refine zr_iret dX1_corner_64 rfl rfl ?_ rfl rfl rfl
                  rw [jfst_none hI])))
  refine zr_iload_n dX1_corner_0 (rfl : 0 + 1 = 1) rfl ?_
  refine zr_iconst dX1_corner_1 (rfl : 1 + 1 = 2) ?_
  refine zr_imul dX1_corner_2 (rfl : 2 + 1 = 3) (by first | exact jI_mul _ _ | rfl) ?_
  refine zr_iload_n dX1_corner_3 (rfl : 3 + 1 = 4) rfl ?_
  refine zr_iconst dX1_corner_4 (rfl : 4 + 1 = 5) ?_
  refine zr_icmp_ge (tgt := 12) dX1_corner_5 (by decide) (rfl : 5 + 3 = 8) (jI_le (by first | omega | (simp only [bset, reduceIte, Nat.reduceEqDiff]; omega)) (by first | omega | (simp only [bset, reduceIte, Nat.reduceEqDiff]; omega)) (by first | omega | (simp only [bset, reduceIte, Nat.reduceEqDiff]; omega)) (by first | omega | (simp only [bset, reduceIte, Nat.reduceEqDiff]; omega))) (fun h5 => ?_) (fun h5 => ?_)
  · first
    | (exfalso; omega)
    | (
      refine zr_iconst dX1_corner_12 (rfl : 12 + 1 = 13) ?_
      refine zr_iadd dX1_corner_13 (rfl : 13 + 1 = 14) (by first | exact jI_add _ _ | rfl) ?_
      refine zr_istore_n (lv' := [_, _, _, _, _, _, _]) dX1_corner_14 (rfl : 14 + 1 = 15) (Nat.le_of_ble_eq_true rfl) rfl ?_
      refine zr_iconst dX1_corner_15 (rfl : 15 + 1 = 16) ?_
      refine zr_istore (lv' := [_, _, _, _, _, _, _]) dX1_corner_16 (rfl : 16 + 2 = 18) (Nat.le_of_ble_eq_true rfl) rfl ?_
      first | exact key 0 (by rw [if_pos (by omega)]) | exact key 2 (by rw [if_neg (by omega)]))
  · first
    | (exfalso; omega)
    | (
      refine zr_iconst dX1_corner_8 (rfl : 8 + 1 = 9) ?_
      refine zr_goto (tgt := 13) dX1_corner_9 (by decide) ?_
      refine zr_iadd dX1_corner_13 (rfl : 13 + 1 = 14) (by first | exact jI_add _ _ | rfl) ?_
      refine zr_istore_n (lv' := [_, _, _, _, _, _, _]) dX1_corner_14 (rfl : 14 + 1 = 15) (Nat.le_of_ble_eq_true rfl) rfl ?_
      refine zr_iconst dX1_corner_15 (rfl : 15 + 1 = 16) ?_
      refine zr_istore (lv' := [_, _, _, _, _, _, _]) dX1_corner_16 (rfl : 16 + 2 = 18) (Nat.le_of_ble_eq_true rfl) rfl ?_
      first | exact key 0 (by rw [if_pos (by omega)]) | exact key 2 (by rw [if_neg (by omega)]))
end CB

