/-! lays; what the law's start needs -/
def jlyN (c k : Int) : Int := 10 * ((k / 5 + 2 * (k % 5)) % 9) + 3 * (c % 3) + k / 5 + (if (k / 5 + 2 * (k % 5)) % 9 = 0 then 1 else 0)
def jlyB (c : Int) : Nat → zB → zB
  | 0, B => B
  | n + 1, B => jst (jlyB c n B) (c * 3 + (n : Int) / 5) (jlyN c n)
def jlyS (c : Int) : Nat → zC → zB → zC
  | 0, σ, _ => σ
  | n + 1, σ, B => jsv (jlyS c n σ B) (jlyB c n B)
section LY
variable {Γ : zΓ} {d : Nat} {σ : zC} {τ : zTau} {u w : zW} {B : zB} {c : Int}
theorem jlyN_r {k : Int} (hc : 0 ≤ c) (hk : 0 ≤ k ∧ k < 15) : 1 ≤ jlyN c k ∧ jlyN c k ≤ 90 := by
  unfold jlyN
  split <;> omega
theorem jin_ly (h : jin B) (hc : 0 ≤ c ∧ c < 6) (hB : ∀ k : Nat, k < 15 → jrap (jlyB c k B) (c * 3 + (k : Int) / 5) (jlyN c k) = 0) : ∀ n : Nat, n ≤ 15 → jin (jlyB c n B)
  | 0, _ => h
  | n + 1, hn => by
    have ih := jin_ly h hc hB n (by omega)
    have e : jlyB c (n + 1) B = jpl (jlyB c n B) (c * 3 + (n : Int) / 5) (jlyN c n) := by
      unfold jpl
      rw [if_pos (hB n (by omega))]
      rfl
    rw [e]
    exact jin_pl ih (by omega) (jlyN_r hc.1 (by omega))
theorem jsn_ly (h : jin B) (hs : jsn σ) (hc : 0 ≤ c ∧ c < 6) (hB : ∀ k : Nat, k < 15 → jrap (jlyB c k B) (c * 3 + (k : Int) / 5) (jlyN c k) = 0) : ∀ n : Nat, n ≤ 15 → jsn (jlyS c n σ B) ∧ ((jlyS c n σ B).sc = σ.sc + n ∨ (jlyS c n σ B).sc = 6) ∧ (jlyS c n σ B).sc ≤ 6 ∧ ((jlyS c n σ B).sc ≤ σ.sc + n)
  | 0, _ => ⟨hs, Or.inl (by show σ.sc = σ.sc + ((0 : Nat) : Int); omega), hs.1.sc.2, by show σ.sc ≤ σ.sc + ((0 : Nat) : Int); omega⟩
  | n + 1, hn => by
    obtain ⟨i1, i2, i3, i4⟩ := jsn_ly h hs hc hB n (by omega)
    have ih := jin_ly h hc hB n (by omega)
    have hsc : (jlyS c (n + 1) σ B).sc = js2 (jlyS c n σ B) + 1 := rfl
    refine ⟨jsn_sv i1 ih.ok, ?_⟩
    rw [hsc]
    unfold js2
    split <;> omega
theorem w_put (c r n : Int) (hp : (0 ≤ c ∧ c < 6) ∧ 0 ≤ r ∧ r < 3) (h2 : 1 ≤ n ∧ n ≤ 90) (ck : cok σ) (ok : jok B) : zFnH Γ md_L_put (d + 8) [.ref 5, .int (jI c), .int (jI r), .int (jI n)] (bk 6 B (cr σ τ u)) (some (.int (jI (jrap B (c * 3 + r) n)))) (bk 6 (jpl B (c * 3 + r) n) (cr (jsv σ B) τ u)) := fun n9 g9 => lo_put lc_5 (s_put (d := d + 2) c r n hp h2 ck ok) n9 g9
theorem s_lays (h : jin B) (hs : jsn σ) (hc : 0 ≤ c ∧ c < 6) (hB : ∀ k : Nat, k < 15 → jrap (jlyB c k B) (c * 3 + (k : Int) / 5) (jlyN c k) = 0) : zFn Γ md_L_lays (d + 9) [.ref 5, .int (jI c)] (bk 6 B (cr σ τ u)) (some (.int (jI 1))) (bk 6 (jlyB c 15 B) (cr (jlyS c 15 σ B) τ u)) := by
  refine zFn.of_run (lv := [some (.ref 5), some (.int (jI c)), none, none, none, none]) (by decide) rfl (Nat.le_of_ble_eq_true rfl) rfl (fun n9 g9 => ?_)
  refine zr_iconst dL_lays_0 (rfl : 0 + 1 = 1) ?_
  refine zr_istore_n (lv' := [_, _, _, _, _, _]) dL_lays_1 (rfl : 1 + 1 = 2) (Nat.le_of_ble_eq_true rfl) rfl ?_
  refine zr_iconst dL_lays_2 (rfl : 2 + 1 = 3) ?_
  refine zr_istore_n (lv' := [_, _, _, _, _, _]) dL_lays_3 (rfl : 3 + 1 = 4) (Nat.le_of_ble_eq_true rfl) rfl ?_
  refine zfor4 0 15 (fun i B1 σ1 _ _ => B1 = jlyB c i.toNat B ∧ σ1 = jlyS c i.toNat σ B) (fun i _ _ o4 o5 => [some (.ref 5), some (.int (jI c)), some (.int (jI 1)), some (.int (jI i)), o4, o5]) (fun _ B1 σ1 _ _ => bk 6 B1 (cr σ1 τ u)) B σ none none ⟨rfl, rfl⟩ ?_ ?_
  · intro i B1 σ1 o4 o5 i0 i1 hI hk
    obtain ⟨hB1, hσ1⟩ := hI
    have hi : ((i.toNat : Nat) : Int) = i := by omega
    have h1 := jin_ly h hc hB i.toNat (by omega)
    have h2 := (jsn_ly h hs hc hB i.toNat (by omega)).1
    have h3 := hB i.toNat (by omega)
    rw [← hB1] at h1 h3
    rw [← hσ1] at h2
    rw [hi] at h3
    have hn := jlyN_r (c := c) (k := i) hc.1 (by omega)
    have e1 : jlyB c (i + 1).toNat B = jpl B1 (c * 3 + i / 5) (jlyN c i) := by
      rw [show (i + 1).toNat = i.toNat + 1 by omega]
      show jst (jlyB c i.toNat B) (c * 3 + (i.toNat : Int) / 5) (jlyN c i.toNat) = _
      rw [hi, ← hB1]
      unfold jpl
      rw [if_pos h3]
    have e2 : jlyS c (i + 1).toNat σ B = jsv σ1 B1 := by
      rw [show (i + 1).toNat = i.toNat + 1 by omega]
      show jsv (jlyS c i.toNat σ B) (jlyB c i.toNat B) = _
      rw [← hB1, ← hσ1]
    have fin : ∀ e : Int, 10 * ((i / 5 + 2 * (i % 5)) % 9) + 3 * (c % 3) + i / 5 + e = jlyN c i → zRun Γ md_L_lays (d + 9) none 60 [some (.ref 5), some (.int (jI c)), some (.int (jI 1)), some (.int (jI i)), some (.int (jI (i / 5))), some (.int (jI ((i / 5 + 2 * (i % 5)) % 9)))] [.int (jI e), .int (jI (10 * ((i / 5 + 2 * (i % 5)) % 9) + 3 * (c % 3) + i / 5)), .int (jI (i / 5)), .int (jI c), .ref 5] (n9, g9, 0, 0) (bk 6 B1 (cr σ1 τ u)) (zDone md_L_lays (some (.int (jI 1))) (bk 6 (jlyB c 15 B) (cr (jlyS c 15 σ B) τ u)) n9 g9) := by
      intro e he
      refine zr_iadd dL_lays_60 (rfl : 60 + 1 = 61) (by first | exact jI_add _ _ | rfl) ?_
      rw [he]
      refine zr_fnH dL_lays_61 (rfl : 61 + 3 = 64) l_L_99 (w_put c (i / 5) (jlyN c i) ⟨hc, by omega, by omega⟩ hn h2.1 h1.ok) rfl rfl (Nat.le_of_ble_eq_true rfl) ?_
      rw [h3]
      refine zr_if_ne (tgt := 71) dL_lays_64 (by decide) (rfl : 64 + 3 = 67) (by first | exact jb_iff | exact jI_z (by first | omega | (simp only [bset, reduceIte, Nat.reduceEqDiff]; omega)) (by first | omega | (simp only [bset, reduceIte, Nat.reduceEqDiff]; omega))) (fun h64 => ?_) (fun h64 => ?_)
      · exfalso
        omega
      refine zr_iconst dL_lays_67 (rfl : 67 + 1 = 68) ?_
      refine zr_goto (tgt := 72) dL_lays_68 (by decide) ?_
      refine zr_istore_n (lv' := [_, _, _, _, _, _]) dL_lays_72 (rfl : 72 + 1 = 73) (Nat.le_of_ble_eq_true rfl) rfl ?_
      refine zr_iinc (lv' := [_, _, _, _, _, _]) dL_lays_73 (rfl : 73 + 3 = 76) (Nat.le_of_ble_eq_true rfl) rfl (by first | exact jI_add _ _ | rfl) rfl ?_
      refine zr_goto (tgt := 4) dL_lays_76 (by decide) ?_
      exact hk _ _ _ _ ⟨e1.symm, e2.symm⟩
    refine zr_iload_n dL_lays_4 (rfl : 4 + 1 = 5) rfl ?_
    refine zr_bipush dL_lays_5 (rfl : 5 + 2 = 7) (by decide) ?_
    refine zr_icmp_ge (tgt := 79) dL_lays_7 (by decide) (rfl : 7 + 3 = 10) (jI_le (by first | omega | (simp only [bset, reduceIte, Nat.reduceEqDiff]; omega)) (by first | omega | (simp only [bset, reduceIte, Nat.reduceEqDiff]; omega)) (by first | omega | (simp only [bset, reduceIte, Nat.reduceEqDiff]; omega)) (by first | omega | (simp only [bset, reduceIte, Nat.reduceEqDiff]; omega))) (fun h7 => ?_) (fun h7 => ?_)
    · exfalso
      omega
    refine zr_iload_n dL_lays_10 (rfl : 10 + 1 = 11) rfl ?_
    refine zr_if_eq (tgt := 79) dL_lays_11 (by decide) (rfl : 11 + 3 = 14) (by first | exact jb_iff | exact jI_z (by first | omega | (simp only [bset, reduceIte, Nat.reduceEqDiff]; omega)) (by first | omega | (simp only [bset, reduceIte, Nat.reduceEqDiff]; omega))) (fun h11 => ?_) (fun h11 => ?_)
    · exfalso
      omega
    refine zr_iload_n dL_lays_14 (rfl : 14 + 1 = 15) rfl ?_
    refine zr_iconst dL_lays_15 (rfl : 15 + 1 = 16) ?_
    refine zr_idiv dL_lays_16 (rfl : 16 + 1 = 17) (fun q => absurd ((jI_z (by first | omega | (simp only [bset, reduceIte, Nat.reduceEqDiff]; omega)) (by first | omega | (simp only [bset, reduceIte, Nat.reduceEqDiff]; omega))).mp q) (by first | omega | (simp only [bset, reduceIte, Nat.reduceEqDiff]; omega))) (jI_div (by first | omega | (simp only [bset, reduceIte, Nat.reduceEqDiff]; omega)) (by first | omega | (simp only [bset, reduceIte, Nat.reduceEqDiff]; omega)) (by first | omega | (simp only [bset, reduceIte, Nat.reduceEqDiff]; omega)) (by first | omega | (simp only [bset, reduceIte, Nat.reduceEqDiff]; omega))) ?_
    refine zr_istore (lv' := [_, _, _, _, _, _]) dL_lays_17 (rfl : 17 + 2 = 19) (Nat.le_of_ble_eq_true rfl) rfl ?_
    refine zr_iload dL_lays_19 (rfl : 19 + 2 = 21) rfl ?_
    refine zr_iconst dL_lays_21 (rfl : 21 + 1 = 22) ?_
    refine zr_iload_n dL_lays_22 (rfl : 22 + 1 = 23) rfl ?_
    refine zr_iconst dL_lays_23 (rfl : 23 + 1 = 24) ?_
    refine zr_irem dL_lays_24 (rfl : 24 + 1 = 25) (fun q => absurd ((jI_z (by first | omega | (simp only [bset, reduceIte, Nat.reduceEqDiff]; omega)) (by first | omega | (simp only [bset, reduceIte, Nat.reduceEqDiff]; omega))).mp q) (by first | omega | (simp only [bset, reduceIte, Nat.reduceEqDiff]; omega))) (jI_rem (by first | omega | (simp only [bset, reduceIte, Nat.reduceEqDiff]; omega)) (by first | omega | (simp only [bset, reduceIte, Nat.reduceEqDiff]; omega)) (by first | omega | (simp only [bset, reduceIte, Nat.reduceEqDiff]; omega)) (by first | omega | (simp only [bset, reduceIte, Nat.reduceEqDiff]; omega))) ?_
    refine zr_imul dL_lays_25 (rfl : 25 + 1 = 26) (by first | exact jI_mul _ _ | rfl) ?_
    refine zr_iadd dL_lays_26 (rfl : 26 + 1 = 27) (by first | exact jI_add _ _ | rfl) ?_
    refine zr_bipush dL_lays_27 (rfl : 27 + 2 = 29) (by decide) ?_
    refine zr_irem dL_lays_29 (rfl : 29 + 1 = 30) (fun q => absurd ((jI_z (by first | omega | (simp only [bset, reduceIte, Nat.reduceEqDiff]; omega)) (by first | omega | (simp only [bset, reduceIte, Nat.reduceEqDiff]; omega))).mp q) (by first | omega | (simp only [bset, reduceIte, Nat.reduceEqDiff]; omega))) (jI_rem (by first | omega | (simp only [bset, reduceIte, Nat.reduceEqDiff]; omega)) (by first | omega | (simp only [bset, reduceIte, Nat.reduceEqDiff]; omega)) (by first | omega | (simp only [bset, reduceIte, Nat.reduceEqDiff]; omega)) (by first | omega | (simp only [bset, reduceIte, Nat.reduceEqDiff]; omega))) ?_
    refine zr_istore (lv' := [_, _, _, _, _, _]) dL_lays_30 (rfl : 30 + 2 = 32) (Nat.le_of_ble_eq_true rfl) rfl ?_
    refine zr_aload_n dL_lays_32 (rfl : 32 + 1 = 33) rfl ?_
    refine zr_iload_n dL_lays_33 (rfl : 33 + 1 = 34) rfl ?_
    refine zr_iload dL_lays_34 (rfl : 34 + 2 = 36) rfl ?_
    refine zr_bipush dL_lays_36 (rfl : 36 + 2 = 38) (by decide) ?_
    refine zr_iload dL_lays_38 (rfl : 38 + 2 = 40) rfl ?_
    refine zr_imul dL_lays_40 (rfl : 40 + 1 = 41) (by first | exact jI_mul _ _ | rfl) ?_
    refine zr_iconst dL_lays_41 (rfl : 41 + 1 = 42) ?_
    refine zr_iload_n dL_lays_42 (rfl : 42 + 1 = 43) rfl ?_
    refine zr_iconst dL_lays_43 (rfl : 43 + 1 = 44) ?_
    refine zr_irem dL_lays_44 (rfl : 44 + 1 = 45) (fun q => absurd ((jI_z (by first | omega | (simp only [bset, reduceIte, Nat.reduceEqDiff]; omega)) (by first | omega | (simp only [bset, reduceIte, Nat.reduceEqDiff]; omega))).mp q) (by first | omega | (simp only [bset, reduceIte, Nat.reduceEqDiff]; omega))) (jI_rem (by first | omega | (simp only [bset, reduceIte, Nat.reduceEqDiff]; omega)) (by first | omega | (simp only [bset, reduceIte, Nat.reduceEqDiff]; omega)) (by first | omega | (simp only [bset, reduceIte, Nat.reduceEqDiff]; omega)) (by first | omega | (simp only [bset, reduceIte, Nat.reduceEqDiff]; omega))) ?_
    refine zr_imul dL_lays_45 (rfl : 45 + 1 = 46) (by first | exact jI_mul _ _ | rfl) ?_
    refine zr_iadd dL_lays_46 (rfl : 46 + 1 = 47) (by first | exact jI_add _ _ | rfl) ?_
    refine zr_iload dL_lays_47 (rfl : 47 + 2 = 49) rfl ?_
    refine zr_iadd dL_lays_49 (rfl : 49 + 1 = 50) (by first | exact jI_add _ _ | rfl) ?_
    refine zr_iload dL_lays_50 (rfl : 50 + 2 = 52) rfl ?_
    refine zr_if_ne (tgt := 59) dL_lays_52 (by decide) (rfl : 52 + 3 = 55) (by first | exact jb_iff | exact jI_z (by first | omega | (simp only [bset, reduceIte, Nat.reduceEqDiff]; omega)) (by first | omega | (simp only [bset, reduceIte, Nat.reduceEqDiff]; omega))) (fun h52 => ?_) (fun h52 => ?_)
    · first
      | (exfalso; omega)
      | (
        refine zr_iconst dL_lays_59 (rfl : 59 + 1 = 60) ?_
        first
        | exact fin 1 (by unfold jlyN; rw [if_pos (by omega)])
        | exact fin 0 (by unfold jlyN; rw [if_neg (by omega)]))
    · first
      | (exfalso; omega)
      | (
        refine zr_iconst dL_lays_55 (rfl : 55 + 1 = 56) ?_
        refine zr_goto (tgt := 60) dL_lays_56 (by decide) ?_
        first
        | exact fin 1 (by unfold jlyN; rw [if_pos (by omega)])
        | exact fin 0 (by unfold jlyN; rw [if_neg (by omega)]))
  · intro B1 σ1 o4 o5 hI
    obtain ⟨hB1, hσ1⟩ := hI
    rw [show ((0 : Int) + ((15 : Nat) : Int)).toNat = 15 from rfl] at hB1 hσ1
    rw [hB1, hσ1]
    refine zr_iload_n dL_lays_4 (rfl : 4 + 1 = 5) rfl ?_
    refine zr_bipush dL_lays_5 (rfl : 5 + 2 = 7) (by decide) ?_
    refine zr_icmp_ge (tgt := 79) dL_lays_7 (by decide) (rfl : 7 + 3 = 10) (jI_le (by first | omega | (simp only [bset, reduceIte, Nat.reduceEqDiff]; omega)) (by first | omega | (simp only [bset, reduceIte, Nat.reduceEqDiff]; omega)) (by first | omega | (simp only [bset, reduceIte, Nat.reduceEqDiff]; omega)) (by first | omega | (simp only [bset, reduceIte, Nat.reduceEqDiff]; omega))) (fun h7 => ?_) (fun h7 => ?_)
    rotate_left
    · exfalso
      omega
    refine zr_iload_n dL_lays_79 (rfl : 79 + 1 = 80) rfl ?_
    refine zr_iret dL_lays_80 rfl (by first | exact jb_nar | rfl) ?_ rfl rfl rfl
    rfl
theorem t_run0 (ck : cok σ) (h : σ.L = 0) : zThr Γ md_X6_run (d + 7) [.ref 5] (bk 6 B (cr σ τ u)) zIAE := by
  have e : jtev σ.T σ.L = 0 := jb_neg (fun q => by omega)
  refine zThr.of_run (lv := [some (.ref 5), none, none, none]) (by decide) rfl (Nat.le_of_ble_eq_true rfl) rfl (fun n9 g9 => ?_)
  refine zr_aload_n dX6_run_0 (rfl : 0 + 1 = 1) rfl ?_
  refine zr_getf dX6_run_1 (rfl : 1 + 3 = 4) f_X6_30 (by first | assumption | exact mw_167 | exact mw_168 | exact mw_169 | exact mw_170 | exact bk_0 | exact bk_1 | exact bk_2 | exact bk_3 | exact bk_4 | exact bk_5 | exact bk_6 | exact bk_7 | exact bk_8 | exact bk_9 | exact bk_10 | exact bk_11 | exact bk_12 | exact bk_13 | exact bk_14 | exact bk_15 | exact bk_16 | exact zup_self | exact (zup_ne (by first | assumption | omega)).trans (by first | assumption | exact zup_self) | exact (zup_ne (by first | assumption | omega)).trans ((zup_ne (by first | assumption | omega)).trans (by first | assumption | exact zup_self)) | exact (bk_out (by first | omega | (simp only [bset, reduceIte, Nat.reduceEqDiff]; omega))).trans (by first | exact bk_0 | exact bk_1 | exact bk_2 | exact bk_3 | exact bk_4 | exact bk_5 | exact bk_6 | exact bk_7 | exact bk_8 | exact bk_9 | exact bk_10 | exact bk_11 | exact bk_12 | exact bk_13 | exact bk_14 | exact bk_15 | exact bk_16 | exact cr_5 | exact cr_23 | exact cr_24 | exact cr_25 | exact cr_26 | exact cr_27 | exact cr_28 | exact cr_29 | exact cr_30 | assumption)) rfl ?_
  refine zr_fnV dX6_run_4 (rfl : 4 + 3 = 7) l_X6_149 (s_tellsEvening ck.L ck.T (cr_at (by first | omega | (simp only [bset, reduceIte, Nat.reduceEqDiff]; omega)) cr_26) (cr_at (by first | omega | (simp only [bset, reduceIte, Nat.reduceEqDiff]; omega)) cr_27)) (by first | assumption | exact mw_167 | exact mw_168 | exact mw_169 | exact mw_170 | exact bk_0 | exact bk_1 | exact bk_2 | exact bk_3 | exact bk_4 | exact bk_5 | exact bk_6 | exact bk_7 | exact bk_8 | exact bk_9 | exact bk_10 | exact bk_11 | exact bk_12 | exact bk_13 | exact bk_14 | exact bk_15 | exact bk_16 | exact zup_self | exact (zup_ne (by first | assumption | omega)).trans (by first | assumption | exact zup_self) | exact (zup_ne (by first | assumption | omega)).trans ((zup_ne (by first | assumption | omega)).trans (by first | assumption | exact zup_self)) | exact (bk_out (by first | omega | (simp only [bset, reduceIte, Nat.reduceEqDiff]; omega))).trans (by first | exact bk_0 | exact bk_1 | exact bk_2 | exact bk_3 | exact bk_4 | exact bk_5 | exact bk_6 | exact bk_7 | exact bk_8 | exact bk_9 | exact bk_10 | exact bk_11 | exact bk_12 | exact bk_13 | exact bk_14 | exact bk_15 | exact bk_16 | exact cr_5 | exact cr_23 | exact cr_24 | exact cr_25 | exact cr_26 | exact cr_27 | exact cr_28 | exact cr_29 | exact cr_30 | assumption)) rfl rfl rfl (Nat.le_of_ble_eq_true rfl) ?_
  rw [e]
  refine zr_thS dX6_run_7 l_X6_59 (t_needValue) rfl rfl (Nat.le_of_ble_eq_true rfl) (Nat.le_of_ble_eq_true rfl) (Nat.le_of_ble_eq_true rfl) ?_
  exact zr_raised rfl
theorem s_share0 (h0 : B 2 0 = 0) : zFn Γ md_X6_drawnShare (d + 4) [.ref 5] (bk 6 B (cr σ τ u)) (some (.double FP.dconst0)) (bk 6 B (cr σ τ u)) := by
  refine zFn.of_run (lv := [some (.ref 5), none, none, none]) (by decide) rfl (Nat.le_of_ble_eq_true rfl) rfl (fun n9 g9 => ?_)
  refine zr_aload_n dX6_drawnShare_0 (rfl : 0 + 1 = 1) rfl ?_
  refine zr_getf dX6_drawnShare_1 (rfl : 1 + 3 = 4) f_X6_10 (by first | assumption | exact mw_167 | exact mw_168 | exact mw_169 | exact mw_170 | exact bk_0 | exact bk_1 | exact bk_2 | exact bk_3 | exact bk_4 | exact bk_5 | exact bk_6 | exact bk_7 | exact bk_8 | exact bk_9 | exact bk_10 | exact bk_11 | exact bk_12 | exact bk_13 | exact bk_14 | exact bk_15 | exact bk_16 | exact zup_self | exact (zup_ne (by first | assumption | omega)).trans (by first | assumption | exact zup_self) | exact (zup_ne (by first | assumption | omega)).trans ((zup_ne (by first | assumption | omega)).trans (by first | assumption | exact zup_self)) | exact (bk_out (by first | omega | (simp only [bset, reduceIte, Nat.reduceEqDiff]; omega))).trans (by first | exact bk_0 | exact bk_1 | exact bk_2 | exact bk_3 | exact bk_4 | exact bk_5 | exact bk_6 | exact bk_7 | exact bk_8 | exact bk_9 | exact bk_10 | exact bk_11 | exact bk_12 | exact bk_13 | exact bk_14 | exact bk_15 | exact bk_16 | exact cr_5 | exact cr_23 | exact cr_24 | exact cr_25 | exact cr_26 | exact cr_27 | exact cr_28 | exact cr_29 | exact cr_30 | assumption)) rfl ?_
  refine zr_getf dX6_drawnShare_4 (rfl : 4 + 3 = 7) f_X6_69 (by first | assumption | exact mw_167 | exact mw_168 | exact mw_169 | exact mw_170 | exact bk_0 | exact bk_1 | exact bk_2 | exact bk_3 | exact bk_4 | exact bk_5 | exact bk_6 | exact bk_7 | exact bk_8 | exact bk_9 | exact bk_10 | exact bk_11 | exact bk_12 | exact bk_13 | exact bk_14 | exact bk_15 | exact bk_16 | exact zup_self | exact (zup_ne (by first | assumption | omega)).trans (by first | assumption | exact zup_self) | exact (zup_ne (by first | assumption | omega)).trans ((zup_ne (by first | assumption | omega)).trans (by first | assumption | exact zup_self)) | exact (bk_out (by first | omega | (simp only [bset, reduceIte, Nat.reduceEqDiff]; omega))).trans (by first | exact bk_0 | exact bk_1 | exact bk_2 | exact bk_3 | exact bk_4 | exact bk_5 | exact bk_6 | exact bk_7 | exact bk_8 | exact bk_9 | exact bk_10 | exact bk_11 | exact bk_12 | exact bk_13 | exact bk_14 | exact bk_15 | exact bk_16 | exact cr_5 | exact cr_23 | exact cr_24 | exact cr_25 | exact cr_26 | exact cr_27 | exact cr_28 | exact cr_29 | exact cr_30 | assumption)) rfl ?_
  refine zr_getf dX6_drawnShare_7 (rfl : 7 + 3 = 10) f_X6_169 (by first | assumption | exact mw_167 | exact mw_168 | exact mw_169 | exact mw_170 | exact bk_0 | exact bk_1 | exact bk_2 | exact bk_3 | exact bk_4 | exact bk_5 | exact bk_6 | exact bk_7 | exact bk_8 | exact bk_9 | exact bk_10 | exact bk_11 | exact bk_12 | exact bk_13 | exact bk_14 | exact bk_15 | exact bk_16 | exact zup_self | exact (zup_ne (by first | assumption | omega)).trans (by first | assumption | exact zup_self) | exact (zup_ne (by first | assumption | omega)).trans ((zup_ne (by first | assumption | omega)).trans (by first | assumption | exact zup_self)) | exact (bk_out (by first | omega | (simp only [bset, reduceIte, Nat.reduceEqDiff]; omega))).trans (by first | exact bk_0 | exact bk_1 | exact bk_2 | exact bk_3 | exact bk_4 | exact bk_5 | exact bk_6 | exact bk_7 | exact bk_8 | exact bk_9 | exact bk_10 | exact bk_11 | exact bk_12 | exact bk_13 | exact bk_14 | exact bk_15 | exact bk_16 | exact cr_5 | exact cr_23 | exact cr_24 | exact cr_25 | exact cr_26 | exact cr_27 | exact cr_28 | exact cr_29 | exact cr_30 | assumption)) rfl ?_
  refine zr_istore_n (lv' := [_, _, _, _]) dX6_drawnShare_10 (rfl : 10 + 1 = 11) (Nat.le_of_ble_eq_true rfl) rfl ?_
  refine zr_iload_n dX6_drawnShare_11 (rfl : 11 + 1 = 12) rfl ?_
  refine zr_if_ne (tgt := 17) dX6_drawnShare_12 (by decide) (rfl : 12 + 3 = 15) (by first | exact jb_iff | exact jI_z (by first | omega | (simp only [bset, reduceIte, Nat.reduceEqDiff]; omega)) (by first | omega | (simp only [bset, reduceIte, Nat.reduceEqDiff]; omega))) (fun h12 => ?_) (fun h12 => ?_)
  · exfalso; omega
  · refine zr_dconst0 dX6_drawnShare_15 (rfl : 15 + 1 = 16) ?_
    exact zr_dret dX6_drawnShare_16 rfl rfl rfl rfl rfl
theorem cok_0 : cok jσ0 := ⟨fun _ _ => jok_B0, fun _ => (by decide : (0 : Int) ≤ 0 ∧ (0 : Int) ≤ 1), by decide, by decide, fun _ => (by decide : (0 : Int) ≤ 0 ∧ (0 : Int) ≤ 126), by decide⟩
theorem jsn_0 : jsn jσ0 := ⟨cok_0, fun s _ _ hk => absurd (show (0 : Int) = 1 from hk) (by decide)⟩
theorem jff_0 : (jff jB0 6).1 = -1 := by
  rcases fa_first jin_B0 with ⟨h, -⟩ | ⟨-, -, h, -⟩
  · exact h
  · have hz : ∀ r : Int, jrs (jB0 0) r = 0 := fun r => jcnt_none (fun k _ _ => rfl)
    unfold jcs at h
    rw [hz, hz, hz] at h
    exact absurd h (by decide)
theorem jleft_0 : jleft jB0 = 0 := by decide +kernel
/-- the book behind the first undo -/
def jBu : zB := jcp (jend jB0) (jcp jB0 jB0)
theorem jin_Bu : jin jBu := jin_cp (jok_end jok_B0) (jin_cp jok_B0 jin_B0)
theorem hB_0 : ∀ k : Nat, k < 15 → jrap (jlyB 0 k jBu) (0 * 3 + (k : Int) / 5) (jlyN 0 k) = 0 := by decide +kernel
theorem hB_1 : ∀ k : Nat, k < 15 → jrap (jlyB 1 k (jlyB 0 15 jBu)) (1 * 3 + (k : Int) / 5) (jlyN 1 k) = 0 := by decide +kernel
/-- two cards laid -/
def jBl : zB := jlyB 1 15 (jlyB 0 15 jBu)
theorem jin_B1 : jin (jlyB 0 15 jBu) := jin_ly jin_Bu (by decide) hB_0 15 (Nat.le_refl _)
theorem jin_Bl : jin jBl := jin_ly jin_B1 (by decide) hB_1 15 (Nat.le_refl _)
theorem jBl_s : jfs jBl 0 := by decide +kernel
theorem jBl_p : jBl 16 0 + jBl 23 0 = 10 := by decide +kernel
theorem jBl_x : jsell jBl 0 24 0 = 1 := by decide +kernel
end LY

