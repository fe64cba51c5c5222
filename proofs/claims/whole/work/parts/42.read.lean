/-! the reference reads a slot -/
theorem jrap_eq (B : zB) (r n : Int) : jrap B r n = if B 1 n ≠ -1 then 1 else if B 0 (r * 9 + jcol n) ≠ 0 then 2 else if jrs (B 0) r = 5 then 3 else if jbrk (B 0) r n then 4 else if jbit (B 11 0) (r / 3) = 1 then 5 else 0 := by
  unfold jrap jra
  by_cases h1 : B 1 n ≠ -1
  · rw [if_pos h1, if_pos h1, if_neg (by omega)]
  · rw [if_neg h1, if_neg h1]
    by_cases h2 : B 0 (r * 9 + jcol n) ≠ 0
    · rw [if_pos h2, if_pos h2, if_neg (by omega)]
    · rw [if_neg h2, if_neg h2]
      by_cases h3 : jrs (B 0) r = 5
      · rw [if_pos h3, if_pos h3, if_neg (by omega)]
      · rw [if_neg h3, if_neg h3]
        by_cases h4 : jbrk (B 0) r n
        · rw [if_pos h4, if_pos h4, if_neg (by omega)]
        · rw [if_neg h4, if_neg h4]
          by_cases h5 : jbit (B 11 0) (r / 3) = 1
          · rw [if_pos ⟨rfl, h5⟩, if_pos h5]
          · rw [if_neg (fun q => h5 q.2), if_neg h5]
section RD
variable {Γ : zΓ} {d : Nat} {S : Int → Int} {st : Int} {ik : Int → Int} {th : Int} {tx : Int → Int} {ty : Int} {w : zW} {B : zB}
theorem m_numberAt (c r k : Int) (hc : 0 ≤ c ∧ c < 6) (hr : 0 ≤ r ∧ r < 3) (hk9 : 0 ≤ k ∧ k < 9) (h : mr S 0 B) (ok : jok B) (lk : jlk B) : zFn Γ md_X7_numberAt (d + 1) [.ref 167, .int (jI c), .int (jI r), .int (jI k)] (mw S st ik th tx ty w) (some (.int (jI (B 0 ((c * 3 + r) * 9 + k))))) (mw S st ik th tx ty w) := by
  have hz := ok.P ((c * 3 + r) * 9 + k)
  have hrp := lk.rp ((c * 3 + r) * 9 + k) (by omega) (by omega)
  generalize hZ : B 0 ((c * 3 + r) * 9 + k) = Z at hz hrp ⊢
  refine zFn.of_run (lv := [some (.ref 167), some (.int (jI c)), some (.int (jI r)), some (.int (jI k)), none, none]) (by decide) rfl (Nat.le_of_ble_eq_true rfl) rfl (fun n9 g9 => ?_)
  refine zr_iconst dX7_numberAt_0 (rfl : 0 + 1 = 1) ?_
  refine zr_istore (lv' := [_, _, _, _, _, _]) dX7_numberAt_1 (rfl : 1 + 2 = 3) (Nat.le_of_ble_eq_true rfl) rfl ?_
  refine zr_iconst dX7_numberAt_3 (rfl : 3 + 1 = 4) ?_
  refine zr_istore (lv' := [_, _, _, _, _, _]) dX7_numberAt_4 (rfl : 4 + 2 = 6) (Nat.le_of_ble_eq_true rfl) rfl ?_
  refine zfor1 1 90 (fun n x => x = if Z < n then Z else 0) (fun n x => [some (.ref 167), some (.int (jI c)), some (.int (jI r)), some (.int (jI k)), some (.int (jI x)), some (.int (jI n))]) (fun _ _ => (mw S st ik th tx ty w)) 0 (by split <;> omega) ?_ ?_
  · intro n x n0 n1 hx hk
    have hp := h.pl0 n n0 (by omega)
    have hR := ok.R n
    have hcl := jcol_9 (n := n) (by omega)
    have hA : ¬ (B 1 n = c * 3 + r) ∨ ¬ (jcol n = k) ∨ Z = n := by
      by_cases h1 : B 1 n = c * 3 + r
      · by_cases h2 : jcol n = k
        · have := lk.pr n n0 (by omega) (by omega)
          rw [h1, h2, hZ] at this
          exact Or.inr (Or.inr this)
        · exact Or.inr (Or.inl h2)
      · exact Or.inl h1
    have hB : Z ≠ n ∨ (B 1 n = c * 3 + r ∧ jcol n = k) := by
      by_cases h1 : Z = n
      · have := hrp (by omega)
        rw [h1] at this
        exact Or.inr ⟨by omega, by omega⟩
      · exact Or.inl h1
    refine zr_iload dX7_numberAt_6 (rfl : 6 + 2 = 8) rfl ?_
    refine zr_bipush dX7_numberAt_8 (rfl : 8 + 2 = 10) (by decide) ?_
    refine zr_icmp_gt (tgt := 56) dX7_numberAt_10 (by decide) (rfl : 10 + 3 = 13) (jI_lt (by first | omega | (simp only [bset, reduceIte, Nat.reduceEqDiff]; omega)) (by first | omega | (simp only [bset, reduceIte, Nat.reduceEqDiff]; omega)) (by first | omega | (simp only [bset, reduceIte, Nat.reduceEqDiff]; omega)) (by first | omega | (simp only [bset, reduceIte, Nat.reduceEqDiff]; omega))) (fun h10 => ?_) (fun h10 => ?_)
    · first
      | (exfalso; omega)
      | (
        refine zr_iload dX7_numberAt_56 (rfl : 56 + 2 = 58) rfl ?_
        refine zr_iret dX7_numberAt_58 rfl (by first | rfl | exact jb_nar) ?_ rfl rfl rfl
        first | rfl | rw [jb_pos (by first | assumption | omega)] | rw [jb_neg (by first | assumption | omega)] | rw [if_pos (by first | assumption | omega)] | rw [if_neg (by first | assumption | omega)])
    · first
      | (exfalso; omega)
      | (
        refine zr_aload_n dX7_numberAt_13 (rfl : 13 + 1 = 14) rfl ?_
        refine zr_getf dX7_numberAt_14 (rfl : 14 + 3 = 17) f_X7_7 (by first | assumption | exact mw_167 | exact mw_168 | exact mw_169 | exact mw_170 | exact bk_0 | exact bk_1 | exact bk_2 | exact bk_3 | exact bk_4 | exact bk_5 | exact bk_6 | exact bk_7 | exact bk_8 | exact bk_9 | exact bk_10 | exact bk_11 | exact bk_12 | exact bk_13 | exact bk_14 | exact bk_15 | exact bk_16 | exact zup_self | exact (zup_ne (by first | assumption | omega)).trans (by first | assumption | exact zup_self) | exact (zup_ne (by first | assumption | omega)).trans ((zup_ne (by first | assumption | omega)).trans (by first | assumption | exact zup_self)) | exact (bk_out (by first | omega | (simp only [bset, reduceIte, Nat.reduceEqDiff]; omega))).trans (by first | exact bk_0 | exact bk_1 | exact bk_2 | exact bk_3 | exact bk_4 | exact bk_5 | exact bk_6 | exact bk_7 | exact bk_8 | exact bk_9 | exact bk_10 | exact bk_11 | exact bk_12 | exact bk_13 | exact bk_14 | exact bk_15 | exact bk_16 | exact cr_5 | exact cr_23 | exact cr_24 | exact cr_25 | exact cr_26 | exact cr_27 | exact cr_28 | exact cr_29 | exact cr_30 | assumption)) rfl ?_
        refine zr_iconst dX7_numberAt_17 (rfl : 17 + 1 = 18) ?_
        refine zr_iload dX7_numberAt_18 (rfl : 18 + 2 = 20) rfl ?_
        refine zr_iadd dX7_numberAt_20 (rfl : 20 + 1 = 21) (by first | exact jI_add _ _ | rfl) ?_
        refine zr_iald dX7_numberAt_21 (rfl : 21 + 1 = 22) (by first | assumption | exact mw_167 | exact mw_168 | exact mw_169 | exact mw_170 | exact bk_0 | exact bk_1 | exact bk_2 | exact bk_3 | exact bk_4 | exact bk_5 | exact bk_6 | exact bk_7 | exact bk_8 | exact bk_9 | exact bk_10 | exact bk_11 | exact bk_12 | exact bk_13 | exact bk_14 | exact bk_15 | exact bk_16 | exact zup_self | exact (zup_ne (by first | assumption | omega)).trans (by first | assumption | exact zup_self) | exact (zup_ne (by first | assumption | omega)).trans ((zup_ne (by first | assumption | omega)).trans (by first | assumption | exact zup_self)) | exact (bk_out (by first | omega | (simp only [bset, reduceIte, Nat.reduceEqDiff]; omega))).trans (by first | exact bk_0 | exact bk_1 | exact bk_2 | exact bk_3 | exact bk_4 | exact bk_5 | exact bk_6 | exact bk_7 | exact bk_8 | exact bk_9 | exact bk_10 | exact bk_11 | exact bk_12 | exact bk_13 | exact bk_14 | exact bk_15 | exact bk_16 | exact cr_5 | exact cr_23 | exact cr_24 | exact cr_25 | exact cr_26 | exact cr_27 | exact cr_28 | exact cr_29 | exact cr_30 | assumption)) (by decide) (by first | omega | (simp only [bset, reduceIte, Nat.reduceEqDiff]; omega)) (by first | omega | (simp only [bset, reduceIte, Nat.reduceEqDiff]; omega)) ?_
        refine zr_iconst dX7_numberAt_22 (rfl : 22 + 1 = 23) ?_
        refine zr_iconst dX7_numberAt_23 (rfl : 23 + 1 = 24) ?_
        refine zr_iload_n dX7_numberAt_24 (rfl : 24 + 1 = 25) rfl ?_
        refine zr_imul dX7_numberAt_25 (rfl : 25 + 1 = 26) (by first | exact jI_mul _ _ | rfl) ?_
        refine zr_iadd dX7_numberAt_26 (rfl : 26 + 1 = 27) (by first | exact jI_add _ _ | rfl) ?_
        refine zr_iload_n dX7_numberAt_27 (rfl : 27 + 1 = 28) rfl ?_
        refine zr_iadd dX7_numberAt_28 (rfl : 28 + 1 = 29) (by first | exact jI_add _ _ | rfl) ?_
        refine zr_icmp_ne (tgt := 46) dX7_numberAt_29 (by decide) (rfl : 29 + 3 = 32) (jI_eq (by first | omega | (simp only [bset, reduceIte, Nat.reduceEqDiff]; omega)) (by first | omega | (simp only [bset, reduceIte, Nat.reduceEqDiff]; omega)) (by first | omega | (simp only [bset, reduceIte, Nat.reduceEqDiff]; omega)) (by first | omega | (simp only [bset, reduceIte, Nat.reduceEqDiff]; omega))) (fun h29 => ?_) (fun h29 => ?_)
        · first
          | (exfalso; omega)
          | (
            refine zr_iload dX7_numberAt_46 (rfl : 46 + 2 = 48) rfl ?_
            refine zr_istore (lv' := [_, _, _, _, _, _]) dX7_numberAt_48 (rfl : 48 + 2 = 50) (Nat.le_of_ble_eq_true rfl) rfl ?_
            refine zr_iinc (lv' := [_, _, _, _, _, _]) dX7_numberAt_50 (rfl : 50 + 3 = 53) (Nat.le_of_ble_eq_true rfl) rfl (by first | exact jI_add _ _ | rfl) rfl ?_
            refine zr_goto (tgt := 6) dX7_numberAt_53 (by decide) ?_
            refine hk _ ?_
            first | (split <;> omega) | (rw [hx]; split <;> split <;> omega))
        · first
          | (exfalso; omega)
          | (
            refine zr_iload dX7_numberAt_32 (rfl : 32 + 2 = 34) rfl ?_
            refine zr_fnS dX7_numberAt_34 (rfl : 34 + 3 = 37) l_X7_36 (m_column n (by first | omega | (simp only [bset, reduceIte, Nat.reduceEqDiff]; omega))) rfl rfl (Nat.le_of_ble_eq_true rfl) ?_
            refine zr_iload_n dX7_numberAt_37 (rfl : 37 + 1 = 38) rfl ?_
            refine zr_icmp_ne (tgt := 46) dX7_numberAt_38 (by decide) (rfl : 38 + 3 = 41) (jI_eq (by first | omega | (simp only [bset, reduceIte, Nat.reduceEqDiff]; omega)) (by first | omega | (simp only [bset, reduceIte, Nat.reduceEqDiff]; omega)) (by first | omega | (simp only [bset, reduceIte, Nat.reduceEqDiff]; omega)) (by first | omega | (simp only [bset, reduceIte, Nat.reduceEqDiff]; omega))) (fun h38 => ?_) (fun h38 => ?_)
            · first
              | (exfalso; omega)
              | (
                refine zr_iload dX7_numberAt_46 (rfl : 46 + 2 = 48) rfl ?_
                refine zr_istore (lv' := [_, _, _, _, _, _]) dX7_numberAt_48 (rfl : 48 + 2 = 50) (Nat.le_of_ble_eq_true rfl) rfl ?_
                refine zr_iinc (lv' := [_, _, _, _, _, _]) dX7_numberAt_50 (rfl : 50 + 3 = 53) (Nat.le_of_ble_eq_true rfl) rfl (by first | exact jI_add _ _ | rfl) rfl ?_
                refine zr_goto (tgt := 6) dX7_numberAt_53 (by decide) ?_
                refine hk _ ?_
                first | (split <;> omega) | (rw [hx]; split <;> split <;> omega))
            · first
              | (exfalso; omega)
              | (
                refine zr_iload dX7_numberAt_41 (rfl : 41 + 2 = 43) rfl ?_
                refine zr_goto (tgt := 48) dX7_numberAt_43 (by decide) ?_
                refine zr_istore (lv' := [_, _, _, _, _, _]) dX7_numberAt_48 (rfl : 48 + 2 = 50) (Nat.le_of_ble_eq_true rfl) rfl ?_
                refine zr_iinc (lv' := [_, _, _, _, _, _]) dX7_numberAt_50 (rfl : 50 + 3 = 53) (Nat.le_of_ble_eq_true rfl) rfl (by first | exact jI_add _ _ | rfl) rfl ?_
                refine zr_goto (tgt := 6) dX7_numberAt_53 (by decide) ?_
                refine hk _ ?_
                first | (split <;> omega) | (rw [hx]; split <;> split <;> omega))))
  · intro x hx
    rw [show x = Z by rw [hx]; split <;> omega]
    refine zr_iload dX7_numberAt_6 (rfl : 6 + 2 = 8) rfl ?_
    refine zr_bipush dX7_numberAt_8 (rfl : 8 + 2 = 10) (by decide) ?_
    refine zr_icmp_gt (tgt := 56) dX7_numberAt_10 (by decide) (rfl : 10 + 3 = 13) (jI_lt (by first | omega | (simp only [bset, reduceIte, Nat.reduceEqDiff]; omega)) (by first | omega | (simp only [bset, reduceIte, Nat.reduceEqDiff]; omega)) (by first | omega | (simp only [bset, reduceIte, Nat.reduceEqDiff]; omega)) (by first | omega | (simp only [bset, reduceIte, Nat.reduceEqDiff]; omega))) (fun h10 => ?_) (fun h10 => ?_)
    · first
      | (exfalso; omega)
      | (
        refine zr_iload dX7_numberAt_56 (rfl : 56 + 2 = 58) rfl ?_
        refine zr_iret dX7_numberAt_58 rfl (by first | rfl | exact jb_nar) ?_ rfl rfl rfl
        first | rfl | rw [jb_pos (by first | assumption | omega)] | rw [jb_neg (by first | assumption | omega)] | rw [if_pos (by first | assumption | omega)] | rw [if_neg (by first | assumption | omega)])
    · first
      | (exfalso; omega)
      | (
        exfalso
        omega)
theorem m_ofRow (c r k : Int) (hc : 0 ≤ c ∧ c < 6) (hr : 0 ≤ r ∧ r < 3) (hk3 : 0 ≤ k ∧ k < 3) (h : mr S 0 B) (ok : jok B) (lk : jlk B) : zFn Γ md_X7_ofRow (d + 1) [.ref 167, .int (jI c), .int (jI r), .int (jI k)] (mw S st ik th tx ty w) (some (.int (jI (jorw B (c * 3 + r) k)))) (mw S st ik th tx ty w) := by
  have he := jorw_eq ok lk (r := c * 3 + r) (k := k) (by omega)
  generalize hq : (fun z => decide (B 1 (z + 1) = c * 3 + r) && (decide (k = 0) || (if k = 1 then decide (B 7 (z + 1) ≠ 0) else decide (B 8 (z + 1) ≠ 0)))) = q at he
  rw [he]
  refine zFn.of_run (lv := [some (.ref 167), some (.int (jI c)), some (.int (jI r)), some (.int (jI k)), none, none, none]) (by decide) rfl (Nat.le_of_ble_eq_true rfl) rfl (fun n9 g9 => ?_)
  refine zr_iconst dX7_ofRow_0 (rfl : 0 + 1 = 1) ?_
  refine zr_istore (lv' := [_, _, _, _, _, _, _]) dX7_ofRow_1 (rfl : 1 + 2 = 3) (Nat.le_of_ble_eq_true rfl) rfl ?_
  refine zr_iconst dX7_ofRow_3 (rfl : 3 + 1 = 4) ?_
  refine zr_istore (lv' := [_, _, _, _, _, _, _]) dX7_ofRow_4 (rfl : 4 + 2 = 6) (Nat.le_of_ble_eq_true rfl) rfl ?_
  refine zfor2 1 90 (fun n x _ => x = jcnt (n - 1).toNat q) (fun n x o6 => [some (.ref 167), some (.int (jI c)), some (.int (jI r)), some (.int (jI k)), some (.int (jI x)), some (.int (jI n)), o6]) (fun _ _ _ => (mw S st ik th tx ty w)) 0 none rfl ?_ ?_
  · intro n x o6 n0 n1 hx hk
    have hp := h.pl0 n n0 (by omega)
    have hd := h.da0 n n0 (by omega)
    have hs := h.sa0 n n0 (by omega)
    have hR := ok.R n
    have hda := ok.da n
    have hsa := ok.sa n
    have hn := jcnt_next (q := q) (i := n - 1) (by omega)
    have hb : ((B 1 n = c * 3 + r ∧ (k = 0 ∨ (k = 1 ∧ B 7 n ≠ 0) ∨ (k = 2 ∧ B 8 n ≠ 0))) ∧ jb (q (n - 1) = true) = 1) ∨ (¬ (B 1 n = c * 3 + r ∧ (k = 0 ∨ (k = 1 ∧ B 7 n ≠ 0) ∨ (k = 2 ∧ B 8 n ≠ 0))) ∧ jb (q (n - 1) = true) = 0) := by
      have e : (q (n - 1) = true) ↔ (B 1 n = c * 3 + r ∧ (k = 0 ∨ (k = 1 ∧ B 7 n ≠ 0) ∨ (k = 2 ∧ B 8 n ≠ 0))) := by
        rw [← hq]
        show ((decide (B 1 (n - 1 + 1) = c * 3 + r) && (decide (k = 0) || (if k = 1 then decide (B 7 (n - 1 + 1) ≠ 0) else decide (B 8 (n - 1 + 1) ≠ 0)))) = true) ↔ _
        rw [show n - 1 + 1 = n by omega]
        rcases (by omega : k = 0 ∨ k = 1 ∨ k = 2) with h | h | h <;> simp [h]
      by_cases hh : B 1 n = c * 3 + r ∧ (k = 0 ∨ (k = 1 ∧ B 7 n ≠ 0) ∨ (k = 2 ∧ B 8 n ≠ 0))
      · exact Or.inl ⟨hh, jb_pos (e.mpr hh)⟩
      · exact Or.inr ⟨hh, jb_neg (fun z => hh (e.mp z))⟩
    rw [← hx, show n - 1 + 1 = n + 1 - 1 by omega] at hn
    generalize jb (q (n - 1) = true) = jq at hb hn
    generalize jcnt (n + 1 - 1).toNat q = nx at hn hk
    refine zr_iload dX7_ofRow_6 (rfl : 6 + 2 = 8) rfl ?_
    refine zr_bipush dX7_ofRow_8 (rfl : 8 + 2 = 10) (by decide) ?_
    refine zr_icmp_gt (tgt := 99) dX7_ofRow_10 (by decide) (rfl : 10 + 3 = 13) (jI_lt (by first | omega | (simp only [bset, reduceIte, Nat.reduceEqDiff]; omega)) (by first | omega | (simp only [bset, reduceIte, Nat.reduceEqDiff]; omega)) (by first | omega | (simp only [bset, reduceIte, Nat.reduceEqDiff]; omega)) (by first | omega | (simp only [bset, reduceIte, Nat.reduceEqDiff]; omega))) (fun h10 => ?_) (fun h10 => ?_)
    · first
      | (exfalso; omega)
      | (
        refine zr_iload dX7_ofRow_99 (rfl : 99 + 2 = 101) rfl ?_
        refine zr_iret dX7_ofRow_101 rfl (by first | rfl | exact jb_nar) ?_ rfl rfl rfl
        first | rfl | rw [jb_pos (by first | assumption | omega)] | rw [jb_neg (by first | assumption | omega)] | rw [if_pos (by first | assumption | omega)] | rw [if_neg (by first | assumption | omega)])
    · first
      | (exfalso; omega)
      | (
        refine zr_iload_n dX7_ofRow_13 (rfl : 13 + 1 = 14) rfl ?_
        refine zr_if_eq (tgt := 52) dX7_ofRow_14 (by decide) (rfl : 14 + 3 = 17) (by first | exact jb_iff | exact jI_z (by first | omega | (simp only [bset, reduceIte, Nat.reduceEqDiff]; omega)) (by first | omega | (simp only [bset, reduceIte, Nat.reduceEqDiff]; omega))) (fun h14 => ?_) (fun h14 => ?_)
        · first
          | (exfalso; omega)
          | (
            refine zr_iconst dX7_ofRow_52 (rfl : 52 + 1 = 53) ?_
            refine zr_goto (tgt := 57) dX7_ofRow_53 (by decide) ?_
            refine zr_istore (lv' := [_, _, _, _, _, _, _]) dX7_ofRow_57 (rfl : 57 + 2 = 59) (Nat.le_of_ble_eq_true rfl) rfl ?_
            refine zr_iload dX7_ofRow_59 (rfl : 59 + 2 = 61) rfl ?_
            refine zr_aload_n dX7_ofRow_61 (rfl : 61 + 1 = 62) rfl ?_
            refine zr_getf dX7_ofRow_62 (rfl : 62 + 3 = 65) f_X7_7 (by first | assumption | exact mw_167 | exact mw_168 | exact mw_169 | exact mw_170 | exact bk_0 | exact bk_1 | exact bk_2 | exact bk_3 | exact bk_4 | exact bk_5 | exact bk_6 | exact bk_7 | exact bk_8 | exact bk_9 | exact bk_10 | exact bk_11 | exact bk_12 | exact bk_13 | exact bk_14 | exact bk_15 | exact bk_16 | exact zup_self | exact (zup_ne (by first | assumption | omega)).trans (by first | assumption | exact zup_self) | exact (zup_ne (by first | assumption | omega)).trans ((zup_ne (by first | assumption | omega)).trans (by first | assumption | exact zup_self)) | exact (bk_out (by first | omega | (simp only [bset, reduceIte, Nat.reduceEqDiff]; omega))).trans (by first | exact bk_0 | exact bk_1 | exact bk_2 | exact bk_3 | exact bk_4 | exact bk_5 | exact bk_6 | exact bk_7 | exact bk_8 | exact bk_9 | exact bk_10 | exact bk_11 | exact bk_12 | exact bk_13 | exact bk_14 | exact bk_15 | exact bk_16 | exact cr_5 | exact cr_23 | exact cr_24 | exact cr_25 | exact cr_26 | exact cr_27 | exact cr_28 | exact cr_29 | exact cr_30 | assumption)) rfl ?_
            refine zr_iconst dX7_ofRow_65 (rfl : 65 + 1 = 66) ?_
            refine zr_iload dX7_ofRow_66 (rfl : 66 + 2 = 68) rfl ?_
            refine zr_iadd dX7_ofRow_68 (rfl : 68 + 1 = 69) (by first | exact jI_add _ _ | rfl) ?_
            refine zr_iald dX7_ofRow_69 (rfl : 69 + 1 = 70) (by first | assumption | exact mw_167 | exact mw_168 | exact mw_169 | exact mw_170 | exact bk_0 | exact bk_1 | exact bk_2 | exact bk_3 | exact bk_4 | exact bk_5 | exact bk_6 | exact bk_7 | exact bk_8 | exact bk_9 | exact bk_10 | exact bk_11 | exact bk_12 | exact bk_13 | exact bk_14 | exact bk_15 | exact bk_16 | exact zup_self | exact (zup_ne (by first | assumption | omega)).trans (by first | assumption | exact zup_self) | exact (zup_ne (by first | assumption | omega)).trans ((zup_ne (by first | assumption | omega)).trans (by first | assumption | exact zup_self)) | exact (bk_out (by first | omega | (simp only [bset, reduceIte, Nat.reduceEqDiff]; omega))).trans (by first | exact bk_0 | exact bk_1 | exact bk_2 | exact bk_3 | exact bk_4 | exact bk_5 | exact bk_6 | exact bk_7 | exact bk_8 | exact bk_9 | exact bk_10 | exact bk_11 | exact bk_12 | exact bk_13 | exact bk_14 | exact bk_15 | exact bk_16 | exact cr_5 | exact cr_23 | exact cr_24 | exact cr_25 | exact cr_26 | exact cr_27 | exact cr_28 | exact cr_29 | exact cr_30 | assumption)) (by decide) (by first | omega | (simp only [bset, reduceIte, Nat.reduceEqDiff]; omega)) (by first | omega | (simp only [bset, reduceIte, Nat.reduceEqDiff]; omega)) ?_
            refine zr_iconst dX7_ofRow_70 (rfl : 70 + 1 = 71) ?_
            refine zr_iconst dX7_ofRow_71 (rfl : 71 + 1 = 72) ?_
            refine zr_iload_n dX7_ofRow_72 (rfl : 72 + 1 = 73) rfl ?_
            refine zr_imul dX7_ofRow_73 (rfl : 73 + 1 = 74) (by first | exact jI_mul _ _ | rfl) ?_
            refine zr_iadd dX7_ofRow_74 (rfl : 74 + 1 = 75) (by first | exact jI_add _ _ | rfl) ?_
            refine zr_iload_n dX7_ofRow_75 (rfl : 75 + 1 = 76) rfl ?_
            refine zr_iadd dX7_ofRow_76 (rfl : 76 + 1 = 77) (by first | exact jI_add _ _ | rfl) ?_
            refine zr_icmp_ne (tgt := 89) dX7_ofRow_77 (by decide) (rfl : 77 + 3 = 80) (jI_eq (by first | omega | (simp only [bset, reduceIte, Nat.reduceEqDiff]; omega)) (by first | omega | (simp only [bset, reduceIte, Nat.reduceEqDiff]; omega)) (by first | omega | (simp only [bset, reduceIte, Nat.reduceEqDiff]; omega)) (by first | omega | (simp only [bset, reduceIte, Nat.reduceEqDiff]; omega))) (fun h77 => ?_) (fun h77 => ?_)
            · first
              | (exfalso; omega)
              | (
                refine zr_iconst dX7_ofRow_89 (rfl : 89 + 1 = 90) ?_
                refine zr_iadd dX7_ofRow_90 (rfl : 90 + 1 = 91) (by first | exact jI_add _ _ | rfl) ?_
                refine zr_istore (lv' := [_, _, _, _, _, _, _]) dX7_ofRow_91 (rfl : 91 + 2 = 93) (Nat.le_of_ble_eq_true rfl) rfl ?_
                refine zr_iinc (lv' := [_, _, _, _, _, _, _]) dX7_ofRow_93 (rfl : 93 + 3 = 96) (Nat.le_of_ble_eq_true rfl) rfl (by first | exact jI_add _ _ | rfl) rfl ?_
                refine zr_goto (tgt := 6) dX7_ofRow_96 (by decide) ?_
                exact hk _ _ (by omega))
            · first
              | (exfalso; omega)
              | (
                refine zr_iload dX7_ofRow_80 (rfl : 80 + 2 = 82) rfl ?_
                refine zr_if_eq (tgt := 89) dX7_ofRow_82 (by decide) (rfl : 82 + 3 = 85) (by first | exact jb_iff | exact jI_z (by first | omega | (simp only [bset, reduceIte, Nat.reduceEqDiff]; omega)) (by first | omega | (simp only [bset, reduceIte, Nat.reduceEqDiff]; omega))) (fun h82 => ?_) (fun h82 => ?_)
                · first
                  | (exfalso; omega)
                  | (
                    refine zr_iconst dX7_ofRow_89 (rfl : 89 + 1 = 90) ?_
                    refine zr_iadd dX7_ofRow_90 (rfl : 90 + 1 = 91) (by first | exact jI_add _ _ | rfl) ?_
                    refine zr_istore (lv' := [_, _, _, _, _, _, _]) dX7_ofRow_91 (rfl : 91 + 2 = 93) (Nat.le_of_ble_eq_true rfl) rfl ?_
                    refine zr_iinc (lv' := [_, _, _, _, _, _, _]) dX7_ofRow_93 (rfl : 93 + 3 = 96) (Nat.le_of_ble_eq_true rfl) rfl (by first | exact jI_add _ _ | rfl) rfl ?_
                    refine zr_goto (tgt := 6) dX7_ofRow_96 (by decide) ?_
                    exact hk _ _ (by omega))
                · first
                  | (exfalso; omega)
                  | (
                    refine zr_iconst dX7_ofRow_85 (rfl : 85 + 1 = 86) ?_
                    refine zr_goto (tgt := 90) dX7_ofRow_86 (by decide) ?_
                    refine zr_iadd dX7_ofRow_90 (rfl : 90 + 1 = 91) (by first | exact jI_add _ _ | rfl) ?_
                    refine zr_istore (lv' := [_, _, _, _, _, _, _]) dX7_ofRow_91 (rfl : 91 + 2 = 93) (Nat.le_of_ble_eq_true rfl) rfl ?_
                    refine zr_iinc (lv' := [_, _, _, _, _, _, _]) dX7_ofRow_93 (rfl : 93 + 3 = 96) (Nat.le_of_ble_eq_true rfl) rfl (by first | exact jI_add _ _ | rfl) rfl ?_
                    refine zr_goto (tgt := 6) dX7_ofRow_96 (by decide) ?_
                    exact hk _ _ (by omega))))
        · first
          | (exfalso; omega)
          | (
            refine zr_iload_n dX7_ofRow_17 (rfl : 17 + 1 = 18) rfl ?_
            refine zr_iconst dX7_ofRow_18 (rfl : 18 + 1 = 19) ?_
            refine zr_icmp_ne (tgt := 38) dX7_ofRow_19 (by decide) (rfl : 19 + 3 = 22) (jI_eq (by first | omega | (simp only [bset, reduceIte, Nat.reduceEqDiff]; omega)) (by first | omega | (simp only [bset, reduceIte, Nat.reduceEqDiff]; omega)) (by first | omega | (simp only [bset, reduceIte, Nat.reduceEqDiff]; omega)) (by first | omega | (simp only [bset, reduceIte, Nat.reduceEqDiff]; omega))) (fun h19 => ?_) (fun h19 => ?_)
            · first
              | (exfalso; omega)
              | (
                refine zr_aload_n dX7_ofRow_38 (rfl : 38 + 1 = 39) rfl ?_
                refine zr_getf dX7_ofRow_39 (rfl : 39 + 3 = 42) f_X7_7 (by first | assumption | exact mw_167 | exact mw_168 | exact mw_169 | exact mw_170 | exact bk_0 | exact bk_1 | exact bk_2 | exact bk_3 | exact bk_4 | exact bk_5 | exact bk_6 | exact bk_7 | exact bk_8 | exact bk_9 | exact bk_10 | exact bk_11 | exact bk_12 | exact bk_13 | exact bk_14 | exact bk_15 | exact bk_16 | exact zup_self | exact (zup_ne (by first | assumption | omega)).trans (by first | assumption | exact zup_self) | exact (zup_ne (by first | assumption | omega)).trans ((zup_ne (by first | assumption | omega)).trans (by first | assumption | exact zup_self)) | exact (bk_out (by first | omega | (simp only [bset, reduceIte, Nat.reduceEqDiff]; omega))).trans (by first | exact bk_0 | exact bk_1 | exact bk_2 | exact bk_3 | exact bk_4 | exact bk_5 | exact bk_6 | exact bk_7 | exact bk_8 | exact bk_9 | exact bk_10 | exact bk_11 | exact bk_12 | exact bk_13 | exact bk_14 | exact bk_15 | exact bk_16 | exact cr_5 | exact cr_23 | exact cr_24 | exact cr_25 | exact cr_26 | exact cr_27 | exact cr_28 | exact cr_29 | exact cr_30 | assumption)) rfl ?_
                refine zr_sipush dX7_ofRow_42 (rfl : 42 + 3 = 45) (by decide) ?_
                refine zr_iload dX7_ofRow_45 (rfl : 45 + 2 = 47) rfl ?_
                refine zr_iadd dX7_ofRow_47 (rfl : 47 + 1 = 48) (by first | exact jI_add _ _ | rfl) ?_
                refine zr_iald dX7_ofRow_48 (rfl : 48 + 1 = 49) (by first | assumption | exact mw_167 | exact mw_168 | exact mw_169 | exact mw_170 | exact bk_0 | exact bk_1 | exact bk_2 | exact bk_3 | exact bk_4 | exact bk_5 | exact bk_6 | exact bk_7 | exact bk_8 | exact bk_9 | exact bk_10 | exact bk_11 | exact bk_12 | exact bk_13 | exact bk_14 | exact bk_15 | exact bk_16 | exact zup_self | exact (zup_ne (by first | assumption | omega)).trans (by first | assumption | exact zup_self) | exact (zup_ne (by first | assumption | omega)).trans ((zup_ne (by first | assumption | omega)).trans (by first | assumption | exact zup_self)) | exact (bk_out (by first | omega | (simp only [bset, reduceIte, Nat.reduceEqDiff]; omega))).trans (by first | exact bk_0 | exact bk_1 | exact bk_2 | exact bk_3 | exact bk_4 | exact bk_5 | exact bk_6 | exact bk_7 | exact bk_8 | exact bk_9 | exact bk_10 | exact bk_11 | exact bk_12 | exact bk_13 | exact bk_14 | exact bk_15 | exact bk_16 | exact cr_5 | exact cr_23 | exact cr_24 | exact cr_25 | exact cr_26 | exact cr_27 | exact cr_28 | exact cr_29 | exact cr_30 | assumption)) (by decide) (by first | omega | (simp only [bset, reduceIte, Nat.reduceEqDiff]; omega)) (by first | omega | (simp only [bset, reduceIte, Nat.reduceEqDiff]; omega)) ?_
                refine zr_if_le (tgt := 56) dX7_ofRow_49 (by decide) (rfl : 49 + 3 = 52) (jI_lez (by first | omega | (simp only [bset, reduceIte, Nat.reduceEqDiff]; omega)) (by first | omega | (simp only [bset, reduceIte, Nat.reduceEqDiff]; omega))) (fun h49 => ?_) (fun h49 => ?_)
                · first
                  | (exfalso; omega)
                  | (
                    refine zr_iconst dX7_ofRow_56 (rfl : 56 + 1 = 57) ?_
                    refine zr_istore (lv' := [_, _, _, _, _, _, _]) dX7_ofRow_57 (rfl : 57 + 2 = 59) (Nat.le_of_ble_eq_true rfl) rfl ?_
                    refine zr_iload dX7_ofRow_59 (rfl : 59 + 2 = 61) rfl ?_
                    refine zr_aload_n dX7_ofRow_61 (rfl : 61 + 1 = 62) rfl ?_
                    refine zr_getf dX7_ofRow_62 (rfl : 62 + 3 = 65) f_X7_7 (by first | assumption | exact mw_167 | exact mw_168 | exact mw_169 | exact mw_170 | exact bk_0 | exact bk_1 | exact bk_2 | exact bk_3 | exact bk_4 | exact bk_5 | exact bk_6 | exact bk_7 | exact bk_8 | exact bk_9 | exact bk_10 | exact bk_11 | exact bk_12 | exact bk_13 | exact bk_14 | exact bk_15 | exact bk_16 | exact zup_self | exact (zup_ne (by first | assumption | omega)).trans (by first | assumption | exact zup_self) | exact (zup_ne (by first | assumption | omega)).trans ((zup_ne (by first | assumption | omega)).trans (by first | assumption | exact zup_self)) | exact (bk_out (by first | omega | (simp only [bset, reduceIte, Nat.reduceEqDiff]; omega))).trans (by first | exact bk_0 | exact bk_1 | exact bk_2 | exact bk_3 | exact bk_4 | exact bk_5 | exact bk_6 | exact bk_7 | exact bk_8 | exact bk_9 | exact bk_10 | exact bk_11 | exact bk_12 | exact bk_13 | exact bk_14 | exact bk_15 | exact bk_16 | exact cr_5 | exact cr_23 | exact cr_24 | exact cr_25 | exact cr_26 | exact cr_27 | exact cr_28 | exact cr_29 | exact cr_30 | assumption)) rfl ?_
                    refine zr_iconst dX7_ofRow_65 (rfl : 65 + 1 = 66) ?_
                    refine zr_iload dX7_ofRow_66 (rfl : 66 + 2 = 68) rfl ?_
                    refine zr_iadd dX7_ofRow_68 (rfl : 68 + 1 = 69) (by first | exact jI_add _ _ | rfl) ?_
                    refine zr_iald dX7_ofRow_69 (rfl : 69 + 1 = 70) (by first | assumption | exact mw_167 | exact mw_168 | exact mw_169 | exact mw_170 | exact bk_0 | exact bk_1 | exact bk_2 | exact bk_3 | exact bk_4 | exact bk_5 | exact bk_6 | exact bk_7 | exact bk_8 | exact bk_9 | exact bk_10 | exact bk_11 | exact bk_12 | exact bk_13 | exact bk_14 | exact bk_15 | exact bk_16 | exact zup_self | exact (zup_ne (by first | assumption | omega)).trans (by first | assumption | exact zup_self) | exact (zup_ne (by first | assumption | omega)).trans ((zup_ne (by first | assumption | omega)).trans (by first | assumption | exact zup_self)) | exact (bk_out (by first | omega | (simp only [bset, reduceIte, Nat.reduceEqDiff]; omega))).trans (by first | exact bk_0 | exact bk_1 | exact bk_2 | exact bk_3 | exact bk_4 | exact bk_5 | exact bk_6 | exact bk_7 | exact bk_8 | exact bk_9 | exact bk_10 | exact bk_11 | exact bk_12 | exact bk_13 | exact bk_14 | exact bk_15 | exact bk_16 | exact cr_5 | exact cr_23 | exact cr_24 | exact cr_25 | exact cr_26 | exact cr_27 | exact cr_28 | exact cr_29 | exact cr_30 | assumption)) (by decide) (by first | omega | (simp only [bset, reduceIte, Nat.reduceEqDiff]; omega)) (by first | omega | (simp only [bset, reduceIte, Nat.reduceEqDiff]; omega)) ?_
                    refine zr_iconst dX7_ofRow_70 (rfl : 70 + 1 = 71) ?_
                    refine zr_iconst dX7_ofRow_71 (rfl : 71 + 1 = 72) ?_
                    refine zr_iload_n dX7_ofRow_72 (rfl : 72 + 1 = 73) rfl ?_
                    refine zr_imul dX7_ofRow_73 (rfl : 73 + 1 = 74) (by first | exact jI_mul _ _ | rfl) ?_
                    refine zr_iadd dX7_ofRow_74 (rfl : 74 + 1 = 75) (by first | exact jI_add _ _ | rfl) ?_
                    refine zr_iload_n dX7_ofRow_75 (rfl : 75 + 1 = 76) rfl ?_
                    refine zr_iadd dX7_ofRow_76 (rfl : 76 + 1 = 77) (by first | exact jI_add _ _ | rfl) ?_
                    refine zr_icmp_ne (tgt := 89) dX7_ofRow_77 (by decide) (rfl : 77 + 3 = 80) (jI_eq (by first | omega | (simp only [bset, reduceIte, Nat.reduceEqDiff]; omega)) (by first | omega | (simp only [bset, reduceIte, Nat.reduceEqDiff]; omega)) (by first | omega | (simp only [bset, reduceIte, Nat.reduceEqDiff]; omega)) (by first | omega | (simp only [bset, reduceIte, Nat.reduceEqDiff]; omega))) (fun h77 => ?_) (fun h77 => ?_)
                    · first
                      | (exfalso; omega)
                      | (
                        refine zr_iconst dX7_ofRow_89 (rfl : 89 + 1 = 90) ?_
                        refine zr_iadd dX7_ofRow_90 (rfl : 90 + 1 = 91) (by first | exact jI_add _ _ | rfl) ?_
                        refine zr_istore (lv' := [_, _, _, _, _, _, _]) dX7_ofRow_91 (rfl : 91 + 2 = 93) (Nat.le_of_ble_eq_true rfl) rfl ?_
                        refine zr_iinc (lv' := [_, _, _, _, _, _, _]) dX7_ofRow_93 (rfl : 93 + 3 = 96) (Nat.le_of_ble_eq_true rfl) rfl (by first | exact jI_add _ _ | rfl) rfl ?_
                        refine zr_goto (tgt := 6) dX7_ofRow_96 (by decide) ?_
                        exact hk _ _ (by omega))
                    · first
                      | (exfalso; omega)
                      | (
                        refine zr_iload dX7_ofRow_80 (rfl : 80 + 2 = 82) rfl ?_
                        refine zr_if_eq (tgt := 89) dX7_ofRow_82 (by decide) (rfl : 82 + 3 = 85) (by first | exact jb_iff | exact jI_z (by first | omega | (simp only [bset, reduceIte, Nat.reduceEqDiff]; omega)) (by first | omega | (simp only [bset, reduceIte, Nat.reduceEqDiff]; omega))) (fun h82 => ?_) (fun h82 => ?_)
                        · first
                          | (exfalso; omega)
                          | (
                            refine zr_iconst dX7_ofRow_89 (rfl : 89 + 1 = 90) ?_
                            refine zr_iadd dX7_ofRow_90 (rfl : 90 + 1 = 91) (by first | exact jI_add _ _ | rfl) ?_
                            refine zr_istore (lv' := [_, _, _, _, _, _, _]) dX7_ofRow_91 (rfl : 91 + 2 = 93) (Nat.le_of_ble_eq_true rfl) rfl ?_
                            refine zr_iinc (lv' := [_, _, _, _, _, _, _]) dX7_ofRow_93 (rfl : 93 + 3 = 96) (Nat.le_of_ble_eq_true rfl) rfl (by first | exact jI_add _ _ | rfl) rfl ?_
                            refine zr_goto (tgt := 6) dX7_ofRow_96 (by decide) ?_
                            exact hk _ _ (by omega))
                        · first
                          | (exfalso; omega)
                          | (
                            refine zr_iconst dX7_ofRow_85 (rfl : 85 + 1 = 86) ?_
                            refine zr_goto (tgt := 90) dX7_ofRow_86 (by decide) ?_
                            refine zr_iadd dX7_ofRow_90 (rfl : 90 + 1 = 91) (by first | exact jI_add _ _ | rfl) ?_
                            refine zr_istore (lv' := [_, _, _, _, _, _, _]) dX7_ofRow_91 (rfl : 91 + 2 = 93) (Nat.le_of_ble_eq_true rfl) rfl ?_
                            refine zr_iinc (lv' := [_, _, _, _, _, _, _]) dX7_ofRow_93 (rfl : 93 + 3 = 96) (Nat.le_of_ble_eq_true rfl) rfl (by first | exact jI_add _ _ | rfl) rfl ?_
                            refine zr_goto (tgt := 6) dX7_ofRow_96 (by decide) ?_
                            exact hk _ _ (by omega))))
                · first
                  | (exfalso; omega)
                  | (
                    refine zr_iconst dX7_ofRow_52 (rfl : 52 + 1 = 53) ?_
                    refine zr_goto (tgt := 57) dX7_ofRow_53 (by decide) ?_
                    refine zr_istore (lv' := [_, _, _, _, _, _, _]) dX7_ofRow_57 (rfl : 57 + 2 = 59) (Nat.le_of_ble_eq_true rfl) rfl ?_
                    refine zr_iload dX7_ofRow_59 (rfl : 59 + 2 = 61) rfl ?_
                    refine zr_aload_n dX7_ofRow_61 (rfl : 61 + 1 = 62) rfl ?_
                    refine zr_getf dX7_ofRow_62 (rfl : 62 + 3 = 65) f_X7_7 (by first | assumption | exact mw_167 | exact mw_168 | exact mw_169 | exact mw_170 | exact bk_0 | exact bk_1 | exact bk_2 | exact bk_3 | exact bk_4 | exact bk_5 | exact bk_6 | exact bk_7 | exact bk_8 | exact bk_9 | exact bk_10 | exact bk_11 | exact bk_12 | exact bk_13 | exact bk_14 | exact bk_15 | exact bk_16 | exact zup_self | exact (zup_ne (by first | assumption | omega)).trans (by first | assumption | exact zup_self) | exact (zup_ne (by first | assumption | omega)).trans ((zup_ne (by first | assumption | omega)).trans (by first | assumption | exact zup_self)) | exact (bk_out (by first | omega | (simp only [bset, reduceIte, Nat.reduceEqDiff]; omega))).trans (by first | exact bk_0 | exact bk_1 | exact bk_2 | exact bk_3 | exact bk_4 | exact bk_5 | exact bk_6 | exact bk_7 | exact bk_8 | exact bk_9 | exact bk_10 | exact bk_11 | exact bk_12 | exact bk_13 | exact bk_14 | exact bk_15 | exact bk_16 | exact cr_5 | exact cr_23 | exact cr_24 | exact cr_25 | exact cr_26 | exact cr_27 | exact cr_28 | exact cr_29 | exact cr_30 | assumption)) rfl ?_
                    refine zr_iconst dX7_ofRow_65 (rfl : 65 + 1 = 66) ?_
                    refine zr_iload dX7_ofRow_66 (rfl : 66 + 2 = 68) rfl ?_
                    refine zr_iadd dX7_ofRow_68 (rfl : 68 + 1 = 69) (by first | exact jI_add _ _ | rfl) ?_
                    refine zr_iald dX7_ofRow_69 (rfl : 69 + 1 = 70) (by first | assumption | exact mw_167 | exact mw_168 | exact mw_169 | exact mw_170 | exact bk_0 | exact bk_1 | exact bk_2 | exact bk_3 | exact bk_4 | exact bk_5 | exact bk_6 | exact bk_7 | exact bk_8 | exact bk_9 | exact bk_10 | exact bk_11 | exact bk_12 | exact bk_13 | exact bk_14 | exact bk_15 | exact bk_16 | exact zup_self | exact (zup_ne (by first | assumption | omega)).trans (by first | assumption | exact zup_self) | exact (zup_ne (by first | assumption | omega)).trans ((zup_ne (by first | assumption | omega)).trans (by first | assumption | exact zup_self)) | exact (bk_out (by first | omega | (simp only [bset, reduceIte, Nat.reduceEqDiff]; omega))).trans (by first | exact bk_0 | exact bk_1 | exact bk_2 | exact bk_3 | exact bk_4 | exact bk_5 | exact bk_6 | exact bk_7 | exact bk_8 | exact bk_9 | exact bk_10 | exact bk_11 | exact bk_12 | exact bk_13 | exact bk_14 | exact bk_15 | exact bk_16 | exact cr_5 | exact cr_23 | exact cr_24 | exact cr_25 | exact cr_26 | exact cr_27 | exact cr_28 | exact cr_29 | exact cr_30 | assumption)) (by decide) (by first | omega | (simp only [bset, reduceIte, Nat.reduceEqDiff]; omega)) (by first | omega | (simp only [bset, reduceIte, Nat.reduceEqDiff]; omega)) ?_
                    refine zr_iconst dX7_ofRow_70 (rfl : 70 + 1 = 71) ?_
                    refine zr_iconst dX7_ofRow_71 (rfl : 71 + 1 = 72) ?_
                    refine zr_iload_n dX7_ofRow_72 (rfl : 72 + 1 = 73) rfl ?_
                    refine zr_imul dX7_ofRow_73 (rfl : 73 + 1 = 74) (by first | exact jI_mul _ _ | rfl) ?_
                    refine zr_iadd dX7_ofRow_74 (rfl : 74 + 1 = 75) (by first | exact jI_add _ _ | rfl) ?_
                    refine zr_iload_n dX7_ofRow_75 (rfl : 75 + 1 = 76) rfl ?_
                    refine zr_iadd dX7_ofRow_76 (rfl : 76 + 1 = 77) (by first | exact jI_add _ _ | rfl) ?_
                    refine zr_icmp_ne (tgt := 89) dX7_ofRow_77 (by decide) (rfl : 77 + 3 = 80) (jI_eq (by first | omega | (simp only [bset, reduceIte, Nat.reduceEqDiff]; omega)) (by first | omega | (simp only [bset, reduceIte, Nat.reduceEqDiff]; omega)) (by first | omega | (simp only [bset, reduceIte, Nat.reduceEqDiff]; omega)) (by first | omega | (simp only [bset, reduceIte, Nat.reduceEqDiff]; omega))) (fun h77 => ?_) (fun h77 => ?_)
                    · first
                      | (exfalso; omega)
                      | (
                        refine zr_iconst dX7_ofRow_89 (rfl : 89 + 1 = 90) ?_
                        refine zr_iadd dX7_ofRow_90 (rfl : 90 + 1 = 91) (by first | exact jI_add _ _ | rfl) ?_
                        refine zr_istore (lv' := [_, _, _, _, _, _, _]) dX7_ofRow_91 (rfl : 91 + 2 = 93) (Nat.le_of_ble_eq_true rfl) rfl ?_
                        refine zr_iinc (lv' := [_, _, _, _, _, _, _]) dX7_ofRow_93 (rfl : 93 + 3 = 96) (Nat.le_of_ble_eq_true rfl) rfl (by first | exact jI_add _ _ | rfl) rfl ?_
                        refine zr_goto (tgt := 6) dX7_ofRow_96 (by decide) ?_
                        exact hk _ _ (by omega))
                    · first
                      | (exfalso; omega)
                      | (
                        refine zr_iload dX7_ofRow_80 (rfl : 80 + 2 = 82) rfl ?_
                        refine zr_if_eq (tgt := 89) dX7_ofRow_82 (by decide) (rfl : 82 + 3 = 85) (by first | exact jb_iff | exact jI_z (by first | omega | (simp only [bset, reduceIte, Nat.reduceEqDiff]; omega)) (by first | omega | (simp only [bset, reduceIte, Nat.reduceEqDiff]; omega))) (fun h82 => ?_) (fun h82 => ?_)
                        · first
                          | (exfalso; omega)
                          | (
                            refine zr_iconst dX7_ofRow_89 (rfl : 89 + 1 = 90) ?_
                            refine zr_iadd dX7_ofRow_90 (rfl : 90 + 1 = 91) (by first | exact jI_add _ _ | rfl) ?_
                            refine zr_istore (lv' := [_, _, _, _, _, _, _]) dX7_ofRow_91 (rfl : 91 + 2 = 93) (Nat.le_of_ble_eq_true rfl) rfl ?_
                            refine zr_iinc (lv' := [_, _, _, _, _, _, _]) dX7_ofRow_93 (rfl : 93 + 3 = 96) (Nat.le_of_ble_eq_true rfl) rfl (by first | exact jI_add _ _ | rfl) rfl ?_
                            refine zr_goto (tgt := 6) dX7_ofRow_96 (by decide) ?_
                            exact hk _ _ (by omega))
                        · first
                          | (exfalso; omega)
                          | (
                            refine zr_iconst dX7_ofRow_85 (rfl : 85 + 1 = 86) ?_
                            refine zr_goto (tgt := 90) dX7_ofRow_86 (by decide) ?_
                            refine zr_iadd dX7_ofRow_90 (rfl : 90 + 1 = 91) (by first | exact jI_add _ _ | rfl) ?_
                            refine zr_istore (lv' := [_, _, _, _, _, _, _]) dX7_ofRow_91 (rfl : 91 + 2 = 93) (Nat.le_of_ble_eq_true rfl) rfl ?_
                            refine zr_iinc (lv' := [_, _, _, _, _, _, _]) dX7_ofRow_93 (rfl : 93 + 3 = 96) (Nat.le_of_ble_eq_true rfl) rfl (by first | exact jI_add _ _ | rfl) rfl ?_
                            refine zr_goto (tgt := 6) dX7_ofRow_96 (by decide) ?_
                            exact hk _ _ (by omega)))))
            · first
              | (exfalso; omega)
              | (
                refine zr_aload_n dX7_ofRow_22 (rfl : 22 + 1 = 23) rfl ?_
                refine zr_getf dX7_ofRow_23 (rfl : 23 + 3 = 26) f_X7_7 (by first | assumption | exact mw_167 | exact mw_168 | exact mw_169 | exact mw_170 | exact bk_0 | exact bk_1 | exact bk_2 | exact bk_3 | exact bk_4 | exact bk_5 | exact bk_6 | exact bk_7 | exact bk_8 | exact bk_9 | exact bk_10 | exact bk_11 | exact bk_12 | exact bk_13 | exact bk_14 | exact bk_15 | exact bk_16 | exact zup_self | exact (zup_ne (by first | assumption | omega)).trans (by first | assumption | exact zup_self) | exact (zup_ne (by first | assumption | omega)).trans ((zup_ne (by first | assumption | omega)).trans (by first | assumption | exact zup_self)) | exact (bk_out (by first | omega | (simp only [bset, reduceIte, Nat.reduceEqDiff]; omega))).trans (by first | exact bk_0 | exact bk_1 | exact bk_2 | exact bk_3 | exact bk_4 | exact bk_5 | exact bk_6 | exact bk_7 | exact bk_8 | exact bk_9 | exact bk_10 | exact bk_11 | exact bk_12 | exact bk_13 | exact bk_14 | exact bk_15 | exact bk_16 | exact cr_5 | exact cr_23 | exact cr_24 | exact cr_25 | exact cr_26 | exact cr_27 | exact cr_28 | exact cr_29 | exact cr_30 | assumption)) rfl ?_
                refine zr_bipush dX7_ofRow_26 (rfl : 26 + 2 = 28) (by decide) ?_
                refine zr_iload dX7_ofRow_28 (rfl : 28 + 2 = 30) rfl ?_
                refine zr_iadd dX7_ofRow_30 (rfl : 30 + 1 = 31) (by first | exact jI_add _ _ | rfl) ?_
                refine zr_iald dX7_ofRow_31 (rfl : 31 + 1 = 32) (by first | assumption | exact mw_167 | exact mw_168 | exact mw_169 | exact mw_170 | exact bk_0 | exact bk_1 | exact bk_2 | exact bk_3 | exact bk_4 | exact bk_5 | exact bk_6 | exact bk_7 | exact bk_8 | exact bk_9 | exact bk_10 | exact bk_11 | exact bk_12 | exact bk_13 | exact bk_14 | exact bk_15 | exact bk_16 | exact zup_self | exact (zup_ne (by first | assumption | omega)).trans (by first | assumption | exact zup_self) | exact (zup_ne (by first | assumption | omega)).trans ((zup_ne (by first | assumption | omega)).trans (by first | assumption | exact zup_self)) | exact (bk_out (by first | omega | (simp only [bset, reduceIte, Nat.reduceEqDiff]; omega))).trans (by first | exact bk_0 | exact bk_1 | exact bk_2 | exact bk_3 | exact bk_4 | exact bk_5 | exact bk_6 | exact bk_7 | exact bk_8 | exact bk_9 | exact bk_10 | exact bk_11 | exact bk_12 | exact bk_13 | exact bk_14 | exact bk_15 | exact bk_16 | exact cr_5 | exact cr_23 | exact cr_24 | exact cr_25 | exact cr_26 | exact cr_27 | exact cr_28 | exact cr_29 | exact cr_30 | assumption)) (by decide) (by first | omega | (simp only [bset, reduceIte, Nat.reduceEqDiff]; omega)) (by first | omega | (simp only [bset, reduceIte, Nat.reduceEqDiff]; omega)) ?_
                refine zr_if_le (tgt := 56) dX7_ofRow_32 (by decide) (rfl : 32 + 3 = 35) (jI_lez (by first | omega | (simp only [bset, reduceIte, Nat.reduceEqDiff]; omega)) (by first | omega | (simp only [bset, reduceIte, Nat.reduceEqDiff]; omega))) (fun h32 => ?_) (fun h32 => ?_)
                · first
                  | (exfalso; omega)
                  | (
                    refine zr_iconst dX7_ofRow_56 (rfl : 56 + 1 = 57) ?_
                    refine zr_istore (lv' := [_, _, _, _, _, _, _]) dX7_ofRow_57 (rfl : 57 + 2 = 59) (Nat.le_of_ble_eq_true rfl) rfl ?_
                    refine zr_iload dX7_ofRow_59 (rfl : 59 + 2 = 61) rfl ?_
                    refine zr_aload_n dX7_ofRow_61 (rfl : 61 + 1 = 62) rfl ?_
                    refine zr_getf dX7_ofRow_62 (rfl : 62 + 3 = 65) f_X7_7 (by first | assumption | exact mw_167 | exact mw_168 | exact mw_169 | exact mw_170 | exact bk_0 | exact bk_1 | exact bk_2 | exact bk_3 | exact bk_4 | exact bk_5 | exact bk_6 | exact bk_7 | exact bk_8 | exact bk_9 | exact bk_10 | exact bk_11 | exact bk_12 | exact bk_13 | exact bk_14 | exact bk_15 | exact bk_16 | exact zup_self | exact (zup_ne (by first | assumption | omega)).trans (by first | assumption | exact zup_self) | exact (zup_ne (by first | assumption | omega)).trans ((zup_ne (by first | assumption | omega)).trans (by first | assumption | exact zup_self)) | exact (bk_out (by first | omega | (simp only [bset, reduceIte, Nat.reduceEqDiff]; omega))).trans (by first | exact bk_0 | exact bk_1 | exact bk_2 | exact bk_3 | exact bk_4 | exact bk_5 | exact bk_6 | exact bk_7 | exact bk_8 | exact bk_9 | exact bk_10 | exact bk_11 | exact bk_12 | exact bk_13 | exact bk_14 | exact bk_15 | exact bk_16 | exact cr_5 | exact cr_23 | exact cr_24 | exact cr_25 | exact cr_26 | exact cr_27 | exact cr_28 | exact cr_29 | exact cr_30 | assumption)) rfl ?_
                    refine zr_iconst dX7_ofRow_65 (rfl : 65 + 1 = 66) ?_
                    refine zr_iload dX7_ofRow_66 (rfl : 66 + 2 = 68) rfl ?_
                    refine zr_iadd dX7_ofRow_68 (rfl : 68 + 1 = 69) (by first | exact jI_add _ _ | rfl) ?_
                    refine zr_iald dX7_ofRow_69 (rfl : 69 + 1 = 70) (by first | assumption | exact mw_167 | exact mw_168 | exact mw_169 | exact mw_170 | exact bk_0 | exact bk_1 | exact bk_2 | exact bk_3 | exact bk_4 | exact bk_5 | exact bk_6 | exact bk_7 | exact bk_8 | exact bk_9 | exact bk_10 | exact bk_11 | exact bk_12 | exact bk_13 | exact bk_14 | exact bk_15 | exact bk_16 | exact zup_self | exact (zup_ne (by first | assumption | omega)).trans (by first | assumption | exact zup_self) | exact (zup_ne (by first | assumption | omega)).trans ((zup_ne (by first | assumption | omega)).trans (by first | assumption | exact zup_self)) | exact (bk_out (by first | omega | (simp only [bset, reduceIte, Nat.reduceEqDiff]; omega))).trans (by first | exact bk_0 | exact bk_1 | exact bk_2 | exact bk_3 | exact bk_4 | exact bk_5 | exact bk_6 | exact bk_7 | exact bk_8 | exact bk_9 | exact bk_10 | exact bk_11 | exact bk_12 | exact bk_13 | exact bk_14 | exact bk_15 | exact bk_16 | exact cr_5 | exact cr_23 | exact cr_24 | exact cr_25 | exact cr_26 | exact cr_27 | exact cr_28 | exact cr_29 | exact cr_30 | assumption)) (by decide) (by first | omega | (simp only [bset, reduceIte, Nat.reduceEqDiff]; omega)) (by first | omega | (simp only [bset, reduceIte, Nat.reduceEqDiff]; omega)) ?_
                    refine zr_iconst dX7_ofRow_70 (rfl : 70 + 1 = 71) ?_
                    refine zr_iconst dX7_ofRow_71 (rfl : 71 + 1 = 72) ?_
                    refine zr_iload_n dX7_ofRow_72 (rfl : 72 + 1 = 73) rfl ?_
                    refine zr_imul dX7_ofRow_73 (rfl : 73 + 1 = 74) (by first | exact jI_mul _ _ | rfl) ?_
                    refine zr_iadd dX7_ofRow_74 (rfl : 74 + 1 = 75) (by first | exact jI_add _ _ | rfl) ?_
                    refine zr_iload_n dX7_ofRow_75 (rfl : 75 + 1 = 76) rfl ?_
                    refine zr_iadd dX7_ofRow_76 (rfl : 76 + 1 = 77) (by first | exact jI_add _ _ | rfl) ?_
                    refine zr_icmp_ne (tgt := 89) dX7_ofRow_77 (by decide) (rfl : 77 + 3 = 80) (jI_eq (by first | omega | (simp only [bset, reduceIte, Nat.reduceEqDiff]; omega)) (by first | omega | (simp only [bset, reduceIte, Nat.reduceEqDiff]; omega)) (by first | omega | (simp only [bset, reduceIte, Nat.reduceEqDiff]; omega)) (by first | omega | (simp only [bset, reduceIte, Nat.reduceEqDiff]; omega))) (fun h77 => ?_) (fun h77 => ?_)
                    · first
                      | (exfalso; omega)
                      | (
                        refine zr_iconst dX7_ofRow_89 (rfl : 89 + 1 = 90) ?_
                        refine zr_iadd dX7_ofRow_90 (rfl : 90 + 1 = 91) (by first | exact jI_add _ _ | rfl) ?_
                        refine zr_istore (lv' := [_, _, _, _, _, _, _]) dX7_ofRow_91 (rfl : 91 + 2 = 93) (Nat.le_of_ble_eq_true rfl) rfl ?_
                        refine zr_iinc (lv' := [_, _, _, _, _, _, _]) dX7_ofRow_93 (rfl : 93 + 3 = 96) (Nat.le_of_ble_eq_true rfl) rfl (by first | exact jI_add _ _ | rfl) rfl ?_
                        refine zr_goto (tgt := 6) dX7_ofRow_96 (by decide) ?_
                        exact hk _ _ (by omega))
                    · first
                      | (exfalso; omega)
                      | (
                        refine zr_iload dX7_ofRow_80 (rfl : 80 + 2 = 82) rfl ?_
                        refine zr_if_eq (tgt := 89) dX7_ofRow_82 (by decide) (rfl : 82 + 3 = 85) (by first | exact jb_iff | exact jI_z (by first | omega | (simp only [bset, reduceIte, Nat.reduceEqDiff]; omega)) (by first | omega | (simp only [bset, reduceIte, Nat.reduceEqDiff]; omega))) (fun h82 => ?_) (fun h82 => ?_)
                        · first
                          | (exfalso; omega)
                          | (
                            refine zr_iconst dX7_ofRow_89 (rfl : 89 + 1 = 90) ?_
                            refine zr_iadd dX7_ofRow_90 (rfl : 90 + 1 = 91) (by first | exact jI_add _ _ | rfl) ?_
                            refine zr_istore (lv' := [_, _, _, _, _, _, _]) dX7_ofRow_91 (rfl : 91 + 2 = 93) (Nat.le_of_ble_eq_true rfl) rfl ?_
                            refine zr_iinc (lv' := [_, _, _, _, _, _, _]) dX7_ofRow_93 (rfl : 93 + 3 = 96) (Nat.le_of_ble_eq_true rfl) rfl (by first | exact jI_add _ _ | rfl) rfl ?_
                            refine zr_goto (tgt := 6) dX7_ofRow_96 (by decide) ?_
                            exact hk _ _ (by omega))
                        · first
                          | (exfalso; omega)
                          | (
                            refine zr_iconst dX7_ofRow_85 (rfl : 85 + 1 = 86) ?_
                            refine zr_goto (tgt := 90) dX7_ofRow_86 (by decide) ?_
                            refine zr_iadd dX7_ofRow_90 (rfl : 90 + 1 = 91) (by first | exact jI_add _ _ | rfl) ?_
                            refine zr_istore (lv' := [_, _, _, _, _, _, _]) dX7_ofRow_91 (rfl : 91 + 2 = 93) (Nat.le_of_ble_eq_true rfl) rfl ?_
                            refine zr_iinc (lv' := [_, _, _, _, _, _, _]) dX7_ofRow_93 (rfl : 93 + 3 = 96) (Nat.le_of_ble_eq_true rfl) rfl (by first | exact jI_add _ _ | rfl) rfl ?_
                            refine zr_goto (tgt := 6) dX7_ofRow_96 (by decide) ?_
                            exact hk _ _ (by omega))))
                · first
                  | (exfalso; omega)
                  | (
                    refine zr_goto (tgt := 52) dX7_ofRow_35 (by decide) ?_
                    refine zr_iconst dX7_ofRow_52 (rfl : 52 + 1 = 53) ?_
                    refine zr_goto (tgt := 57) dX7_ofRow_53 (by decide) ?_
                    refine zr_istore (lv' := [_, _, _, _, _, _, _]) dX7_ofRow_57 (rfl : 57 + 2 = 59) (Nat.le_of_ble_eq_true rfl) rfl ?_
                    refine zr_iload dX7_ofRow_59 (rfl : 59 + 2 = 61) rfl ?_
                    refine zr_aload_n dX7_ofRow_61 (rfl : 61 + 1 = 62) rfl ?_
                    refine zr_getf dX7_ofRow_62 (rfl : 62 + 3 = 65) f_X7_7 (by first | assumption | exact mw_167 | exact mw_168 | exact mw_169 | exact mw_170 | exact bk_0 | exact bk_1 | exact bk_2 | exact bk_3 | exact bk_4 | exact bk_5 | exact bk_6 | exact bk_7 | exact bk_8 | exact bk_9 | exact bk_10 | exact bk_11 | exact bk_12 | exact bk_13 | exact bk_14 | exact bk_15 | exact bk_16 | exact zup_self | exact (zup_ne (by first | assumption | omega)).trans (by first | assumption | exact zup_self) | exact (zup_ne (by first | assumption | omega)).trans ((zup_ne (by first | assumption | omega)).trans (by first | assumption | exact zup_self)) | exact (bk_out (by first | omega | (simp only [bset, reduceIte, Nat.reduceEqDiff]; omega))).trans (by first | exact bk_0 | exact bk_1 | exact bk_2 | exact bk_3 | exact bk_4 | exact bk_5 | exact bk_6 | exact bk_7 | exact bk_8 | exact bk_9 | exact bk_10 | exact bk_11 | exact bk_12 | exact bk_13 | exact bk_14 | exact bk_15 | exact bk_16 | exact cr_5 | exact cr_23 | exact cr_24 | exact cr_25 | exact cr_26 | exact cr_27 | exact cr_28 | exact cr_29 | exact cr_30 | assumption)) rfl ?_
                    refine zr_iconst dX7_ofRow_65 (rfl : 65 + 1 = 66) ?_
                    refine zr_iload dX7_ofRow_66 (rfl : 66 + 2 = 68) rfl ?_
                    refine zr_iadd dX7_ofRow_68 (rfl : 68 + 1 = 69) (by first | exact jI_add _ _ | rfl) ?_
                    refine zr_iald dX7_ofRow_69 (rfl : 69 + 1 = 70) (by first | assumption | exact mw_167 | exact mw_168 | exact mw_169 | exact mw_170 | exact bk_0 | exact bk_1 | exact bk_2 | exact bk_3 | exact bk_4 | exact bk_5 | exact bk_6 | exact bk_7 | exact bk_8 | exact bk_9 | exact bk_10 | exact bk_11 | exact bk_12 | exact bk_13 | exact bk_14 | exact bk_15 | exact bk_16 | exact zup_self | exact (zup_ne (by first | assumption | omega)).trans (by first | assumption | exact zup_self) | exact (zup_ne (by first | assumption | omega)).trans ((zup_ne (by first | assumption | omega)).trans (by first | assumption | exact zup_self)) | exact (bk_out (by first | omega | (simp only [bset, reduceIte, Nat.reduceEqDiff]; omega))).trans (by first | exact bk_0 | exact bk_1 | exact bk_2 | exact bk_3 | exact bk_4 | exact bk_5 | exact bk_6 | exact bk_7 | exact bk_8 | exact bk_9 | exact bk_10 | exact bk_11 | exact bk_12 | exact bk_13 | exact bk_14 | exact bk_15 | exact bk_16 | exact cr_5 | exact cr_23 | exact cr_24 | exact cr_25 | exact cr_26 | exact cr_27 | exact cr_28 | exact cr_29 | exact cr_30 | assumption)) (by decide) (by first | omega | (simp only [bset, reduceIte, Nat.reduceEqDiff]; omega)) (by first | omega | (simp only [bset, reduceIte, Nat.reduceEqDiff]; omega)) ?_
                    refine zr_iconst dX7_ofRow_70 (rfl : 70 + 1 = 71) ?_
                    refine zr_iconst dX7_ofRow_71 (rfl : 71 + 1 = 72) ?_
                    refine zr_iload_n dX7_ofRow_72 (rfl : 72 + 1 = 73) rfl ?_
                    refine zr_imul dX7_ofRow_73 (rfl : 73 + 1 = 74) (by first | exact jI_mul _ _ | rfl) ?_
                    refine zr_iadd dX7_ofRow_74 (rfl : 74 + 1 = 75) (by first | exact jI_add _ _ | rfl) ?_
                    refine zr_iload_n dX7_ofRow_75 (rfl : 75 + 1 = 76) rfl ?_
                    refine zr_iadd dX7_ofRow_76 (rfl : 76 + 1 = 77) (by first | exact jI_add _ _ | rfl) ?_
                    refine zr_icmp_ne (tgt := 89) dX7_ofRow_77 (by decide) (rfl : 77 + 3 = 80) (jI_eq (by first | omega | (simp only [bset, reduceIte, Nat.reduceEqDiff]; omega)) (by first | omega | (simp only [bset, reduceIte, Nat.reduceEqDiff]; omega)) (by first | omega | (simp only [bset, reduceIte, Nat.reduceEqDiff]; omega)) (by first | omega | (simp only [bset, reduceIte, Nat.reduceEqDiff]; omega))) (fun h77 => ?_) (fun h77 => ?_)
                    · first
                      | (exfalso; omega)
                      | (
                        refine zr_iconst dX7_ofRow_89 (rfl : 89 + 1 = 90) ?_
                        refine zr_iadd dX7_ofRow_90 (rfl : 90 + 1 = 91) (by first | exact jI_add _ _ | rfl) ?_
                        refine zr_istore (lv' := [_, _, _, _, _, _, _]) dX7_ofRow_91 (rfl : 91 + 2 = 93) (Nat.le_of_ble_eq_true rfl) rfl ?_
                        refine zr_iinc (lv' := [_, _, _, _, _, _, _]) dX7_ofRow_93 (rfl : 93 + 3 = 96) (Nat.le_of_ble_eq_true rfl) rfl (by first | exact jI_add _ _ | rfl) rfl ?_
                        refine zr_goto (tgt := 6) dX7_ofRow_96 (by decide) ?_
                        exact hk _ _ (by omega))
                    · first
                      | (exfalso; omega)
                      | (
                        refine zr_iload dX7_ofRow_80 (rfl : 80 + 2 = 82) rfl ?_
                        refine zr_if_eq (tgt := 89) dX7_ofRow_82 (by decide) (rfl : 82 + 3 = 85) (by first | exact jb_iff | exact jI_z (by first | omega | (simp only [bset, reduceIte, Nat.reduceEqDiff]; omega)) (by first | omega | (simp only [bset, reduceIte, Nat.reduceEqDiff]; omega))) (fun h82 => ?_) (fun h82 => ?_)
                        · first
                          | (exfalso; omega)
                          | (
                            refine zr_iconst dX7_ofRow_89 (rfl : 89 + 1 = 90) ?_
                            refine zr_iadd dX7_ofRow_90 (rfl : 90 + 1 = 91) (by first | exact jI_add _ _ | rfl) ?_
                            refine zr_istore (lv' := [_, _, _, _, _, _, _]) dX7_ofRow_91 (rfl : 91 + 2 = 93) (Nat.le_of_ble_eq_true rfl) rfl ?_
                            refine zr_iinc (lv' := [_, _, _, _, _, _, _]) dX7_ofRow_93 (rfl : 93 + 3 = 96) (Nat.le_of_ble_eq_true rfl) rfl (by first | exact jI_add _ _ | rfl) rfl ?_
                            refine zr_goto (tgt := 6) dX7_ofRow_96 (by decide) ?_
                            exact hk _ _ (by omega))
                        · first
                          | (exfalso; omega)
                          | (
                            refine zr_iconst dX7_ofRow_85 (rfl : 85 + 1 = 86) ?_
                            refine zr_goto (tgt := 90) dX7_ofRow_86 (by decide) ?_
                            refine zr_iadd dX7_ofRow_90 (rfl : 90 + 1 = 91) (by first | exact jI_add _ _ | rfl) ?_
                            refine zr_istore (lv' := [_, _, _, _, _, _, _]) dX7_ofRow_91 (rfl : 91 + 2 = 93) (Nat.le_of_ble_eq_true rfl) rfl ?_
                            refine zr_iinc (lv' := [_, _, _, _, _, _, _]) dX7_ofRow_93 (rfl : 93 + 3 = 96) (Nat.le_of_ble_eq_true rfl) rfl (by first | exact jI_add _ _ | rfl) rfl ?_
                            refine zr_goto (tgt := 6) dX7_ofRow_96 (by decide) ?_
                            exact hk _ _ (by omega)))))))
  · intro x o6 hx
    rw [show x = jcnt 90 q from hx]
    refine zr_iload dX7_ofRow_6 (rfl : 6 + 2 = 8) rfl ?_
    refine zr_bipush dX7_ofRow_8 (rfl : 8 + 2 = 10) (by decide) ?_
    refine zr_icmp_gt (tgt := 99) dX7_ofRow_10 (by decide) (rfl : 10 + 3 = 13) (jI_lt (by first | omega | (simp only [bset, reduceIte, Nat.reduceEqDiff]; omega)) (by first | omega | (simp only [bset, reduceIte, Nat.reduceEqDiff]; omega)) (by first | omega | (simp only [bset, reduceIte, Nat.reduceEqDiff]; omega)) (by first | omega | (simp only [bset, reduceIte, Nat.reduceEqDiff]; omega))) (fun h10 => ?_) (fun h10 => ?_)
    · first
      | (exfalso; omega)
      | (
        refine zr_iload dX7_ofRow_99 (rfl : 99 + 2 = 101) rfl ?_
        refine zr_iret dX7_ofRow_101 rfl (by first | rfl | exact jb_nar) ?_ rfl rfl rfl
        first | rfl | rw [jb_pos (by first | assumption | omega)] | rw [jb_neg (by first | assumption | omega)] | rw [if_pos (by first | assumption | omega)] | rw [if_neg (by first | assumption | omega)])
    · first
      | (exfalso; omega)
      | (
        exfalso
        omega)
theorem m_ofCard (c k : Int) (hc : 0 ≤ c ∧ c < 6) (hk3 : 0 ≤ k ∧ k < 3) (h : mr S 0 B) (ok : jok B) (lk : jlk B) : zFn Γ md_X7_ofCard (d + 2) [.ref 167, .int (jI c), .int (jI k)] (mw S st ik th tx ty w) (some (.int (jI (jorw B (c * 3 + 0) k + jorw B (c * 3 + 1) k + jorw B (c * 3 + 2) k)))) (mw S st ik th tx ty w) := by
  refine zFn.of_run (lv := [some (.ref 167), some (.int (jI c)), some (.int (jI k))]) (by decide) rfl (Nat.le_of_ble_eq_true rfl) rfl (fun n9 g9 => ?_)
  refine zr_aload_n dX7_ofCard_0 (rfl : 0 + 1 = 1) rfl ?_
  refine zr_iload_n dX7_ofCard_1 (rfl : 1 + 1 = 2) rfl ?_
  refine zr_iconst dX7_ofCard_2 (rfl : 2 + 1 = 3) ?_
  refine zr_iload_n dX7_ofCard_3 (rfl : 3 + 1 = 4) rfl ?_
  refine zr_fnV dX7_ofCard_4 (rfl : 4 + 3 = 7) l_X7_40 (m_ofRow c 0 k hc (by decide) hk3 h ok lk) (by first | assumption | exact mw_167 | exact mw_168 | exact mw_169 | exact mw_170 | exact bk_0 | exact bk_1 | exact bk_2 | exact bk_3 | exact bk_4 | exact bk_5 | exact bk_6 | exact bk_7 | exact bk_8 | exact bk_9 | exact bk_10 | exact bk_11 | exact bk_12 | exact bk_13 | exact bk_14 | exact bk_15 | exact bk_16 | exact zup_self | exact (zup_ne (by first | assumption | omega)).trans (by first | assumption | exact zup_self) | exact (zup_ne (by first | assumption | omega)).trans ((zup_ne (by first | assumption | omega)).trans (by first | assumption | exact zup_self)) | exact (bk_out (by first | omega | (simp only [bset, reduceIte, Nat.reduceEqDiff]; omega))).trans (by first | exact bk_0 | exact bk_1 | exact bk_2 | exact bk_3 | exact bk_4 | exact bk_5 | exact bk_6 | exact bk_7 | exact bk_8 | exact bk_9 | exact bk_10 | exact bk_11 | exact bk_12 | exact bk_13 | exact bk_14 | exact bk_15 | exact bk_16 | exact cr_5 | exact cr_23 | exact cr_24 | exact cr_25 | exact cr_26 | exact cr_27 | exact cr_28 | exact cr_29 | exact cr_30 | assumption)) rfl rfl rfl (Nat.le_of_ble_eq_true rfl) ?_
  refine zr_aload_n dX7_ofCard_7 (rfl : 7 + 1 = 8) rfl ?_
  refine zr_iload_n dX7_ofCard_8 (rfl : 8 + 1 = 9) rfl ?_
  refine zr_iconst dX7_ofCard_9 (rfl : 9 + 1 = 10) ?_
  refine zr_iload_n dX7_ofCard_10 (rfl : 10 + 1 = 11) rfl ?_
  refine zr_fnV dX7_ofCard_11 (rfl : 11 + 3 = 14) l_X7_40 (m_ofRow c 1 k hc (by decide) hk3 h ok lk) (by first | assumption | exact mw_167 | exact mw_168 | exact mw_169 | exact mw_170 | exact bk_0 | exact bk_1 | exact bk_2 | exact bk_3 | exact bk_4 | exact bk_5 | exact bk_6 | exact bk_7 | exact bk_8 | exact bk_9 | exact bk_10 | exact bk_11 | exact bk_12 | exact bk_13 | exact bk_14 | exact bk_15 | exact bk_16 | exact zup_self | exact (zup_ne (by first | assumption | omega)).trans (by first | assumption | exact zup_self) | exact (zup_ne (by first | assumption | omega)).trans ((zup_ne (by first | assumption | omega)).trans (by first | assumption | exact zup_self)) | exact (bk_out (by first | omega | (simp only [bset, reduceIte, Nat.reduceEqDiff]; omega))).trans (by first | exact bk_0 | exact bk_1 | exact bk_2 | exact bk_3 | exact bk_4 | exact bk_5 | exact bk_6 | exact bk_7 | exact bk_8 | exact bk_9 | exact bk_10 | exact bk_11 | exact bk_12 | exact bk_13 | exact bk_14 | exact bk_15 | exact bk_16 | exact cr_5 | exact cr_23 | exact cr_24 | exact cr_25 | exact cr_26 | exact cr_27 | exact cr_28 | exact cr_29 | exact cr_30 | assumption)) rfl rfl rfl (Nat.le_of_ble_eq_true rfl) ?_
  refine zr_iadd dX7_ofCard_14 (rfl : 14 + 1 = 15) (by first | exact jI_add _ _ | rfl) ?_
  refine zr_aload_n dX7_ofCard_15 (rfl : 15 + 1 = 16) rfl ?_
  refine zr_iload_n dX7_ofCard_16 (rfl : 16 + 1 = 17) rfl ?_
  refine zr_iconst dX7_ofCard_17 (rfl : 17 + 1 = 18) ?_
  refine zr_iload_n dX7_ofCard_18 (rfl : 18 + 1 = 19) rfl ?_
  refine zr_fnV dX7_ofCard_19 (rfl : 19 + 3 = 22) l_X7_40 (m_ofRow c 2 k hc (by decide) hk3 h ok lk) (by first | assumption | exact mw_167 | exact mw_168 | exact mw_169 | exact mw_170 | exact bk_0 | exact bk_1 | exact bk_2 | exact bk_3 | exact bk_4 | exact bk_5 | exact bk_6 | exact bk_7 | exact bk_8 | exact bk_9 | exact bk_10 | exact bk_11 | exact bk_12 | exact bk_13 | exact bk_14 | exact bk_15 | exact bk_16 | exact zup_self | exact (zup_ne (by first | assumption | omega)).trans (by first | assumption | exact zup_self) | exact (zup_ne (by first | assumption | omega)).trans ((zup_ne (by first | assumption | omega)).trans (by first | assumption | exact zup_self)) | exact (bk_out (by first | omega | (simp only [bset, reduceIte, Nat.reduceEqDiff]; omega))).trans (by first | exact bk_0 | exact bk_1 | exact bk_2 | exact bk_3 | exact bk_4 | exact bk_5 | exact bk_6 | exact bk_7 | exact bk_8 | exact bk_9 | exact bk_10 | exact bk_11 | exact bk_12 | exact bk_13 | exact bk_14 | exact bk_15 | exact bk_16 | exact cr_5 | exact cr_23 | exact cr_24 | exact cr_25 | exact cr_26 | exact cr_27 | exact cr_28 | exact cr_29 | exact cr_30 | assumption)) rfl rfl rfl (Nat.le_of_ble_eq_true rfl) ?_
  refine zr_iadd dX7_ofCard_22 (rfl : 22 + 1 = 23) (by first | exact jI_add _ _ | rfl) ?_
  refine zr_iret dX7_ofCard_23 rfl (by first | rfl | exact jb_nar) ?_ rfl rfl rfl
  first | rfl | rw [jb_pos (by first | assumption | omega)] | rw [jb_neg (by first | assumption | omega)] | rw [if_pos (by first | assumption | omega)] | rw [if_neg (by first | assumption | omega)]
theorem jwh_iff (lk : jlk B) {c : Int} (hc : 0 ≤ c ∧ c < 6) : (jrs (B 0) (c * 3 + 0) = 5 ∧ jrs (B 0) (c * 3 + 1) = 5 ∧ jrs (B 0) (c * 3 + 2) = 5) ↔ jcs (B 0) c = 15 := by
  have h0 := lk.r5 (c * 3) (by omega) (by omega)
  have h1 := lk.r5 (c * 3 + 1) (by omega) (by omega)
  have h2 := lk.r5 (c * 3 + 2) (by omega) (by omega)
  unfold jcs
  rw [show c * 3 + 0 = c * 3 by omega, show c * 3 + 1 + 1 = c * 3 + 2 by omega]
  omega
theorem m_isWhole (c : Int) (hc : 0 ≤ c ∧ c < 6) (h : mr S 0 B) (ok : jok B) (lk : jlk B) : zFn Γ md_X7_isWhole (d + 2) [.ref 167, .int (jI c)] (mw S st ik th tx ty w) (some (.int (jI (jb (jcs (B 0) c = 15))))) (mw S st ik th tx ty w) := by
  have hw := jwh_iff lk hc
  have r0 := jorw_r B (c * 3 + 0) 0
  have r1 := jorw_r B (c * 3 + 1) 0
  have r2 := jorw_r B (c * 3 + 2) 0
  have e0 : jorw B (c * 3 + 0) 0 = jrs (B 0) (c * 3 + 0) := rfl
  have e1 : jorw B (c * 3 + 1) 0 = jrs (B 0) (c * 3 + 1) := rfl
  have e2 : jorw B (c * 3 + 2) 0 = jrs (B 0) (c * 3 + 2) := rfl
  refine zFn.of_run (lv := [some (.ref 167), some (.int (jI c))]) (by decide) rfl (Nat.le_of_ble_eq_true rfl) rfl (fun n9 g9 => ?_)
  refine zr_aload_n dX7_isWhole_0 (rfl : 0 + 1 = 1) rfl ?_
  refine zr_iload_n dX7_isWhole_1 (rfl : 1 + 1 = 2) rfl ?_
  refine zr_iconst dX7_isWhole_2 (rfl : 2 + 1 = 3) ?_
  refine zr_iconst dX7_isWhole_3 (rfl : 3 + 1 = 4) ?_
  refine zr_fnV dX7_isWhole_4 (rfl : 4 + 3 = 7) l_X7_40 (m_ofRow c 0 0 hc (by decide) (by decide) h ok lk) (by first | assumption | exact mw_167 | exact mw_168 | exact mw_169 | exact mw_170 | exact bk_0 | exact bk_1 | exact bk_2 | exact bk_3 | exact bk_4 | exact bk_5 | exact bk_6 | exact bk_7 | exact bk_8 | exact bk_9 | exact bk_10 | exact bk_11 | exact bk_12 | exact bk_13 | exact bk_14 | exact bk_15 | exact bk_16 | exact zup_self | exact (zup_ne (by first | assumption | omega)).trans (by first | assumption | exact zup_self) | exact (zup_ne (by first | assumption | omega)).trans ((zup_ne (by first | assumption | omega)).trans (by first | assumption | exact zup_self)) | exact (bk_out (by first | omega | (simp only [bset, reduceIte, Nat.reduceEqDiff]; omega))).trans (by first | exact bk_0 | exact bk_1 | exact bk_2 | exact bk_3 | exact bk_4 | exact bk_5 | exact bk_6 | exact bk_7 | exact bk_8 | exact bk_9 | exact bk_10 | exact bk_11 | exact bk_12 | exact bk_13 | exact bk_14 | exact bk_15 | exact bk_16 | exact cr_5 | exact cr_23 | exact cr_24 | exact cr_25 | exact cr_26 | exact cr_27 | exact cr_28 | exact cr_29 | exact cr_30 | assumption)) rfl rfl rfl (Nat.le_of_ble_eq_true rfl) ?_
  refine zr_iconst dX7_isWhole_7 (rfl : 7 + 1 = 8) ?_
  refine zr_icmp_ne (tgt := 37) dX7_isWhole_8 (by decide) (rfl : 8 + 3 = 11) (jI_eq (by first | omega | (simp only [bset, reduceIte, Nat.reduceEqDiff]; omega)) (by first | omega | (simp only [bset, reduceIte, Nat.reduceEqDiff]; omega)) (by first | omega | (simp only [bset, reduceIte, Nat.reduceEqDiff]; omega)) (by first | omega | (simp only [bset, reduceIte, Nat.reduceEqDiff]; omega))) (fun h8 => ?_) (fun h8 => ?_)
  · first
    | (exfalso; omega)
    | (
      refine zr_iconst dX7_isWhole_37 (rfl : 37 + 1 = 38) ?_
      refine zr_iret dX7_isWhole_38 rfl (by first | rfl | exact jb_nar) ?_ rfl rfl rfl
      first | rw [jb_pos (hw.mp ⟨by omega, by omega, by omega⟩)] | rw [jb_neg (fun q => by have := hw.mpr q; omega)])
  · first
    | (exfalso; omega)
    | (
      refine zr_aload_n dX7_isWhole_11 (rfl : 11 + 1 = 12) rfl ?_
      refine zr_iload_n dX7_isWhole_12 (rfl : 12 + 1 = 13) rfl ?_
      refine zr_iconst dX7_isWhole_13 (rfl : 13 + 1 = 14) ?_
      refine zr_iconst dX7_isWhole_14 (rfl : 14 + 1 = 15) ?_
      refine zr_fnV dX7_isWhole_15 (rfl : 15 + 3 = 18) l_X7_40 (m_ofRow c 1 0 hc (by decide) (by decide) h ok lk) (by first | assumption | exact mw_167 | exact mw_168 | exact mw_169 | exact mw_170 | exact bk_0 | exact bk_1 | exact bk_2 | exact bk_3 | exact bk_4 | exact bk_5 | exact bk_6 | exact bk_7 | exact bk_8 | exact bk_9 | exact bk_10 | exact bk_11 | exact bk_12 | exact bk_13 | exact bk_14 | exact bk_15 | exact bk_16 | exact zup_self | exact (zup_ne (by first | assumption | omega)).trans (by first | assumption | exact zup_self) | exact (zup_ne (by first | assumption | omega)).trans ((zup_ne (by first | assumption | omega)).trans (by first | assumption | exact zup_self)) | exact (bk_out (by first | omega | (simp only [bset, reduceIte, Nat.reduceEqDiff]; omega))).trans (by first | exact bk_0 | exact bk_1 | exact bk_2 | exact bk_3 | exact bk_4 | exact bk_5 | exact bk_6 | exact bk_7 | exact bk_8 | exact bk_9 | exact bk_10 | exact bk_11 | exact bk_12 | exact bk_13 | exact bk_14 | exact bk_15 | exact bk_16 | exact cr_5 | exact cr_23 | exact cr_24 | exact cr_25 | exact cr_26 | exact cr_27 | exact cr_28 | exact cr_29 | exact cr_30 | assumption)) rfl rfl rfl (Nat.le_of_ble_eq_true rfl) ?_
      refine zr_iconst dX7_isWhole_18 (rfl : 18 + 1 = 19) ?_
      refine zr_icmp_ne (tgt := 37) dX7_isWhole_19 (by decide) (rfl : 19 + 3 = 22) (jI_eq (by first | omega | (simp only [bset, reduceIte, Nat.reduceEqDiff]; omega)) (by first | omega | (simp only [bset, reduceIte, Nat.reduceEqDiff]; omega)) (by first | omega | (simp only [bset, reduceIte, Nat.reduceEqDiff]; omega)) (by first | omega | (simp only [bset, reduceIte, Nat.reduceEqDiff]; omega))) (fun h19 => ?_) (fun h19 => ?_)
      · first
        | (exfalso; omega)
        | (
          refine zr_iconst dX7_isWhole_37 (rfl : 37 + 1 = 38) ?_
          refine zr_iret dX7_isWhole_38 rfl (by first | rfl | exact jb_nar) ?_ rfl rfl rfl
          first | rw [jb_pos (hw.mp ⟨by omega, by omega, by omega⟩)] | rw [jb_neg (fun q => by have := hw.mpr q; omega)])
      · first
        | (exfalso; omega)
        | (
          refine zr_aload_n dX7_isWhole_22 (rfl : 22 + 1 = 23) rfl ?_
          refine zr_iload_n dX7_isWhole_23 (rfl : 23 + 1 = 24) rfl ?_
          refine zr_iconst dX7_isWhole_24 (rfl : 24 + 1 = 25) ?_
          refine zr_iconst dX7_isWhole_25 (rfl : 25 + 1 = 26) ?_
          refine zr_fnV dX7_isWhole_26 (rfl : 26 + 3 = 29) l_X7_40 (m_ofRow c 2 0 hc (by decide) (by decide) h ok lk) (by first | assumption | exact mw_167 | exact mw_168 | exact mw_169 | exact mw_170 | exact bk_0 | exact bk_1 | exact bk_2 | exact bk_3 | exact bk_4 | exact bk_5 | exact bk_6 | exact bk_7 | exact bk_8 | exact bk_9 | exact bk_10 | exact bk_11 | exact bk_12 | exact bk_13 | exact bk_14 | exact bk_15 | exact bk_16 | exact zup_self | exact (zup_ne (by first | assumption | omega)).trans (by first | assumption | exact zup_self) | exact (zup_ne (by first | assumption | omega)).trans ((zup_ne (by first | assumption | omega)).trans (by first | assumption | exact zup_self)) | exact (bk_out (by first | omega | (simp only [bset, reduceIte, Nat.reduceEqDiff]; omega))).trans (by first | exact bk_0 | exact bk_1 | exact bk_2 | exact bk_3 | exact bk_4 | exact bk_5 | exact bk_6 | exact bk_7 | exact bk_8 | exact bk_9 | exact bk_10 | exact bk_11 | exact bk_12 | exact bk_13 | exact bk_14 | exact bk_15 | exact bk_16 | exact cr_5 | exact cr_23 | exact cr_24 | exact cr_25 | exact cr_26 | exact cr_27 | exact cr_28 | exact cr_29 | exact cr_30 | assumption)) rfl rfl rfl (Nat.le_of_ble_eq_true rfl) ?_
          refine zr_iconst dX7_isWhole_29 (rfl : 29 + 1 = 30) ?_
          refine zr_icmp_ne (tgt := 37) dX7_isWhole_30 (by decide) (rfl : 30 + 3 = 33) (jI_eq (by first | omega | (simp only [bset, reduceIte, Nat.reduceEqDiff]; omega)) (by first | omega | (simp only [bset, reduceIte, Nat.reduceEqDiff]; omega)) (by first | omega | (simp only [bset, reduceIte, Nat.reduceEqDiff]; omega)) (by first | omega | (simp only [bset, reduceIte, Nat.reduceEqDiff]; omega))) (fun h30 => ?_) (fun h30 => ?_)
          · first
            | (exfalso; omega)
            | (
              refine zr_iconst dX7_isWhole_37 (rfl : 37 + 1 = 38) ?_
              refine zr_iret dX7_isWhole_38 rfl (by first | rfl | exact jb_nar) ?_ rfl rfl rfl
              first | rw [jb_pos (hw.mp ⟨by omega, by omega, by omega⟩)] | rw [jb_neg (fun q => by have := hw.mpr q; omega)])
          · first
            | (exfalso; omega)
            | (
              refine zr_iconst dX7_isWhole_33 (rfl : 33 + 1 = 34) ?_
              refine zr_goto (tgt := 38) dX7_isWhole_34 (by decide) ?_
              refine zr_iret dX7_isWhole_38 rfl (by first | rfl | exact jb_nar) ?_ rfl rfl rfl
              first | rw [jb_pos (hw.mp ⟨by omega, by omega, by omega⟩)] | rw [jb_neg (fun q => by have := hw.mpr q; omega)])))
theorem m_inBook (h : mr S 0 B) (ok : jok B) (lk : jlk B) : zFn Γ md_X7_inBook d [.ref 167] (mw S st ik th tx ty w) (some (.int (jI (B 2 0)))) (mw S st ik th tx ty w) := by
  have hsz := lk.sz
  refine zFn.of_run (lv := [some (.ref 167), none, none]) (by decide) rfl (Nat.le_of_ble_eq_true rfl) rfl (fun n9 g9 => ?_)
  refine zr_iconst dX7_inBook_0 (rfl : 0 + 1 = 1) ?_
  refine zr_istore_n (lv' := [_, _, _]) dX7_inBook_1 (rfl : 1 + 1 = 2) (Nat.le_of_ble_eq_true rfl) rfl ?_
  refine zr_iconst dX7_inBook_2 (rfl : 2 + 1 = 3) ?_
  refine zr_istore_n (lv' := [_, _, _]) dX7_inBook_3 (rfl : 3 + 1 = 4) (Nat.le_of_ble_eq_true rfl) rfl ?_
  refine zfor1 1 90 (fun n x => x = (n - 1) - jrk (jfree B) n) (fun n x => [some (.ref 167), some (.int (jI x)), some (.int (jI n))]) (fun _ _ => (mw S st ik th tx ty w)) 0 rfl ?_ ?_
  · intro n x n0 n1 hx hk
    have hp := h.pl0 n n0 (by omega)
    have hR := ok.R n
    have hs := jrk_succ (q := jfree B) n0
    have hb : (B 1 n = -1 ∧ jb (jfree B n = true) = 1) ∨ (B 1 n ≠ -1 ∧ jb (jfree B n = true) = 0) := by
      by_cases hh : B 1 n = -1
      · exact Or.inl ⟨hh, jb_pos (decide_eq_true hh)⟩
      · exact Or.inr ⟨hh, jb_neg (fun z => hh (of_decide_eq_true z))⟩
    refine zr_iload_n dX7_inBook_4 (rfl : 4 + 1 = 5) rfl ?_
    refine zr_bipush dX7_inBook_5 (rfl : 5 + 2 = 7) (by decide) ?_
    refine zr_icmp_gt (tgt := 35) dX7_inBook_7 (by decide) (rfl : 7 + 3 = 10) (jI_lt (by first | omega | (simp only [bset, reduceIte, Nat.reduceEqDiff]; omega)) (by first | omega | (simp only [bset, reduceIte, Nat.reduceEqDiff]; omega)) (by first | omega | (simp only [bset, reduceIte, Nat.reduceEqDiff]; omega)) (by first | omega | (simp only [bset, reduceIte, Nat.reduceEqDiff]; omega))) (fun h7 => ?_) (fun h7 => ?_)
    · first
      | (exfalso; omega)
      | (
        refine zr_iload_n dX7_inBook_35 (rfl : 35 + 1 = 36) rfl ?_
        refine zr_iret dX7_inBook_36 rfl (by first | rfl | exact jb_nar) ?_ rfl rfl rfl
        first | rfl | rw [jb_pos (by first | assumption | omega)] | rw [jb_neg (by first | assumption | omega)] | rw [if_pos (by first | assumption | omega)] | rw [if_neg (by first | assumption | omega)])
    · first
      | (exfalso; omega)
      | (
        refine zr_iload_n dX7_inBook_10 (rfl : 10 + 1 = 11) rfl ?_
        refine zr_aload_n dX7_inBook_11 (rfl : 11 + 1 = 12) rfl ?_
        refine zr_getf dX7_inBook_12 (rfl : 12 + 3 = 15) f_X7_7 (by first | assumption | exact mw_167 | exact mw_168 | exact mw_169 | exact mw_170 | exact bk_0 | exact bk_1 | exact bk_2 | exact bk_3 | exact bk_4 | exact bk_5 | exact bk_6 | exact bk_7 | exact bk_8 | exact bk_9 | exact bk_10 | exact bk_11 | exact bk_12 | exact bk_13 | exact bk_14 | exact bk_15 | exact bk_16 | exact zup_self | exact (zup_ne (by first | assumption | omega)).trans (by first | assumption | exact zup_self) | exact (zup_ne (by first | assumption | omega)).trans ((zup_ne (by first | assumption | omega)).trans (by first | assumption | exact zup_self)) | exact (bk_out (by first | omega | (simp only [bset, reduceIte, Nat.reduceEqDiff]; omega))).trans (by first | exact bk_0 | exact bk_1 | exact bk_2 | exact bk_3 | exact bk_4 | exact bk_5 | exact bk_6 | exact bk_7 | exact bk_8 | exact bk_9 | exact bk_10 | exact bk_11 | exact bk_12 | exact bk_13 | exact bk_14 | exact bk_15 | exact bk_16 | exact cr_5 | exact cr_23 | exact cr_24 | exact cr_25 | exact cr_26 | exact cr_27 | exact cr_28 | exact cr_29 | exact cr_30 | assumption)) rfl ?_
        refine zr_iconst dX7_inBook_15 (rfl : 15 + 1 = 16) ?_
        refine zr_iload_n dX7_inBook_16 (rfl : 16 + 1 = 17) rfl ?_
        refine zr_iadd dX7_inBook_17 (rfl : 17 + 1 = 18) (by first | exact jI_add _ _ | rfl) ?_
        refine zr_iald dX7_inBook_18 (rfl : 18 + 1 = 19) (by first | assumption | exact mw_167 | exact mw_168 | exact mw_169 | exact mw_170 | exact bk_0 | exact bk_1 | exact bk_2 | exact bk_3 | exact bk_4 | exact bk_5 | exact bk_6 | exact bk_7 | exact bk_8 | exact bk_9 | exact bk_10 | exact bk_11 | exact bk_12 | exact bk_13 | exact bk_14 | exact bk_15 | exact bk_16 | exact zup_self | exact (zup_ne (by first | assumption | omega)).trans (by first | assumption | exact zup_self) | exact (zup_ne (by first | assumption | omega)).trans ((zup_ne (by first | assumption | omega)).trans (by first | assumption | exact zup_self)) | exact (bk_out (by first | omega | (simp only [bset, reduceIte, Nat.reduceEqDiff]; omega))).trans (by first | exact bk_0 | exact bk_1 | exact bk_2 | exact bk_3 | exact bk_4 | exact bk_5 | exact bk_6 | exact bk_7 | exact bk_8 | exact bk_9 | exact bk_10 | exact bk_11 | exact bk_12 | exact bk_13 | exact bk_14 | exact bk_15 | exact bk_16 | exact cr_5 | exact cr_23 | exact cr_24 | exact cr_25 | exact cr_26 | exact cr_27 | exact cr_28 | exact cr_29 | exact cr_30 | assumption)) (by decide) (by first | omega | (simp only [bset, reduceIte, Nat.reduceEqDiff]; omega)) (by first | omega | (simp only [bset, reduceIte, Nat.reduceEqDiff]; omega)) ?_
        refine zr_if_le (tgt := 26) dX7_inBook_19 (by decide) (rfl : 19 + 3 = 22) (jI_lez (by first | omega | (simp only [bset, reduceIte, Nat.reduceEqDiff]; omega)) (by first | omega | (simp only [bset, reduceIte, Nat.reduceEqDiff]; omega))) (fun h19 => ?_) (fun h19 => ?_)
        · first
          | (exfalso; omega)
          | (
            refine zr_iconst dX7_inBook_26 (rfl : 26 + 1 = 27) ?_
            refine zr_iadd dX7_inBook_27 (rfl : 27 + 1 = 28) (by first | exact jI_add _ _ | rfl) ?_
            refine zr_istore_n (lv' := [_, _, _]) dX7_inBook_28 (rfl : 28 + 1 = 29) (Nat.le_of_ble_eq_true rfl) rfl ?_
            refine zr_iinc (lv' := [_, _, _]) dX7_inBook_29 (rfl : 29 + 3 = 32) (Nat.le_of_ble_eq_true rfl) rfl (by first | exact jI_add _ _ | rfl) rfl ?_
            refine zr_goto (tgt := 4) dX7_inBook_32 (by decide) ?_
            exact hk _ (by omega))
        · first
          | (exfalso; omega)
          | (
            refine zr_iconst dX7_inBook_22 (rfl : 22 + 1 = 23) ?_
            refine zr_goto (tgt := 27) dX7_inBook_23 (by decide) ?_
            refine zr_iadd dX7_inBook_27 (rfl : 27 + 1 = 28) (by first | exact jI_add _ _ | rfl) ?_
            refine zr_istore_n (lv' := [_, _, _]) dX7_inBook_28 (rfl : 28 + 1 = 29) (Nat.le_of_ble_eq_true rfl) rfl ?_
            refine zr_iinc (lv' := [_, _, _]) dX7_inBook_29 (rfl : 29 + 3 = 32) (Nat.le_of_ble_eq_true rfl) rfl (by first | exact jI_add _ _ | rfl) rfl ?_
            refine zr_goto (tgt := 4) dX7_inBook_32 (by decide) ?_
            exact hk _ (by omega)))
  · intro x hx
    rw [show x = B 2 0 by rw [hx, hsz]; rfl]
    refine zr_iload_n dX7_inBook_4 (rfl : 4 + 1 = 5) rfl ?_
    refine zr_bipush dX7_inBook_5 (rfl : 5 + 2 = 7) (by decide) ?_
    refine zr_icmp_gt (tgt := 35) dX7_inBook_7 (by decide) (rfl : 7 + 3 = 10) (jI_lt (by first | omega | (simp only [bset, reduceIte, Nat.reduceEqDiff]; omega)) (by first | omega | (simp only [bset, reduceIte, Nat.reduceEqDiff]; omega)) (by first | omega | (simp only [bset, reduceIte, Nat.reduceEqDiff]; omega)) (by first | omega | (simp only [bset, reduceIte, Nat.reduceEqDiff]; omega))) (fun h7 => ?_) (fun h7 => ?_)
    · first
      | (exfalso; omega)
      | (
        refine zr_iload_n dX7_inBook_35 (rfl : 35 + 1 = 36) rfl ?_
        refine zr_iret dX7_inBook_36 rfl (by first | rfl | exact jb_nar) ?_ rfl rfl rfl
        first | rfl | rw [jb_pos (by first | assumption | omega)] | rw [jb_neg (by first | assumption | omega)] | rw [if_pos (by first | assumption | omega)] | rw [if_neg (by first | assumption | omega)])
    · first
      | (exfalso; omega)
      | (
        exfalso
        omega)
theorem m_wrong (c r n : Int) (hc : 0 ≤ c ∧ c < 6) (hr : 0 ≤ r ∧ r < 3) (hn : 1 ≤ n ∧ n ≤ 90) (h : mr S 0 B) (ok : jok B) (lk : jlk B) : zFn Γ md_X7_wrong (d + 2) [.ref 167, .int (jI c), .int (jI r), .int (jI n)] (mw S st ik th tx ty w) (some (.int (jI (jrap B (c * 3 + r) n)))) (mw S st ik th tx ty w) := by
  have hp := h.pl0 n hn.1 hn.2
  have hR := ok.R n
  have hcl := jcol_9 hn
  have hP := fun k : Int => ok.P ((c * 3 + k) * 9 + jcol n)
  have hPr := hP r
  have hbo := h.bo0 c hc.1 hc.2
  have hbr := jbit_r (B 11 0) c
  have r0 := jorw_r B (c * 3 + r) 0
  have e0 : jorw B (c * 3 + r) 0 = jrs (B 0) (c * 3 + r) := rfl
  have hj : jbit (B 11 0) ((c * 3 + r) / 3) = jbit (B 11 0) c := by rw [show (c * 3 + r) / 3 = c by omega]
  rw [jrap_eq, hj]
  refine zFn.of_run (lv := [some (.ref 167), some (.int (jI c)), some (.int (jI r)), some (.int (jI n)), none, none]) (by decide) rfl (Nat.le_of_ble_eq_true rfl) rfl (fun n9 g9 => ?_)
  have main : ¬ B 1 n ≠ -1 → ¬ B 0 ((c * 3 + r) * 9 + jcol n) ≠ 0 → ¬ jrs (B 0) (c * 3 + r) = 5 → zRun Γ md_X7_wrong (d + 2) none 41 [some (.ref 167), some (.int (jI c)), some (.int (jI r)), some (.int (jI n)), none, none] [] (n9, g9, 0, 0) (mw S st ik th tx ty w) (zDone md_X7_wrong (some (.int (jI (if B 1 n ≠ -1 then 1 else if B 0 ((c * 3 + r) * 9 + jcol n) ≠ 0 then 2 else if jrs (B 0) (c * 3 + r) = 5 then 3 else if jbrk (B 0) (c * 3 + r) n then 4 else if jbit (B 11 0) c = 1 then 5 else 0)))) (mw S st ik th tx ty w) n9 g9) := by
    intro q1 q2 q3
    rw [if_neg q1, if_neg q2, if_neg q3]
    have hbrk : jbrk (B 0) (c * 3 + r) n ↔ (jbk1 (B 0) (c * 3 + r) n (c * 3 + 0) ∨ jbk1 (B 0) (c * 3 + r) n (c * 3 + 1) ∨ jbk1 (B 0) (c * 3 + r) n (c * 3 + 2)) := by
      unfold jbrk
      rw [show (c * 3 + r) / 3 * 3 = c * 3 by omega, show c * 3 + 0 = c * 3 by omega]
    refine zr_iconst dX7_wrong_41 (rfl : 41 + 1 = 42) ?_
    refine zr_istore (lv' := [_, _, _, _, _, _]) dX7_wrong_42 (rfl : 42 + 2 = 44) (Nat.le_of_ble_eq_true rfl) rfl ?_
    refine zfor1 0 3 (fun k _ => ∀ j, 0 ≤ j → j < k → ¬ jbk1 (B 0) (c * 3 + r) n (c * 3 + j)) (fun k o5 => [some (.ref 167), some (.int (jI c)), some (.int (jI r)), some (.int (jI n)), some (.int (jI k)), o5]) (fun _ _ => (mw S st ik th tx ty w)) none (fun j j0 j1 => absurd j1 (by omega)) ?_ ?_
    · intro k o5 k0 k1 hI hk
      have hPk := hP k
      have h4 : jbk1 (B 0) (c * 3 + r) n (c * 3 + k) → jbrk (B 0) (c * 3 + r) n := by
        intro hv
        refine hbrk.mpr ?_
        rcases (by omega : k = 0 ∨ k = 1 ∨ k = 2) with e | e | e
        · exact Or.inl (by rw [← e]; exact hv)
        · exact Or.inr (Or.inl (by rw [← e]; exact hv))
        · exact Or.inr (Or.inr (by rw [← e]; exact hv))
      have hnx : ¬ jbk1 (B 0) (c * 3 + r) n (c * 3 + k) → ∀ j, 0 ≤ j → j < k + 1 → ¬ jbk1 (B 0) (c * 3 + r) n (c * 3 + j) := by
        intro hv j j0 j1
        by_cases e : j = k
        · rw [e]
          exact hv
        · exact hI j j0 (by omega)
      unfold jbk1 at hnx
      refine zr_iload dX7_wrong_44 (rfl : 44 + 2 = 46) rfl ?_
      refine zr_iconst dX7_wrong_46 (rfl : 46 + 1 = 47) ?_
      refine zr_icmp_ge (tgt := 100) dX7_wrong_47 (by decide) (rfl : 47 + 3 = 50) (jI_le (by first | omega | (simp only [bset, reduceIte, Nat.reduceEqDiff]; omega)) (by first | omega | (simp only [bset, reduceIte, Nat.reduceEqDiff]; omega)) (by first | omega | (simp only [bset, reduceIte, Nat.reduceEqDiff]; omega)) (by first | omega | (simp only [bset, reduceIte, Nat.reduceEqDiff]; omega))) (fun h47 => ?_) (fun h47 => ?_)
      · first
        | (exfalso; omega)
        | (
          exfalso
          omega)
      · first
        | (exfalso; omega)
        | (
          refine zr_aload_n dX7_wrong_50 (rfl : 50 + 1 = 51) rfl ?_
          refine zr_iload_n dX7_wrong_51 (rfl : 51 + 1 = 52) rfl ?_
          refine zr_iload dX7_wrong_52 (rfl : 52 + 2 = 54) rfl ?_
          refine zr_iload_n dX7_wrong_54 (rfl : 54 + 1 = 55) rfl ?_
          refine zr_fnS dX7_wrong_55 (rfl : 55 + 3 = 58) l_X7_36 (m_column n (by first | omega | (simp only [bset, reduceIte, Nat.reduceEqDiff]; omega))) rfl rfl (Nat.le_of_ble_eq_true rfl) ?_
          refine zr_fnV dX7_wrong_58 (rfl : 58 + 3 = 61) l_X7_44 (m_numberAt c k (jcol n) hc (by first | omega | (simp only [bset, reduceIte, Nat.reduceEqDiff]; omega)) hcl h ok lk) (by first | assumption | exact mw_167 | exact mw_168 | exact mw_169 | exact mw_170 | exact bk_0 | exact bk_1 | exact bk_2 | exact bk_3 | exact bk_4 | exact bk_5 | exact bk_6 | exact bk_7 | exact bk_8 | exact bk_9 | exact bk_10 | exact bk_11 | exact bk_12 | exact bk_13 | exact bk_14 | exact bk_15 | exact bk_16 | exact zup_self | exact (zup_ne (by first | assumption | omega)).trans (by first | assumption | exact zup_self) | exact (zup_ne (by first | assumption | omega)).trans ((zup_ne (by first | assumption | omega)).trans (by first | assumption | exact zup_self)) | exact (bk_out (by first | omega | (simp only [bset, reduceIte, Nat.reduceEqDiff]; omega))).trans (by first | exact bk_0 | exact bk_1 | exact bk_2 | exact bk_3 | exact bk_4 | exact bk_5 | exact bk_6 | exact bk_7 | exact bk_8 | exact bk_9 | exact bk_10 | exact bk_11 | exact bk_12 | exact bk_13 | exact bk_14 | exact bk_15 | exact bk_16 | exact cr_5 | exact cr_23 | exact cr_24 | exact cr_25 | exact cr_26 | exact cr_27 | exact cr_28 | exact cr_29 | exact cr_30 | assumption)) rfl rfl rfl (Nat.le_of_ble_eq_true rfl) ?_
          refine zr_istore (lv' := [_, _, _, _, _, _]) dX7_wrong_61 (rfl : 61 + 2 = 63) (Nat.le_of_ble_eq_true rfl) rfl ?_
          refine zr_iload dX7_wrong_63 (rfl : 63 + 2 = 65) rfl ?_
          refine zr_if_le (tgt := 94) dX7_wrong_65 (by decide) (rfl : 65 + 3 = 68) (jI_lez (by first | omega | (simp only [bset, reduceIte, Nat.reduceEqDiff]; omega)) (by first | omega | (simp only [bset, reduceIte, Nat.reduceEqDiff]; omega))) (fun h65 => ?_) (fun h65 => ?_)
          · first
            | (exfalso; omega)
            | (
              refine zr_iinc (lv' := [_, _, _, _, _, _]) dX7_wrong_94 (rfl : 94 + 3 = 97) (Nat.le_of_ble_eq_true rfl) rfl (by first | exact jI_add _ _ | rfl) rfl ?_
              refine zr_goto (tgt := 44) dX7_wrong_97 (by decide) ?_
              exact hk _ (hnx (by omega)))
          · first
            | (exfalso; omega)
            | (
              refine zr_iload dX7_wrong_68 (rfl : 68 + 2 = 70) rfl ?_
              refine zr_iload_n dX7_wrong_70 (rfl : 70 + 1 = 71) rfl ?_
              refine zr_icmp_ge (tgt := 80) dX7_wrong_71 (by decide) (rfl : 71 + 3 = 74) (jI_le (by first | omega | (simp only [bset, reduceIte, Nat.reduceEqDiff]; omega)) (by first | omega | (simp only [bset, reduceIte, Nat.reduceEqDiff]; omega)) (by first | omega | (simp only [bset, reduceIte, Nat.reduceEqDiff]; omega)) (by first | omega | (simp only [bset, reduceIte, Nat.reduceEqDiff]; omega))) (fun h71 => ?_) (fun h71 => ?_)
              · first
                | (exfalso; omega)
                | (
                  refine zr_iload dX7_wrong_80 (rfl : 80 + 2 = 82) rfl ?_
                  refine zr_iload_n dX7_wrong_82 (rfl : 82 + 1 = 83) rfl ?_
                  refine zr_icmp_le (tgt := 94) dX7_wrong_83 (by decide) (rfl : 83 + 3 = 86) (jI_le (by first | omega | (simp only [bset, reduceIte, Nat.reduceEqDiff]; omega)) (by first | omega | (simp only [bset, reduceIte, Nat.reduceEqDiff]; omega)) (by first | omega | (simp only [bset, reduceIte, Nat.reduceEqDiff]; omega)) (by first | omega | (simp only [bset, reduceIte, Nat.reduceEqDiff]; omega))) (fun h83 => ?_) (fun h83 => ?_)
                  · first
                    | (exfalso; omega)
                    | (
                      refine zr_iinc (lv' := [_, _, _, _, _, _]) dX7_wrong_94 (rfl : 94 + 3 = 97) (Nat.le_of_ble_eq_true rfl) rfl (by first | exact jI_add _ _ | rfl) rfl ?_
                      refine zr_goto (tgt := 44) dX7_wrong_97 (by decide) ?_
                      exact hk _ (hnx (by omega)))
                  · first
                    | (exfalso; omega)
                    | (
                      refine zr_iload dX7_wrong_86 (rfl : 86 + 2 = 88) rfl ?_
                      refine zr_iload_n dX7_wrong_88 (rfl : 88 + 1 = 89) rfl ?_
                      refine zr_icmp_ge (tgt := 94) dX7_wrong_89 (by decide) (rfl : 89 + 3 = 92) (jI_le (by first | omega | (simp only [bset, reduceIte, Nat.reduceEqDiff]; omega)) (by first | omega | (simp only [bset, reduceIte, Nat.reduceEqDiff]; omega)) (by first | omega | (simp only [bset, reduceIte, Nat.reduceEqDiff]; omega)) (by first | omega | (simp only [bset, reduceIte, Nat.reduceEqDiff]; omega))) (fun h89 => ?_) (fun h89 => ?_)
                      · first
                        | (exfalso; omega)
                        | (
                          refine zr_iinc (lv' := [_, _, _, _, _, _]) dX7_wrong_94 (rfl : 94 + 3 = 97) (Nat.le_of_ble_eq_true rfl) rfl (by first | exact jI_add _ _ | rfl) rfl ?_
                          refine zr_goto (tgt := 44) dX7_wrong_97 (by decide) ?_
                          exact hk _ (hnx (by omega)))
                      · first
                        | (exfalso; omega)
                        | (
                          refine zr_iconst dX7_wrong_92 (rfl : 92 + 1 = 93) ?_
                          refine zr_iret dX7_wrong_93 rfl (by first | rfl | exact jb_nar) ?_ rfl rfl rfl
                          rw [if_pos (h4 ⟨by omega, by omega⟩)])))
              · first
                | (exfalso; omega)
                | (
                  refine zr_iload dX7_wrong_74 (rfl : 74 + 2 = 76) rfl ?_
                  refine zr_iload_n dX7_wrong_76 (rfl : 76 + 1 = 77) rfl ?_
                  refine zr_icmp_gt (tgt := 92) dX7_wrong_77 (by decide) (rfl : 77 + 3 = 80) (jI_lt (by first | omega | (simp only [bset, reduceIte, Nat.reduceEqDiff]; omega)) (by first | omega | (simp only [bset, reduceIte, Nat.reduceEqDiff]; omega)) (by first | omega | (simp only [bset, reduceIte, Nat.reduceEqDiff]; omega)) (by first | omega | (simp only [bset, reduceIte, Nat.reduceEqDiff]; omega))) (fun h77 => ?_) (fun h77 => ?_)
                  · first
                    | (exfalso; omega)
                    | (
                      refine zr_iconst dX7_wrong_92 (rfl : 92 + 1 = 93) ?_
                      refine zr_iret dX7_wrong_93 rfl (by first | rfl | exact jb_nar) ?_ rfl rfl rfl
                      rw [if_pos (h4 ⟨by omega, by omega⟩)])
                  · first
                    | (exfalso; omega)
                    | (
                      refine zr_iload dX7_wrong_80 (rfl : 80 + 2 = 82) rfl ?_
                      refine zr_iload_n dX7_wrong_82 (rfl : 82 + 1 = 83) rfl ?_
                      refine zr_icmp_le (tgt := 94) dX7_wrong_83 (by decide) (rfl : 83 + 3 = 86) (jI_le (by first | omega | (simp only [bset, reduceIte, Nat.reduceEqDiff]; omega)) (by first | omega | (simp only [bset, reduceIte, Nat.reduceEqDiff]; omega)) (by first | omega | (simp only [bset, reduceIte, Nat.reduceEqDiff]; omega)) (by first | omega | (simp only [bset, reduceIte, Nat.reduceEqDiff]; omega))) (fun h83 => ?_) (fun h83 => ?_)
                      · first
                        | (exfalso; omega)
                        | (
                          refine zr_iinc (lv' := [_, _, _, _, _, _]) dX7_wrong_94 (rfl : 94 + 3 = 97) (Nat.le_of_ble_eq_true rfl) rfl (by first | exact jI_add _ _ | rfl) rfl ?_
                          refine zr_goto (tgt := 44) dX7_wrong_97 (by decide) ?_
                          exact hk _ (hnx (by omega)))
                      · first
                        | (exfalso; omega)
                        | (
                          refine zr_iload dX7_wrong_86 (rfl : 86 + 2 = 88) rfl ?_
                          refine zr_iload_n dX7_wrong_88 (rfl : 88 + 1 = 89) rfl ?_
                          refine zr_icmp_ge (tgt := 94) dX7_wrong_89 (by decide) (rfl : 89 + 3 = 92) (jI_le (by first | omega | (simp only [bset, reduceIte, Nat.reduceEqDiff]; omega)) (by first | omega | (simp only [bset, reduceIte, Nat.reduceEqDiff]; omega)) (by first | omega | (simp only [bset, reduceIte, Nat.reduceEqDiff]; omega)) (by first | omega | (simp only [bset, reduceIte, Nat.reduceEqDiff]; omega))) (fun h89 => ?_) (fun h89 => ?_)
                          · first
                            | (exfalso; omega)
                            | (
                              refine zr_iinc (lv' := [_, _, _, _, _, _]) dX7_wrong_94 (rfl : 94 + 3 = 97) (Nat.le_of_ble_eq_true rfl) rfl (by first | exact jI_add _ _ | rfl) rfl ?_
                              refine zr_goto (tgt := 44) dX7_wrong_97 (by decide) ?_
                              exact hk _ (hnx (by omega)))
                          · first
                            | (exfalso; omega)
                            | (
                              refine zr_iconst dX7_wrong_92 (rfl : 92 + 1 = 93) ?_
                              refine zr_iret dX7_wrong_93 rfl (by first | rfl | exact jb_nar) ?_ rfl rfl rfl
                              rw [if_pos (h4 ⟨by omega, by omega⟩)]))))))
    · intro o5 hI
      rw [if_neg (fun q => by
        rcases hbrk.mp q with v | v | v
        · exact hI 0 (by decide) (by decide) v
        · exact hI 1 (by decide) (by decide) v
        · exact hI 2 (by decide) (by decide) v)]
      refine zr_iload dX7_wrong_44 (rfl : 44 + 2 = 46) rfl ?_
      refine zr_iconst dX7_wrong_46 (rfl : 46 + 1 = 47) ?_
      refine zr_icmp_ge (tgt := 100) dX7_wrong_47 (by decide) (rfl : 47 + 3 = 50) (jI_le (by first | omega | (simp only [bset, reduceIte, Nat.reduceEqDiff]; omega)) (by first | omega | (simp only [bset, reduceIte, Nat.reduceEqDiff]; omega)) (by first | omega | (simp only [bset, reduceIte, Nat.reduceEqDiff]; omega)) (by first | omega | (simp only [bset, reduceIte, Nat.reduceEqDiff]; omega))) (fun h47 => ?_) (fun h47 => ?_)
      · first
        | (exfalso; omega)
        | (
          refine zr_aload_n dX7_wrong_100 (rfl : 100 + 1 = 101) rfl ?_
          refine zr_getf dX7_wrong_101 (rfl : 101 + 3 = 104) f_X7_7 (by first | assumption | exact mw_167 | exact mw_168 | exact mw_169 | exact mw_170 | exact bk_0 | exact bk_1 | exact bk_2 | exact bk_3 | exact bk_4 | exact bk_5 | exact bk_6 | exact bk_7 | exact bk_8 | exact bk_9 | exact bk_10 | exact bk_11 | exact bk_12 | exact bk_13 | exact bk_14 | exact bk_15 | exact bk_16 | exact zup_self | exact (zup_ne (by first | assumption | omega)).trans (by first | assumption | exact zup_self) | exact (zup_ne (by first | assumption | omega)).trans ((zup_ne (by first | assumption | omega)).trans (by first | assumption | exact zup_self)) | exact (bk_out (by first | omega | (simp only [bset, reduceIte, Nat.reduceEqDiff]; omega))).trans (by first | exact bk_0 | exact bk_1 | exact bk_2 | exact bk_3 | exact bk_4 | exact bk_5 | exact bk_6 | exact bk_7 | exact bk_8 | exact bk_9 | exact bk_10 | exact bk_11 | exact bk_12 | exact bk_13 | exact bk_14 | exact bk_15 | exact bk_16 | exact cr_5 | exact cr_23 | exact cr_24 | exact cr_25 | exact cr_26 | exact cr_27 | exact cr_28 | exact cr_29 | exact cr_30 | assumption)) rfl ?_
          refine zr_sipush dX7_wrong_104 (rfl : 104 + 3 = 107) (by decide) ?_
          refine zr_iload_n dX7_wrong_107 (rfl : 107 + 1 = 108) rfl ?_
          refine zr_iadd dX7_wrong_108 (rfl : 108 + 1 = 109) (by first | exact jI_add _ _ | rfl) ?_
          refine zr_iald dX7_wrong_109 (rfl : 109 + 1 = 110) (by first | assumption | exact mw_167 | exact mw_168 | exact mw_169 | exact mw_170 | exact bk_0 | exact bk_1 | exact bk_2 | exact bk_3 | exact bk_4 | exact bk_5 | exact bk_6 | exact bk_7 | exact bk_8 | exact bk_9 | exact bk_10 | exact bk_11 | exact bk_12 | exact bk_13 | exact bk_14 | exact bk_15 | exact bk_16 | exact zup_self | exact (zup_ne (by first | assumption | omega)).trans (by first | assumption | exact zup_self) | exact (zup_ne (by first | assumption | omega)).trans ((zup_ne (by first | assumption | omega)).trans (by first | assumption | exact zup_self)) | exact (bk_out (by first | omega | (simp only [bset, reduceIte, Nat.reduceEqDiff]; omega))).trans (by first | exact bk_0 | exact bk_1 | exact bk_2 | exact bk_3 | exact bk_4 | exact bk_5 | exact bk_6 | exact bk_7 | exact bk_8 | exact bk_9 | exact bk_10 | exact bk_11 | exact bk_12 | exact bk_13 | exact bk_14 | exact bk_15 | exact bk_16 | exact cr_5 | exact cr_23 | exact cr_24 | exact cr_25 | exact cr_26 | exact cr_27 | exact cr_28 | exact cr_29 | exact cr_30 | assumption)) (by decide) (by first | omega | (simp only [bset, reduceIte, Nat.reduceEqDiff]; omega)) (by first | omega | (simp only [bset, reduceIte, Nat.reduceEqDiff]; omega)) ?_
          refine zr_iconst dX7_wrong_110 (rfl : 110 + 1 = 111) ?_
          refine zr_icmp_ne (tgt := 118) dX7_wrong_111 (by decide) (rfl : 111 + 3 = 114) (jI_eq (by first | omega | (simp only [bset, reduceIte, Nat.reduceEqDiff]; omega)) (by first | omega | (simp only [bset, reduceIte, Nat.reduceEqDiff]; omega)) (by first | omega | (simp only [bset, reduceIte, Nat.reduceEqDiff]; omega)) (by first | omega | (simp only [bset, reduceIte, Nat.reduceEqDiff]; omega))) (fun h111 => ?_) (fun h111 => ?_)
          · first
            | (exfalso; omega)
            | (
              refine zr_iconst dX7_wrong_118 (rfl : 118 + 1 = 119) ?_
              refine zr_iret dX7_wrong_119 rfl (by first | rfl | exact jb_nar) ?_ rfl rfl rfl
              first | rfl | rw [jb_pos (by first | assumption | omega)] | rw [jb_neg (by first | assumption | omega)] | rw [if_pos (by first | assumption | omega)] | rw [if_neg (by first | assumption | omega)])
          · first
            | (exfalso; omega)
            | (
              refine zr_iconst dX7_wrong_114 (rfl : 114 + 1 = 115) ?_
              refine zr_goto (tgt := 119) dX7_wrong_115 (by decide) ?_
              refine zr_iret dX7_wrong_119 rfl (by first | rfl | exact jb_nar) ?_ rfl rfl rfl
              first | rfl | rw [jb_pos (by first | assumption | omega)] | rw [jb_neg (by first | assumption | omega)] | rw [if_pos (by first | assumption | omega)] | rw [if_neg (by first | assumption | omega)]))
      · first
        | (exfalso; omega)
        | (
          exfalso
          omega)
  refine zr_aload_n dX7_wrong_0 (rfl : 0 + 1 = 1) rfl ?_
  refine zr_getf dX7_wrong_1 (rfl : 1 + 3 = 4) f_X7_7 (by first | assumption | exact mw_167 | exact mw_168 | exact mw_169 | exact mw_170 | exact bk_0 | exact bk_1 | exact bk_2 | exact bk_3 | exact bk_4 | exact bk_5 | exact bk_6 | exact bk_7 | exact bk_8 | exact bk_9 | exact bk_10 | exact bk_11 | exact bk_12 | exact bk_13 | exact bk_14 | exact bk_15 | exact bk_16 | exact zup_self | exact (zup_ne (by first | assumption | omega)).trans (by first | assumption | exact zup_self) | exact (zup_ne (by first | assumption | omega)).trans ((zup_ne (by first | assumption | omega)).trans (by first | assumption | exact zup_self)) | exact (bk_out (by first | omega | (simp only [bset, reduceIte, Nat.reduceEqDiff]; omega))).trans (by first | exact bk_0 | exact bk_1 | exact bk_2 | exact bk_3 | exact bk_4 | exact bk_5 | exact bk_6 | exact bk_7 | exact bk_8 | exact bk_9 | exact bk_10 | exact bk_11 | exact bk_12 | exact bk_13 | exact bk_14 | exact bk_15 | exact bk_16 | exact cr_5 | exact cr_23 | exact cr_24 | exact cr_25 | exact cr_26 | exact cr_27 | exact cr_28 | exact cr_29 | exact cr_30 | assumption)) rfl ?_
  refine zr_iconst dX7_wrong_4 (rfl : 4 + 1 = 5) ?_
  refine zr_iload_n dX7_wrong_5 (rfl : 5 + 1 = 6) rfl ?_
  refine zr_iadd dX7_wrong_6 (rfl : 6 + 1 = 7) (by first | exact jI_add _ _ | rfl) ?_
  refine zr_iald dX7_wrong_7 (rfl : 7 + 1 = 8) (by first | assumption | exact mw_167 | exact mw_168 | exact mw_169 | exact mw_170 | exact bk_0 | exact bk_1 | exact bk_2 | exact bk_3 | exact bk_4 | exact bk_5 | exact bk_6 | exact bk_7 | exact bk_8 | exact bk_9 | exact bk_10 | exact bk_11 | exact bk_12 | exact bk_13 | exact bk_14 | exact bk_15 | exact bk_16 | exact zup_self | exact (zup_ne (by first | assumption | omega)).trans (by first | assumption | exact zup_self) | exact (zup_ne (by first | assumption | omega)).trans ((zup_ne (by first | assumption | omega)).trans (by first | assumption | exact zup_self)) | exact (bk_out (by first | omega | (simp only [bset, reduceIte, Nat.reduceEqDiff]; omega))).trans (by first | exact bk_0 | exact bk_1 | exact bk_2 | exact bk_3 | exact bk_4 | exact bk_5 | exact bk_6 | exact bk_7 | exact bk_8 | exact bk_9 | exact bk_10 | exact bk_11 | exact bk_12 | exact bk_13 | exact bk_14 | exact bk_15 | exact bk_16 | exact cr_5 | exact cr_23 | exact cr_24 | exact cr_25 | exact cr_26 | exact cr_27 | exact cr_28 | exact cr_29 | exact cr_30 | assumption)) (by decide) (by first | omega | (simp only [bset, reduceIte, Nat.reduceEqDiff]; omega)) (by first | omega | (simp only [bset, reduceIte, Nat.reduceEqDiff]; omega)) ?_
  refine zr_if_le (tgt := 13) dX7_wrong_8 (by decide) (rfl : 8 + 3 = 11) (jI_lez (by first | omega | (simp only [bset, reduceIte, Nat.reduceEqDiff]; omega)) (by first | omega | (simp only [bset, reduceIte, Nat.reduceEqDiff]; omega))) (fun h8 => ?_) (fun h8 => ?_)
  · first
    | (exfalso; omega)
    | (
      refine zr_aload_n dX7_wrong_13 (rfl : 13 + 1 = 14) rfl ?_
      refine zr_iload_n dX7_wrong_14 (rfl : 14 + 1 = 15) rfl ?_
      refine zr_iload_n dX7_wrong_15 (rfl : 15 + 1 = 16) rfl ?_
      refine zr_iload_n dX7_wrong_16 (rfl : 16 + 1 = 17) rfl ?_
      refine zr_fnS dX7_wrong_17 (rfl : 17 + 3 = 20) l_X7_36 (m_column n (by first | omega | (simp only [bset, reduceIte, Nat.reduceEqDiff]; omega))) rfl rfl (Nat.le_of_ble_eq_true rfl) ?_
      refine zr_fnV dX7_wrong_20 (rfl : 20 + 3 = 23) l_X7_44 (m_numberAt c r (jcol n) hc hr hcl h ok lk) (by first | assumption | exact mw_167 | exact mw_168 | exact mw_169 | exact mw_170 | exact bk_0 | exact bk_1 | exact bk_2 | exact bk_3 | exact bk_4 | exact bk_5 | exact bk_6 | exact bk_7 | exact bk_8 | exact bk_9 | exact bk_10 | exact bk_11 | exact bk_12 | exact bk_13 | exact bk_14 | exact bk_15 | exact bk_16 | exact zup_self | exact (zup_ne (by first | assumption | omega)).trans (by first | assumption | exact zup_self) | exact (zup_ne (by first | assumption | omega)).trans ((zup_ne (by first | assumption | omega)).trans (by first | assumption | exact zup_self)) | exact (bk_out (by first | omega | (simp only [bset, reduceIte, Nat.reduceEqDiff]; omega))).trans (by first | exact bk_0 | exact bk_1 | exact bk_2 | exact bk_3 | exact bk_4 | exact bk_5 | exact bk_6 | exact bk_7 | exact bk_8 | exact bk_9 | exact bk_10 | exact bk_11 | exact bk_12 | exact bk_13 | exact bk_14 | exact bk_15 | exact bk_16 | exact cr_5 | exact cr_23 | exact cr_24 | exact cr_25 | exact cr_26 | exact cr_27 | exact cr_28 | exact cr_29 | exact cr_30 | assumption)) rfl rfl rfl (Nat.le_of_ble_eq_true rfl) ?_
      refine zr_if_le (tgt := 28) dX7_wrong_23 (by decide) (rfl : 23 + 3 = 26) (jI_lez (by first | omega | (simp only [bset, reduceIte, Nat.reduceEqDiff]; omega)) (by first | omega | (simp only [bset, reduceIte, Nat.reduceEqDiff]; omega))) (fun h23 => ?_) (fun h23 => ?_)
      · first
        | (exfalso; omega)
        | (
          refine zr_aload_n dX7_wrong_28 (rfl : 28 + 1 = 29) rfl ?_
          refine zr_iload_n dX7_wrong_29 (rfl : 29 + 1 = 30) rfl ?_
          refine zr_iload_n dX7_wrong_30 (rfl : 30 + 1 = 31) rfl ?_
          refine zr_iconst dX7_wrong_31 (rfl : 31 + 1 = 32) ?_
          refine zr_fnV dX7_wrong_32 (rfl : 32 + 3 = 35) l_X7_40 (m_ofRow c r 0 hc hr (by decide) h ok lk) (by first | assumption | exact mw_167 | exact mw_168 | exact mw_169 | exact mw_170 | exact bk_0 | exact bk_1 | exact bk_2 | exact bk_3 | exact bk_4 | exact bk_5 | exact bk_6 | exact bk_7 | exact bk_8 | exact bk_9 | exact bk_10 | exact bk_11 | exact bk_12 | exact bk_13 | exact bk_14 | exact bk_15 | exact bk_16 | exact zup_self | exact (zup_ne (by first | assumption | omega)).trans (by first | assumption | exact zup_self) | exact (zup_ne (by first | assumption | omega)).trans ((zup_ne (by first | assumption | omega)).trans (by first | assumption | exact zup_self)) | exact (bk_out (by first | omega | (simp only [bset, reduceIte, Nat.reduceEqDiff]; omega))).trans (by first | exact bk_0 | exact bk_1 | exact bk_2 | exact bk_3 | exact bk_4 | exact bk_5 | exact bk_6 | exact bk_7 | exact bk_8 | exact bk_9 | exact bk_10 | exact bk_11 | exact bk_12 | exact bk_13 | exact bk_14 | exact bk_15 | exact bk_16 | exact cr_5 | exact cr_23 | exact cr_24 | exact cr_25 | exact cr_26 | exact cr_27 | exact cr_28 | exact cr_29 | exact cr_30 | assumption)) rfl rfl rfl (Nat.le_of_ble_eq_true rfl) ?_
          refine zr_iconst dX7_wrong_35 (rfl : 35 + 1 = 36) ?_
          refine zr_icmp_ne (tgt := 41) dX7_wrong_36 (by decide) (rfl : 36 + 3 = 39) (jI_eq (by first | omega | (simp only [bset, reduceIte, Nat.reduceEqDiff]; omega)) (by first | omega | (simp only [bset, reduceIte, Nat.reduceEqDiff]; omega)) (by first | omega | (simp only [bset, reduceIte, Nat.reduceEqDiff]; omega)) (by first | omega | (simp only [bset, reduceIte, Nat.reduceEqDiff]; omega))) (fun h36 => ?_) (fun h36 => ?_)
          · first
            | (exfalso; omega)
            | (
              exact main (by omega) (by omega) (by omega))
          · first
            | (exfalso; omega)
            | (
              refine zr_iconst dX7_wrong_39 (rfl : 39 + 1 = 40) ?_
              refine zr_iret dX7_wrong_40 rfl (by first | rfl | exact jb_nar) ?_ rfl rfl rfl
              (repeat (first | rw [if_pos (by omega)] | rw [if_neg (by omega)]))))
      · first
        | (exfalso; omega)
        | (
          refine zr_iconst dX7_wrong_26 (rfl : 26 + 1 = 27) ?_
          refine zr_iret dX7_wrong_27 rfl (by first | rfl | exact jb_nar) ?_ rfl rfl rfl
          (repeat (first | rw [if_pos (by omega)] | rw [if_neg (by omega)]))))
  · first
    | (exfalso; omega)
    | (
      refine zr_iconst dX7_wrong_11 (rfl : 11 + 1 = 12) ?_
      refine zr_iret dX7_wrong_12 rfl (by first | rfl | exact jb_nar) ?_ rfl rfl rfl
      (repeat (first | rw [if_pos (by omega)] | rw [if_neg (by omega)])))
end RD

