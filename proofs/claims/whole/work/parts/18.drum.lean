/-! Drum, Evening, Tally -/
section DR
variable {Γ : zΓ} {d : Nat} {w : zW} {a p : Nat} {f : Int → Int} {s : Int}
/-- a drum's cells -/
abbrev zdr (p : Nat) (s : Int) : va_E := .inr (2, [.ref p, .int (jI s)])
theorem s_byLot (x : Int) (hx : 0 ≤ x ∧ x < 10000) (hs : 0 ≤ s ∧ s ≤ 90) (ha : w a = some (zdr p s)) (hp : w p = some (zia 90 f)) : zFn Γ md_X2_byLot d [.ref a, .int (jI x)] w (some (.int (jI (if 0 < s then f (x % s) else -1)))) w := by
  refine zFn.of_run (lv := [some (.ref a), some (.int (jI x))]) (by decide) rfl (Nat.le_of_ble_eq_true rfl) rfl (fun n9 g9 => ?_)
  have hm : 0 < s → 0 ≤ x % s ∧ x % s < s := fun h => ⟨Int.emod_nonneg _ (by omega), Int.emod_lt_of_pos _ h⟩
  by_cases h0 : 0 < s
  · have hm2 := hm h0
    refine zr_aload_n dX2_byLot_0 (rfl : 0 + 1 = 1) rfl ?_
    refine zr_getf dX2_byLot_1 (rfl : 1 + 3 = 4) f_X2_15 (by first | assumption | exact bk_0 | exact bk_1 | exact bk_2 | exact bk_3 | exact bk_4 | exact bk_5 | exact bk_6 | exact bk_7 | exact bk_8 | exact bk_9 | exact bk_10 | exact bk_11 | exact bk_12 | exact bk_13 | exact bk_14 | exact bk_15 | exact bk_16 | exact zup_self | exact (zup_ne (by first | assumption | omega)).trans (by first | assumption | exact zup_self) | exact (zup_ne (by first | assumption | omega)).trans ((zup_ne (by first | assumption | omega)).trans (by first | assumption | exact zup_self))) rfl ?_
    refine zr_if_le (tgt := 21) dX2_byLot_4 (by decide) (rfl : 4 + 3 = 7) (jI_lez (by first | omega | (simp only [bset, reduceIte, Nat.reduceEqDiff]; omega)) (by first | omega | (simp only [bset, reduceIte, Nat.reduceEqDiff]; omega))) (fun h4 => ?_) (fun h4 => ?_)
    · first
      | (exfalso; omega)
      | (
        refine zr_iconst dX2_byLot_21 (rfl : 21 + 1 = 22) ?_
        refine zr_iret dX2_byLot_22 rfl (by first | rfl | exact jb_nar) ?_ rfl rfl rfl
        first | rfl | rw [jb_pos (by first | assumption | omega)] | rw [jb_neg (by first | assumption | omega)] | rw [if_pos (by first | assumption | omega)] | rw [if_neg (by first | assumption | omega)])
    · first
      | (exfalso; omega)
      | (
        refine zr_aload_n dX2_byLot_7 (rfl : 7 + 1 = 8) rfl ?_
        refine zr_getf dX2_byLot_8 (rfl : 8 + 3 = 11) f_X2_9 (by first | assumption | exact bk_0 | exact bk_1 | exact bk_2 | exact bk_3 | exact bk_4 | exact bk_5 | exact bk_6 | exact bk_7 | exact bk_8 | exact bk_9 | exact bk_10 | exact bk_11 | exact bk_12 | exact bk_13 | exact bk_14 | exact bk_15 | exact bk_16 | exact zup_self | exact (zup_ne (by first | assumption | omega)).trans (by first | assumption | exact zup_self) | exact (zup_ne (by first | assumption | omega)).trans ((zup_ne (by first | assumption | omega)).trans (by first | assumption | exact zup_self))) rfl ?_
        refine zr_iload_n dX2_byLot_11 (rfl : 11 + 1 = 12) rfl ?_
        refine zr_aload_n dX2_byLot_12 (rfl : 12 + 1 = 13) rfl ?_
        refine zr_getf dX2_byLot_13 (rfl : 13 + 3 = 16) f_X2_15 (by first | assumption | exact bk_0 | exact bk_1 | exact bk_2 | exact bk_3 | exact bk_4 | exact bk_5 | exact bk_6 | exact bk_7 | exact bk_8 | exact bk_9 | exact bk_10 | exact bk_11 | exact bk_12 | exact bk_13 | exact bk_14 | exact bk_15 | exact bk_16 | exact zup_self | exact (zup_ne (by first | assumption | omega)).trans (by first | assumption | exact zup_self) | exact (zup_ne (by first | assumption | omega)).trans ((zup_ne (by first | assumption | omega)).trans (by first | assumption | exact zup_self))) rfl ?_
        refine zr_irem dX2_byLot_16 (rfl : 16 + 1 = 17) (fun q => absurd ((jI_z (by first | omega | (simp only [bset, reduceIte, Nat.reduceEqDiff]; omega)) (by first | omega | (simp only [bset, reduceIte, Nat.reduceEqDiff]; omega))).mp q) (by first | omega | (simp only [bset, reduceIte, Nat.reduceEqDiff]; omega))) (jI_rem (by first | omega | (simp only [bset, reduceIte, Nat.reduceEqDiff]; omega)) (by first | omega | (simp only [bset, reduceIte, Nat.reduceEqDiff]; omega)) (by first | omega | (simp only [bset, reduceIte, Nat.reduceEqDiff]; omega)) (by first | omega | (simp only [bset, reduceIte, Nat.reduceEqDiff]; omega))) ?_
        refine zr_iald dX2_byLot_17 (rfl : 17 + 1 = 18) (by first | assumption | exact bk_0 | exact bk_1 | exact bk_2 | exact bk_3 | exact bk_4 | exact bk_5 | exact bk_6 | exact bk_7 | exact bk_8 | exact bk_9 | exact bk_10 | exact bk_11 | exact bk_12 | exact bk_13 | exact bk_14 | exact bk_15 | exact bk_16 | exact zup_self | exact (zup_ne (by first | assumption | omega)).trans (by first | assumption | exact zup_self) | exact (zup_ne (by first | assumption | omega)).trans ((zup_ne (by first | assumption | omega)).trans (by first | assumption | exact zup_self))) (by decide) (by first | omega | (simp only [bset, reduceIte, Nat.reduceEqDiff]; omega)) (by first | omega | (simp only [bset, reduceIte, Nat.reduceEqDiff]; omega)) ?_
        refine zr_goto (tgt := 22) dX2_byLot_18 (by decide) ?_
        refine zr_iret dX2_byLot_22 rfl (by first | rfl | exact jb_nar) ?_ rfl rfl rfl
        first | rfl | rw [jb_pos (by first | assumption | omega)] | rw [jb_neg (by first | assumption | omega)] | rw [if_pos (by first | assumption | omega)] | rw [if_neg (by first | assumption | omega)])
  · refine zr_aload_n dX2_byLot_0 (rfl : 0 + 1 = 1) rfl ?_
    refine zr_getf dX2_byLot_1 (rfl : 1 + 3 = 4) f_X2_15 (by first | assumption | exact bk_0 | exact bk_1 | exact bk_2 | exact bk_3 | exact bk_4 | exact bk_5 | exact bk_6 | exact bk_7 | exact bk_8 | exact bk_9 | exact bk_10 | exact bk_11 | exact bk_12 | exact bk_13 | exact bk_14 | exact bk_15 | exact bk_16 | exact zup_self | exact (zup_ne (by first | assumption | omega)).trans (by first | assumption | exact zup_self) | exact (zup_ne (by first | assumption | omega)).trans ((zup_ne (by first | assumption | omega)).trans (by first | assumption | exact zup_self))) rfl ?_
    refine zr_if_le (tgt := 21) dX2_byLot_4 (by decide) (rfl : 4 + 3 = 7) (jI_lez (by first | omega | (simp only [bset, reduceIte, Nat.reduceEqDiff]; omega)) (by first | omega | (simp only [bset, reduceIte, Nat.reduceEqDiff]; omega))) (fun h4 => ?_) (fun h4 => ?_)
    · first
      | (exfalso; omega)
      | (
        refine zr_iconst dX2_byLot_21 (rfl : 21 + 1 = 22) ?_
        refine zr_iret dX2_byLot_22 rfl (by first | rfl | exact jb_nar) ?_ rfl rfl rfl
        first | rfl | rw [jb_pos (by first | assumption | omega)] | rw [jb_neg (by first | assumption | omega)] | rw [if_pos (by first | assumption | omega)] | rw [if_neg (by first | assumption | omega)])
    · first
      | (exfalso; omega)
      | (
        refine zr_aload_n dX2_byLot_7 (rfl : 7 + 1 = 8) rfl ?_
        refine zr_getf dX2_byLot_8 (rfl : 8 + 3 = 11) f_X2_9 (by first | assumption | exact bk_0 | exact bk_1 | exact bk_2 | exact bk_3 | exact bk_4 | exact bk_5 | exact bk_6 | exact bk_7 | exact bk_8 | exact bk_9 | exact bk_10 | exact bk_11 | exact bk_12 | exact bk_13 | exact bk_14 | exact bk_15 | exact bk_16 | exact zup_self | exact (zup_ne (by first | assumption | omega)).trans (by first | assumption | exact zup_self) | exact (zup_ne (by first | assumption | omega)).trans ((zup_ne (by first | assumption | omega)).trans (by first | assumption | exact zup_self))) rfl ?_
        refine zr_iload_n dX2_byLot_11 (rfl : 11 + 1 = 12) rfl ?_
        refine zr_aload_n dX2_byLot_12 (rfl : 12 + 1 = 13) rfl ?_
        refine zr_getf dX2_byLot_13 (rfl : 13 + 3 = 16) f_X2_15 (by first | assumption | exact bk_0 | exact bk_1 | exact bk_2 | exact bk_3 | exact bk_4 | exact bk_5 | exact bk_6 | exact bk_7 | exact bk_8 | exact bk_9 | exact bk_10 | exact bk_11 | exact bk_12 | exact bk_13 | exact bk_14 | exact bk_15 | exact bk_16 | exact zup_self | exact (zup_ne (by first | assumption | omega)).trans (by first | assumption | exact zup_self) | exact (zup_ne (by first | assumption | omega)).trans ((zup_ne (by first | assumption | omega)).trans (by first | assumption | exact zup_self))) rfl ?_
        refine zr_irem dX2_byLot_16 (rfl : 16 + 1 = 17) (fun q => absurd ((jI_z (by first | omega | (simp only [bset, reduceIte, Nat.reduceEqDiff]; omega)) (by first | omega | (simp only [bset, reduceIte, Nat.reduceEqDiff]; omega))).mp q) (by first | omega | (simp only [bset, reduceIte, Nat.reduceEqDiff]; omega))) (jI_rem (by first | omega | (simp only [bset, reduceIte, Nat.reduceEqDiff]; omega)) (by first | omega | (simp only [bset, reduceIte, Nat.reduceEqDiff]; omega)) (by first | omega | (simp only [bset, reduceIte, Nat.reduceEqDiff]; omega)) (by first | omega | (simp only [bset, reduceIte, Nat.reduceEqDiff]; omega))) ?_
        refine zr_iald dX2_byLot_17 (rfl : 17 + 1 = 18) (by first | assumption | exact bk_0 | exact bk_1 | exact bk_2 | exact bk_3 | exact bk_4 | exact bk_5 | exact bk_6 | exact bk_7 | exact bk_8 | exact bk_9 | exact bk_10 | exact bk_11 | exact bk_12 | exact bk_13 | exact bk_14 | exact bk_15 | exact bk_16 | exact zup_self | exact (zup_ne (by first | assumption | omega)).trans (by first | assumption | exact zup_self) | exact (zup_ne (by first | assumption | omega)).trans ((zup_ne (by first | assumption | omega)).trans (by first | assumption | exact zup_self))) (by decide) (by first | omega | (simp only [bset, reduceIte, Nat.reduceEqDiff]; omega)) (by first | omega | (simp only [bset, reduceIte, Nat.reduceEqDiff]; omega)) ?_
        refine zr_goto (tgt := 22) dX2_byLot_18 (by decide) ?_
        refine zr_iret dX2_byLot_22 rfl (by first | rfl | exact jb_nar) ?_ rfl rfl rfl
        first | rfl | rw [jb_pos (by first | assumption | omega)] | rw [jb_neg (by first | assumption | omega)] | rw [if_pos (by first | assumption | omega)] | rw [if_neg (by first | assumption | omega)])
/-- a drum without the number of a rank -/
def jtk (f : Int → Int) (s k : Int) : Int → Int := jcpy f f (k + 1) k (s - 1 - k)
theorem s_takeOut (x : Int) (hx : 0 ≤ x ∧ x < 10000) (hs : 0 < s ∧ s ≤ 90) (hap : a ≠ p) (ha : w a = some (zdr p s)) (hp : w p = some (zia 90 f)) : zFn Γ md_X2_takeOut (d + 1) [.ref a, .int (jI x)] w (some (.int (jI (f (x % s))))) (zup (zup w a (zdr p (s - 1))) p (zia 90 (jtk f s (x % s)))) := by
  refine zFn.of_run (lv := [some (.ref a), some (.int (jI x)), none, none]) (by decide) rfl (Nat.le_of_ble_eq_true rfl) rfl (fun n9 g9 => ?_)
  have hpa : p ≠ a := Ne.symm hap
  have hm : 0 ≤ x % s ∧ x % s < s := ⟨Int.emod_nonneg _ (by omega), Int.emod_lt_of_pos _ hs.1⟩
  refine zr_aload_n dX2_takeOut_0 (rfl : 0 + 1 = 1) rfl ?_
  refine zr_getf dX2_takeOut_1 (rfl : 1 + 3 = 4) f_X2_15 (by first | assumption | exact bk_0 | exact bk_1 | exact bk_2 | exact bk_3 | exact bk_4 | exact bk_5 | exact bk_6 | exact bk_7 | exact bk_8 | exact bk_9 | exact bk_10 | exact bk_11 | exact bk_12 | exact bk_13 | exact bk_14 | exact bk_15 | exact bk_16 | exact zup_self | exact (zup_ne (by first | assumption | omega)).trans (by first | assumption | exact zup_self) | exact (zup_ne (by first | assumption | omega)).trans ((zup_ne (by first | assumption | omega)).trans (by first | assumption | exact zup_self))) rfl ?_
  refine zr_if_ne (tgt := 9) dX2_takeOut_4 (by decide) (rfl : 4 + 3 = 7) (by first | exact jb_iff | exact jI_z (by first | omega | (simp only [bset, reduceIte, Nat.reduceEqDiff]; omega)) (by first | omega | (simp only [bset, reduceIte, Nat.reduceEqDiff]; omega))) (fun h4 => ?_) (fun h4 => ?_)
  · first
    | (exfalso; omega)
    | (
      refine zr_iload_n dX2_takeOut_9 (rfl : 9 + 1 = 10) rfl ?_
      refine zr_aload_n dX2_takeOut_10 (rfl : 10 + 1 = 11) rfl ?_
      refine zr_getf dX2_takeOut_11 (rfl : 11 + 3 = 14) f_X2_15 (by first | assumption | exact bk_0 | exact bk_1 | exact bk_2 | exact bk_3 | exact bk_4 | exact bk_5 | exact bk_6 | exact bk_7 | exact bk_8 | exact bk_9 | exact bk_10 | exact bk_11 | exact bk_12 | exact bk_13 | exact bk_14 | exact bk_15 | exact bk_16 | exact zup_self | exact (zup_ne (by first | assumption | omega)).trans (by first | assumption | exact zup_self) | exact (zup_ne (by first | assumption | omega)).trans ((zup_ne (by first | assumption | omega)).trans (by first | assumption | exact zup_self))) rfl ?_
      refine zr_irem dX2_takeOut_14 (rfl : 14 + 1 = 15) (fun q => absurd ((jI_z (by first | omega | (simp only [bset, reduceIte, Nat.reduceEqDiff]; omega)) (by first | omega | (simp only [bset, reduceIte, Nat.reduceEqDiff]; omega))).mp q) (by first | omega | (simp only [bset, reduceIte, Nat.reduceEqDiff]; omega))) (jI_rem (by first | omega | (simp only [bset, reduceIte, Nat.reduceEqDiff]; omega)) (by first | omega | (simp only [bset, reduceIte, Nat.reduceEqDiff]; omega)) (by first | omega | (simp only [bset, reduceIte, Nat.reduceEqDiff]; omega)) (by first | omega | (simp only [bset, reduceIte, Nat.reduceEqDiff]; omega))) ?_
      refine zr_istore_n (lv' := [_, _, _, _]) dX2_takeOut_15 (rfl : 15 + 1 = 16) (Nat.le_of_ble_eq_true rfl) rfl ?_
      refine zr_aload_n dX2_takeOut_16 (rfl : 16 + 1 = 17) rfl ?_
      refine zr_getf dX2_takeOut_17 (rfl : 17 + 3 = 20) f_X2_9 (by first | assumption | exact bk_0 | exact bk_1 | exact bk_2 | exact bk_3 | exact bk_4 | exact bk_5 | exact bk_6 | exact bk_7 | exact bk_8 | exact bk_9 | exact bk_10 | exact bk_11 | exact bk_12 | exact bk_13 | exact bk_14 | exact bk_15 | exact bk_16 | exact zup_self | exact (zup_ne (by first | assumption | omega)).trans (by first | assumption | exact zup_self) | exact (zup_ne (by first | assumption | omega)).trans ((zup_ne (by first | assumption | omega)).trans (by first | assumption | exact zup_self))) rfl ?_
      refine zr_iload_n dX2_takeOut_20 (rfl : 20 + 1 = 21) rfl ?_
      refine zr_iald dX2_takeOut_21 (rfl : 21 + 1 = 22) (by first | assumption | exact bk_0 | exact bk_1 | exact bk_2 | exact bk_3 | exact bk_4 | exact bk_5 | exact bk_6 | exact bk_7 | exact bk_8 | exact bk_9 | exact bk_10 | exact bk_11 | exact bk_12 | exact bk_13 | exact bk_14 | exact bk_15 | exact bk_16 | exact zup_self | exact (zup_ne (by first | assumption | omega)).trans (by first | assumption | exact zup_self) | exact (zup_ne (by first | assumption | omega)).trans ((zup_ne (by first | assumption | omega)).trans (by first | assumption | exact zup_self))) (by decide) (by first | omega | (simp only [bset, reduceIte, Nat.reduceEqDiff]; omega)) (by first | omega | (simp only [bset, reduceIte, Nat.reduceEqDiff]; omega)) ?_
      refine zr_istore_n (lv' := [_, _, _, _]) dX2_takeOut_22 (rfl : 22 + 1 = 23) (Nat.le_of_ble_eq_true rfl) rfl ?_
      refine zr_aload_n dX2_takeOut_23 (rfl : 23 + 1 = 24) rfl ?_
      refine zr_dup dX2_takeOut_24 (rfl : 24 + 1 = 25) rfl ?_
      refine zr_getf dX2_takeOut_25 (rfl : 25 + 3 = 28) f_X2_15 (by first | assumption | exact bk_0 | exact bk_1 | exact bk_2 | exact bk_3 | exact bk_4 | exact bk_5 | exact bk_6 | exact bk_7 | exact bk_8 | exact bk_9 | exact bk_10 | exact bk_11 | exact bk_12 | exact bk_13 | exact bk_14 | exact bk_15 | exact bk_16 | exact zup_self | exact (zup_ne (by first | assumption | omega)).trans (by first | assumption | exact zup_self) | exact (zup_ne (by first | assumption | omega)).trans ((zup_ne (by first | assumption | omega)).trans (by first | assumption | exact zup_self))) rfl ?_
      refine zr_iconst dX2_takeOut_28 (rfl : 28 + 1 = 29) ?_
      refine zr_isub dX2_takeOut_29 (rfl : 29 + 1 = 30) (by first | exact jI_sub _ _ | rfl) ?_
      refine zr_putf (fs' := [_, _]) dX2_takeOut_30 (rfl : 30 + 3 = 33) f_X2_15 ft_2_1 (by first | assumption | exact bk_0 | exact bk_1 | exact bk_2 | exact bk_3 | exact bk_4 | exact bk_5 | exact bk_6 | exact bk_7 | exact bk_8 | exact bk_9 | exact bk_10 | exact bk_11 | exact bk_12 | exact bk_13 | exact bk_14 | exact bk_15 | exact bk_16 | exact zup_self | exact (zup_ne (by first | assumption | omega)).trans (by first | assumption | exact zup_self) | exact (zup_ne (by first | assumption | omega)).trans ((zup_ne (by first | assumption | omega)).trans (by first | assumption | exact zup_self))) (Nat.le_of_ble_eq_true rfl) rfl rfl rfl ?_
      refine zr_aload_n dX2_takeOut_33 (rfl : 33 + 1 = 34) rfl ?_
      refine zr_getf dX2_takeOut_34 (rfl : 34 + 3 = 37) f_X2_9 (by first | assumption | exact bk_0 | exact bk_1 | exact bk_2 | exact bk_3 | exact bk_4 | exact bk_5 | exact bk_6 | exact bk_7 | exact bk_8 | exact bk_9 | exact bk_10 | exact bk_11 | exact bk_12 | exact bk_13 | exact bk_14 | exact bk_15 | exact bk_16 | exact zup_self | exact (zup_ne (by first | assumption | omega)).trans (by first | assumption | exact zup_self) | exact (zup_ne (by first | assumption | omega)).trans ((zup_ne (by first | assumption | omega)).trans (by first | assumption | exact zup_self))) rfl ?_
      refine zr_iload_n dX2_takeOut_37 (rfl : 37 + 1 = 38) rfl ?_
      refine zr_iconst dX2_takeOut_38 (rfl : 38 + 1 = 39) ?_
      refine zr_iadd dX2_takeOut_39 (rfl : 39 + 1 = 40) (by first | exact jI_add _ _ | rfl) ?_
      refine zr_aload_n dX2_takeOut_40 (rfl : 40 + 1 = 41) rfl ?_
      refine zr_getf dX2_takeOut_41 (rfl : 41 + 3 = 44) f_X2_9 (by first | assumption | exact bk_0 | exact bk_1 | exact bk_2 | exact bk_3 | exact bk_4 | exact bk_5 | exact bk_6 | exact bk_7 | exact bk_8 | exact bk_9 | exact bk_10 | exact bk_11 | exact bk_12 | exact bk_13 | exact bk_14 | exact bk_15 | exact bk_16 | exact zup_self | exact (zup_ne (by first | assumption | omega)).trans (by first | assumption | exact zup_self) | exact (zup_ne (by first | assumption | omega)).trans ((zup_ne (by first | assumption | omega)).trans (by first | assumption | exact zup_self))) rfl ?_
      refine zr_iload_n dX2_takeOut_44 (rfl : 44 + 1 = 45) rfl ?_
      refine zr_aload_n dX2_takeOut_45 (rfl : 45 + 1 = 46) rfl ?_
      refine zr_getf dX2_takeOut_46 (rfl : 46 + 3 = 49) f_X2_15 (by first | assumption | exact bk_0 | exact bk_1 | exact bk_2 | exact bk_3 | exact bk_4 | exact bk_5 | exact bk_6 | exact bk_7 | exact bk_8 | exact bk_9 | exact bk_10 | exact bk_11 | exact bk_12 | exact bk_13 | exact bk_14 | exact bk_15 | exact bk_16 | exact zup_self | exact (zup_ne (by first | assumption | omega)).trans (by first | assumption | exact zup_self) | exact (zup_ne (by first | assumption | omega)).trans ((zup_ne (by first | assumption | omega)).trans (by first | assumption | exact zup_self))) rfl ?_
      refine zr_iload_n dX2_takeOut_49 (rfl : 49 + 1 = 50) rfl ?_
      refine zr_isub dX2_takeOut_50 (rfl : 50 + 1 = 51) (by first | exact jI_sub _ _ | rfl) ?_
      refine zr_copy dX2_takeOut_51 (rfl : 51 + 3 = 54) l_X2_19 (by first | assumption | exact bk_0 | exact bk_1 | exact bk_2 | exact bk_3 | exact bk_4 | exact bk_5 | exact bk_6 | exact bk_7 | exact bk_8 | exact bk_9 | exact bk_10 | exact bk_11 | exact bk_12 | exact bk_13 | exact bk_14 | exact bk_15 | exact bk_16 | exact zup_self | exact (zup_ne (by first | assumption | omega)).trans (by first | assumption | exact zup_self) | exact (zup_ne (by first | assumption | omega)).trans ((zup_ne (by first | assumption | omega)).trans (by first | assumption | exact zup_self))) (by first | assumption | exact bk_0 | exact bk_1 | exact bk_2 | exact bk_3 | exact bk_4 | exact bk_5 | exact bk_6 | exact bk_7 | exact bk_8 | exact bk_9 | exact bk_10 | exact bk_11 | exact bk_12 | exact bk_13 | exact bk_14 | exact bk_15 | exact bk_16 | exact zup_self | exact (zup_ne (by first | assumption | omega)).trans (by first | assumption | exact zup_self) | exact (zup_ne (by first | assumption | omega)).trans ((zup_ne (by first | assumption | omega)).trans (by first | assumption | exact zup_self))) (by first | omega | (simp only [bset, reduceIte, Nat.reduceEqDiff]; omega)) (by first | omega | (simp only [bset, reduceIte, Nat.reduceEqDiff]; omega)) (by first | omega | (simp only [bset, reduceIte, Nat.reduceEqDiff]; omega)) (by first | omega | (simp only [bset, reduceIte, Nat.reduceEqDiff]; omega)) (by first | omega | (simp only [bset, reduceIte, Nat.reduceEqDiff]; omega)) (by decide) (Nat.le_of_ble_eq_true rfl) rfl ?_
      refine zr_iload_n dX2_takeOut_54 (rfl : 54 + 1 = 55) rfl ?_
      refine zr_iret dX2_takeOut_55 rfl (by first | rfl | exact jb_nar) ?_ rfl rfl rfl
      first | rfl | rw [jb_pos (by first | assumption | omega)] | rw [jb_neg (by first | assumption | omega)] | rw [if_pos (by first | assumption | omega)] | rw [if_neg (by first | assumption | omega)])
  · first
    | (exfalso; omega)
    | (
      refine zr_iconst dX2_takeOut_7 (rfl : 7 + 1 = 8) ?_
      refine zr_iret dX2_takeOut_8 rfl (by first | rfl | exact jb_nar) ?_ rfl rfl rfl
      first | rfl | rw [jb_pos (by first | assumption | omega)] | rw [jb_neg (by first | assumption | omega)] | rw [if_pos (by first | assumption | omega)] | rw [if_neg (by first | assumption | omega)])
theorem s_takeOut0 (x : Int) (hs : s = 0) (ha : w a = some (zdr p s)) : zFn Γ md_X2_takeOut (d + 1) [.ref a, .int (jI x)] w (some (.int (jI (-1)))) w := by
  refine zFn.of_run (lv := [some (.ref a), some (.int (jI x)), none, none]) (by decide) rfl (Nat.le_of_ble_eq_true rfl) rfl (fun n9 g9 => ?_)
  refine zr_aload_n dX2_takeOut_0 (rfl : 0 + 1 = 1) rfl ?_
  refine zr_getf dX2_takeOut_1 (rfl : 1 + 3 = 4) f_X2_15 (by first | assumption | exact bk_0 | exact bk_1 | exact bk_2 | exact bk_3 | exact bk_4 | exact bk_5 | exact bk_6 | exact bk_7 | exact bk_8 | exact bk_9 | exact bk_10 | exact bk_11 | exact bk_12 | exact bk_13 | exact bk_14 | exact bk_15 | exact bk_16 | exact zup_self | exact (zup_ne (by first | assumption | omega)).trans (by first | assumption | exact zup_self) | exact (zup_ne (by first | assumption | omega)).trans ((zup_ne (by first | assumption | omega)).trans (by first | assumption | exact zup_self))) rfl ?_
  refine zr_if_ne (tgt := 9) dX2_takeOut_4 (by decide) (rfl : 4 + 3 = 7) (by first | exact jb_iff | exact jI_z (by first | omega | (simp only [bset, reduceIte, Nat.reduceEqDiff]; omega)) (by first | omega | (simp only [bset, reduceIte, Nat.reduceEqDiff]; omega))) (fun h4 => ?_) (fun h4 => ?_)
  · exfalso; omega
  · refine zr_iconst dX2_takeOut_7 (rfl : 7 + 1 = 8) ?_
    refine zr_iret dX2_takeOut_8 rfl (by first | rfl | exact jb_nar) ?_ rfl rfl rfl
    first | rfl | rw [jb_pos (by first | assumption | omega)] | rw [jb_neg (by first | assumption | omega)] | rw [if_pos (by first | assumption | omega)] | rw [if_neg (by first | assumption | omega)]
theorem s_drumCopy {a2 p2 : Nat} {f2 : Int → Int} {s2 : Int} (hs : 0 ≤ s2 ∧ s2 ≤ 90) (hap : a ≠ p) (ha : w a = some (zdr p s)) (hp : w p = some (zia 90 f)) (ha2 : w a2 = some (zdr p2 s2)) (hp2 : w p2 = some (zia 90 f2)) (h1 : a2 ≠ p) : zFn Γ md_X2_copyFrom (d + 1) [.ref a, .ref a2] w none (zup (zup w p (zia 90 (jcpy f2 f 0 0 s2))) a (zdr p s2)) := by
  refine zFn.of_run (lv := [some (.ref a), some (.ref a2)]) (by decide) rfl (Nat.le_of_ble_eq_true rfl) rfl (fun n9 g9 => ?_)
  refine zr_aload_n dX2_copyFrom_0 (rfl : 0 + 1 = 1) rfl ?_
  refine zr_getf dX2_copyFrom_1 (rfl : 1 + 3 = 4) f_X2_9 (by first | assumption | exact bk_0 | exact bk_1 | exact bk_2 | exact bk_3 | exact bk_4 | exact bk_5 | exact bk_6 | exact bk_7 | exact bk_8 | exact bk_9 | exact bk_10 | exact bk_11 | exact bk_12 | exact bk_13 | exact bk_14 | exact bk_15 | exact bk_16 | exact zup_self | exact (zup_ne (by first | assumption | omega)).trans (by first | assumption | exact zup_self) | exact (zup_ne (by first | assumption | omega)).trans ((zup_ne (by first | assumption | omega)).trans (by first | assumption | exact zup_self))) rfl ?_
  refine zr_iconst dX2_copyFrom_4 (rfl : 4 + 1 = 5) ?_
  refine zr_aload_n dX2_copyFrom_5 (rfl : 5 + 1 = 6) rfl ?_
  refine zr_getf dX2_copyFrom_6 (rfl : 6 + 3 = 9) f_X2_9 (by first | assumption | exact bk_0 | exact bk_1 | exact bk_2 | exact bk_3 | exact bk_4 | exact bk_5 | exact bk_6 | exact bk_7 | exact bk_8 | exact bk_9 | exact bk_10 | exact bk_11 | exact bk_12 | exact bk_13 | exact bk_14 | exact bk_15 | exact bk_16 | exact zup_self | exact (zup_ne (by first | assumption | omega)).trans (by first | assumption | exact zup_self) | exact (zup_ne (by first | assumption | omega)).trans ((zup_ne (by first | assumption | omega)).trans (by first | assumption | exact zup_self))) rfl ?_
  refine zr_iconst dX2_copyFrom_9 (rfl : 9 + 1 = 10) ?_
  refine zr_aload_n dX2_copyFrom_10 (rfl : 10 + 1 = 11) rfl ?_
  refine zr_getf dX2_copyFrom_11 (rfl : 11 + 3 = 14) f_X2_15 (by first | assumption | exact bk_0 | exact bk_1 | exact bk_2 | exact bk_3 | exact bk_4 | exact bk_5 | exact bk_6 | exact bk_7 | exact bk_8 | exact bk_9 | exact bk_10 | exact bk_11 | exact bk_12 | exact bk_13 | exact bk_14 | exact bk_15 | exact bk_16 | exact zup_self | exact (zup_ne (by first | assumption | omega)).trans (by first | assumption | exact zup_self) | exact (zup_ne (by first | assumption | omega)).trans ((zup_ne (by first | assumption | omega)).trans (by first | assumption | exact zup_self))) rfl ?_
  refine zr_copy dX2_copyFrom_14 (rfl : 14 + 3 = 17) l_X2_19 (by first | assumption | exact bk_0 | exact bk_1 | exact bk_2 | exact bk_3 | exact bk_4 | exact bk_5 | exact bk_6 | exact bk_7 | exact bk_8 | exact bk_9 | exact bk_10 | exact bk_11 | exact bk_12 | exact bk_13 | exact bk_14 | exact bk_15 | exact bk_16 | exact zup_self | exact (zup_ne (by first | assumption | omega)).trans (by first | assumption | exact zup_self) | exact (zup_ne (by first | assumption | omega)).trans ((zup_ne (by first | assumption | omega)).trans (by first | assumption | exact zup_self))) (by first | assumption | exact bk_0 | exact bk_1 | exact bk_2 | exact bk_3 | exact bk_4 | exact bk_5 | exact bk_6 | exact bk_7 | exact bk_8 | exact bk_9 | exact bk_10 | exact bk_11 | exact bk_12 | exact bk_13 | exact bk_14 | exact bk_15 | exact bk_16 | exact zup_self | exact (zup_ne (by first | assumption | omega)).trans (by first | assumption | exact zup_self) | exact (zup_ne (by first | assumption | omega)).trans ((zup_ne (by first | assumption | omega)).trans (by first | assumption | exact zup_self))) (by first | omega | (simp only [bset, reduceIte, Nat.reduceEqDiff]; omega)) (by first | omega | (simp only [bset, reduceIte, Nat.reduceEqDiff]; omega)) (by first | omega | (simp only [bset, reduceIte, Nat.reduceEqDiff]; omega)) (by first | omega | (simp only [bset, reduceIte, Nat.reduceEqDiff]; omega)) (by first | omega | (simp only [bset, reduceIte, Nat.reduceEqDiff]; omega)) (by decide) (Nat.le_of_ble_eq_true rfl) rfl ?_
  refine zr_aload_n dX2_copyFrom_17 (rfl : 17 + 1 = 18) rfl ?_
  refine zr_aload_n dX2_copyFrom_18 (rfl : 18 + 1 = 19) rfl ?_
  refine zr_getf dX2_copyFrom_19 (rfl : 19 + 3 = 22) f_X2_15 (by first | assumption | exact bk_0 | exact bk_1 | exact bk_2 | exact bk_3 | exact bk_4 | exact bk_5 | exact bk_6 | exact bk_7 | exact bk_8 | exact bk_9 | exact bk_10 | exact bk_11 | exact bk_12 | exact bk_13 | exact bk_14 | exact bk_15 | exact bk_16 | exact zup_self | exact (zup_ne (by first | assumption | omega)).trans (by first | assumption | exact zup_self) | exact (zup_ne (by first | assumption | omega)).trans ((zup_ne (by first | assumption | omega)).trans (by first | assumption | exact zup_self))) rfl ?_
  refine zr_putf (fs' := [_, _]) dX2_copyFrom_22 (rfl : 22 + 3 = 25) f_X2_15 ft_2_1 (by first | assumption | exact bk_0 | exact bk_1 | exact bk_2 | exact bk_3 | exact bk_4 | exact bk_5 | exact bk_6 | exact bk_7 | exact bk_8 | exact bk_9 | exact bk_10 | exact bk_11 | exact bk_12 | exact bk_13 | exact bk_14 | exact bk_15 | exact bk_16 | exact zup_self | exact (zup_ne (by first | assumption | omega)).trans (by first | assumption | exact zup_self) | exact (zup_ne (by first | assumption | omega)).trans ((zup_ne (by first | assumption | omega)).trans (by first | assumption | exact zup_self))) (Nat.le_of_ble_eq_true rfl) rfl rfl rfl ?_
  exact zr_vret dX2_copyFrom_25 rfl rfl rfl rfl
theorem s_holdAll (hap : a ≠ p) (ha : w a = some (zdr p s)) (hp : w p = some (zia 90 f)) : zFn Γ md_X2_holdAll d [.ref a] w none (zup (zup w p (zia 90 (fun z => if 0 ≤ z ∧ z < 90 then z + 1 else f z))) a (zdr p 90)) := by
  refine zFn.of_run (lv := [some (.ref a), none]) (by decide) rfl (Nat.le_of_ble_eq_true rfl) rfl (fun n9 g9 => ?_)
  refine zr_iconst dX2_holdAll_0 (rfl : 0 + 1 = 1) ?_
  refine zr_istore_n (lv' := [_, _]) dX2_holdAll_1 (rfl : 1 + 1 = 2) (Nat.le_of_ble_eq_true rfl) rfl ?_
  have hpa : p ≠ a := Ne.symm hap
  have e0 : w = zup w p (zia 90 (fun z => if 0 ≤ z ∧ z < 0 then z + 1 else f z)) := by
    funext j
    unfold zup
    split
    · rename_i h
      rw [h, hp]
      congr 3
      funext z
      show f z = if 0 ≤ z ∧ z < 0 then z + 1 else f z
      rw [if_neg (by omega)]
    · rfl
  have key : zRun Γ md_X2_holdAll d none 2 [some (.ref a), some (.int (jI 0))] [] (n9, g9, 0, 0) (zup w p (zia 90 (fun z => if 0 ≤ z ∧ z < 0 then z + 1 else f z))) (zDone md_X2_holdAll none (zup (zup w p (zia 90 (fun z => if 0 ≤ z ∧ z < 90 then z + 1 else f z))) a (zdr p 90)) n9 g9) := by
    refine zfor1 0 90 (fun _ _ => True) (fun i (_ : Unit) => [some (.ref a), some (.int (jI i))]) (fun i _ => zup w p (zia 90 (fun z => if 0 ≤ z ∧ z < i then z + 1 else f z))) () trivial ?_ ?_
    · intro i _ h0 h9 _ hk
      have hup : zup (zup w p (zia 90 (fun z => if 0 ≤ z ∧ z < i then z + 1 else f z))) p (zia 90 (jup (fun z => if 0 ≤ z ∧ z < i then z + 1 else f z) i (i + 1))) = zup w p (zia 90 (fun z => if 0 ≤ z ∧ z < i + 1 then z + 1 else f z)) := by
        funext j
        unfold zup
        split
        · congr 3
          funext z
          show jup (fun z => if 0 ≤ z ∧ z < i then z + 1 else f z) i (i + 1) z = if 0 ≤ z ∧ z < i + 1 then z + 1 else f z
          unfold jup
          by_cases h : z = i
          · rw [if_pos h, if_pos (by omega), h]
          · rw [if_neg h]
            show (if 0 ≤ z ∧ z < i then z + 1 else f z) = _
            by_cases h2 : 0 ≤ z ∧ z < i
            · rw [if_pos (by omega), if_pos (by omega)]
            · rw [if_neg (by omega), if_neg (by omega)]
        · rfl
      refine zr_iload_n dX2_holdAll_2 (rfl : 2 + 1 = 3) rfl ?_
      refine zr_bipush dX2_holdAll_3 (rfl : 3 + 2 = 5) (by decide) ?_
      refine zr_icmp_ge (tgt := 23) dX2_holdAll_5 (by decide) (rfl : 5 + 3 = 8) (jI_le (by first | omega | (simp only [bset, reduceIte, Nat.reduceEqDiff]; omega)) (by first | omega | (simp only [bset, reduceIte, Nat.reduceEqDiff]; omega)) (by first | omega | (simp only [bset, reduceIte, Nat.reduceEqDiff]; omega)) (by first | omega | (simp only [bset, reduceIte, Nat.reduceEqDiff]; omega))) (fun h5 => ?_) (fun h5 => ?_)
      · exfalso; omega
      · refine zr_aload_n dX2_holdAll_8 (rfl : 8 + 1 = 9) rfl ?_
        refine zr_getf dX2_holdAll_9 (rfl : 9 + 3 = 12) f_X2_9 (by first | assumption | exact bk_0 | exact bk_1 | exact bk_2 | exact bk_3 | exact bk_4 | exact bk_5 | exact bk_6 | exact bk_7 | exact bk_8 | exact bk_9 | exact bk_10 | exact bk_11 | exact bk_12 | exact bk_13 | exact bk_14 | exact bk_15 | exact bk_16 | exact zup_self | exact (zup_ne (by first | assumption | omega)).trans (by first | assumption | exact zup_self) | exact (zup_ne (by first | assumption | omega)).trans ((zup_ne (by first | assumption | omega)).trans (by first | assumption | exact zup_self))) rfl ?_
        refine zr_iload_n dX2_holdAll_12 (rfl : 12 + 1 = 13) rfl ?_
        refine zr_iload_n dX2_holdAll_13 (rfl : 13 + 1 = 14) rfl ?_
        refine zr_iconst dX2_holdAll_14 (rfl : 14 + 1 = 15) ?_
        refine zr_iadd dX2_holdAll_15 (rfl : 15 + 1 = 16) (by first | exact jI_add _ _ | rfl) ?_
        refine zr_iast dX2_holdAll_16 (rfl : 16 + 1 = 17) (by first | assumption | exact bk_0 | exact bk_1 | exact bk_2 | exact bk_3 | exact bk_4 | exact bk_5 | exact bk_6 | exact bk_7 | exact bk_8 | exact bk_9 | exact bk_10 | exact bk_11 | exact bk_12 | exact bk_13 | exact bk_14 | exact bk_15 | exact bk_16 | exact zup_self | exact (zup_ne (by first | assumption | omega)).trans (by first | assumption | exact zup_self) | exact (zup_ne (by first | assumption | omega)).trans ((zup_ne (by first | assumption | omega)).trans (by first | assumption | exact zup_self))) (by decide) (by first | omega | (simp only [bset, reduceIte, Nat.reduceEqDiff]; omega)) (by first | omega | (simp only [bset, reduceIte, Nat.reduceEqDiff]; omega)) rfl ?_
        rw [hup]
        refine zr_iinc (lv' := [_, _]) dX2_holdAll_17 (rfl : 17 + 3 = 20) (Nat.le_of_ble_eq_true rfl) rfl (by first | exact jI_add _ _ | rfl) rfl ?_
        refine zr_goto (tgt := 2) dX2_holdAll_20 (by decide) ?_
        exact hk () trivial
    · intro _ _
      refine zr_iload_n dX2_holdAll_2 (rfl : 2 + 1 = 3) rfl ?_
      refine zr_bipush dX2_holdAll_3 (rfl : 3 + 2 = 5) (by decide) ?_
      refine zr_icmp_ge (tgt := 23) dX2_holdAll_5 (by decide) (rfl : 5 + 3 = 8) (jI_le (by first | omega | (simp only [bset, reduceIte, Nat.reduceEqDiff]; omega)) (by first | omega | (simp only [bset, reduceIte, Nat.reduceEqDiff]; omega)) (by first | omega | (simp only [bset, reduceIte, Nat.reduceEqDiff]; omega)) (by first | omega | (simp only [bset, reduceIte, Nat.reduceEqDiff]; omega))) (fun h5 => ?_) (fun h5 => ?_)
      · first
        | (exfalso; omega)
        | (
          refine zr_aload_n dX2_holdAll_23 (rfl : 23 + 1 = 24) rfl ?_
          refine zr_bipush dX2_holdAll_24 (rfl : 24 + 2 = 26) (by decide) ?_
          refine zr_putf (fs' := [_, _]) dX2_holdAll_26 (rfl : 26 + 3 = 29) f_X2_15 ft_2_1 (by first | assumption | exact bk_0 | exact bk_1 | exact bk_2 | exact bk_3 | exact bk_4 | exact bk_5 | exact bk_6 | exact bk_7 | exact bk_8 | exact bk_9 | exact bk_10 | exact bk_11 | exact bk_12 | exact bk_13 | exact bk_14 | exact bk_15 | exact bk_16 | exact zup_self | exact (zup_ne (by first | assumption | omega)).trans (by first | assumption | exact zup_self) | exact (zup_ne (by first | assumption | omega)).trans ((zup_ne (by first | assumption | omega)).trans (by first | assumption | exact zup_self))) (Nat.le_of_ble_eq_true rfl) rfl rfl rfl ?_
          exact zr_vret dX2_holdAll_29 rfl rfl rfl rfl)
      · first
        | (exfalso; omega)
        | (
          refine zr_aload_n dX2_holdAll_8 (rfl : 8 + 1 = 9) rfl ?_
          refine zr_getf dX2_holdAll_9 (rfl : 9 + 3 = 12) f_X2_9 (by first | assumption | exact bk_0 | exact bk_1 | exact bk_2 | exact bk_3 | exact bk_4 | exact bk_5 | exact bk_6 | exact bk_7 | exact bk_8 | exact bk_9 | exact bk_10 | exact bk_11 | exact bk_12 | exact bk_13 | exact bk_14 | exact bk_15 | exact bk_16 | exact zup_self | exact (zup_ne (by first | assumption | omega)).trans (by first | assumption | exact zup_self) | exact (zup_ne (by first | assumption | omega)).trans ((zup_ne (by first | assumption | omega)).trans (by first | assumption | exact zup_self))) rfl ?_
          refine zr_iload_n dX2_holdAll_12 (rfl : 12 + 1 = 13) rfl ?_
          refine zr_iload_n dX2_holdAll_13 (rfl : 13 + 1 = 14) rfl ?_
          refine zr_iconst dX2_holdAll_14 (rfl : 14 + 1 = 15) ?_
          refine zr_iadd dX2_holdAll_15 (rfl : 15 + 1 = 16) (by first | exact jI_add _ _ | rfl) ?_
          refine zr_iast dX2_holdAll_16 (rfl : 16 + 1 = 17) (by first | assumption | exact bk_0 | exact bk_1 | exact bk_2 | exact bk_3 | exact bk_4 | exact bk_5 | exact bk_6 | exact bk_7 | exact bk_8 | exact bk_9 | exact bk_10 | exact bk_11 | exact bk_12 | exact bk_13 | exact bk_14 | exact bk_15 | exact bk_16 | exact zup_self | exact (zup_ne (by first | assumption | omega)).trans (by first | assumption | exact zup_self) | exact (zup_ne (by first | assumption | omega)).trans ((zup_ne (by first | assumption | omega)).trans (by first | assumption | exact zup_self))) (by decide) (by first | omega | (simp only [bset, reduceIte, Nat.reduceEqDiff]; omega)) (by first | omega | (simp only [bset, reduceIte, Nat.reduceEqDiff]; omega)) rfl ?_
          refine zr_iinc (lv' := [_, _]) dX2_holdAll_17 (rfl : 17 + 3 = 20) (Nat.le_of_ble_eq_true rfl) rfl (by first | exact jI_add _ _ | rfl) rfl ?_
          refine zr_goto (tgt := 2) dX2_holdAll_20 (by decide) ?_
          exfalso; omega)
  rw [← e0] at key
  exact key
end DR
section EV
variable {Γ : zΓ} {d : Nat} {w : zW} {b : Nat} {B : zB}
theorem s_isBought (c : Int) (hc : 0 ≤ c ∧ c < 6) (hb : 0 ≤ B 11 0 ∧ B 11 0 < 64) : zFn Γ md_X3_isBought d [.ref (b + 4), .int (jI c)] (bk b B w) (some (.int (jI (jb (jbit (B 11 0) c = 1))))) (bk b B w) := by
  refine zFn.of_run (lv := [some (.ref (b + 4)), some (.int (jI c))]) (by decide) rfl (Nat.le_of_ble_eq_true rfl) rfl (fun n9 g9 => ?_)
  have h9 := jbit_r (B 11 0) c
  refine zr_aload_n dX3_isBought_0 (rfl : 0 + 1 = 1) rfl ?_
  refine zr_getf dX3_isBought_1 (rfl : 1 + 3 = 4) f_X3_50 (by first | assumption | exact bk_0 | exact bk_1 | exact bk_2 | exact bk_3 | exact bk_4 | exact bk_5 | exact bk_6 | exact bk_7 | exact bk_8 | exact bk_9 | exact bk_10 | exact bk_11 | exact bk_12 | exact bk_13 | exact bk_14 | exact bk_15 | exact bk_16 | exact zup_self | exact (zup_ne (by first | assumption | omega)).trans (by first | assumption | exact zup_self) | exact (zup_ne (by first | assumption | omega)).trans ((zup_ne (by first | assumption | omega)).trans (by first | assumption | exact zup_self))) rfl ?_
  refine zr_iconst dX3_isBought_4 (rfl : 4 + 1 = 5) ?_
  refine zr_iload_n dX3_isBought_5 (rfl : 5 + 1 = 6) rfl ?_
  refine zr_ishl dX3_isBought_6 (rfl : 6 + 1 = 7) rfl ?_
  refine zr_iand dX3_isBought_7 (rfl : 7 + 1 = 8) rfl ?_
  refine zr_if_eq (tgt := 15) dX3_isBought_8 (by decide) (rfl : 8 + 3 = 11) (jbit_and hb hc) (fun h8 => ?_) (fun h8 => ?_)
  · first
    | (exfalso; omega)
    | (
      refine zr_iconst dX3_isBought_15 (rfl : 15 + 1 = 16) ?_
      refine zr_iret dX3_isBought_16 rfl (by first | rfl | exact jb_nar) ?_ rfl rfl rfl
      first | rfl | rw [jb_pos (by first | assumption | omega)] | rw [jb_neg (by first | assumption | omega)] | rw [if_pos (by first | assumption | omega)] | rw [if_neg (by first | assumption | omega)])
  · first
    | (exfalso; omega)
    | (
      refine zr_iconst dX3_isBought_11 (rfl : 11 + 1 = 12) ?_
      refine zr_goto (tgt := 16) dX3_isBought_12 (by decide) ?_
      refine zr_iret dX3_isBought_16 rfl (by first | rfl | exact jb_nar) ?_ rfl rfl rfl
      first | rfl | rw [jb_pos (by first | assumption | omega)] | rw [jb_neg (by first | assumption | omega)] | rw [if_pos (by first | assumption | omega)] | rw [if_neg (by first | assumption | omega)])
theorem s_gamesWonBy (c : Int) (hc : 0 ≤ c ∧ c < 6) (hW : ∀ z, 0 ≤ B 9 z ∧ B 9 z < 64) : zFn Γ md_X3_gamesWonBy d [.ref (b + 4), .int (jI c)] (bk b B w) (some (.int (jI (jgw (B 9) c)))) (bk b B w) := by
  refine zFn.of_run (lv := [some (.ref (b + 4)), some (.int (jI c)), none, none]) (by decide) rfl (Nat.le_of_ble_eq_true rfl) rfl (fun n9 g9 => ?_)
  refine zr_iconst dX3_gamesWonBy_0 (rfl : 0 + 1 = 1) ?_
  refine zr_istore_n (lv' := [_, _, _, _]) dX3_gamesWonBy_1 (rfl : 1 + 1 = 2) (Nat.le_of_ble_eq_true rfl) rfl ?_
  refine zr_iconst dX3_gamesWonBy_2 (rfl : 2 + 1 = 3) ?_
  refine zr_istore_n (lv' := [_, _, _, _]) dX3_gamesWonBy_3 (rfl : 3 + 1 = 4) (Nat.le_of_ble_eq_true rfl) rfl ?_
  refine zr_iload_n dX3_gamesWonBy_4 (rfl : 4 + 1 = 5) rfl ?_
  refine zr_iconst dX3_gamesWonBy_5 (rfl : 5 + 1 = 6) ?_
  refine zr_icmp_ge (tgt := 30) dX3_gamesWonBy_6 (by decide) (rfl : 6 + 3 = 9) (jI_le (by first | omega | (simp only [bset, reduceIte, Nat.reduceEqDiff]; omega)) (by first | omega | (simp only [bset, reduceIte, Nat.reduceEqDiff]; omega)) (by first | omega | (simp only [bset, reduceIte, Nat.reduceEqDiff]; omega)) (by first | omega | (simp only [bset, reduceIte, Nat.reduceEqDiff]; omega))) (fun h6 => ?_) (fun h6 => ?_)
  · first
    | (exfalso; omega)
    | (
      refine zr_iload_n dX3_gamesWonBy_30 (rfl : 30 + 1 = 31) rfl ?_
      refine zr_iret dX3_gamesWonBy_31 rfl (by first | rfl | exact jb_nar) ?_ rfl rfl rfl
      rw [jbit_sh (hW _) hc, jbit_sh (hW _) hc, jbit_sh (hW _) hc, jbit_sh (hW _) hc, jgw_step (jbit_r _ _) (jbit_r _ _) (jbit_r _ _) (jbit_r _ _)]
      rfl)
  · first
    | (exfalso; omega)
    | (
      refine zr_iload_n dX3_gamesWonBy_9 (rfl : 9 + 1 = 10) rfl ?_
      refine zr_aload_n dX3_gamesWonBy_10 (rfl : 10 + 1 = 11) rfl ?_
      refine zr_getf dX3_gamesWonBy_11 (rfl : 11 + 3 = 14) f_X3_31 (by first | assumption | exact bk_0 | exact bk_1 | exact bk_2 | exact bk_3 | exact bk_4 | exact bk_5 | exact bk_6 | exact bk_7 | exact bk_8 | exact bk_9 | exact bk_10 | exact bk_11 | exact bk_12 | exact bk_13 | exact bk_14 | exact bk_15 | exact bk_16 | exact zup_self | exact (zup_ne (by first | assumption | omega)).trans (by first | assumption | exact zup_self) | exact (zup_ne (by first | assumption | omega)).trans ((zup_ne (by first | assumption | omega)).trans (by first | assumption | exact zup_self))) rfl ?_
      refine zr_iload_n dX3_gamesWonBy_14 (rfl : 14 + 1 = 15) rfl ?_
      refine zr_iald dX3_gamesWonBy_15 (rfl : 15 + 1 = 16) (by first | assumption | exact bk_0 | exact bk_1 | exact bk_2 | exact bk_3 | exact bk_4 | exact bk_5 | exact bk_6 | exact bk_7 | exact bk_8 | exact bk_9 | exact bk_10 | exact bk_11 | exact bk_12 | exact bk_13 | exact bk_14 | exact bk_15 | exact bk_16 | exact zup_self | exact (zup_ne (by first | assumption | omega)).trans (by first | assumption | exact zup_self) | exact (zup_ne (by first | assumption | omega)).trans ((zup_ne (by first | assumption | omega)).trans (by first | assumption | exact zup_self))) (by decide) (by first | omega | (simp only [bset, reduceIte, Nat.reduceEqDiff]; omega)) (by first | omega | (simp only [bset, reduceIte, Nat.reduceEqDiff]; omega)) ?_
      refine zr_iload_n dX3_gamesWonBy_16 (rfl : 16 + 1 = 17) rfl ?_
      refine zr_ishr dX3_gamesWonBy_17 (rfl : 17 + 1 = 18) rfl ?_
      refine zr_iconst dX3_gamesWonBy_18 (rfl : 18 + 1 = 19) ?_
      refine zr_iand dX3_gamesWonBy_19 (rfl : 19 + 1 = 20) rfl ?_
      refine zr_iload_n dX3_gamesWonBy_20 (rfl : 20 + 1 = 21) rfl ?_
      refine zr_ishl dX3_gamesWonBy_21 (rfl : 21 + 1 = 22) rfl ?_
      refine zr_ior dX3_gamesWonBy_22 (rfl : 22 + 1 = 23) rfl ?_
      refine zr_istore_n (lv' := [_, _, _, _]) dX3_gamesWonBy_23 (rfl : 23 + 1 = 24) (Nat.le_of_ble_eq_true rfl) rfl ?_
      refine zr_iinc (lv' := [_, _, _, _]) dX3_gamesWonBy_24 (rfl : 24 + 3 = 27) (Nat.le_of_ble_eq_true rfl) rfl (by first | exact jI_add _ _ | rfl) rfl ?_
      refine zr_goto (tgt := 4) dX3_gamesWonBy_27 (by decide) ?_
      refine zr_iload_n dX3_gamesWonBy_4 (rfl : 4 + 1 = 5) rfl ?_
      refine zr_iconst dX3_gamesWonBy_5 (rfl : 5 + 1 = 6) ?_
      refine zr_icmp_ge (tgt := 30) dX3_gamesWonBy_6 (by decide) (rfl : 6 + 3 = 9) (jI_le (by first | omega | (simp only [bset, reduceIte, Nat.reduceEqDiff]; omega)) (by first | omega | (simp only [bset, reduceIte, Nat.reduceEqDiff]; omega)) (by first | omega | (simp only [bset, reduceIte, Nat.reduceEqDiff]; omega)) (by first | omega | (simp only [bset, reduceIte, Nat.reduceEqDiff]; omega))) (fun h6 => ?_) (fun h6 => ?_)
      · first
        | (exfalso; omega)
        | (
          refine zr_iload_n dX3_gamesWonBy_30 (rfl : 30 + 1 = 31) rfl ?_
          refine zr_iret dX3_gamesWonBy_31 rfl (by first | rfl | exact jb_nar) ?_ rfl rfl rfl
          rw [jbit_sh (hW _) hc, jbit_sh (hW _) hc, jbit_sh (hW _) hc, jbit_sh (hW _) hc, jgw_step (jbit_r _ _) (jbit_r _ _) (jbit_r _ _) (jbit_r _ _)]
          rfl)
      · first
        | (exfalso; omega)
        | (
          refine zr_iload_n dX3_gamesWonBy_9 (rfl : 9 + 1 = 10) rfl ?_
          refine zr_aload_n dX3_gamesWonBy_10 (rfl : 10 + 1 = 11) rfl ?_
          refine zr_getf dX3_gamesWonBy_11 (rfl : 11 + 3 = 14) f_X3_31 (by first | assumption | exact bk_0 | exact bk_1 | exact bk_2 | exact bk_3 | exact bk_4 | exact bk_5 | exact bk_6 | exact bk_7 | exact bk_8 | exact bk_9 | exact bk_10 | exact bk_11 | exact bk_12 | exact bk_13 | exact bk_14 | exact bk_15 | exact bk_16 | exact zup_self | exact (zup_ne (by first | assumption | omega)).trans (by first | assumption | exact zup_self) | exact (zup_ne (by first | assumption | omega)).trans ((zup_ne (by first | assumption | omega)).trans (by first | assumption | exact zup_self))) rfl ?_
          refine zr_iload_n dX3_gamesWonBy_14 (rfl : 14 + 1 = 15) rfl ?_
          refine zr_iald dX3_gamesWonBy_15 (rfl : 15 + 1 = 16) (by first | assumption | exact bk_0 | exact bk_1 | exact bk_2 | exact bk_3 | exact bk_4 | exact bk_5 | exact bk_6 | exact bk_7 | exact bk_8 | exact bk_9 | exact bk_10 | exact bk_11 | exact bk_12 | exact bk_13 | exact bk_14 | exact bk_15 | exact bk_16 | exact zup_self | exact (zup_ne (by first | assumption | omega)).trans (by first | assumption | exact zup_self) | exact (zup_ne (by first | assumption | omega)).trans ((zup_ne (by first | assumption | omega)).trans (by first | assumption | exact zup_self))) (by decide) (by first | omega | (simp only [bset, reduceIte, Nat.reduceEqDiff]; omega)) (by first | omega | (simp only [bset, reduceIte, Nat.reduceEqDiff]; omega)) ?_
          refine zr_iload_n dX3_gamesWonBy_16 (rfl : 16 + 1 = 17) rfl ?_
          refine zr_ishr dX3_gamesWonBy_17 (rfl : 17 + 1 = 18) rfl ?_
          refine zr_iconst dX3_gamesWonBy_18 (rfl : 18 + 1 = 19) ?_
          refine zr_iand dX3_gamesWonBy_19 (rfl : 19 + 1 = 20) rfl ?_
          refine zr_iload_n dX3_gamesWonBy_20 (rfl : 20 + 1 = 21) rfl ?_
          refine zr_ishl dX3_gamesWonBy_21 (rfl : 21 + 1 = 22) rfl ?_
          refine zr_ior dX3_gamesWonBy_22 (rfl : 22 + 1 = 23) rfl ?_
          refine zr_istore_n (lv' := [_, _, _, _]) dX3_gamesWonBy_23 (rfl : 23 + 1 = 24) (Nat.le_of_ble_eq_true rfl) rfl ?_
          refine zr_iinc (lv' := [_, _, _, _]) dX3_gamesWonBy_24 (rfl : 24 + 3 = 27) (Nat.le_of_ble_eq_true rfl) rfl (by first | exact jI_add _ _ | rfl) rfl ?_
          refine zr_goto (tgt := 4) dX3_gamesWonBy_27 (by decide) ?_
          refine zr_iload_n dX3_gamesWonBy_4 (rfl : 4 + 1 = 5) rfl ?_
          refine zr_iconst dX3_gamesWonBy_5 (rfl : 5 + 1 = 6) ?_
          refine zr_icmp_ge (tgt := 30) dX3_gamesWonBy_6 (by decide) (rfl : 6 + 3 = 9) (jI_le (by first | omega | (simp only [bset, reduceIte, Nat.reduceEqDiff]; omega)) (by first | omega | (simp only [bset, reduceIte, Nat.reduceEqDiff]; omega)) (by first | omega | (simp only [bset, reduceIte, Nat.reduceEqDiff]; omega)) (by first | omega | (simp only [bset, reduceIte, Nat.reduceEqDiff]; omega))) (fun h6 => ?_) (fun h6 => ?_)
          · first
            | (exfalso; omega)
            | (
              refine zr_iload_n dX3_gamesWonBy_30 (rfl : 30 + 1 = 31) rfl ?_
              refine zr_iret dX3_gamesWonBy_31 rfl (by first | rfl | exact jb_nar) ?_ rfl rfl rfl
              rw [jbit_sh (hW _) hc, jbit_sh (hW _) hc, jbit_sh (hW _) hc, jbit_sh (hW _) hc, jgw_step (jbit_r _ _) (jbit_r _ _) (jbit_r _ _) (jbit_r _ _)]
              rfl)
          · first
            | (exfalso; omega)
            | (
              refine zr_iload_n dX3_gamesWonBy_9 (rfl : 9 + 1 = 10) rfl ?_
              refine zr_aload_n dX3_gamesWonBy_10 (rfl : 10 + 1 = 11) rfl ?_
              refine zr_getf dX3_gamesWonBy_11 (rfl : 11 + 3 = 14) f_X3_31 (by first | assumption | exact bk_0 | exact bk_1 | exact bk_2 | exact bk_3 | exact bk_4 | exact bk_5 | exact bk_6 | exact bk_7 | exact bk_8 | exact bk_9 | exact bk_10 | exact bk_11 | exact bk_12 | exact bk_13 | exact bk_14 | exact bk_15 | exact bk_16 | exact zup_self | exact (zup_ne (by first | assumption | omega)).trans (by first | assumption | exact zup_self) | exact (zup_ne (by first | assumption | omega)).trans ((zup_ne (by first | assumption | omega)).trans (by first | assumption | exact zup_self))) rfl ?_
              refine zr_iload_n dX3_gamesWonBy_14 (rfl : 14 + 1 = 15) rfl ?_
              refine zr_iald dX3_gamesWonBy_15 (rfl : 15 + 1 = 16) (by first | assumption | exact bk_0 | exact bk_1 | exact bk_2 | exact bk_3 | exact bk_4 | exact bk_5 | exact bk_6 | exact bk_7 | exact bk_8 | exact bk_9 | exact bk_10 | exact bk_11 | exact bk_12 | exact bk_13 | exact bk_14 | exact bk_15 | exact bk_16 | exact zup_self | exact (zup_ne (by first | assumption | omega)).trans (by first | assumption | exact zup_self) | exact (zup_ne (by first | assumption | omega)).trans ((zup_ne (by first | assumption | omega)).trans (by first | assumption | exact zup_self))) (by decide) (by first | omega | (simp only [bset, reduceIte, Nat.reduceEqDiff]; omega)) (by first | omega | (simp only [bset, reduceIte, Nat.reduceEqDiff]; omega)) ?_
              refine zr_iload_n dX3_gamesWonBy_16 (rfl : 16 + 1 = 17) rfl ?_
              refine zr_ishr dX3_gamesWonBy_17 (rfl : 17 + 1 = 18) rfl ?_
              refine zr_iconst dX3_gamesWonBy_18 (rfl : 18 + 1 = 19) ?_
              refine zr_iand dX3_gamesWonBy_19 (rfl : 19 + 1 = 20) rfl ?_
              refine zr_iload_n dX3_gamesWonBy_20 (rfl : 20 + 1 = 21) rfl ?_
              refine zr_ishl dX3_gamesWonBy_21 (rfl : 21 + 1 = 22) rfl ?_
              refine zr_ior dX3_gamesWonBy_22 (rfl : 22 + 1 = 23) rfl ?_
              refine zr_istore_n (lv' := [_, _, _, _]) dX3_gamesWonBy_23 (rfl : 23 + 1 = 24) (Nat.le_of_ble_eq_true rfl) rfl ?_
              refine zr_iinc (lv' := [_, _, _, _]) dX3_gamesWonBy_24 (rfl : 24 + 3 = 27) (Nat.le_of_ble_eq_true rfl) rfl (by first | exact jI_add _ _ | rfl) rfl ?_
              refine zr_goto (tgt := 4) dX3_gamesWonBy_27 (by decide) ?_
              refine zr_iload_n dX3_gamesWonBy_4 (rfl : 4 + 1 = 5) rfl ?_
              refine zr_iconst dX3_gamesWonBy_5 (rfl : 5 + 1 = 6) ?_
              refine zr_icmp_ge (tgt := 30) dX3_gamesWonBy_6 (by decide) (rfl : 6 + 3 = 9) (jI_le (by first | omega | (simp only [bset, reduceIte, Nat.reduceEqDiff]; omega)) (by first | omega | (simp only [bset, reduceIte, Nat.reduceEqDiff]; omega)) (by first | omega | (simp only [bset, reduceIte, Nat.reduceEqDiff]; omega)) (by first | omega | (simp only [bset, reduceIte, Nat.reduceEqDiff]; omega))) (fun h6 => ?_) (fun h6 => ?_)
              · first
                | (exfalso; omega)
                | (
                  refine zr_iload_n dX3_gamesWonBy_30 (rfl : 30 + 1 = 31) rfl ?_
                  refine zr_iret dX3_gamesWonBy_31 rfl (by first | rfl | exact jb_nar) ?_ rfl rfl rfl
                  rw [jbit_sh (hW _) hc, jbit_sh (hW _) hc, jbit_sh (hW _) hc, jbit_sh (hW _) hc, jgw_step (jbit_r _ _) (jbit_r _ _) (jbit_r _ _) (jbit_r _ _)]
                  rfl)
              · first
                | (exfalso; omega)
                | (
                  refine zr_iload_n dX3_gamesWonBy_9 (rfl : 9 + 1 = 10) rfl ?_
                  refine zr_aload_n dX3_gamesWonBy_10 (rfl : 10 + 1 = 11) rfl ?_
                  refine zr_getf dX3_gamesWonBy_11 (rfl : 11 + 3 = 14) f_X3_31 (by first | assumption | exact bk_0 | exact bk_1 | exact bk_2 | exact bk_3 | exact bk_4 | exact bk_5 | exact bk_6 | exact bk_7 | exact bk_8 | exact bk_9 | exact bk_10 | exact bk_11 | exact bk_12 | exact bk_13 | exact bk_14 | exact bk_15 | exact bk_16 | exact zup_self | exact (zup_ne (by first | assumption | omega)).trans (by first | assumption | exact zup_self) | exact (zup_ne (by first | assumption | omega)).trans ((zup_ne (by first | assumption | omega)).trans (by first | assumption | exact zup_self))) rfl ?_
                  refine zr_iload_n dX3_gamesWonBy_14 (rfl : 14 + 1 = 15) rfl ?_
                  refine zr_iald dX3_gamesWonBy_15 (rfl : 15 + 1 = 16) (by first | assumption | exact bk_0 | exact bk_1 | exact bk_2 | exact bk_3 | exact bk_4 | exact bk_5 | exact bk_6 | exact bk_7 | exact bk_8 | exact bk_9 | exact bk_10 | exact bk_11 | exact bk_12 | exact bk_13 | exact bk_14 | exact bk_15 | exact bk_16 | exact zup_self | exact (zup_ne (by first | assumption | omega)).trans (by first | assumption | exact zup_self) | exact (zup_ne (by first | assumption | omega)).trans ((zup_ne (by first | assumption | omega)).trans (by first | assumption | exact zup_self))) (by decide) (by first | omega | (simp only [bset, reduceIte, Nat.reduceEqDiff]; omega)) (by first | omega | (simp only [bset, reduceIte, Nat.reduceEqDiff]; omega)) ?_
                  refine zr_iload_n dX3_gamesWonBy_16 (rfl : 16 + 1 = 17) rfl ?_
                  refine zr_ishr dX3_gamesWonBy_17 (rfl : 17 + 1 = 18) rfl ?_
                  refine zr_iconst dX3_gamesWonBy_18 (rfl : 18 + 1 = 19) ?_
                  refine zr_iand dX3_gamesWonBy_19 (rfl : 19 + 1 = 20) rfl ?_
                  refine zr_iload_n dX3_gamesWonBy_20 (rfl : 20 + 1 = 21) rfl ?_
                  refine zr_ishl dX3_gamesWonBy_21 (rfl : 21 + 1 = 22) rfl ?_
                  refine zr_ior dX3_gamesWonBy_22 (rfl : 22 + 1 = 23) rfl ?_
                  refine zr_istore_n (lv' := [_, _, _, _]) dX3_gamesWonBy_23 (rfl : 23 + 1 = 24) (Nat.le_of_ble_eq_true rfl) rfl ?_
                  refine zr_iinc (lv' := [_, _, _, _]) dX3_gamesWonBy_24 (rfl : 24 + 3 = 27) (Nat.le_of_ble_eq_true rfl) rfl (by first | exact jI_add _ _ | rfl) rfl ?_
                  refine zr_goto (tgt := 4) dX3_gamesWonBy_27 (by decide) ?_
                  refine zr_iload_n dX3_gamesWonBy_4 (rfl : 4 + 1 = 5) rfl ?_
                  refine zr_iconst dX3_gamesWonBy_5 (rfl : 5 + 1 = 6) ?_
                  refine zr_icmp_ge (tgt := 30) dX3_gamesWonBy_6 (by decide) (rfl : 6 + 3 = 9) (jI_le (by first | omega | (simp only [bset, reduceIte, Nat.reduceEqDiff]; omega)) (by first | omega | (simp only [bset, reduceIte, Nat.reduceEqDiff]; omega)) (by first | omega | (simp only [bset, reduceIte, Nat.reduceEqDiff]; omega)) (by first | omega | (simp only [bset, reduceIte, Nat.reduceEqDiff]; omega))) (fun h6 => ?_) (fun h6 => ?_)
                  · first
                    | (exfalso; omega)
                    | (
                      refine zr_iload_n dX3_gamesWonBy_30 (rfl : 30 + 1 = 31) rfl ?_
                      refine zr_iret dX3_gamesWonBy_31 rfl (by first | rfl | exact jb_nar) ?_ rfl rfl rfl
                      rw [jbit_sh (hW _) hc, jbit_sh (hW _) hc, jbit_sh (hW _) hc, jbit_sh (hW _) hc, jgw_step (jbit_r _ _) (jbit_r _ _) (jbit_r _ _) (jbit_r _ _)]
                      rfl)
                  · first
                    | (exfalso; omega)
                    | (
                      refine zr_iload_n dX3_gamesWonBy_9 (rfl : 9 + 1 = 10) rfl ?_
                      refine zr_aload_n dX3_gamesWonBy_10 (rfl : 10 + 1 = 11) rfl ?_
                      refine zr_getf dX3_gamesWonBy_11 (rfl : 11 + 3 = 14) f_X3_31 (by first | assumption | exact bk_0 | exact bk_1 | exact bk_2 | exact bk_3 | exact bk_4 | exact bk_5 | exact bk_6 | exact bk_7 | exact bk_8 | exact bk_9 | exact bk_10 | exact bk_11 | exact bk_12 | exact bk_13 | exact bk_14 | exact bk_15 | exact bk_16 | exact zup_self | exact (zup_ne (by first | assumption | omega)).trans (by first | assumption | exact zup_self) | exact (zup_ne (by first | assumption | omega)).trans ((zup_ne (by first | assumption | omega)).trans (by first | assumption | exact zup_self))) rfl ?_
                      refine zr_iload_n dX3_gamesWonBy_14 (rfl : 14 + 1 = 15) rfl ?_
                      refine zr_iald dX3_gamesWonBy_15 (rfl : 15 + 1 = 16) (by first | assumption | exact bk_0 | exact bk_1 | exact bk_2 | exact bk_3 | exact bk_4 | exact bk_5 | exact bk_6 | exact bk_7 | exact bk_8 | exact bk_9 | exact bk_10 | exact bk_11 | exact bk_12 | exact bk_13 | exact bk_14 | exact bk_15 | exact bk_16 | exact zup_self | exact (zup_ne (by first | assumption | omega)).trans (by first | assumption | exact zup_self) | exact (zup_ne (by first | assumption | omega)).trans ((zup_ne (by first | assumption | omega)).trans (by first | assumption | exact zup_self))) (by decide) (by first | omega | (simp only [bset, reduceIte, Nat.reduceEqDiff]; omega)) (by first | omega | (simp only [bset, reduceIte, Nat.reduceEqDiff]; omega)) ?_
                      refine zr_iload_n dX3_gamesWonBy_16 (rfl : 16 + 1 = 17) rfl ?_
                      refine zr_ishr dX3_gamesWonBy_17 (rfl : 17 + 1 = 18) rfl ?_
                      refine zr_iconst dX3_gamesWonBy_18 (rfl : 18 + 1 = 19) ?_
                      refine zr_iand dX3_gamesWonBy_19 (rfl : 19 + 1 = 20) rfl ?_
                      refine zr_iload_n dX3_gamesWonBy_20 (rfl : 20 + 1 = 21) rfl ?_
                      refine zr_ishl dX3_gamesWonBy_21 (rfl : 21 + 1 = 22) rfl ?_
                      refine zr_ior dX3_gamesWonBy_22 (rfl : 22 + 1 = 23) rfl ?_
                      refine zr_istore_n (lv' := [_, _, _, _]) dX3_gamesWonBy_23 (rfl : 23 + 1 = 24) (Nat.le_of_ble_eq_true rfl) rfl ?_
                      refine zr_iinc (lv' := [_, _, _, _]) dX3_gamesWonBy_24 (rfl : 24 + 3 = 27) (Nat.le_of_ble_eq_true rfl) rfl (by first | exact jI_add _ _ | rfl) rfl ?_
                      refine zr_goto (tgt := 4) dX3_gamesWonBy_27 (by decide) ?_
                      exfalso; omega)))))
def jlast (B : zB) : Int := if 0 < B 12 0 then B 5 (B 12 0 - 1) else -1
theorem s_lastDrawn (hc : 0 ≤ B 12 0 ∧ B 12 0 ≤ 90) : zFn Γ md_X3_lastDrawn d [.ref (b + 4)] (bk b B w) (some (.int (jI (jlast B)))) (bk b B w) := by
  refine zFn.of_run (lv := [some (.ref (b + 4))]) (by decide) rfl (Nat.le_of_ble_eq_true rfl) rfl (fun n9 g9 => ?_)
  refine zr_aload_n dX3_lastDrawn_0 (rfl : 0 + 1 = 1) rfl ?_
  refine zr_getf dX3_lastDrawn_1 (rfl : 1 + 3 = 4) f_X3_54 (by first | assumption | exact bk_0 | exact bk_1 | exact bk_2 | exact bk_3 | exact bk_4 | exact bk_5 | exact bk_6 | exact bk_7 | exact bk_8 | exact bk_9 | exact bk_10 | exact bk_11 | exact bk_12 | exact bk_13 | exact bk_14 | exact bk_15 | exact bk_16 | exact zup_self | exact (zup_ne (by first | assumption | omega)).trans (by first | assumption | exact zup_self) | exact (zup_ne (by first | assumption | omega)).trans ((zup_ne (by first | assumption | omega)).trans (by first | assumption | exact zup_self))) rfl ?_
  refine zr_if_le (tgt := 21) dX3_lastDrawn_4 (by decide) (rfl : 4 + 3 = 7) (jI_lez (by first | omega | (simp only [bset, reduceIte, Nat.reduceEqDiff]; omega)) (by first | omega | (simp only [bset, reduceIte, Nat.reduceEqDiff]; omega))) (fun h4 => ?_) (fun h4 => ?_)
  · first
    | (exfalso; omega)
    | (
      refine zr_iconst dX3_lastDrawn_21 (rfl : 21 + 1 = 22) ?_
      refine zr_iret dX3_lastDrawn_22 rfl (by first | rfl | exact jb_nar) ?_ rfl rfl rfl
      unfold jlast
      first | rw [if_pos (by omega)] | rw [if_neg (by omega)])
  · first
    | (exfalso; omega)
    | (
      refine zr_aload_n dX3_lastDrawn_7 (rfl : 7 + 1 = 8) rfl ?_
      refine zr_getf dX3_lastDrawn_8 (rfl : 8 + 3 = 11) f_X3_18 (by first | assumption | exact bk_0 | exact bk_1 | exact bk_2 | exact bk_3 | exact bk_4 | exact bk_5 | exact bk_6 | exact bk_7 | exact bk_8 | exact bk_9 | exact bk_10 | exact bk_11 | exact bk_12 | exact bk_13 | exact bk_14 | exact bk_15 | exact bk_16 | exact zup_self | exact (zup_ne (by first | assumption | omega)).trans (by first | assumption | exact zup_self) | exact (zup_ne (by first | assumption | omega)).trans ((zup_ne (by first | assumption | omega)).trans (by first | assumption | exact zup_self))) rfl ?_
      refine zr_aload_n dX3_lastDrawn_11 (rfl : 11 + 1 = 12) rfl ?_
      refine zr_getf dX3_lastDrawn_12 (rfl : 12 + 3 = 15) f_X3_54 (by first | assumption | exact bk_0 | exact bk_1 | exact bk_2 | exact bk_3 | exact bk_4 | exact bk_5 | exact bk_6 | exact bk_7 | exact bk_8 | exact bk_9 | exact bk_10 | exact bk_11 | exact bk_12 | exact bk_13 | exact bk_14 | exact bk_15 | exact bk_16 | exact zup_self | exact (zup_ne (by first | assumption | omega)).trans (by first | assumption | exact zup_self) | exact (zup_ne (by first | assumption | omega)).trans ((zup_ne (by first | assumption | omega)).trans (by first | assumption | exact zup_self))) rfl ?_
      refine zr_iconst dX3_lastDrawn_15 (rfl : 15 + 1 = 16) ?_
      refine zr_isub dX3_lastDrawn_16 (rfl : 16 + 1 = 17) (by first | exact jI_sub _ _ | rfl) ?_
      refine zr_iald dX3_lastDrawn_17 (rfl : 17 + 1 = 18) (by first | assumption | exact bk_0 | exact bk_1 | exact bk_2 | exact bk_3 | exact bk_4 | exact bk_5 | exact bk_6 | exact bk_7 | exact bk_8 | exact bk_9 | exact bk_10 | exact bk_11 | exact bk_12 | exact bk_13 | exact bk_14 | exact bk_15 | exact bk_16 | exact zup_self | exact (zup_ne (by first | assumption | omega)).trans (by first | assumption | exact zup_self) | exact (zup_ne (by first | assumption | omega)).trans ((zup_ne (by first | assumption | omega)).trans (by first | assumption | exact zup_self))) (by decide) (by first | omega | (simp only [bset, reduceIte, Nat.reduceEqDiff]; omega)) (by first | omega | (simp only [bset, reduceIte, Nat.reduceEqDiff]; omega)) ?_
      refine zr_goto (tgt := 22) dX3_lastDrawn_18 (by decide) ?_
      refine zr_iret dX3_lastDrawn_22 rfl (by first | rfl | exact jb_nar) ?_ rfl rfl rfl
      unfold jlast
      first | rw [if_pos (by omega)] | rw [if_neg (by omega)])
/-- a call is told -/
def jtl (B : zB) (n sp sl : Int) : zB := bset (bset (bset (bset (bset (bset B 5 (jup (B 5) (B 12 0) n)) 6 (jup (B 6) (B 12 0) sp)) 12 (fun _ => B 12 0 + 1)) 7 (jup (B 7) n (B 12 0 + 1))) 8 (jup (B 8) sp (B 8 sp + 1))) 13 (fun _ => B 13 0 + sl)
def jslip (B : zB) (e : Int) : Prop := 0 < e ∧ (B 12 0 + 1) % e = 0
theorem s_tell0 (n e : Int) (hn : 1 ≤ n ∧ n ≤ 90) (he : 0 ≤ e ∧ e < 100) (hc : 0 ≤ B 12 0 ∧ B 12 0 < 90) (hs : ¬ jslip B e) : zFn Γ md_X3_tell d [.ref (b + 4), .int (jI n), .int (jI e)] (bk b B w) none (bk b (jtl B n n 0) w) := by
  unfold jslip at hs
  refine zFn.of_run (lv := [some (.ref (b + 4)), some (.int (jI n)), some (.int (jI e)), none, none]) (by decide) rfl (Nat.le_of_ble_eq_true rfl) rfl (fun n9 g9 => ?_)
  have hm : 0 < e → 0 ≤ (B 12 0 + 1) % e ∧ (B 12 0 + 1) % e < e := fun h => ⟨Int.emod_nonneg _ (by omega), Int.emod_lt_of_pos _ h⟩
  by_cases h0 : 0 < e
  · have hm2 := hm h0
    refine zr_aload_n dX3_tell_0 (rfl : 0 + 1 = 1) rfl ?_
    refine zr_getf dX3_tell_1 (rfl : 1 + 3 = 4) f_X3_54 (by first | assumption | exact bk_0 | exact bk_1 | exact bk_2 | exact bk_3 | exact bk_4 | exact bk_5 | exact bk_6 | exact bk_7 | exact bk_8 | exact bk_9 | exact bk_10 | exact bk_11 | exact bk_12 | exact bk_13 | exact bk_14 | exact bk_15 | exact bk_16 | exact zup_self | exact (zup_ne (by first | assumption | omega)).trans (by first | assumption | exact zup_self) | exact (zup_ne (by first | assumption | omega)).trans ((zup_ne (by first | assumption | omega)).trans (by first | assumption | exact zup_self))) rfl ?_
    refine zr_bipush dX3_tell_4 (rfl : 4 + 2 = 6) (by decide) ?_
    refine zr_icmp_lt (tgt := 10) dX3_tell_6 (by decide) (rfl : 6 + 3 = 9) (jI_lt (by first | omega | (simp only [bset, reduceIte, Nat.reduceEqDiff]; omega)) (by first | omega | (simp only [bset, reduceIte, Nat.reduceEqDiff]; omega)) (by first | omega | (simp only [bset, reduceIte, Nat.reduceEqDiff]; omega)) (by first | omega | (simp only [bset, reduceIte, Nat.reduceEqDiff]; omega))) (fun h6 => ?_) (fun h6 => ?_)
    · first
      | (exfalso; omega)
      | (
        refine zr_iload_n dX3_tell_10 (rfl : 10 + 1 = 11) rfl ?_
        refine zr_if_le (tgt := 29) dX3_tell_11 (by decide) (rfl : 11 + 3 = 14) (jI_lez (by first | omega | (simp only [bset, reduceIte, Nat.reduceEqDiff]; omega)) (by first | omega | (simp only [bset, reduceIte, Nat.reduceEqDiff]; omega))) (fun h11 => ?_) (fun h11 => ?_)
        · first
          | (exfalso; omega)
          | (
            refine zr_iconst dX3_tell_29 (rfl : 29 + 1 = 30) ?_
            refine zr_istore_n (lv' := [_, _, _, _, _]) dX3_tell_30 (rfl : 30 + 1 = 31) (Nat.le_of_ble_eq_true rfl) rfl ?_
            refine zr_iload_n dX3_tell_31 (rfl : 31 + 1 = 32) rfl ?_
            refine zr_if_eq (tgt := 44) dX3_tell_32 (by decide) (rfl : 32 + 3 = 35) (by first | exact jb_iff | exact jI_z (by first | omega | (simp only [bset, reduceIte, Nat.reduceEqDiff]; omega)) (by first | omega | (simp only [bset, reduceIte, Nat.reduceEqDiff]; omega))) (fun h32 => ?_) (fun h32 => ?_)
            · first
              | (exfalso; omega)
              | (
                refine zr_iload_n dX3_tell_44 (rfl : 44 + 1 = 45) rfl ?_
                refine zr_istore (lv' := [_, _, _, _, _]) dX3_tell_45 (rfl : 45 + 2 = 47) (Nat.le_of_ble_eq_true rfl) rfl ?_
                refine zr_aload_n dX3_tell_47 (rfl : 47 + 1 = 48) rfl ?_
                refine zr_getf dX3_tell_48 (rfl : 48 + 3 = 51) f_X3_18 (by first | assumption | exact bk_0 | exact bk_1 | exact bk_2 | exact bk_3 | exact bk_4 | exact bk_5 | exact bk_6 | exact bk_7 | exact bk_8 | exact bk_9 | exact bk_10 | exact bk_11 | exact bk_12 | exact bk_13 | exact bk_14 | exact bk_15 | exact bk_16 | exact zup_self | exact (zup_ne (by first | assumption | omega)).trans (by first | assumption | exact zup_self) | exact (zup_ne (by first | assumption | omega)).trans ((zup_ne (by first | assumption | omega)).trans (by first | assumption | exact zup_self))) rfl ?_
                refine zr_aload_n dX3_tell_51 (rfl : 51 + 1 = 52) rfl ?_
                refine zr_getf dX3_tell_52 (rfl : 52 + 3 = 55) f_X3_54 (by first | assumption | exact bk_0 | exact bk_1 | exact bk_2 | exact bk_3 | exact bk_4 | exact bk_5 | exact bk_6 | exact bk_7 | exact bk_8 | exact bk_9 | exact bk_10 | exact bk_11 | exact bk_12 | exact bk_13 | exact bk_14 | exact bk_15 | exact bk_16 | exact zup_self | exact (zup_ne (by first | assumption | omega)).trans (by first | assumption | exact zup_self) | exact (zup_ne (by first | assumption | omega)).trans ((zup_ne (by first | assumption | omega)).trans (by first | assumption | exact zup_self))) rfl ?_
                refine zr_iload_n dX3_tell_55 (rfl : 55 + 1 = 56) rfl ?_
                refine zr_iast dX3_tell_56 (rfl : 56 + 1 = 57) (by first | assumption | exact bk_0 | exact bk_1 | exact bk_2 | exact bk_3 | exact bk_4 | exact bk_5 | exact bk_6 | exact bk_7 | exact bk_8 | exact bk_9 | exact bk_10 | exact bk_11 | exact bk_12 | exact bk_13 | exact bk_14 | exact bk_15 | exact bk_16 | exact zup_self | exact (zup_ne (by first | assumption | omega)).trans (by first | assumption | exact zup_self) | exact (zup_ne (by first | assumption | omega)).trans ((zup_ne (by first | assumption | omega)).trans (by first | assumption | exact zup_self))) (by decide) (by first | omega | (simp only [bset, reduceIte, Nat.reduceEqDiff]; omega)) (by first | omega | (simp only [bset, reduceIte, Nat.reduceEqDiff]; omega)) rfl ?_
                rw [bku_5]
                refine zr_aload_n dX3_tell_57 (rfl : 57 + 1 = 58) rfl ?_
                refine zr_getf dX3_tell_58 (rfl : 58 + 3 = 61) f_X3_22 (by first | assumption | exact bk_0 | exact bk_1 | exact bk_2 | exact bk_3 | exact bk_4 | exact bk_5 | exact bk_6 | exact bk_7 | exact bk_8 | exact bk_9 | exact bk_10 | exact bk_11 | exact bk_12 | exact bk_13 | exact bk_14 | exact bk_15 | exact bk_16 | exact zup_self | exact (zup_ne (by first | assumption | omega)).trans (by first | assumption | exact zup_self) | exact (zup_ne (by first | assumption | omega)).trans ((zup_ne (by first | assumption | omega)).trans (by first | assumption | exact zup_self))) rfl ?_
                refine zr_aload_n dX3_tell_61 (rfl : 61 + 1 = 62) rfl ?_
                refine zr_getf dX3_tell_62 (rfl : 62 + 3 = 65) f_X3_54 (by first | assumption | exact bk_0 | exact bk_1 | exact bk_2 | exact bk_3 | exact bk_4 | exact bk_5 | exact bk_6 | exact bk_7 | exact bk_8 | exact bk_9 | exact bk_10 | exact bk_11 | exact bk_12 | exact bk_13 | exact bk_14 | exact bk_15 | exact bk_16 | exact zup_self | exact (zup_ne (by first | assumption | omega)).trans (by first | assumption | exact zup_self) | exact (zup_ne (by first | assumption | omega)).trans ((zup_ne (by first | assumption | omega)).trans (by first | assumption | exact zup_self))) rfl ?_
                refine zr_iload dX3_tell_65 (rfl : 65 + 2 = 67) rfl ?_
                refine zr_iast dX3_tell_67 (rfl : 67 + 1 = 68) (by first | assumption | exact bk_0 | exact bk_1 | exact bk_2 | exact bk_3 | exact bk_4 | exact bk_5 | exact bk_6 | exact bk_7 | exact bk_8 | exact bk_9 | exact bk_10 | exact bk_11 | exact bk_12 | exact bk_13 | exact bk_14 | exact bk_15 | exact bk_16 | exact zup_self | exact (zup_ne (by first | assumption | omega)).trans (by first | assumption | exact zup_self) | exact (zup_ne (by first | assumption | omega)).trans ((zup_ne (by first | assumption | omega)).trans (by first | assumption | exact zup_self))) (by decide) (by first | omega | (simp only [bset, reduceIte, Nat.reduceEqDiff]; omega)) (by first | omega | (simp only [bset, reduceIte, Nat.reduceEqDiff]; omega)) rfl ?_
                rw [bku_6]
                refine zr_aload_n dX3_tell_68 (rfl : 68 + 1 = 69) rfl ?_
                refine zr_dup dX3_tell_69 (rfl : 69 + 1 = 70) rfl ?_
                refine zr_getf dX3_tell_70 (rfl : 70 + 3 = 73) f_X3_54 (by first | assumption | exact bk_0 | exact bk_1 | exact bk_2 | exact bk_3 | exact bk_4 | exact bk_5 | exact bk_6 | exact bk_7 | exact bk_8 | exact bk_9 | exact bk_10 | exact bk_11 | exact bk_12 | exact bk_13 | exact bk_14 | exact bk_15 | exact bk_16 | exact zup_self | exact (zup_ne (by first | assumption | omega)).trans (by first | assumption | exact zup_self) | exact (zup_ne (by first | assumption | omega)).trans ((zup_ne (by first | assumption | omega)).trans (by first | assumption | exact zup_self))) rfl ?_
                refine zr_iconst dX3_tell_73 (rfl : 73 + 1 = 74) ?_
                refine zr_iadd dX3_tell_74 (rfl : 74 + 1 = 75) (by first | exact jI_add _ _ | rfl) ?_
                refine zr_putf (fs' := [_, _, _, _, _, _, _, _, _, _]) dX3_tell_75 (rfl : 75 + 3 = 78) f_X3_54 ft_3_8 (by first | assumption | exact bk_0 | exact bk_1 | exact bk_2 | exact bk_3 | exact bk_4 | exact bk_5 | exact bk_6 | exact bk_7 | exact bk_8 | exact bk_9 | exact bk_10 | exact bk_11 | exact bk_12 | exact bk_13 | exact bk_14 | exact bk_15 | exact bk_16 | exact zup_self | exact (zup_ne (by first | assumption | omega)).trans (by first | assumption | exact zup_self) | exact (zup_ne (by first | assumption | omega)).trans ((zup_ne (by first | assumption | omega)).trans (by first | assumption | exact zup_self))) (Nat.le_of_ble_eq_true rfl) rfl rfl rfl ?_
                rw [bku_12]
                refine zr_aload_n dX3_tell_78 (rfl : 78 + 1 = 79) rfl ?_
                refine zr_getf dX3_tell_79 (rfl : 79 + 3 = 82) f_X3_25 (by first | assumption | exact bk_0 | exact bk_1 | exact bk_2 | exact bk_3 | exact bk_4 | exact bk_5 | exact bk_6 | exact bk_7 | exact bk_8 | exact bk_9 | exact bk_10 | exact bk_11 | exact bk_12 | exact bk_13 | exact bk_14 | exact bk_15 | exact bk_16 | exact zup_self | exact (zup_ne (by first | assumption | omega)).trans (by first | assumption | exact zup_self) | exact (zup_ne (by first | assumption | omega)).trans ((zup_ne (by first | assumption | omega)).trans (by first | assumption | exact zup_self))) rfl ?_
                refine zr_iload_n dX3_tell_82 (rfl : 82 + 1 = 83) rfl ?_
                refine zr_aload_n dX3_tell_83 (rfl : 83 + 1 = 84) rfl ?_
                refine zr_getf dX3_tell_84 (rfl : 84 + 3 = 87) f_X3_54 (by first | assumption | exact bk_0 | exact bk_1 | exact bk_2 | exact bk_3 | exact bk_4 | exact bk_5 | exact bk_6 | exact bk_7 | exact bk_8 | exact bk_9 | exact bk_10 | exact bk_11 | exact bk_12 | exact bk_13 | exact bk_14 | exact bk_15 | exact bk_16 | exact zup_self | exact (zup_ne (by first | assumption | omega)).trans (by first | assumption | exact zup_self) | exact (zup_ne (by first | assumption | omega)).trans ((zup_ne (by first | assumption | omega)).trans (by first | assumption | exact zup_self))) rfl ?_
                refine zr_iast dX3_tell_87 (rfl : 87 + 1 = 88) (by first | assumption | exact bk_0 | exact bk_1 | exact bk_2 | exact bk_3 | exact bk_4 | exact bk_5 | exact bk_6 | exact bk_7 | exact bk_8 | exact bk_9 | exact bk_10 | exact bk_11 | exact bk_12 | exact bk_13 | exact bk_14 | exact bk_15 | exact bk_16 | exact zup_self | exact (zup_ne (by first | assumption | omega)).trans (by first | assumption | exact zup_self) | exact (zup_ne (by first | assumption | omega)).trans ((zup_ne (by first | assumption | omega)).trans (by first | assumption | exact zup_self))) (by decide) (by first | omega | (simp only [bset, reduceIte, Nat.reduceEqDiff]; omega)) (by first | omega | (simp only [bset, reduceIte, Nat.reduceEqDiff]; omega)) rfl ?_
                rw [bku_7]
                refine zr_aload_n dX3_tell_88 (rfl : 88 + 1 = 89) rfl ?_
                refine zr_getf dX3_tell_89 (rfl : 89 + 3 = 92) f_X3_28 (by first | assumption | exact bk_0 | exact bk_1 | exact bk_2 | exact bk_3 | exact bk_4 | exact bk_5 | exact bk_6 | exact bk_7 | exact bk_8 | exact bk_9 | exact bk_10 | exact bk_11 | exact bk_12 | exact bk_13 | exact bk_14 | exact bk_15 | exact bk_16 | exact zup_self | exact (zup_ne (by first | assumption | omega)).trans (by first | assumption | exact zup_self) | exact (zup_ne (by first | assumption | omega)).trans ((zup_ne (by first | assumption | omega)).trans (by first | assumption | exact zup_self))) rfl ?_
                refine zr_iload dX3_tell_92 (rfl : 92 + 2 = 94) rfl ?_
                refine zr_dup2 dX3_tell_94 (rfl : 94 + 1 = 95) rfl rfl ?_
                refine zr_iald dX3_tell_95 (rfl : 95 + 1 = 96) (by first | assumption | exact bk_0 | exact bk_1 | exact bk_2 | exact bk_3 | exact bk_4 | exact bk_5 | exact bk_6 | exact bk_7 | exact bk_8 | exact bk_9 | exact bk_10 | exact bk_11 | exact bk_12 | exact bk_13 | exact bk_14 | exact bk_15 | exact bk_16 | exact zup_self | exact (zup_ne (by first | assumption | omega)).trans (by first | assumption | exact zup_self) | exact (zup_ne (by first | assumption | omega)).trans ((zup_ne (by first | assumption | omega)).trans (by first | assumption | exact zup_self))) (by decide) (by first | omega | (simp only [bset, reduceIte, Nat.reduceEqDiff]; omega)) (by first | omega | (simp only [bset, reduceIte, Nat.reduceEqDiff]; omega)) ?_
                refine zr_iconst dX3_tell_96 (rfl : 96 + 1 = 97) ?_
                refine zr_iadd dX3_tell_97 (rfl : 97 + 1 = 98) (by first | exact jI_add _ _ | rfl) ?_
                refine zr_iast dX3_tell_98 (rfl : 98 + 1 = 99) (by first | assumption | exact bk_0 | exact bk_1 | exact bk_2 | exact bk_3 | exact bk_4 | exact bk_5 | exact bk_6 | exact bk_7 | exact bk_8 | exact bk_9 | exact bk_10 | exact bk_11 | exact bk_12 | exact bk_13 | exact bk_14 | exact bk_15 | exact bk_16 | exact zup_self | exact (zup_ne (by first | assumption | omega)).trans (by first | assumption | exact zup_self) | exact (zup_ne (by first | assumption | omega)).trans ((zup_ne (by first | assumption | omega)).trans (by first | assumption | exact zup_self))) (by decide) (by first | omega | (simp only [bset, reduceIte, Nat.reduceEqDiff]; omega)) (by first | omega | (simp only [bset, reduceIte, Nat.reduceEqDiff]; omega)) rfl ?_
                rw [bku_8]
                refine zr_aload_n dX3_tell_99 (rfl : 99 + 1 = 100) rfl ?_
                refine zr_dup dX3_tell_100 (rfl : 100 + 1 = 101) rfl ?_
                refine zr_getf dX3_tell_101 (rfl : 101 + 3 = 104) f_X3_57 (by first | assumption | exact bk_0 | exact bk_1 | exact bk_2 | exact bk_3 | exact bk_4 | exact bk_5 | exact bk_6 | exact bk_7 | exact bk_8 | exact bk_9 | exact bk_10 | exact bk_11 | exact bk_12 | exact bk_13 | exact bk_14 | exact bk_15 | exact bk_16 | exact zup_self | exact (zup_ne (by first | assumption | omega)).trans (by first | assumption | exact zup_self) | exact (zup_ne (by first | assumption | omega)).trans ((zup_ne (by first | assumption | omega)).trans (by first | assumption | exact zup_self))) rfl ?_
                refine zr_iload_n dX3_tell_104 (rfl : 104 + 1 = 105) rfl ?_
                refine zr_if_eq (tgt := 112) dX3_tell_105 (by decide) (rfl : 105 + 3 = 108) (by first | exact jb_iff | exact jI_z (by first | omega | (simp only [bset, reduceIte, Nat.reduceEqDiff]; omega)) (by first | omega | (simp only [bset, reduceIte, Nat.reduceEqDiff]; omega))) (fun h105 => ?_) (fun h105 => ?_)
                · first
                  | (exfalso; omega)
                  | (
                    refine zr_iconst dX3_tell_112 (rfl : 112 + 1 = 113) ?_
                    refine zr_iadd dX3_tell_113 (rfl : 113 + 1 = 114) (by first | exact jI_add _ _ | rfl) ?_
                    refine zr_putf (fs' := [_, _, _, _, _, _, _, _, _, _]) dX3_tell_114 (rfl : 114 + 3 = 117) f_X3_57 ft_3_9 (by first | assumption | exact bk_0 | exact bk_1 | exact bk_2 | exact bk_3 | exact bk_4 | exact bk_5 | exact bk_6 | exact bk_7 | exact bk_8 | exact bk_9 | exact bk_10 | exact bk_11 | exact bk_12 | exact bk_13 | exact bk_14 | exact bk_15 | exact bk_16 | exact zup_self | exact (zup_ne (by first | assumption | omega)).trans (by first | assumption | exact zup_self) | exact (zup_ne (by first | assumption | omega)).trans ((zup_ne (by first | assumption | omega)).trans (by first | assumption | exact zup_self))) (Nat.le_of_ble_eq_true rfl) rfl rfl rfl ?_
                    rw [bku_13]
                    exact zr_vret dX3_tell_117 rfl rfl rfl rfl)
                · first
                  | (exfalso; omega)
                  | (
                    refine zr_iconst dX3_tell_108 (rfl : 108 + 1 = 109) ?_
                    refine zr_goto (tgt := 113) dX3_tell_109 (by decide) ?_
                    refine zr_iadd dX3_tell_113 (rfl : 113 + 1 = 114) (by first | exact jI_add _ _ | rfl) ?_
                    refine zr_putf (fs' := [_, _, _, _, _, _, _, _, _, _]) dX3_tell_114 (rfl : 114 + 3 = 117) f_X3_57 ft_3_9 (by first | assumption | exact bk_0 | exact bk_1 | exact bk_2 | exact bk_3 | exact bk_4 | exact bk_5 | exact bk_6 | exact bk_7 | exact bk_8 | exact bk_9 | exact bk_10 | exact bk_11 | exact bk_12 | exact bk_13 | exact bk_14 | exact bk_15 | exact bk_16 | exact zup_self | exact (zup_ne (by first | assumption | omega)).trans (by first | assumption | exact zup_self) | exact (zup_ne (by first | assumption | omega)).trans ((zup_ne (by first | assumption | omega)).trans (by first | assumption | exact zup_self))) (Nat.le_of_ble_eq_true rfl) rfl rfl rfl ?_
                    rw [bku_13]
                    exact zr_vret dX3_tell_117 rfl rfl rfl rfl))
            · first
              | (exfalso; omega)
              | (
                refine zr_iload_n dX3_tell_35 (rfl : 35 + 1 = 36) rfl ?_
                refine zr_bipush dX3_tell_36 (rfl : 36 + 2 = 38) (by decide) ?_
                refine zr_irem dX3_tell_38 (rfl : 38 + 1 = 39) (fun q => absurd ((jI_z (by first | omega | (simp only [bset, reduceIte, Nat.reduceEqDiff]; omega)) (by first | omega | (simp only [bset, reduceIte, Nat.reduceEqDiff]; omega))).mp q) (by first | omega | (simp only [bset, reduceIte, Nat.reduceEqDiff]; omega))) (jI_rem (by first | omega | (simp only [bset, reduceIte, Nat.reduceEqDiff]; omega)) (by first | omega | (simp only [bset, reduceIte, Nat.reduceEqDiff]; omega)) (by first | omega | (simp only [bset, reduceIte, Nat.reduceEqDiff]; omega)) (by first | omega | (simp only [bset, reduceIte, Nat.reduceEqDiff]; omega))) ?_
                refine zr_iconst dX3_tell_39 (rfl : 39 + 1 = 40) ?_
                refine zr_iadd dX3_tell_40 (rfl : 40 + 1 = 41) (by first | exact jI_add _ _ | rfl) ?_
                refine zr_goto (tgt := 45) dX3_tell_41 (by decide) ?_
                refine zr_istore (lv' := [_, _, _, _, _]) dX3_tell_45 (rfl : 45 + 2 = 47) (Nat.le_of_ble_eq_true rfl) rfl ?_
                refine zr_aload_n dX3_tell_47 (rfl : 47 + 1 = 48) rfl ?_
                refine zr_getf dX3_tell_48 (rfl : 48 + 3 = 51) f_X3_18 (by first | assumption | exact bk_0 | exact bk_1 | exact bk_2 | exact bk_3 | exact bk_4 | exact bk_5 | exact bk_6 | exact bk_7 | exact bk_8 | exact bk_9 | exact bk_10 | exact bk_11 | exact bk_12 | exact bk_13 | exact bk_14 | exact bk_15 | exact bk_16 | exact zup_self | exact (zup_ne (by first | assumption | omega)).trans (by first | assumption | exact zup_self) | exact (zup_ne (by first | assumption | omega)).trans ((zup_ne (by first | assumption | omega)).trans (by first | assumption | exact zup_self))) rfl ?_
                refine zr_aload_n dX3_tell_51 (rfl : 51 + 1 = 52) rfl ?_
                refine zr_getf dX3_tell_52 (rfl : 52 + 3 = 55) f_X3_54 (by first | assumption | exact bk_0 | exact bk_1 | exact bk_2 | exact bk_3 | exact bk_4 | exact bk_5 | exact bk_6 | exact bk_7 | exact bk_8 | exact bk_9 | exact bk_10 | exact bk_11 | exact bk_12 | exact bk_13 | exact bk_14 | exact bk_15 | exact bk_16 | exact zup_self | exact (zup_ne (by first | assumption | omega)).trans (by first | assumption | exact zup_self) | exact (zup_ne (by first | assumption | omega)).trans ((zup_ne (by first | assumption | omega)).trans (by first | assumption | exact zup_self))) rfl ?_
                refine zr_iload_n dX3_tell_55 (rfl : 55 + 1 = 56) rfl ?_
                refine zr_iast dX3_tell_56 (rfl : 56 + 1 = 57) (by first | assumption | exact bk_0 | exact bk_1 | exact bk_2 | exact bk_3 | exact bk_4 | exact bk_5 | exact bk_6 | exact bk_7 | exact bk_8 | exact bk_9 | exact bk_10 | exact bk_11 | exact bk_12 | exact bk_13 | exact bk_14 | exact bk_15 | exact bk_16 | exact zup_self | exact (zup_ne (by first | assumption | omega)).trans (by first | assumption | exact zup_self) | exact (zup_ne (by first | assumption | omega)).trans ((zup_ne (by first | assumption | omega)).trans (by first | assumption | exact zup_self))) (by decide) (by first | omega | (simp only [bset, reduceIte, Nat.reduceEqDiff]; omega)) (by first | omega | (simp only [bset, reduceIte, Nat.reduceEqDiff]; omega)) rfl ?_
                rw [bku_5]
                refine zr_aload_n dX3_tell_57 (rfl : 57 + 1 = 58) rfl ?_
                refine zr_getf dX3_tell_58 (rfl : 58 + 3 = 61) f_X3_22 (by first | assumption | exact bk_0 | exact bk_1 | exact bk_2 | exact bk_3 | exact bk_4 | exact bk_5 | exact bk_6 | exact bk_7 | exact bk_8 | exact bk_9 | exact bk_10 | exact bk_11 | exact bk_12 | exact bk_13 | exact bk_14 | exact bk_15 | exact bk_16 | exact zup_self | exact (zup_ne (by first | assumption | omega)).trans (by first | assumption | exact zup_self) | exact (zup_ne (by first | assumption | omega)).trans ((zup_ne (by first | assumption | omega)).trans (by first | assumption | exact zup_self))) rfl ?_
                refine zr_aload_n dX3_tell_61 (rfl : 61 + 1 = 62) rfl ?_
                refine zr_getf dX3_tell_62 (rfl : 62 + 3 = 65) f_X3_54 (by first | assumption | exact bk_0 | exact bk_1 | exact bk_2 | exact bk_3 | exact bk_4 | exact bk_5 | exact bk_6 | exact bk_7 | exact bk_8 | exact bk_9 | exact bk_10 | exact bk_11 | exact bk_12 | exact bk_13 | exact bk_14 | exact bk_15 | exact bk_16 | exact zup_self | exact (zup_ne (by first | assumption | omega)).trans (by first | assumption | exact zup_self) | exact (zup_ne (by first | assumption | omega)).trans ((zup_ne (by first | assumption | omega)).trans (by first | assumption | exact zup_self))) rfl ?_
                refine zr_iload dX3_tell_65 (rfl : 65 + 2 = 67) rfl ?_
                refine zr_iast dX3_tell_67 (rfl : 67 + 1 = 68) (by first | assumption | exact bk_0 | exact bk_1 | exact bk_2 | exact bk_3 | exact bk_4 | exact bk_5 | exact bk_6 | exact bk_7 | exact bk_8 | exact bk_9 | exact bk_10 | exact bk_11 | exact bk_12 | exact bk_13 | exact bk_14 | exact bk_15 | exact bk_16 | exact zup_self | exact (zup_ne (by first | assumption | omega)).trans (by first | assumption | exact zup_self) | exact (zup_ne (by first | assumption | omega)).trans ((zup_ne (by first | assumption | omega)).trans (by first | assumption | exact zup_self))) (by decide) (by first | omega | (simp only [bset, reduceIte, Nat.reduceEqDiff]; omega)) (by first | omega | (simp only [bset, reduceIte, Nat.reduceEqDiff]; omega)) rfl ?_
                rw [bku_6]
                refine zr_aload_n dX3_tell_68 (rfl : 68 + 1 = 69) rfl ?_
                refine zr_dup dX3_tell_69 (rfl : 69 + 1 = 70) rfl ?_
                refine zr_getf dX3_tell_70 (rfl : 70 + 3 = 73) f_X3_54 (by first | assumption | exact bk_0 | exact bk_1 | exact bk_2 | exact bk_3 | exact bk_4 | exact bk_5 | exact bk_6 | exact bk_7 | exact bk_8 | exact bk_9 | exact bk_10 | exact bk_11 | exact bk_12 | exact bk_13 | exact bk_14 | exact bk_15 | exact bk_16 | exact zup_self | exact (zup_ne (by first | assumption | omega)).trans (by first | assumption | exact zup_self) | exact (zup_ne (by first | assumption | omega)).trans ((zup_ne (by first | assumption | omega)).trans (by first | assumption | exact zup_self))) rfl ?_
                refine zr_iconst dX3_tell_73 (rfl : 73 + 1 = 74) ?_
                refine zr_iadd dX3_tell_74 (rfl : 74 + 1 = 75) (by first | exact jI_add _ _ | rfl) ?_
                refine zr_putf (fs' := [_, _, _, _, _, _, _, _, _, _]) dX3_tell_75 (rfl : 75 + 3 = 78) f_X3_54 ft_3_8 (by first | assumption | exact bk_0 | exact bk_1 | exact bk_2 | exact bk_3 | exact bk_4 | exact bk_5 | exact bk_6 | exact bk_7 | exact bk_8 | exact bk_9 | exact bk_10 | exact bk_11 | exact bk_12 | exact bk_13 | exact bk_14 | exact bk_15 | exact bk_16 | exact zup_self | exact (zup_ne (by first | assumption | omega)).trans (by first | assumption | exact zup_self) | exact (zup_ne (by first | assumption | omega)).trans ((zup_ne (by first | assumption | omega)).trans (by first | assumption | exact zup_self))) (Nat.le_of_ble_eq_true rfl) rfl rfl rfl ?_
                rw [bku_12]
                refine zr_aload_n dX3_tell_78 (rfl : 78 + 1 = 79) rfl ?_
                refine zr_getf dX3_tell_79 (rfl : 79 + 3 = 82) f_X3_25 (by first | assumption | exact bk_0 | exact bk_1 | exact bk_2 | exact bk_3 | exact bk_4 | exact bk_5 | exact bk_6 | exact bk_7 | exact bk_8 | exact bk_9 | exact bk_10 | exact bk_11 | exact bk_12 | exact bk_13 | exact bk_14 | exact bk_15 | exact bk_16 | exact zup_self | exact (zup_ne (by first | assumption | omega)).trans (by first | assumption | exact zup_self) | exact (zup_ne (by first | assumption | omega)).trans ((zup_ne (by first | assumption | omega)).trans (by first | assumption | exact zup_self))) rfl ?_
                refine zr_iload_n dX3_tell_82 (rfl : 82 + 1 = 83) rfl ?_
                refine zr_aload_n dX3_tell_83 (rfl : 83 + 1 = 84) rfl ?_
                refine zr_getf dX3_tell_84 (rfl : 84 + 3 = 87) f_X3_54 (by first | assumption | exact bk_0 | exact bk_1 | exact bk_2 | exact bk_3 | exact bk_4 | exact bk_5 | exact bk_6 | exact bk_7 | exact bk_8 | exact bk_9 | exact bk_10 | exact bk_11 | exact bk_12 | exact bk_13 | exact bk_14 | exact bk_15 | exact bk_16 | exact zup_self | exact (zup_ne (by first | assumption | omega)).trans (by first | assumption | exact zup_self) | exact (zup_ne (by first | assumption | omega)).trans ((zup_ne (by first | assumption | omega)).trans (by first | assumption | exact zup_self))) rfl ?_
                refine zr_iast dX3_tell_87 (rfl : 87 + 1 = 88) (by first | assumption | exact bk_0 | exact bk_1 | exact bk_2 | exact bk_3 | exact bk_4 | exact bk_5 | exact bk_6 | exact bk_7 | exact bk_8 | exact bk_9 | exact bk_10 | exact bk_11 | exact bk_12 | exact bk_13 | exact bk_14 | exact bk_15 | exact bk_16 | exact zup_self | exact (zup_ne (by first | assumption | omega)).trans (by first | assumption | exact zup_self) | exact (zup_ne (by first | assumption | omega)).trans ((zup_ne (by first | assumption | omega)).trans (by first | assumption | exact zup_self))) (by decide) (by first | omega | (simp only [bset, reduceIte, Nat.reduceEqDiff]; omega)) (by first | omega | (simp only [bset, reduceIte, Nat.reduceEqDiff]; omega)) rfl ?_
                rw [bku_7]
                refine zr_aload_n dX3_tell_88 (rfl : 88 + 1 = 89) rfl ?_
                refine zr_getf dX3_tell_89 (rfl : 89 + 3 = 92) f_X3_28 (by first | assumption | exact bk_0 | exact bk_1 | exact bk_2 | exact bk_3 | exact bk_4 | exact bk_5 | exact bk_6 | exact bk_7 | exact bk_8 | exact bk_9 | exact bk_10 | exact bk_11 | exact bk_12 | exact bk_13 | exact bk_14 | exact bk_15 | exact bk_16 | exact zup_self | exact (zup_ne (by first | assumption | omega)).trans (by first | assumption | exact zup_self) | exact (zup_ne (by first | assumption | omega)).trans ((zup_ne (by first | assumption | omega)).trans (by first | assumption | exact zup_self))) rfl ?_
                refine zr_iload dX3_tell_92 (rfl : 92 + 2 = 94) rfl ?_
                refine zr_dup2 dX3_tell_94 (rfl : 94 + 1 = 95) rfl rfl ?_
                refine zr_iald dX3_tell_95 (rfl : 95 + 1 = 96) (by first | assumption | exact bk_0 | exact bk_1 | exact bk_2 | exact bk_3 | exact bk_4 | exact bk_5 | exact bk_6 | exact bk_7 | exact bk_8 | exact bk_9 | exact bk_10 | exact bk_11 | exact bk_12 | exact bk_13 | exact bk_14 | exact bk_15 | exact bk_16 | exact zup_self | exact (zup_ne (by first | assumption | omega)).trans (by first | assumption | exact zup_self) | exact (zup_ne (by first | assumption | omega)).trans ((zup_ne (by first | assumption | omega)).trans (by first | assumption | exact zup_self))) (by decide) (by first | omega | (simp only [bset, reduceIte, Nat.reduceEqDiff]; omega)) (by first | omega | (simp only [bset, reduceIte, Nat.reduceEqDiff]; omega)) ?_
                refine zr_iconst dX3_tell_96 (rfl : 96 + 1 = 97) ?_
                refine zr_iadd dX3_tell_97 (rfl : 97 + 1 = 98) (by first | exact jI_add _ _ | rfl) ?_
                refine zr_iast dX3_tell_98 (rfl : 98 + 1 = 99) (by first | assumption | exact bk_0 | exact bk_1 | exact bk_2 | exact bk_3 | exact bk_4 | exact bk_5 | exact bk_6 | exact bk_7 | exact bk_8 | exact bk_9 | exact bk_10 | exact bk_11 | exact bk_12 | exact bk_13 | exact bk_14 | exact bk_15 | exact bk_16 | exact zup_self | exact (zup_ne (by first | assumption | omega)).trans (by first | assumption | exact zup_self) | exact (zup_ne (by first | assumption | omega)).trans ((zup_ne (by first | assumption | omega)).trans (by first | assumption | exact zup_self))) (by decide) (by first | omega | (simp only [bset, reduceIte, Nat.reduceEqDiff]; omega)) (by first | omega | (simp only [bset, reduceIte, Nat.reduceEqDiff]; omega)) rfl ?_
                rw [bku_8]
                refine zr_aload_n dX3_tell_99 (rfl : 99 + 1 = 100) rfl ?_
                refine zr_dup dX3_tell_100 (rfl : 100 + 1 = 101) rfl ?_
                refine zr_getf dX3_tell_101 (rfl : 101 + 3 = 104) f_X3_57 (by first | assumption | exact bk_0 | exact bk_1 | exact bk_2 | exact bk_3 | exact bk_4 | exact bk_5 | exact bk_6 | exact bk_7 | exact bk_8 | exact bk_9 | exact bk_10 | exact bk_11 | exact bk_12 | exact bk_13 | exact bk_14 | exact bk_15 | exact bk_16 | exact zup_self | exact (zup_ne (by first | assumption | omega)).trans (by first | assumption | exact zup_self) | exact (zup_ne (by first | assumption | omega)).trans ((zup_ne (by first | assumption | omega)).trans (by first | assumption | exact zup_self))) rfl ?_
                refine zr_iload_n dX3_tell_104 (rfl : 104 + 1 = 105) rfl ?_
                refine zr_if_eq (tgt := 112) dX3_tell_105 (by decide) (rfl : 105 + 3 = 108) (by first | exact jb_iff | exact jI_z (by first | omega | (simp only [bset, reduceIte, Nat.reduceEqDiff]; omega)) (by first | omega | (simp only [bset, reduceIte, Nat.reduceEqDiff]; omega))) (fun h105 => ?_) (fun h105 => ?_)
                · first
                  | (exfalso; omega)
                  | (
                    refine zr_iconst dX3_tell_112 (rfl : 112 + 1 = 113) ?_
                    refine zr_iadd dX3_tell_113 (rfl : 113 + 1 = 114) (by first | exact jI_add _ _ | rfl) ?_
                    refine zr_putf (fs' := [_, _, _, _, _, _, _, _, _, _]) dX3_tell_114 (rfl : 114 + 3 = 117) f_X3_57 ft_3_9 (by first | assumption | exact bk_0 | exact bk_1 | exact bk_2 | exact bk_3 | exact bk_4 | exact bk_5 | exact bk_6 | exact bk_7 | exact bk_8 | exact bk_9 | exact bk_10 | exact bk_11 | exact bk_12 | exact bk_13 | exact bk_14 | exact bk_15 | exact bk_16 | exact zup_self | exact (zup_ne (by first | assumption | omega)).trans (by first | assumption | exact zup_self) | exact (zup_ne (by first | assumption | omega)).trans ((zup_ne (by first | assumption | omega)).trans (by first | assumption | exact zup_self))) (Nat.le_of_ble_eq_true rfl) rfl rfl rfl ?_
                    rw [bku_13]
                    exact zr_vret dX3_tell_117 rfl rfl rfl rfl)
                · first
                  | (exfalso; omega)
                  | (
                    refine zr_iconst dX3_tell_108 (rfl : 108 + 1 = 109) ?_
                    refine zr_goto (tgt := 113) dX3_tell_109 (by decide) ?_
                    refine zr_iadd dX3_tell_113 (rfl : 113 + 1 = 114) (by first | exact jI_add _ _ | rfl) ?_
                    refine zr_putf (fs' := [_, _, _, _, _, _, _, _, _, _]) dX3_tell_114 (rfl : 114 + 3 = 117) f_X3_57 ft_3_9 (by first | assumption | exact bk_0 | exact bk_1 | exact bk_2 | exact bk_3 | exact bk_4 | exact bk_5 | exact bk_6 | exact bk_7 | exact bk_8 | exact bk_9 | exact bk_10 | exact bk_11 | exact bk_12 | exact bk_13 | exact bk_14 | exact bk_15 | exact bk_16 | exact zup_self | exact (zup_ne (by first | assumption | omega)).trans (by first | assumption | exact zup_self) | exact (zup_ne (by first | assumption | omega)).trans ((zup_ne (by first | assumption | omega)).trans (by first | assumption | exact zup_self))) (Nat.le_of_ble_eq_true rfl) rfl rfl rfl ?_
                    rw [bku_13]
                    exact zr_vret dX3_tell_117 rfl rfl rfl rfl)))
        · first
          | (exfalso; omega)
          | (
            refine zr_aload_n dX3_tell_14 (rfl : 14 + 1 = 15) rfl ?_
            refine zr_getf dX3_tell_15 (rfl : 15 + 3 = 18) f_X3_54 (by first | assumption | exact bk_0 | exact bk_1 | exact bk_2 | exact bk_3 | exact bk_4 | exact bk_5 | exact bk_6 | exact bk_7 | exact bk_8 | exact bk_9 | exact bk_10 | exact bk_11 | exact bk_12 | exact bk_13 | exact bk_14 | exact bk_15 | exact bk_16 | exact zup_self | exact (zup_ne (by first | assumption | omega)).trans (by first | assumption | exact zup_self) | exact (zup_ne (by first | assumption | omega)).trans ((zup_ne (by first | assumption | omega)).trans (by first | assumption | exact zup_self))) rfl ?_
            refine zr_iconst dX3_tell_18 (rfl : 18 + 1 = 19) ?_
            refine zr_iadd dX3_tell_19 (rfl : 19 + 1 = 20) (by first | exact jI_add _ _ | rfl) ?_
            refine zr_iload_n dX3_tell_20 (rfl : 20 + 1 = 21) rfl ?_
            refine zr_irem dX3_tell_21 (rfl : 21 + 1 = 22) (fun q => absurd ((jI_z (by first | omega | (simp only [bset, reduceIte, Nat.reduceEqDiff]; omega)) (by first | omega | (simp only [bset, reduceIte, Nat.reduceEqDiff]; omega))).mp q) (by first | omega | (simp only [bset, reduceIte, Nat.reduceEqDiff]; omega))) (jI_rem (by first | omega | (simp only [bset, reduceIte, Nat.reduceEqDiff]; omega)) (by first | omega | (simp only [bset, reduceIte, Nat.reduceEqDiff]; omega)) (by first | omega | (simp only [bset, reduceIte, Nat.reduceEqDiff]; omega)) (by first | omega | (simp only [bset, reduceIte, Nat.reduceEqDiff]; omega))) ?_
            refine zr_if_ne (tgt := 29) dX3_tell_22 (by decide) (rfl : 22 + 3 = 25) (by first | exact jb_iff | exact jI_z (by first | omega | (simp only [bset, reduceIte, Nat.reduceEqDiff]; omega)) (by first | omega | (simp only [bset, reduceIte, Nat.reduceEqDiff]; omega))) (fun h22 => ?_) (fun h22 => ?_)
            · first
              | (exfalso; omega)
              | (
                refine zr_iconst dX3_tell_29 (rfl : 29 + 1 = 30) ?_
                refine zr_istore_n (lv' := [_, _, _, _, _]) dX3_tell_30 (rfl : 30 + 1 = 31) (Nat.le_of_ble_eq_true rfl) rfl ?_
                refine zr_iload_n dX3_tell_31 (rfl : 31 + 1 = 32) rfl ?_
                refine zr_if_eq (tgt := 44) dX3_tell_32 (by decide) (rfl : 32 + 3 = 35) (by first | exact jb_iff | exact jI_z (by first | omega | (simp only [bset, reduceIte, Nat.reduceEqDiff]; omega)) (by first | omega | (simp only [bset, reduceIte, Nat.reduceEqDiff]; omega))) (fun h32 => ?_) (fun h32 => ?_)
                · first
                  | (exfalso; omega)
                  | (
                    refine zr_iload_n dX3_tell_44 (rfl : 44 + 1 = 45) rfl ?_
                    refine zr_istore (lv' := [_, _, _, _, _]) dX3_tell_45 (rfl : 45 + 2 = 47) (Nat.le_of_ble_eq_true rfl) rfl ?_
                    refine zr_aload_n dX3_tell_47 (rfl : 47 + 1 = 48) rfl ?_
                    refine zr_getf dX3_tell_48 (rfl : 48 + 3 = 51) f_X3_18 (by first | assumption | exact bk_0 | exact bk_1 | exact bk_2 | exact bk_3 | exact bk_4 | exact bk_5 | exact bk_6 | exact bk_7 | exact bk_8 | exact bk_9 | exact bk_10 | exact bk_11 | exact bk_12 | exact bk_13 | exact bk_14 | exact bk_15 | exact bk_16 | exact zup_self | exact (zup_ne (by first | assumption | omega)).trans (by first | assumption | exact zup_self) | exact (zup_ne (by first | assumption | omega)).trans ((zup_ne (by first | assumption | omega)).trans (by first | assumption | exact zup_self))) rfl ?_
                    refine zr_aload_n dX3_tell_51 (rfl : 51 + 1 = 52) rfl ?_
                    refine zr_getf dX3_tell_52 (rfl : 52 + 3 = 55) f_X3_54 (by first | assumption | exact bk_0 | exact bk_1 | exact bk_2 | exact bk_3 | exact bk_4 | exact bk_5 | exact bk_6 | exact bk_7 | exact bk_8 | exact bk_9 | exact bk_10 | exact bk_11 | exact bk_12 | exact bk_13 | exact bk_14 | exact bk_15 | exact bk_16 | exact zup_self | exact (zup_ne (by first | assumption | omega)).trans (by first | assumption | exact zup_self) | exact (zup_ne (by first | assumption | omega)).trans ((zup_ne (by first | assumption | omega)).trans (by first | assumption | exact zup_self))) rfl ?_
                    refine zr_iload_n dX3_tell_55 (rfl : 55 + 1 = 56) rfl ?_
                    refine zr_iast dX3_tell_56 (rfl : 56 + 1 = 57) (by first | assumption | exact bk_0 | exact bk_1 | exact bk_2 | exact bk_3 | exact bk_4 | exact bk_5 | exact bk_6 | exact bk_7 | exact bk_8 | exact bk_9 | exact bk_10 | exact bk_11 | exact bk_12 | exact bk_13 | exact bk_14 | exact bk_15 | exact bk_16 | exact zup_self | exact (zup_ne (by first | assumption | omega)).trans (by first | assumption | exact zup_self) | exact (zup_ne (by first | assumption | omega)).trans ((zup_ne (by first | assumption | omega)).trans (by first | assumption | exact zup_self))) (by decide) (by first | omega | (simp only [bset, reduceIte, Nat.reduceEqDiff]; omega)) (by first | omega | (simp only [bset, reduceIte, Nat.reduceEqDiff]; omega)) rfl ?_
                    rw [bku_5]
                    refine zr_aload_n dX3_tell_57 (rfl : 57 + 1 = 58) rfl ?_
                    refine zr_getf dX3_tell_58 (rfl : 58 + 3 = 61) f_X3_22 (by first | assumption | exact bk_0 | exact bk_1 | exact bk_2 | exact bk_3 | exact bk_4 | exact bk_5 | exact bk_6 | exact bk_7 | exact bk_8 | exact bk_9 | exact bk_10 | exact bk_11 | exact bk_12 | exact bk_13 | exact bk_14 | exact bk_15 | exact bk_16 | exact zup_self | exact (zup_ne (by first | assumption | omega)).trans (by first | assumption | exact zup_self) | exact (zup_ne (by first | assumption | omega)).trans ((zup_ne (by first | assumption | omega)).trans (by first | assumption | exact zup_self))) rfl ?_
                    refine zr_aload_n dX3_tell_61 (rfl : 61 + 1 = 62) rfl ?_
                    refine zr_getf dX3_tell_62 (rfl : 62 + 3 = 65) f_X3_54 (by first | assumption | exact bk_0 | exact bk_1 | exact bk_2 | exact bk_3 | exact bk_4 | exact bk_5 | exact bk_6 | exact bk_7 | exact bk_8 | exact bk_9 | exact bk_10 | exact bk_11 | exact bk_12 | exact bk_13 | exact bk_14 | exact bk_15 | exact bk_16 | exact zup_self | exact (zup_ne (by first | assumption | omega)).trans (by first | assumption | exact zup_self) | exact (zup_ne (by first | assumption | omega)).trans ((zup_ne (by first | assumption | omega)).trans (by first | assumption | exact zup_self))) rfl ?_
                    refine zr_iload dX3_tell_65 (rfl : 65 + 2 = 67) rfl ?_
                    refine zr_iast dX3_tell_67 (rfl : 67 + 1 = 68) (by first | assumption | exact bk_0 | exact bk_1 | exact bk_2 | exact bk_3 | exact bk_4 | exact bk_5 | exact bk_6 | exact bk_7 | exact bk_8 | exact bk_9 | exact bk_10 | exact bk_11 | exact bk_12 | exact bk_13 | exact bk_14 | exact bk_15 | exact bk_16 | exact zup_self | exact (zup_ne (by first | assumption | omega)).trans (by first | assumption | exact zup_self) | exact (zup_ne (by first | assumption | omega)).trans ((zup_ne (by first | assumption | omega)).trans (by first | assumption | exact zup_self))) (by decide) (by first | omega | (simp only [bset, reduceIte, Nat.reduceEqDiff]; omega)) (by first | omega | (simp only [bset, reduceIte, Nat.reduceEqDiff]; omega)) rfl ?_
                    rw [bku_6]
                    refine zr_aload_n dX3_tell_68 (rfl : 68 + 1 = 69) rfl ?_
                    refine zr_dup dX3_tell_69 (rfl : 69 + 1 = 70) rfl ?_
                    refine zr_getf dX3_tell_70 (rfl : 70 + 3 = 73) f_X3_54 (by first | assumption | exact bk_0 | exact bk_1 | exact bk_2 | exact bk_3 | exact bk_4 | exact bk_5 | exact bk_6 | exact bk_7 | exact bk_8 | exact bk_9 | exact bk_10 | exact bk_11 | exact bk_12 | exact bk_13 | exact bk_14 | exact bk_15 | exact bk_16 | exact zup_self | exact (zup_ne (by first | assumption | omega)).trans (by first | assumption | exact zup_self) | exact (zup_ne (by first | assumption | omega)).trans ((zup_ne (by first | assumption | omega)).trans (by first | assumption | exact zup_self))) rfl ?_
                    refine zr_iconst dX3_tell_73 (rfl : 73 + 1 = 74) ?_
                    refine zr_iadd dX3_tell_74 (rfl : 74 + 1 = 75) (by first | exact jI_add _ _ | rfl) ?_
                    refine zr_putf (fs' := [_, _, _, _, _, _, _, _, _, _]) dX3_tell_75 (rfl : 75 + 3 = 78) f_X3_54 ft_3_8 (by first | assumption | exact bk_0 | exact bk_1 | exact bk_2 | exact bk_3 | exact bk_4 | exact bk_5 | exact bk_6 | exact bk_7 | exact bk_8 | exact bk_9 | exact bk_10 | exact bk_11 | exact bk_12 | exact bk_13 | exact bk_14 | exact bk_15 | exact bk_16 | exact zup_self | exact (zup_ne (by first | assumption | omega)).trans (by first | assumption | exact zup_self) | exact (zup_ne (by first | assumption | omega)).trans ((zup_ne (by first | assumption | omega)).trans (by first | assumption | exact zup_self))) (Nat.le_of_ble_eq_true rfl) rfl rfl rfl ?_
                    rw [bku_12]
                    refine zr_aload_n dX3_tell_78 (rfl : 78 + 1 = 79) rfl ?_
                    refine zr_getf dX3_tell_79 (rfl : 79 + 3 = 82) f_X3_25 (by first | assumption | exact bk_0 | exact bk_1 | exact bk_2 | exact bk_3 | exact bk_4 | exact bk_5 | exact bk_6 | exact bk_7 | exact bk_8 | exact bk_9 | exact bk_10 | exact bk_11 | exact bk_12 | exact bk_13 | exact bk_14 | exact bk_15 | exact bk_16 | exact zup_self | exact (zup_ne (by first | assumption | omega)).trans (by first | assumption | exact zup_self) | exact (zup_ne (by first | assumption | omega)).trans ((zup_ne (by first | assumption | omega)).trans (by first | assumption | exact zup_self))) rfl ?_
                    refine zr_iload_n dX3_tell_82 (rfl : 82 + 1 = 83) rfl ?_
                    refine zr_aload_n dX3_tell_83 (rfl : 83 + 1 = 84) rfl ?_
                    refine zr_getf dX3_tell_84 (rfl : 84 + 3 = 87) f_X3_54 (by first | assumption | exact bk_0 | exact bk_1 | exact bk_2 | exact bk_3 | exact bk_4 | exact bk_5 | exact bk_6 | exact bk_7 | exact bk_8 | exact bk_9 | exact bk_10 | exact bk_11 | exact bk_12 | exact bk_13 | exact bk_14 | exact bk_15 | exact bk_16 | exact zup_self | exact (zup_ne (by first | assumption | omega)).trans (by first | assumption | exact zup_self) | exact (zup_ne (by first | assumption | omega)).trans ((zup_ne (by first | assumption | omega)).trans (by first | assumption | exact zup_self))) rfl ?_
                    refine zr_iast dX3_tell_87 (rfl : 87 + 1 = 88) (by first | assumption | exact bk_0 | exact bk_1 | exact bk_2 | exact bk_3 | exact bk_4 | exact bk_5 | exact bk_6 | exact bk_7 | exact bk_8 | exact bk_9 | exact bk_10 | exact bk_11 | exact bk_12 | exact bk_13 | exact bk_14 | exact bk_15 | exact bk_16 | exact zup_self | exact (zup_ne (by first | assumption | omega)).trans (by first | assumption | exact zup_self) | exact (zup_ne (by first | assumption | omega)).trans ((zup_ne (by first | assumption | omega)).trans (by first | assumption | exact zup_self))) (by decide) (by first | omega | (simp only [bset, reduceIte, Nat.reduceEqDiff]; omega)) (by first | omega | (simp only [bset, reduceIte, Nat.reduceEqDiff]; omega)) rfl ?_
                    rw [bku_7]
                    refine zr_aload_n dX3_tell_88 (rfl : 88 + 1 = 89) rfl ?_
                    refine zr_getf dX3_tell_89 (rfl : 89 + 3 = 92) f_X3_28 (by first | assumption | exact bk_0 | exact bk_1 | exact bk_2 | exact bk_3 | exact bk_4 | exact bk_5 | exact bk_6 | exact bk_7 | exact bk_8 | exact bk_9 | exact bk_10 | exact bk_11 | exact bk_12 | exact bk_13 | exact bk_14 | exact bk_15 | exact bk_16 | exact zup_self | exact (zup_ne (by first | assumption | omega)).trans (by first | assumption | exact zup_self) | exact (zup_ne (by first | assumption | omega)).trans ((zup_ne (by first | assumption | omega)).trans (by first | assumption | exact zup_self))) rfl ?_
                    refine zr_iload dX3_tell_92 (rfl : 92 + 2 = 94) rfl ?_
                    refine zr_dup2 dX3_tell_94 (rfl : 94 + 1 = 95) rfl rfl ?_
                    refine zr_iald dX3_tell_95 (rfl : 95 + 1 = 96) (by first | assumption | exact bk_0 | exact bk_1 | exact bk_2 | exact bk_3 | exact bk_4 | exact bk_5 | exact bk_6 | exact bk_7 | exact bk_8 | exact bk_9 | exact bk_10 | exact bk_11 | exact bk_12 | exact bk_13 | exact bk_14 | exact bk_15 | exact bk_16 | exact zup_self | exact (zup_ne (by first | assumption | omega)).trans (by first | assumption | exact zup_self) | exact (zup_ne (by first | assumption | omega)).trans ((zup_ne (by first | assumption | omega)).trans (by first | assumption | exact zup_self))) (by decide) (by first | omega | (simp only [bset, reduceIte, Nat.reduceEqDiff]; omega)) (by first | omega | (simp only [bset, reduceIte, Nat.reduceEqDiff]; omega)) ?_
                    refine zr_iconst dX3_tell_96 (rfl : 96 + 1 = 97) ?_
                    refine zr_iadd dX3_tell_97 (rfl : 97 + 1 = 98) (by first | exact jI_add _ _ | rfl) ?_
                    refine zr_iast dX3_tell_98 (rfl : 98 + 1 = 99) (by first | assumption | exact bk_0 | exact bk_1 | exact bk_2 | exact bk_3 | exact bk_4 | exact bk_5 | exact bk_6 | exact bk_7 | exact bk_8 | exact bk_9 | exact bk_10 | exact bk_11 | exact bk_12 | exact bk_13 | exact bk_14 | exact bk_15 | exact bk_16 | exact zup_self | exact (zup_ne (by first | assumption | omega)).trans (by first | assumption | exact zup_self) | exact (zup_ne (by first | assumption | omega)).trans ((zup_ne (by first | assumption | omega)).trans (by first | assumption | exact zup_self))) (by decide) (by first | omega | (simp only [bset, reduceIte, Nat.reduceEqDiff]; omega)) (by first | omega | (simp only [bset, reduceIte, Nat.reduceEqDiff]; omega)) rfl ?_
                    rw [bku_8]
                    refine zr_aload_n dX3_tell_99 (rfl : 99 + 1 = 100) rfl ?_
                    refine zr_dup dX3_tell_100 (rfl : 100 + 1 = 101) rfl ?_
                    refine zr_getf dX3_tell_101 (rfl : 101 + 3 = 104) f_X3_57 (by first | assumption | exact bk_0 | exact bk_1 | exact bk_2 | exact bk_3 | exact bk_4 | exact bk_5 | exact bk_6 | exact bk_7 | exact bk_8 | exact bk_9 | exact bk_10 | exact bk_11 | exact bk_12 | exact bk_13 | exact bk_14 | exact bk_15 | exact bk_16 | exact zup_self | exact (zup_ne (by first | assumption | omega)).trans (by first | assumption | exact zup_self) | exact (zup_ne (by first | assumption | omega)).trans ((zup_ne (by first | assumption | omega)).trans (by first | assumption | exact zup_self))) rfl ?_
                    refine zr_iload_n dX3_tell_104 (rfl : 104 + 1 = 105) rfl ?_
                    refine zr_if_eq (tgt := 112) dX3_tell_105 (by decide) (rfl : 105 + 3 = 108) (by first | exact jb_iff | exact jI_z (by first | omega | (simp only [bset, reduceIte, Nat.reduceEqDiff]; omega)) (by first | omega | (simp only [bset, reduceIte, Nat.reduceEqDiff]; omega))) (fun h105 => ?_) (fun h105 => ?_)
                    · first
                      | (exfalso; omega)
                      | (
                        refine zr_iconst dX3_tell_112 (rfl : 112 + 1 = 113) ?_
                        refine zr_iadd dX3_tell_113 (rfl : 113 + 1 = 114) (by first | exact jI_add _ _ | rfl) ?_
                        refine zr_putf (fs' := [_, _, _, _, _, _, _, _, _, _]) dX3_tell_114 (rfl : 114 + 3 = 117) f_X3_57 ft_3_9 (by first | assumption | exact bk_0 | exact bk_1 | exact bk_2 | exact bk_3 | exact bk_4 | exact bk_5 | exact bk_6 | exact bk_7 | exact bk_8 | exact bk_9 | exact bk_10 | exact bk_11 | exact bk_12 | exact bk_13 | exact bk_14 | exact bk_15 | exact bk_16 | exact zup_self | exact (zup_ne (by first | assumption | omega)).trans (by first | assumption | exact zup_self) | exact (zup_ne (by first | assumption | omega)).trans ((zup_ne (by first | assumption | omega)).trans (by first | assumption | exact zup_self))) (Nat.le_of_ble_eq_true rfl) rfl rfl rfl ?_
                        rw [bku_13]
                        exact zr_vret dX3_tell_117 rfl rfl rfl rfl)
                    · first
                      | (exfalso; omega)
                      | (
                        refine zr_iconst dX3_tell_108 (rfl : 108 + 1 = 109) ?_
                        refine zr_goto (tgt := 113) dX3_tell_109 (by decide) ?_
                        refine zr_iadd dX3_tell_113 (rfl : 113 + 1 = 114) (by first | exact jI_add _ _ | rfl) ?_
                        refine zr_putf (fs' := [_, _, _, _, _, _, _, _, _, _]) dX3_tell_114 (rfl : 114 + 3 = 117) f_X3_57 ft_3_9 (by first | assumption | exact bk_0 | exact bk_1 | exact bk_2 | exact bk_3 | exact bk_4 | exact bk_5 | exact bk_6 | exact bk_7 | exact bk_8 | exact bk_9 | exact bk_10 | exact bk_11 | exact bk_12 | exact bk_13 | exact bk_14 | exact bk_15 | exact bk_16 | exact zup_self | exact (zup_ne (by first | assumption | omega)).trans (by first | assumption | exact zup_self) | exact (zup_ne (by first | assumption | omega)).trans ((zup_ne (by first | assumption | omega)).trans (by first | assumption | exact zup_self))) (Nat.le_of_ble_eq_true rfl) rfl rfl rfl ?_
                        rw [bku_13]
                        exact zr_vret dX3_tell_117 rfl rfl rfl rfl))
                · first
                  | (exfalso; omega)
                  | (
                    refine zr_iload_n dX3_tell_35 (rfl : 35 + 1 = 36) rfl ?_
                    refine zr_bipush dX3_tell_36 (rfl : 36 + 2 = 38) (by decide) ?_
                    refine zr_irem dX3_tell_38 (rfl : 38 + 1 = 39) (fun q => absurd ((jI_z (by first | omega | (simp only [bset, reduceIte, Nat.reduceEqDiff]; omega)) (by first | omega | (simp only [bset, reduceIte, Nat.reduceEqDiff]; omega))).mp q) (by first | omega | (simp only [bset, reduceIte, Nat.reduceEqDiff]; omega))) (jI_rem (by first | omega | (simp only [bset, reduceIte, Nat.reduceEqDiff]; omega)) (by first | omega | (simp only [bset, reduceIte, Nat.reduceEqDiff]; omega)) (by first | omega | (simp only [bset, reduceIte, Nat.reduceEqDiff]; omega)) (by first | omega | (simp only [bset, reduceIte, Nat.reduceEqDiff]; omega))) ?_
                    refine zr_iconst dX3_tell_39 (rfl : 39 + 1 = 40) ?_
                    refine zr_iadd dX3_tell_40 (rfl : 40 + 1 = 41) (by first | exact jI_add _ _ | rfl) ?_
                    refine zr_goto (tgt := 45) dX3_tell_41 (by decide) ?_
                    refine zr_istore (lv' := [_, _, _, _, _]) dX3_tell_45 (rfl : 45 + 2 = 47) (Nat.le_of_ble_eq_true rfl) rfl ?_
                    refine zr_aload_n dX3_tell_47 (rfl : 47 + 1 = 48) rfl ?_
                    refine zr_getf dX3_tell_48 (rfl : 48 + 3 = 51) f_X3_18 (by first | assumption | exact bk_0 | exact bk_1 | exact bk_2 | exact bk_3 | exact bk_4 | exact bk_5 | exact bk_6 | exact bk_7 | exact bk_8 | exact bk_9 | exact bk_10 | exact bk_11 | exact bk_12 | exact bk_13 | exact bk_14 | exact bk_15 | exact bk_16 | exact zup_self | exact (zup_ne (by first | assumption | omega)).trans (by first | assumption | exact zup_self) | exact (zup_ne (by first | assumption | omega)).trans ((zup_ne (by first | assumption | omega)).trans (by first | assumption | exact zup_self))) rfl ?_
                    refine zr_aload_n dX3_tell_51 (rfl : 51 + 1 = 52) rfl ?_
                    refine zr_getf dX3_tell_52 (rfl : 52 + 3 = 55) f_X3_54 (by first | assumption | exact bk_0 | exact bk_1 | exact bk_2 | exact bk_3 | exact bk_4 | exact bk_5 | exact bk_6 | exact bk_7 | exact bk_8 | exact bk_9 | exact bk_10 | exact bk_11 | exact bk_12 | exact bk_13 | exact bk_14 | exact bk_15 | exact bk_16 | exact zup_self | exact (zup_ne (by first | assumption | omega)).trans (by first | assumption | exact zup_self) | exact (zup_ne (by first | assumption | omega)).trans ((zup_ne (by first | assumption | omega)).trans (by first | assumption | exact zup_self))) rfl ?_
                    refine zr_iload_n dX3_tell_55 (rfl : 55 + 1 = 56) rfl ?_
                    refine zr_iast dX3_tell_56 (rfl : 56 + 1 = 57) (by first | assumption | exact bk_0 | exact bk_1 | exact bk_2 | exact bk_3 | exact bk_4 | exact bk_5 | exact bk_6 | exact bk_7 | exact bk_8 | exact bk_9 | exact bk_10 | exact bk_11 | exact bk_12 | exact bk_13 | exact bk_14 | exact bk_15 | exact bk_16 | exact zup_self | exact (zup_ne (by first | assumption | omega)).trans (by first | assumption | exact zup_self) | exact (zup_ne (by first | assumption | omega)).trans ((zup_ne (by first | assumption | omega)).trans (by first | assumption | exact zup_self))) (by decide) (by first | omega | (simp only [bset, reduceIte, Nat.reduceEqDiff]; omega)) (by first | omega | (simp only [bset, reduceIte, Nat.reduceEqDiff]; omega)) rfl ?_
                    rw [bku_5]
                    refine zr_aload_n dX3_tell_57 (rfl : 57 + 1 = 58) rfl ?_
                    refine zr_getf dX3_tell_58 (rfl : 58 + 3 = 61) f_X3_22 (by first | assumption | exact bk_0 | exact bk_1 | exact bk_2 | exact bk_3 | exact bk_4 | exact bk_5 | exact bk_6 | exact bk_7 | exact bk_8 | exact bk_9 | exact bk_10 | exact bk_11 | exact bk_12 | exact bk_13 | exact bk_14 | exact bk_15 | exact bk_16 | exact zup_self | exact (zup_ne (by first | assumption | omega)).trans (by first | assumption | exact zup_self) | exact (zup_ne (by first | assumption | omega)).trans ((zup_ne (by first | assumption | omega)).trans (by first | assumption | exact zup_self))) rfl ?_
                    refine zr_aload_n dX3_tell_61 (rfl : 61 + 1 = 62) rfl ?_
                    refine zr_getf dX3_tell_62 (rfl : 62 + 3 = 65) f_X3_54 (by first | assumption | exact bk_0 | exact bk_1 | exact bk_2 | exact bk_3 | exact bk_4 | exact bk_5 | exact bk_6 | exact bk_7 | exact bk_8 | exact bk_9 | exact bk_10 | exact bk_11 | exact bk_12 | exact bk_13 | exact bk_14 | exact bk_15 | exact bk_16 | exact zup_self | exact (zup_ne (by first | assumption | omega)).trans (by first | assumption | exact zup_self) | exact (zup_ne (by first | assumption | omega)).trans ((zup_ne (by first | assumption | omega)).trans (by first | assumption | exact zup_self))) rfl ?_
                    refine zr_iload dX3_tell_65 (rfl : 65 + 2 = 67) rfl ?_
                    refine zr_iast dX3_tell_67 (rfl : 67 + 1 = 68) (by first | assumption | exact bk_0 | exact bk_1 | exact bk_2 | exact bk_3 | exact bk_4 | exact bk_5 | exact bk_6 | exact bk_7 | exact bk_8 | exact bk_9 | exact bk_10 | exact bk_11 | exact bk_12 | exact bk_13 | exact bk_14 | exact bk_15 | exact bk_16 | exact zup_self | exact (zup_ne (by first | assumption | omega)).trans (by first | assumption | exact zup_self) | exact (zup_ne (by first | assumption | omega)).trans ((zup_ne (by first | assumption | omega)).trans (by first | assumption | exact zup_self))) (by decide) (by first | omega | (simp only [bset, reduceIte, Nat.reduceEqDiff]; omega)) (by first | omega | (simp only [bset, reduceIte, Nat.reduceEqDiff]; omega)) rfl ?_
                    rw [bku_6]
                    refine zr_aload_n dX3_tell_68 (rfl : 68 + 1 = 69) rfl ?_
                    refine zr_dup dX3_tell_69 (rfl : 69 + 1 = 70) rfl ?_
                    refine zr_getf dX3_tell_70 (rfl : 70 + 3 = 73) f_X3_54 (by first | assumption | exact bk_0 | exact bk_1 | exact bk_2 | exact bk_3 | exact bk_4 | exact bk_5 | exact bk_6 | exact bk_7 | exact bk_8 | exact bk_9 | exact bk_10 | exact bk_11 | exact bk_12 | exact bk_13 | exact bk_14 | exact bk_15 | exact bk_16 | exact zup_self | exact (zup_ne (by first | assumption | omega)).trans (by first | assumption | exact zup_self) | exact (zup_ne (by first | assumption | omega)).trans ((zup_ne (by first | assumption | omega)).trans (by first | assumption | exact zup_self))) rfl ?_
                    refine zr_iconst dX3_tell_73 (rfl : 73 + 1 = 74) ?_
                    refine zr_iadd dX3_tell_74 (rfl : 74 + 1 = 75) (by first | exact jI_add _ _ | rfl) ?_
                    refine zr_putf (fs' := [_, _, _, _, _, _, _, _, _, _]) dX3_tell_75 (rfl : 75 + 3 = 78) f_X3_54 ft_3_8 (by first | assumption | exact bk_0 | exact bk_1 | exact bk_2 | exact bk_3 | exact bk_4 | exact bk_5 | exact bk_6 | exact bk_7 | exact bk_8 | exact bk_9 | exact bk_10 | exact bk_11 | exact bk_12 | exact bk_13 | exact bk_14 | exact bk_15 | exact bk_16 | exact zup_self | exact (zup_ne (by first | assumption | omega)).trans (by first | assumption | exact zup_self) | exact (zup_ne (by first | assumption | omega)).trans ((zup_ne (by first | assumption | omega)).trans (by first | assumption | exact zup_self))) (Nat.le_of_ble_eq_true rfl) rfl rfl rfl ?_
                    rw [bku_12]
                    refine zr_aload_n dX3_tell_78 (rfl : 78 + 1 = 79) rfl ?_
                    refine zr_getf dX3_tell_79 (rfl : 79 + 3 = 82) f_X3_25 (by first | assumption | exact bk_0 | exact bk_1 | exact bk_2 | exact bk_3 | exact bk_4 | exact bk_5 | exact bk_6 | exact bk_7 | exact bk_8 | exact bk_9 | exact bk_10 | exact bk_11 | exact bk_12 | exact bk_13 | exact bk_14 | exact bk_15 | exact bk_16 | exact zup_self | exact (zup_ne (by first | assumption | omega)).trans (by first | assumption | exact zup_self) | exact (zup_ne (by first | assumption | omega)).trans ((zup_ne (by first | assumption | omega)).trans (by first | assumption | exact zup_self))) rfl ?_
                    refine zr_iload_n dX3_tell_82 (rfl : 82 + 1 = 83) rfl ?_
                    refine zr_aload_n dX3_tell_83 (rfl : 83 + 1 = 84) rfl ?_
                    refine zr_getf dX3_tell_84 (rfl : 84 + 3 = 87) f_X3_54 (by first | assumption | exact bk_0 | exact bk_1 | exact bk_2 | exact bk_3 | exact bk_4 | exact bk_5 | exact bk_6 | exact bk_7 | exact bk_8 | exact bk_9 | exact bk_10 | exact bk_11 | exact bk_12 | exact bk_13 | exact bk_14 | exact bk_15 | exact bk_16 | exact zup_self | exact (zup_ne (by first | assumption | omega)).trans (by first | assumption | exact zup_self) | exact (zup_ne (by first | assumption | omega)).trans ((zup_ne (by first | assumption | omega)).trans (by first | assumption | exact zup_self))) rfl ?_
                    refine zr_iast dX3_tell_87 (rfl : 87 + 1 = 88) (by first | assumption | exact bk_0 | exact bk_1 | exact bk_2 | exact bk_3 | exact bk_4 | exact bk_5 | exact bk_6 | exact bk_7 | exact bk_8 | exact bk_9 | exact bk_10 | exact bk_11 | exact bk_12 | exact bk_13 | exact bk_14 | exact bk_15 | exact bk_16 | exact zup_self | exact (zup_ne (by first | assumption | omega)).trans (by first | assumption | exact zup_self) | exact (zup_ne (by first | assumption | omega)).trans ((zup_ne (by first | assumption | omega)).trans (by first | assumption | exact zup_self))) (by decide) (by first | omega | (simp only [bset, reduceIte, Nat.reduceEqDiff]; omega)) (by first | omega | (simp only [bset, reduceIte, Nat.reduceEqDiff]; omega)) rfl ?_
                    rw [bku_7]
                    refine zr_aload_n dX3_tell_88 (rfl : 88 + 1 = 89) rfl ?_
                    refine zr_getf dX3_tell_89 (rfl : 89 + 3 = 92) f_X3_28 (by first | assumption | exact bk_0 | exact bk_1 | exact bk_2 | exact bk_3 | exact bk_4 | exact bk_5 | exact bk_6 | exact bk_7 | exact bk_8 | exact bk_9 | exact bk_10 | exact bk_11 | exact bk_12 | exact bk_13 | exact bk_14 | exact bk_15 | exact bk_16 | exact zup_self | exact (zup_ne (by first | assumption | omega)).trans (by first | assumption | exact zup_self) | exact (zup_ne (by first | assumption | omega)).trans ((zup_ne (by first | assumption | omega)).trans (by first | assumption | exact zup_self))) rfl ?_
                    refine zr_iload dX3_tell_92 (rfl : 92 + 2 = 94) rfl ?_
                    refine zr_dup2 dX3_tell_94 (rfl : 94 + 1 = 95) rfl rfl ?_
                    refine zr_iald dX3_tell_95 (rfl : 95 + 1 = 96) (by first | assumption | exact bk_0 | exact bk_1 | exact bk_2 | exact bk_3 | exact bk_4 | exact bk_5 | exact bk_6 | exact bk_7 | exact bk_8 | exact bk_9 | exact bk_10 | exact bk_11 | exact bk_12 | exact bk_13 | exact bk_14 | exact bk_15 | exact bk_16 | exact zup_self | exact (zup_ne (by first | assumption | omega)).trans (by first | assumption | exact zup_self) | exact (zup_ne (by first | assumption | omega)).trans ((zup_ne (by first | assumption | omega)).trans (by first | assumption | exact zup_self))) (by decide) (by first | omega | (simp only [bset, reduceIte, Nat.reduceEqDiff]; omega)) (by first | omega | (simp only [bset, reduceIte, Nat.reduceEqDiff]; omega)) ?_
                    refine zr_iconst dX3_tell_96 (rfl : 96 + 1 = 97) ?_
                    refine zr_iadd dX3_tell_97 (rfl : 97 + 1 = 98) (by first | exact jI_add _ _ | rfl) ?_
                    refine zr_iast dX3_tell_98 (rfl : 98 + 1 = 99) (by first | assumption | exact bk_0 | exact bk_1 | exact bk_2 | exact bk_3 | exact bk_4 | exact bk_5 | exact bk_6 | exact bk_7 | exact bk_8 | exact bk_9 | exact bk_10 | exact bk_11 | exact bk_12 | exact bk_13 | exact bk_14 | exact bk_15 | exact bk_16 | exact zup_self | exact (zup_ne (by first | assumption | omega)).trans (by first | assumption | exact zup_self) | exact (zup_ne (by first | assumption | omega)).trans ((zup_ne (by first | assumption | omega)).trans (by first | assumption | exact zup_self))) (by decide) (by first | omega | (simp only [bset, reduceIte, Nat.reduceEqDiff]; omega)) (by first | omega | (simp only [bset, reduceIte, Nat.reduceEqDiff]; omega)) rfl ?_
                    rw [bku_8]
                    refine zr_aload_n dX3_tell_99 (rfl : 99 + 1 = 100) rfl ?_
                    refine zr_dup dX3_tell_100 (rfl : 100 + 1 = 101) rfl ?_
                    refine zr_getf dX3_tell_101 (rfl : 101 + 3 = 104) f_X3_57 (by first | assumption | exact bk_0 | exact bk_1 | exact bk_2 | exact bk_3 | exact bk_4 | exact bk_5 | exact bk_6 | exact bk_7 | exact bk_8 | exact bk_9 | exact bk_10 | exact bk_11 | exact bk_12 | exact bk_13 | exact bk_14 | exact bk_15 | exact bk_16 | exact zup_self | exact (zup_ne (by first | assumption | omega)).trans (by first | assumption | exact zup_self) | exact (zup_ne (by first | assumption | omega)).trans ((zup_ne (by first | assumption | omega)).trans (by first | assumption | exact zup_self))) rfl ?_
                    refine zr_iload_n dX3_tell_104 (rfl : 104 + 1 = 105) rfl ?_
                    refine zr_if_eq (tgt := 112) dX3_tell_105 (by decide) (rfl : 105 + 3 = 108) (by first | exact jb_iff | exact jI_z (by first | omega | (simp only [bset, reduceIte, Nat.reduceEqDiff]; omega)) (by first | omega | (simp only [bset, reduceIte, Nat.reduceEqDiff]; omega))) (fun h105 => ?_) (fun h105 => ?_)
                    · first
                      | (exfalso; omega)
                      | (
                        refine zr_iconst dX3_tell_112 (rfl : 112 + 1 = 113) ?_
                        refine zr_iadd dX3_tell_113 (rfl : 113 + 1 = 114) (by first | exact jI_add _ _ | rfl) ?_
                        refine zr_putf (fs' := [_, _, _, _, _, _, _, _, _, _]) dX3_tell_114 (rfl : 114 + 3 = 117) f_X3_57 ft_3_9 (by first | assumption | exact bk_0 | exact bk_1 | exact bk_2 | exact bk_3 | exact bk_4 | exact bk_5 | exact bk_6 | exact bk_7 | exact bk_8 | exact bk_9 | exact bk_10 | exact bk_11 | exact bk_12 | exact bk_13 | exact bk_14 | exact bk_15 | exact bk_16 | exact zup_self | exact (zup_ne (by first | assumption | omega)).trans (by first | assumption | exact zup_self) | exact (zup_ne (by first | assumption | omega)).trans ((zup_ne (by first | assumption | omega)).trans (by first | assumption | exact zup_self))) (Nat.le_of_ble_eq_true rfl) rfl rfl rfl ?_
                        rw [bku_13]
                        exact zr_vret dX3_tell_117 rfl rfl rfl rfl)
                    · first
                      | (exfalso; omega)
                      | (
                        refine zr_iconst dX3_tell_108 (rfl : 108 + 1 = 109) ?_
                        refine zr_goto (tgt := 113) dX3_tell_109 (by decide) ?_
                        refine zr_iadd dX3_tell_113 (rfl : 113 + 1 = 114) (by first | exact jI_add _ _ | rfl) ?_
                        refine zr_putf (fs' := [_, _, _, _, _, _, _, _, _, _]) dX3_tell_114 (rfl : 114 + 3 = 117) f_X3_57 ft_3_9 (by first | assumption | exact bk_0 | exact bk_1 | exact bk_2 | exact bk_3 | exact bk_4 | exact bk_5 | exact bk_6 | exact bk_7 | exact bk_8 | exact bk_9 | exact bk_10 | exact bk_11 | exact bk_12 | exact bk_13 | exact bk_14 | exact bk_15 | exact bk_16 | exact zup_self | exact (zup_ne (by first | assumption | omega)).trans (by first | assumption | exact zup_self) | exact (zup_ne (by first | assumption | omega)).trans ((zup_ne (by first | assumption | omega)).trans (by first | assumption | exact zup_self))) (Nat.le_of_ble_eq_true rfl) rfl rfl rfl ?_
                        rw [bku_13]
                        exact zr_vret dX3_tell_117 rfl rfl rfl rfl)))
            · first
              | (exfalso; omega)
              | (
                refine zr_iconst dX3_tell_25 (rfl : 25 + 1 = 26) ?_
                refine zr_goto (tgt := 30) dX3_tell_26 (by decide) ?_
                refine zr_istore_n (lv' := [_, _, _, _, _]) dX3_tell_30 (rfl : 30 + 1 = 31) (Nat.le_of_ble_eq_true rfl) rfl ?_
                refine zr_iload_n dX3_tell_31 (rfl : 31 + 1 = 32) rfl ?_
                refine zr_if_eq (tgt := 44) dX3_tell_32 (by decide) (rfl : 32 + 3 = 35) (by first | exact jb_iff | exact jI_z (by first | omega | (simp only [bset, reduceIte, Nat.reduceEqDiff]; omega)) (by first | omega | (simp only [bset, reduceIte, Nat.reduceEqDiff]; omega))) (fun h32 => ?_) (fun h32 => ?_)
                · first
                  | (exfalso; omega)
                  | (
                    refine zr_iload_n dX3_tell_44 (rfl : 44 + 1 = 45) rfl ?_
                    refine zr_istore (lv' := [_, _, _, _, _]) dX3_tell_45 (rfl : 45 + 2 = 47) (Nat.le_of_ble_eq_true rfl) rfl ?_
                    refine zr_aload_n dX3_tell_47 (rfl : 47 + 1 = 48) rfl ?_
                    refine zr_getf dX3_tell_48 (rfl : 48 + 3 = 51) f_X3_18 (by first | assumption | exact bk_0 | exact bk_1 | exact bk_2 | exact bk_3 | exact bk_4 | exact bk_5 | exact bk_6 | exact bk_7 | exact bk_8 | exact bk_9 | exact bk_10 | exact bk_11 | exact bk_12 | exact bk_13 | exact bk_14 | exact bk_15 | exact bk_16 | exact zup_self | exact (zup_ne (by first | assumption | omega)).trans (by first | assumption | exact zup_self) | exact (zup_ne (by first | assumption | omega)).trans ((zup_ne (by first | assumption | omega)).trans (by first | assumption | exact zup_self))) rfl ?_
                    refine zr_aload_n dX3_tell_51 (rfl : 51 + 1 = 52) rfl ?_
                    refine zr_getf dX3_tell_52 (rfl : 52 + 3 = 55) f_X3_54 (by first | assumption | exact bk_0 | exact bk_1 | exact bk_2 | exact bk_3 | exact bk_4 | exact bk_5 | exact bk_6 | exact bk_7 | exact bk_8 | exact bk_9 | exact bk_10 | exact bk_11 | exact bk_12 | exact bk_13 | exact bk_14 | exact bk_15 | exact bk_16 | exact zup_self | exact (zup_ne (by first | assumption | omega)).trans (by first | assumption | exact zup_self) | exact (zup_ne (by first | assumption | omega)).trans ((zup_ne (by first | assumption | omega)).trans (by first | assumption | exact zup_self))) rfl ?_
                    refine zr_iload_n dX3_tell_55 (rfl : 55 + 1 = 56) rfl ?_
                    refine zr_iast dX3_tell_56 (rfl : 56 + 1 = 57) (by first | assumption | exact bk_0 | exact bk_1 | exact bk_2 | exact bk_3 | exact bk_4 | exact bk_5 | exact bk_6 | exact bk_7 | exact bk_8 | exact bk_9 | exact bk_10 | exact bk_11 | exact bk_12 | exact bk_13 | exact bk_14 | exact bk_15 | exact bk_16 | exact zup_self | exact (zup_ne (by first | assumption | omega)).trans (by first | assumption | exact zup_self) | exact (zup_ne (by first | assumption | omega)).trans ((zup_ne (by first | assumption | omega)).trans (by first | assumption | exact zup_self))) (by decide) (by first | omega | (simp only [bset, reduceIte, Nat.reduceEqDiff]; omega)) (by first | omega | (simp only [bset, reduceIte, Nat.reduceEqDiff]; omega)) rfl ?_
                    rw [bku_5]
                    refine zr_aload_n dX3_tell_57 (rfl : 57 + 1 = 58) rfl ?_
                    refine zr_getf dX3_tell_58 (rfl : 58 + 3 = 61) f_X3_22 (by first | assumption | exact bk_0 | exact bk_1 | exact bk_2 | exact bk_3 | exact bk_4 | exact bk_5 | exact bk_6 | exact bk_7 | exact bk_8 | exact bk_9 | exact bk_10 | exact bk_11 | exact bk_12 | exact bk_13 | exact bk_14 | exact bk_15 | exact bk_16 | exact zup_self | exact (zup_ne (by first | assumption | omega)).trans (by first | assumption | exact zup_self) | exact (zup_ne (by first | assumption | omega)).trans ((zup_ne (by first | assumption | omega)).trans (by first | assumption | exact zup_self))) rfl ?_
                    refine zr_aload_n dX3_tell_61 (rfl : 61 + 1 = 62) rfl ?_
                    refine zr_getf dX3_tell_62 (rfl : 62 + 3 = 65) f_X3_54 (by first | assumption | exact bk_0 | exact bk_1 | exact bk_2 | exact bk_3 | exact bk_4 | exact bk_5 | exact bk_6 | exact bk_7 | exact bk_8 | exact bk_9 | exact bk_10 | exact bk_11 | exact bk_12 | exact bk_13 | exact bk_14 | exact bk_15 | exact bk_16 | exact zup_self | exact (zup_ne (by first | assumption | omega)).trans (by first | assumption | exact zup_self) | exact (zup_ne (by first | assumption | omega)).trans ((zup_ne (by first | assumption | omega)).trans (by first | assumption | exact zup_self))) rfl ?_
                    refine zr_iload dX3_tell_65 (rfl : 65 + 2 = 67) rfl ?_
                    refine zr_iast dX3_tell_67 (rfl : 67 + 1 = 68) (by first | assumption | exact bk_0 | exact bk_1 | exact bk_2 | exact bk_3 | exact bk_4 | exact bk_5 | exact bk_6 | exact bk_7 | exact bk_8 | exact bk_9 | exact bk_10 | exact bk_11 | exact bk_12 | exact bk_13 | exact bk_14 | exact bk_15 | exact bk_16 | exact zup_self | exact (zup_ne (by first | assumption | omega)).trans (by first | assumption | exact zup_self) | exact (zup_ne (by first | assumption | omega)).trans ((zup_ne (by first | assumption | omega)).trans (by first | assumption | exact zup_self))) (by decide) (by first | omega | (simp only [bset, reduceIte, Nat.reduceEqDiff]; omega)) (by first | omega | (simp only [bset, reduceIte, Nat.reduceEqDiff]; omega)) rfl ?_
                    rw [bku_6]
                    refine zr_aload_n dX3_tell_68 (rfl : 68 + 1 = 69) rfl ?_
                    refine zr_dup dX3_tell_69 (rfl : 69 + 1 = 70) rfl ?_
                    refine zr_getf dX3_tell_70 (rfl : 70 + 3 = 73) f_X3_54 (by first | assumption | exact bk_0 | exact bk_1 | exact bk_2 | exact bk_3 | exact bk_4 | exact bk_5 | exact bk_6 | exact bk_7 | exact bk_8 | exact bk_9 | exact bk_10 | exact bk_11 | exact bk_12 | exact bk_13 | exact bk_14 | exact bk_15 | exact bk_16 | exact zup_self | exact (zup_ne (by first | assumption | omega)).trans (by first | assumption | exact zup_self) | exact (zup_ne (by first | assumption | omega)).trans ((zup_ne (by first | assumption | omega)).trans (by first | assumption | exact zup_self))) rfl ?_
                    refine zr_iconst dX3_tell_73 (rfl : 73 + 1 = 74) ?_
                    refine zr_iadd dX3_tell_74 (rfl : 74 + 1 = 75) (by first | exact jI_add _ _ | rfl) ?_
                    refine zr_putf (fs' := [_, _, _, _, _, _, _, _, _, _]) dX3_tell_75 (rfl : 75 + 3 = 78) f_X3_54 ft_3_8 (by first | assumption | exact bk_0 | exact bk_1 | exact bk_2 | exact bk_3 | exact bk_4 | exact bk_5 | exact bk_6 | exact bk_7 | exact bk_8 | exact bk_9 | exact bk_10 | exact bk_11 | exact bk_12 | exact bk_13 | exact bk_14 | exact bk_15 | exact bk_16 | exact zup_self | exact (zup_ne (by first | assumption | omega)).trans (by first | assumption | exact zup_self) | exact (zup_ne (by first | assumption | omega)).trans ((zup_ne (by first | assumption | omega)).trans (by first | assumption | exact zup_self))) (Nat.le_of_ble_eq_true rfl) rfl rfl rfl ?_
                    rw [bku_12]
                    refine zr_aload_n dX3_tell_78 (rfl : 78 + 1 = 79) rfl ?_
                    refine zr_getf dX3_tell_79 (rfl : 79 + 3 = 82) f_X3_25 (by first | assumption | exact bk_0 | exact bk_1 | exact bk_2 | exact bk_3 | exact bk_4 | exact bk_5 | exact bk_6 | exact bk_7 | exact bk_8 | exact bk_9 | exact bk_10 | exact bk_11 | exact bk_12 | exact bk_13 | exact bk_14 | exact bk_15 | exact bk_16 | exact zup_self | exact (zup_ne (by first | assumption | omega)).trans (by first | assumption | exact zup_self) | exact (zup_ne (by first | assumption | omega)).trans ((zup_ne (by first | assumption | omega)).trans (by first | assumption | exact zup_self))) rfl ?_
                    refine zr_iload_n dX3_tell_82 (rfl : 82 + 1 = 83) rfl ?_
                    refine zr_aload_n dX3_tell_83 (rfl : 83 + 1 = 84) rfl ?_
                    refine zr_getf dX3_tell_84 (rfl : 84 + 3 = 87) f_X3_54 (by first | assumption | exact bk_0 | exact bk_1 | exact bk_2 | exact bk_3 | exact bk_4 | exact bk_5 | exact bk_6 | exact bk_7 | exact bk_8 | exact bk_9 | exact bk_10 | exact bk_11 | exact bk_12 | exact bk_13 | exact bk_14 | exact bk_15 | exact bk_16 | exact zup_self | exact (zup_ne (by first | assumption | omega)).trans (by first | assumption | exact zup_self) | exact (zup_ne (by first | assumption | omega)).trans ((zup_ne (by first | assumption | omega)).trans (by first | assumption | exact zup_self))) rfl ?_
                    refine zr_iast dX3_tell_87 (rfl : 87 + 1 = 88) (by first | assumption | exact bk_0 | exact bk_1 | exact bk_2 | exact bk_3 | exact bk_4 | exact bk_5 | exact bk_6 | exact bk_7 | exact bk_8 | exact bk_9 | exact bk_10 | exact bk_11 | exact bk_12 | exact bk_13 | exact bk_14 | exact bk_15 | exact bk_16 | exact zup_self | exact (zup_ne (by first | assumption | omega)).trans (by first | assumption | exact zup_self) | exact (zup_ne (by first | assumption | omega)).trans ((zup_ne (by first | assumption | omega)).trans (by first | assumption | exact zup_self))) (by decide) (by first | omega | (simp only [bset, reduceIte, Nat.reduceEqDiff]; omega)) (by first | omega | (simp only [bset, reduceIte, Nat.reduceEqDiff]; omega)) rfl ?_
                    rw [bku_7]
                    refine zr_aload_n dX3_tell_88 (rfl : 88 + 1 = 89) rfl ?_
                    refine zr_getf dX3_tell_89 (rfl : 89 + 3 = 92) f_X3_28 (by first | assumption | exact bk_0 | exact bk_1 | exact bk_2 | exact bk_3 | exact bk_4 | exact bk_5 | exact bk_6 | exact bk_7 | exact bk_8 | exact bk_9 | exact bk_10 | exact bk_11 | exact bk_12 | exact bk_13 | exact bk_14 | exact bk_15 | exact bk_16 | exact zup_self | exact (zup_ne (by first | assumption | omega)).trans (by first | assumption | exact zup_self) | exact (zup_ne (by first | assumption | omega)).trans ((zup_ne (by first | assumption | omega)).trans (by first | assumption | exact zup_self))) rfl ?_
                    refine zr_iload dX3_tell_92 (rfl : 92 + 2 = 94) rfl ?_
                    refine zr_dup2 dX3_tell_94 (rfl : 94 + 1 = 95) rfl rfl ?_
                    refine zr_iald dX3_tell_95 (rfl : 95 + 1 = 96) (by first | assumption | exact bk_0 | exact bk_1 | exact bk_2 | exact bk_3 | exact bk_4 | exact bk_5 | exact bk_6 | exact bk_7 | exact bk_8 | exact bk_9 | exact bk_10 | exact bk_11 | exact bk_12 | exact bk_13 | exact bk_14 | exact bk_15 | exact bk_16 | exact zup_self | exact (zup_ne (by first | assumption | omega)).trans (by first | assumption | exact zup_self) | exact (zup_ne (by first | assumption | omega)).trans ((zup_ne (by first | assumption | omega)).trans (by first | assumption | exact zup_self))) (by decide) (by first | omega | (simp only [bset, reduceIte, Nat.reduceEqDiff]; omega)) (by first | omega | (simp only [bset, reduceIte, Nat.reduceEqDiff]; omega)) ?_
                    refine zr_iconst dX3_tell_96 (rfl : 96 + 1 = 97) ?_
                    refine zr_iadd dX3_tell_97 (rfl : 97 + 1 = 98) (by first | exact jI_add _ _ | rfl) ?_
                    refine zr_iast dX3_tell_98 (rfl : 98 + 1 = 99) (by first | assumption | exact bk_0 | exact bk_1 | exact bk_2 | exact bk_3 | exact bk_4 | exact bk_5 | exact bk_6 | exact bk_7 | exact bk_8 | exact bk_9 | exact bk_10 | exact bk_11 | exact bk_12 | exact bk_13 | exact bk_14 | exact bk_15 | exact bk_16 | exact zup_self | exact (zup_ne (by first | assumption | omega)).trans (by first | assumption | exact zup_self) | exact (zup_ne (by first | assumption | omega)).trans ((zup_ne (by first | assumption | omega)).trans (by first | assumption | exact zup_self))) (by decide) (by first | omega | (simp only [bset, reduceIte, Nat.reduceEqDiff]; omega)) (by first | omega | (simp only [bset, reduceIte, Nat.reduceEqDiff]; omega)) rfl ?_
                    rw [bku_8]
                    refine zr_aload_n dX3_tell_99 (rfl : 99 + 1 = 100) rfl ?_
                    refine zr_dup dX3_tell_100 (rfl : 100 + 1 = 101) rfl ?_
                    refine zr_getf dX3_tell_101 (rfl : 101 + 3 = 104) f_X3_57 (by first | assumption | exact bk_0 | exact bk_1 | exact bk_2 | exact bk_3 | exact bk_4 | exact bk_5 | exact bk_6 | exact bk_7 | exact bk_8 | exact bk_9 | exact bk_10 | exact bk_11 | exact bk_12 | exact bk_13 | exact bk_14 | exact bk_15 | exact bk_16 | exact zup_self | exact (zup_ne (by first | assumption | omega)).trans (by first | assumption | exact zup_self) | exact (zup_ne (by first | assumption | omega)).trans ((zup_ne (by first | assumption | omega)).trans (by first | assumption | exact zup_self))) rfl ?_
                    refine zr_iload_n dX3_tell_104 (rfl : 104 + 1 = 105) rfl ?_
                    refine zr_if_eq (tgt := 112) dX3_tell_105 (by decide) (rfl : 105 + 3 = 108) (by first | exact jb_iff | exact jI_z (by first | omega | (simp only [bset, reduceIte, Nat.reduceEqDiff]; omega)) (by first | omega | (simp only [bset, reduceIte, Nat.reduceEqDiff]; omega))) (fun h105 => ?_) (fun h105 => ?_)
                    · first
                      | (exfalso; omega)
                      | (
                        refine zr_iconst dX3_tell_112 (rfl : 112 + 1 = 113) ?_
                        refine zr_iadd dX3_tell_113 (rfl : 113 + 1 = 114) (by first | exact jI_add _ _ | rfl) ?_
                        refine zr_putf (fs' := [_, _, _, _, _, _, _, _, _, _]) dX3_tell_114 (rfl : 114 + 3 = 117) f_X3_57 ft_3_9 (by first | assumption | exact bk_0 | exact bk_1 | exact bk_2 | exact bk_3 | exact bk_4 | exact bk_5 | exact bk_6 | exact bk_7 | exact bk_8 | exact bk_9 | exact bk_10 | exact bk_11 | exact bk_12 | exact bk_13 | exact bk_14 | exact bk_15 | exact bk_16 | exact zup_self | exact (zup_ne (by first | assumption | omega)).trans (by first | assumption | exact zup_self) | exact (zup_ne (by first | assumption | omega)).trans ((zup_ne (by first | assumption | omega)).trans (by first | assumption | exact zup_self))) (Nat.le_of_ble_eq_true rfl) rfl rfl rfl ?_
                        rw [bku_13]
                        exact zr_vret dX3_tell_117 rfl rfl rfl rfl)
                    · first
                      | (exfalso; omega)
                      | (
                        refine zr_iconst dX3_tell_108 (rfl : 108 + 1 = 109) ?_
                        refine zr_goto (tgt := 113) dX3_tell_109 (by decide) ?_
                        refine zr_iadd dX3_tell_113 (rfl : 113 + 1 = 114) (by first | exact jI_add _ _ | rfl) ?_
                        refine zr_putf (fs' := [_, _, _, _, _, _, _, _, _, _]) dX3_tell_114 (rfl : 114 + 3 = 117) f_X3_57 ft_3_9 (by first | assumption | exact bk_0 | exact bk_1 | exact bk_2 | exact bk_3 | exact bk_4 | exact bk_5 | exact bk_6 | exact bk_7 | exact bk_8 | exact bk_9 | exact bk_10 | exact bk_11 | exact bk_12 | exact bk_13 | exact bk_14 | exact bk_15 | exact bk_16 | exact zup_self | exact (zup_ne (by first | assumption | omega)).trans (by first | assumption | exact zup_self) | exact (zup_ne (by first | assumption | omega)).trans ((zup_ne (by first | assumption | omega)).trans (by first | assumption | exact zup_self))) (Nat.le_of_ble_eq_true rfl) rfl rfl rfl ?_
                        rw [bku_13]
                        exact zr_vret dX3_tell_117 rfl rfl rfl rfl))
                · first
                  | (exfalso; omega)
                  | (
                    refine zr_iload_n dX3_tell_35 (rfl : 35 + 1 = 36) rfl ?_
                    refine zr_bipush dX3_tell_36 (rfl : 36 + 2 = 38) (by decide) ?_
                    refine zr_irem dX3_tell_38 (rfl : 38 + 1 = 39) (fun q => absurd ((jI_z (by first | omega | (simp only [bset, reduceIte, Nat.reduceEqDiff]; omega)) (by first | omega | (simp only [bset, reduceIte, Nat.reduceEqDiff]; omega))).mp q) (by first | omega | (simp only [bset, reduceIte, Nat.reduceEqDiff]; omega))) (jI_rem (by first | omega | (simp only [bset, reduceIte, Nat.reduceEqDiff]; omega)) (by first | omega | (simp only [bset, reduceIte, Nat.reduceEqDiff]; omega)) (by first | omega | (simp only [bset, reduceIte, Nat.reduceEqDiff]; omega)) (by first | omega | (simp only [bset, reduceIte, Nat.reduceEqDiff]; omega))) ?_
                    refine zr_iconst dX3_tell_39 (rfl : 39 + 1 = 40) ?_
                    refine zr_iadd dX3_tell_40 (rfl : 40 + 1 = 41) (by first | exact jI_add _ _ | rfl) ?_
                    refine zr_goto (tgt := 45) dX3_tell_41 (by decide) ?_
                    refine zr_istore (lv' := [_, _, _, _, _]) dX3_tell_45 (rfl : 45 + 2 = 47) (Nat.le_of_ble_eq_true rfl) rfl ?_
                    refine zr_aload_n dX3_tell_47 (rfl : 47 + 1 = 48) rfl ?_
                    refine zr_getf dX3_tell_48 (rfl : 48 + 3 = 51) f_X3_18 (by first | assumption | exact bk_0 | exact bk_1 | exact bk_2 | exact bk_3 | exact bk_4 | exact bk_5 | exact bk_6 | exact bk_7 | exact bk_8 | exact bk_9 | exact bk_10 | exact bk_11 | exact bk_12 | exact bk_13 | exact bk_14 | exact bk_15 | exact bk_16 | exact zup_self | exact (zup_ne (by first | assumption | omega)).trans (by first | assumption | exact zup_self) | exact (zup_ne (by first | assumption | omega)).trans ((zup_ne (by first | assumption | omega)).trans (by first | assumption | exact zup_self))) rfl ?_
                    refine zr_aload_n dX3_tell_51 (rfl : 51 + 1 = 52) rfl ?_
                    refine zr_getf dX3_tell_52 (rfl : 52 + 3 = 55) f_X3_54 (by first | assumption | exact bk_0 | exact bk_1 | exact bk_2 | exact bk_3 | exact bk_4 | exact bk_5 | exact bk_6 | exact bk_7 | exact bk_8 | exact bk_9 | exact bk_10 | exact bk_11 | exact bk_12 | exact bk_13 | exact bk_14 | exact bk_15 | exact bk_16 | exact zup_self | exact (zup_ne (by first | assumption | omega)).trans (by first | assumption | exact zup_self) | exact (zup_ne (by first | assumption | omega)).trans ((zup_ne (by first | assumption | omega)).trans (by first | assumption | exact zup_self))) rfl ?_
                    refine zr_iload_n dX3_tell_55 (rfl : 55 + 1 = 56) rfl ?_
                    refine zr_iast dX3_tell_56 (rfl : 56 + 1 = 57) (by first | assumption | exact bk_0 | exact bk_1 | exact bk_2 | exact bk_3 | exact bk_4 | exact bk_5 | exact bk_6 | exact bk_7 | exact bk_8 | exact bk_9 | exact bk_10 | exact bk_11 | exact bk_12 | exact bk_13 | exact bk_14 | exact bk_15 | exact bk_16 | exact zup_self | exact (zup_ne (by first | assumption | omega)).trans (by first | assumption | exact zup_self) | exact (zup_ne (by first | assumption | omega)).trans ((zup_ne (by first | assumption | omega)).trans (by first | assumption | exact zup_self))) (by decide) (by first | omega | (simp only [bset, reduceIte, Nat.reduceEqDiff]; omega)) (by first | omega | (simp only [bset, reduceIte, Nat.reduceEqDiff]; omega)) rfl ?_
                    rw [bku_5]
                    refine zr_aload_n dX3_tell_57 (rfl : 57 + 1 = 58) rfl ?_
                    refine zr_getf dX3_tell_58 (rfl : 58 + 3 = 61) f_X3_22 (by first | assumption | exact bk_0 | exact bk_1 | exact bk_2 | exact bk_3 | exact bk_4 | exact bk_5 | exact bk_6 | exact bk_7 | exact bk_8 | exact bk_9 | exact bk_10 | exact bk_11 | exact bk_12 | exact bk_13 | exact bk_14 | exact bk_15 | exact bk_16 | exact zup_self | exact (zup_ne (by first | assumption | omega)).trans (by first | assumption | exact zup_self) | exact (zup_ne (by first | assumption | omega)).trans ((zup_ne (by first | assumption | omega)).trans (by first | assumption | exact zup_self))) rfl ?_
                    refine zr_aload_n dX3_tell_61 (rfl : 61 + 1 = 62) rfl ?_
                    refine zr_getf dX3_tell_62 (rfl : 62 + 3 = 65) f_X3_54 (by first | assumption | exact bk_0 | exact bk_1 | exact bk_2 | exact bk_3 | exact bk_4 | exact bk_5 | exact bk_6 | exact bk_7 | exact bk_8 | exact bk_9 | exact bk_10 | exact bk_11 | exact bk_12 | exact bk_13 | exact bk_14 | exact bk_15 | exact bk_16 | exact zup_self | exact (zup_ne (by first | assumption | omega)).trans (by first | assumption | exact zup_self) | exact (zup_ne (by first | assumption | omega)).trans ((zup_ne (by first | assumption | omega)).trans (by first | assumption | exact zup_self))) rfl ?_
                    refine zr_iload dX3_tell_65 (rfl : 65 + 2 = 67) rfl ?_
                    refine zr_iast dX3_tell_67 (rfl : 67 + 1 = 68) (by first | assumption | exact bk_0 | exact bk_1 | exact bk_2 | exact bk_3 | exact bk_4 | exact bk_5 | exact bk_6 | exact bk_7 | exact bk_8 | exact bk_9 | exact bk_10 | exact bk_11 | exact bk_12 | exact bk_13 | exact bk_14 | exact bk_15 | exact bk_16 | exact zup_self | exact (zup_ne (by first | assumption | omega)).trans (by first | assumption | exact zup_self) | exact (zup_ne (by first | assumption | omega)).trans ((zup_ne (by first | assumption | omega)).trans (by first | assumption | exact zup_self))) (by decide) (by first | omega | (simp only [bset, reduceIte, Nat.reduceEqDiff]; omega)) (by first | omega | (simp only [bset, reduceIte, Nat.reduceEqDiff]; omega)) rfl ?_
                    rw [bku_6]
                    refine zr_aload_n dX3_tell_68 (rfl : 68 + 1 = 69) rfl ?_
                    refine zr_dup dX3_tell_69 (rfl : 69 + 1 = 70) rfl ?_
                    refine zr_getf dX3_tell_70 (rfl : 70 + 3 = 73) f_X3_54 (by first | assumption | exact bk_0 | exact bk_1 | exact bk_2 | exact bk_3 | exact bk_4 | exact bk_5 | exact bk_6 | exact bk_7 | exact bk_8 | exact bk_9 | exact bk_10 | exact bk_11 | exact bk_12 | exact bk_13 | exact bk_14 | exact bk_15 | exact bk_16 | exact zup_self | exact (zup_ne (by first | assumption | omega)).trans (by first | assumption | exact zup_self) | exact (zup_ne (by first | assumption | omega)).trans ((zup_ne (by first | assumption | omega)).trans (by first | assumption | exact zup_self))) rfl ?_
                    refine zr_iconst dX3_tell_73 (rfl : 73 + 1 = 74) ?_
                    refine zr_iadd dX3_tell_74 (rfl : 74 + 1 = 75) (by first | exact jI_add _ _ | rfl) ?_
                    refine zr_putf (fs' := [_, _, _, _, _, _, _, _, _, _]) dX3_tell_75 (rfl : 75 + 3 = 78) f_X3_54 ft_3_8 (by first | assumption | exact bk_0 | exact bk_1 | exact bk_2 | exact bk_3 | exact bk_4 | exact bk_5 | exact bk_6 | exact bk_7 | exact bk_8 | exact bk_9 | exact bk_10 | exact bk_11 | exact bk_12 | exact bk_13 | exact bk_14 | exact bk_15 | exact bk_16 | exact zup_self | exact (zup_ne (by first | assumption | omega)).trans (by first | assumption | exact zup_self) | exact (zup_ne (by first | assumption | omega)).trans ((zup_ne (by first | assumption | omega)).trans (by first | assumption | exact zup_self))) (Nat.le_of_ble_eq_true rfl) rfl rfl rfl ?_
                    rw [bku_12]
                    refine zr_aload_n dX3_tell_78 (rfl : 78 + 1 = 79) rfl ?_
                    refine zr_getf dX3_tell_79 (rfl : 79 + 3 = 82) f_X3_25 (by first | assumption | exact bk_0 | exact bk_1 | exact bk_2 | exact bk_3 | exact bk_4 | exact bk_5 | exact bk_6 | exact bk_7 | exact bk_8 | exact bk_9 | exact bk_10 | exact bk_11 | exact bk_12 | exact bk_13 | exact bk_14 | exact bk_15 | exact bk_16 | exact zup_self | exact (zup_ne (by first | assumption | omega)).trans (by first | assumption | exact zup_self) | exact (zup_ne (by first | assumption | omega)).trans ((zup_ne (by first | assumption | omega)).trans (by first | assumption | exact zup_self))) rfl ?_
                    refine zr_iload_n dX3_tell_82 (rfl : 82 + 1 = 83) rfl ?_
                    refine zr_aload_n dX3_tell_83 (rfl : 83 + 1 = 84) rfl ?_
                    refine zr_getf dX3_tell_84 (rfl : 84 + 3 = 87) f_X3_54 (by first | assumption | exact bk_0 | exact bk_1 | exact bk_2 | exact bk_3 | exact bk_4 | exact bk_5 | exact bk_6 | exact bk_7 | exact bk_8 | exact bk_9 | exact bk_10 | exact bk_11 | exact bk_12 | exact bk_13 | exact bk_14 | exact bk_15 | exact bk_16 | exact zup_self | exact (zup_ne (by first | assumption | omega)).trans (by first | assumption | exact zup_self) | exact (zup_ne (by first | assumption | omega)).trans ((zup_ne (by first | assumption | omega)).trans (by first | assumption | exact zup_self))) rfl ?_
                    refine zr_iast dX3_tell_87 (rfl : 87 + 1 = 88) (by first | assumption | exact bk_0 | exact bk_1 | exact bk_2 | exact bk_3 | exact bk_4 | exact bk_5 | exact bk_6 | exact bk_7 | exact bk_8 | exact bk_9 | exact bk_10 | exact bk_11 | exact bk_12 | exact bk_13 | exact bk_14 | exact bk_15 | exact bk_16 | exact zup_self | exact (zup_ne (by first | assumption | omega)).trans (by first | assumption | exact zup_self) | exact (zup_ne (by first | assumption | omega)).trans ((zup_ne (by first | assumption | omega)).trans (by first | assumption | exact zup_self))) (by decide) (by first | omega | (simp only [bset, reduceIte, Nat.reduceEqDiff]; omega)) (by first | omega | (simp only [bset, reduceIte, Nat.reduceEqDiff]; omega)) rfl ?_
                    rw [bku_7]
                    refine zr_aload_n dX3_tell_88 (rfl : 88 + 1 = 89) rfl ?_
                    refine zr_getf dX3_tell_89 (rfl : 89 + 3 = 92) f_X3_28 (by first | assumption | exact bk_0 | exact bk_1 | exact bk_2 | exact bk_3 | exact bk_4 | exact bk_5 | exact bk_6 | exact bk_7 | exact bk_8 | exact bk_9 | exact bk_10 | exact bk_11 | exact bk_12 | exact bk_13 | exact bk_14 | exact bk_15 | exact bk_16 | exact zup_self | exact (zup_ne (by first | assumption | omega)).trans (by first | assumption | exact zup_self) | exact (zup_ne (by first | assumption | omega)).trans ((zup_ne (by first | assumption | omega)).trans (by first | assumption | exact zup_self))) rfl ?_
                    refine zr_iload dX3_tell_92 (rfl : 92 + 2 = 94) rfl ?_
                    refine zr_dup2 dX3_tell_94 (rfl : 94 + 1 = 95) rfl rfl ?_
                    refine zr_iald dX3_tell_95 (rfl : 95 + 1 = 96) (by first | assumption | exact bk_0 | exact bk_1 | exact bk_2 | exact bk_3 | exact bk_4 | exact bk_5 | exact bk_6 | exact bk_7 | exact bk_8 | exact bk_9 | exact bk_10 | exact bk_11 | exact bk_12 | exact bk_13 | exact bk_14 | exact bk_15 | exact bk_16 | exact zup_self | exact (zup_ne (by first | assumption | omega)).trans (by first | assumption | exact zup_self) | exact (zup_ne (by first | assumption | omega)).trans ((zup_ne (by first | assumption | omega)).trans (by first | assumption | exact zup_self))) (by decide) (by first | omega | (simp only [bset, reduceIte, Nat.reduceEqDiff]; omega)) (by first | omega | (simp only [bset, reduceIte, Nat.reduceEqDiff]; omega)) ?_
                    refine zr_iconst dX3_tell_96 (rfl : 96 + 1 = 97) ?_
                    refine zr_iadd dX3_tell_97 (rfl : 97 + 1 = 98) (by first | exact jI_add _ _ | rfl) ?_
                    refine zr_iast dX3_tell_98 (rfl : 98 + 1 = 99) (by first | assumption | exact bk_0 | exact bk_1 | exact bk_2 | exact bk_3 | exact bk_4 | exact bk_5 | exact bk_6 | exact bk_7 | exact bk_8 | exact bk_9 | exact bk_10 | exact bk_11 | exact bk_12 | exact bk_13 | exact bk_14 | exact bk_15 | exact bk_16 | exact zup_self | exact (zup_ne (by first | assumption | omega)).trans (by first | assumption | exact zup_self) | exact (zup_ne (by first | assumption | omega)).trans ((zup_ne (by first | assumption | omega)).trans (by first | assumption | exact zup_self))) (by decide) (by first | omega | (simp only [bset, reduceIte, Nat.reduceEqDiff]; omega)) (by first | omega | (simp only [bset, reduceIte, Nat.reduceEqDiff]; omega)) rfl ?_
                    rw [bku_8]
                    refine zr_aload_n dX3_tell_99 (rfl : 99 + 1 = 100) rfl ?_
                    refine zr_dup dX3_tell_100 (rfl : 100 + 1 = 101) rfl ?_
                    refine zr_getf dX3_tell_101 (rfl : 101 + 3 = 104) f_X3_57 (by first | assumption | exact bk_0 | exact bk_1 | exact bk_2 | exact bk_3 | exact bk_4 | exact bk_5 | exact bk_6 | exact bk_7 | exact bk_8 | exact bk_9 | exact bk_10 | exact bk_11 | exact bk_12 | exact bk_13 | exact bk_14 | exact bk_15 | exact bk_16 | exact zup_self | exact (zup_ne (by first | assumption | omega)).trans (by first | assumption | exact zup_self) | exact (zup_ne (by first | assumption | omega)).trans ((zup_ne (by first | assumption | omega)).trans (by first | assumption | exact zup_self))) rfl ?_
                    refine zr_iload_n dX3_tell_104 (rfl : 104 + 1 = 105) rfl ?_
                    refine zr_if_eq (tgt := 112) dX3_tell_105 (by decide) (rfl : 105 + 3 = 108) (by first | exact jb_iff | exact jI_z (by first | omega | (simp only [bset, reduceIte, Nat.reduceEqDiff]; omega)) (by first | omega | (simp only [bset, reduceIte, Nat.reduceEqDiff]; omega))) (fun h105 => ?_) (fun h105 => ?_)
                    · first
                      | (exfalso; omega)
                      | (
                        refine zr_iconst dX3_tell_112 (rfl : 112 + 1 = 113) ?_
                        refine zr_iadd dX3_tell_113 (rfl : 113 + 1 = 114) (by first | exact jI_add _ _ | rfl) ?_
                        refine zr_putf (fs' := [_, _, _, _, _, _, _, _, _, _]) dX3_tell_114 (rfl : 114 + 3 = 117) f_X3_57 ft_3_9 (by first | assumption | exact bk_0 | exact bk_1 | exact bk_2 | exact bk_3 | exact bk_4 | exact bk_5 | exact bk_6 | exact bk_7 | exact bk_8 | exact bk_9 | exact bk_10 | exact bk_11 | exact bk_12 | exact bk_13 | exact bk_14 | exact bk_15 | exact bk_16 | exact zup_self | exact (zup_ne (by first | assumption | omega)).trans (by first | assumption | exact zup_self) | exact (zup_ne (by first | assumption | omega)).trans ((zup_ne (by first | assumption | omega)).trans (by first | assumption | exact zup_self))) (Nat.le_of_ble_eq_true rfl) rfl rfl rfl ?_
                        rw [bku_13]
                        exact zr_vret dX3_tell_117 rfl rfl rfl rfl)
                    · first
                      | (exfalso; omega)
                      | (
                        refine zr_iconst dX3_tell_108 (rfl : 108 + 1 = 109) ?_
                        refine zr_goto (tgt := 113) dX3_tell_109 (by decide) ?_
                        refine zr_iadd dX3_tell_113 (rfl : 113 + 1 = 114) (by first | exact jI_add _ _ | rfl) ?_
                        refine zr_putf (fs' := [_, _, _, _, _, _, _, _, _, _]) dX3_tell_114 (rfl : 114 + 3 = 117) f_X3_57 ft_3_9 (by first | assumption | exact bk_0 | exact bk_1 | exact bk_2 | exact bk_3 | exact bk_4 | exact bk_5 | exact bk_6 | exact bk_7 | exact bk_8 | exact bk_9 | exact bk_10 | exact bk_11 | exact bk_12 | exact bk_13 | exact bk_14 | exact bk_15 | exact bk_16 | exact zup_self | exact (zup_ne (by first | assumption | omega)).trans (by first | assumption | exact zup_self) | exact (zup_ne (by first | assumption | omega)).trans ((zup_ne (by first | assumption | omega)).trans (by first | assumption | exact zup_self))) (Nat.le_of_ble_eq_true rfl) rfl rfl rfl ?_
                        rw [bku_13]
                        exact zr_vret dX3_tell_117 rfl rfl rfl rfl)))))
    · first
      | (exfalso; omega)
      | (
        exact zr_vret dX3_tell_9 rfl rfl rfl rfl)
  · refine zr_aload_n dX3_tell_0 (rfl : 0 + 1 = 1) rfl ?_
    refine zr_getf dX3_tell_1 (rfl : 1 + 3 = 4) f_X3_54 (by first | assumption | exact bk_0 | exact bk_1 | exact bk_2 | exact bk_3 | exact bk_4 | exact bk_5 | exact bk_6 | exact bk_7 | exact bk_8 | exact bk_9 | exact bk_10 | exact bk_11 | exact bk_12 | exact bk_13 | exact bk_14 | exact bk_15 | exact bk_16 | exact zup_self | exact (zup_ne (by first | assumption | omega)).trans (by first | assumption | exact zup_self) | exact (zup_ne (by first | assumption | omega)).trans ((zup_ne (by first | assumption | omega)).trans (by first | assumption | exact zup_self))) rfl ?_
    refine zr_bipush dX3_tell_4 (rfl : 4 + 2 = 6) (by decide) ?_
    refine zr_icmp_lt (tgt := 10) dX3_tell_6 (by decide) (rfl : 6 + 3 = 9) (jI_lt (by first | omega | (simp only [bset, reduceIte, Nat.reduceEqDiff]; omega)) (by first | omega | (simp only [bset, reduceIte, Nat.reduceEqDiff]; omega)) (by first | omega | (simp only [bset, reduceIte, Nat.reduceEqDiff]; omega)) (by first | omega | (simp only [bset, reduceIte, Nat.reduceEqDiff]; omega))) (fun h6 => ?_) (fun h6 => ?_)
    · first
      | (exfalso; omega)
      | (
        refine zr_iload_n dX3_tell_10 (rfl : 10 + 1 = 11) rfl ?_
        refine zr_if_le (tgt := 29) dX3_tell_11 (by decide) (rfl : 11 + 3 = 14) (jI_lez (by first | omega | (simp only [bset, reduceIte, Nat.reduceEqDiff]; omega)) (by first | omega | (simp only [bset, reduceIte, Nat.reduceEqDiff]; omega))) (fun h11 => ?_) (fun h11 => ?_)
        · first
          | (exfalso; omega)
          | (
            refine zr_iconst dX3_tell_29 (rfl : 29 + 1 = 30) ?_
            refine zr_istore_n (lv' := [_, _, _, _, _]) dX3_tell_30 (rfl : 30 + 1 = 31) (Nat.le_of_ble_eq_true rfl) rfl ?_
            refine zr_iload_n dX3_tell_31 (rfl : 31 + 1 = 32) rfl ?_
            refine zr_if_eq (tgt := 44) dX3_tell_32 (by decide) (rfl : 32 + 3 = 35) (by first | exact jb_iff | exact jI_z (by first | omega | (simp only [bset, reduceIte, Nat.reduceEqDiff]; omega)) (by first | omega | (simp only [bset, reduceIte, Nat.reduceEqDiff]; omega))) (fun h32 => ?_) (fun h32 => ?_)
            · first
              | (exfalso; omega)
              | (
                refine zr_iload_n dX3_tell_44 (rfl : 44 + 1 = 45) rfl ?_
                refine zr_istore (lv' := [_, _, _, _, _]) dX3_tell_45 (rfl : 45 + 2 = 47) (Nat.le_of_ble_eq_true rfl) rfl ?_
                refine zr_aload_n dX3_tell_47 (rfl : 47 + 1 = 48) rfl ?_
                refine zr_getf dX3_tell_48 (rfl : 48 + 3 = 51) f_X3_18 (by first | assumption | exact bk_0 | exact bk_1 | exact bk_2 | exact bk_3 | exact bk_4 | exact bk_5 | exact bk_6 | exact bk_7 | exact bk_8 | exact bk_9 | exact bk_10 | exact bk_11 | exact bk_12 | exact bk_13 | exact bk_14 | exact bk_15 | exact bk_16 | exact zup_self | exact (zup_ne (by first | assumption | omega)).trans (by first | assumption | exact zup_self) | exact (zup_ne (by first | assumption | omega)).trans ((zup_ne (by first | assumption | omega)).trans (by first | assumption | exact zup_self))) rfl ?_
                refine zr_aload_n dX3_tell_51 (rfl : 51 + 1 = 52) rfl ?_
                refine zr_getf dX3_tell_52 (rfl : 52 + 3 = 55) f_X3_54 (by first | assumption | exact bk_0 | exact bk_1 | exact bk_2 | exact bk_3 | exact bk_4 | exact bk_5 | exact bk_6 | exact bk_7 | exact bk_8 | exact bk_9 | exact bk_10 | exact bk_11 | exact bk_12 | exact bk_13 | exact bk_14 | exact bk_15 | exact bk_16 | exact zup_self | exact (zup_ne (by first | assumption | omega)).trans (by first | assumption | exact zup_self) | exact (zup_ne (by first | assumption | omega)).trans ((zup_ne (by first | assumption | omega)).trans (by first | assumption | exact zup_self))) rfl ?_
                refine zr_iload_n dX3_tell_55 (rfl : 55 + 1 = 56) rfl ?_
                refine zr_iast dX3_tell_56 (rfl : 56 + 1 = 57) (by first | assumption | exact bk_0 | exact bk_1 | exact bk_2 | exact bk_3 | exact bk_4 | exact bk_5 | exact bk_6 | exact bk_7 | exact bk_8 | exact bk_9 | exact bk_10 | exact bk_11 | exact bk_12 | exact bk_13 | exact bk_14 | exact bk_15 | exact bk_16 | exact zup_self | exact (zup_ne (by first | assumption | omega)).trans (by first | assumption | exact zup_self) | exact (zup_ne (by first | assumption | omega)).trans ((zup_ne (by first | assumption | omega)).trans (by first | assumption | exact zup_self))) (by decide) (by first | omega | (simp only [bset, reduceIte, Nat.reduceEqDiff]; omega)) (by first | omega | (simp only [bset, reduceIte, Nat.reduceEqDiff]; omega)) rfl ?_
                rw [bku_5]
                refine zr_aload_n dX3_tell_57 (rfl : 57 + 1 = 58) rfl ?_
                refine zr_getf dX3_tell_58 (rfl : 58 + 3 = 61) f_X3_22 (by first | assumption | exact bk_0 | exact bk_1 | exact bk_2 | exact bk_3 | exact bk_4 | exact bk_5 | exact bk_6 | exact bk_7 | exact bk_8 | exact bk_9 | exact bk_10 | exact bk_11 | exact bk_12 | exact bk_13 | exact bk_14 | exact bk_15 | exact bk_16 | exact zup_self | exact (zup_ne (by first | assumption | omega)).trans (by first | assumption | exact zup_self) | exact (zup_ne (by first | assumption | omega)).trans ((zup_ne (by first | assumption | omega)).trans (by first | assumption | exact zup_self))) rfl ?_
                refine zr_aload_n dX3_tell_61 (rfl : 61 + 1 = 62) rfl ?_
                refine zr_getf dX3_tell_62 (rfl : 62 + 3 = 65) f_X3_54 (by first | assumption | exact bk_0 | exact bk_1 | exact bk_2 | exact bk_3 | exact bk_4 | exact bk_5 | exact bk_6 | exact bk_7 | exact bk_8 | exact bk_9 | exact bk_10 | exact bk_11 | exact bk_12 | exact bk_13 | exact bk_14 | exact bk_15 | exact bk_16 | exact zup_self | exact (zup_ne (by first | assumption | omega)).trans (by first | assumption | exact zup_self) | exact (zup_ne (by first | assumption | omega)).trans ((zup_ne (by first | assumption | omega)).trans (by first | assumption | exact zup_self))) rfl ?_
                refine zr_iload dX3_tell_65 (rfl : 65 + 2 = 67) rfl ?_
                refine zr_iast dX3_tell_67 (rfl : 67 + 1 = 68) (by first | assumption | exact bk_0 | exact bk_1 | exact bk_2 | exact bk_3 | exact bk_4 | exact bk_5 | exact bk_6 | exact bk_7 | exact bk_8 | exact bk_9 | exact bk_10 | exact bk_11 | exact bk_12 | exact bk_13 | exact bk_14 | exact bk_15 | exact bk_16 | exact zup_self | exact (zup_ne (by first | assumption | omega)).trans (by first | assumption | exact zup_self) | exact (zup_ne (by first | assumption | omega)).trans ((zup_ne (by first | assumption | omega)).trans (by first | assumption | exact zup_self))) (by decide) (by first | omega | (simp only [bset, reduceIte, Nat.reduceEqDiff]; omega)) (by first | omega | (simp only [bset, reduceIte, Nat.reduceEqDiff]; omega)) rfl ?_
                rw [bku_6]
                refine zr_aload_n dX3_tell_68 (rfl : 68 + 1 = 69) rfl ?_
                refine zr_dup dX3_tell_69 (rfl : 69 + 1 = 70) rfl ?_
                refine zr_getf dX3_tell_70 (rfl : 70 + 3 = 73) f_X3_54 (by first | assumption | exact bk_0 | exact bk_1 | exact bk_2 | exact bk_3 | exact bk_4 | exact bk_5 | exact bk_6 | exact bk_7 | exact bk_8 | exact bk_9 | exact bk_10 | exact bk_11 | exact bk_12 | exact bk_13 | exact bk_14 | exact bk_15 | exact bk_16 | exact zup_self | exact (zup_ne (by first | assumption | omega)).trans (by first | assumption | exact zup_self) | exact (zup_ne (by first | assumption | omega)).trans ((zup_ne (by first | assumption | omega)).trans (by first | assumption | exact zup_self))) rfl ?_
                refine zr_iconst dX3_tell_73 (rfl : 73 + 1 = 74) ?_
                refine zr_iadd dX3_tell_74 (rfl : 74 + 1 = 75) (by first | exact jI_add _ _ | rfl) ?_
                refine zr_putf (fs' := [_, _, _, _, _, _, _, _, _, _]) dX3_tell_75 (rfl : 75 + 3 = 78) f_X3_54 ft_3_8 (by first | assumption | exact bk_0 | exact bk_1 | exact bk_2 | exact bk_3 | exact bk_4 | exact bk_5 | exact bk_6 | exact bk_7 | exact bk_8 | exact bk_9 | exact bk_10 | exact bk_11 | exact bk_12 | exact bk_13 | exact bk_14 | exact bk_15 | exact bk_16 | exact zup_self | exact (zup_ne (by first | assumption | omega)).trans (by first | assumption | exact zup_self) | exact (zup_ne (by first | assumption | omega)).trans ((zup_ne (by first | assumption | omega)).trans (by first | assumption | exact zup_self))) (Nat.le_of_ble_eq_true rfl) rfl rfl rfl ?_
                rw [bku_12]
                refine zr_aload_n dX3_tell_78 (rfl : 78 + 1 = 79) rfl ?_
                refine zr_getf dX3_tell_79 (rfl : 79 + 3 = 82) f_X3_25 (by first | assumption | exact bk_0 | exact bk_1 | exact bk_2 | exact bk_3 | exact bk_4 | exact bk_5 | exact bk_6 | exact bk_7 | exact bk_8 | exact bk_9 | exact bk_10 | exact bk_11 | exact bk_12 | exact bk_13 | exact bk_14 | exact bk_15 | exact bk_16 | exact zup_self | exact (zup_ne (by first | assumption | omega)).trans (by first | assumption | exact zup_self) | exact (zup_ne (by first | assumption | omega)).trans ((zup_ne (by first | assumption | omega)).trans (by first | assumption | exact zup_self))) rfl ?_
                refine zr_iload_n dX3_tell_82 (rfl : 82 + 1 = 83) rfl ?_
                refine zr_aload_n dX3_tell_83 (rfl : 83 + 1 = 84) rfl ?_
                refine zr_getf dX3_tell_84 (rfl : 84 + 3 = 87) f_X3_54 (by first | assumption | exact bk_0 | exact bk_1 | exact bk_2 | exact bk_3 | exact bk_4 | exact bk_5 | exact bk_6 | exact bk_7 | exact bk_8 | exact bk_9 | exact bk_10 | exact bk_11 | exact bk_12 | exact bk_13 | exact bk_14 | exact bk_15 | exact bk_16 | exact zup_self | exact (zup_ne (by first | assumption | omega)).trans (by first | assumption | exact zup_self) | exact (zup_ne (by first | assumption | omega)).trans ((zup_ne (by first | assumption | omega)).trans (by first | assumption | exact zup_self))) rfl ?_
                refine zr_iast dX3_tell_87 (rfl : 87 + 1 = 88) (by first | assumption | exact bk_0 | exact bk_1 | exact bk_2 | exact bk_3 | exact bk_4 | exact bk_5 | exact bk_6 | exact bk_7 | exact bk_8 | exact bk_9 | exact bk_10 | exact bk_11 | exact bk_12 | exact bk_13 | exact bk_14 | exact bk_15 | exact bk_16 | exact zup_self | exact (zup_ne (by first | assumption | omega)).trans (by first | assumption | exact zup_self) | exact (zup_ne (by first | assumption | omega)).trans ((zup_ne (by first | assumption | omega)).trans (by first | assumption | exact zup_self))) (by decide) (by first | omega | (simp only [bset, reduceIte, Nat.reduceEqDiff]; omega)) (by first | omega | (simp only [bset, reduceIte, Nat.reduceEqDiff]; omega)) rfl ?_
                rw [bku_7]
                refine zr_aload_n dX3_tell_88 (rfl : 88 + 1 = 89) rfl ?_
                refine zr_getf dX3_tell_89 (rfl : 89 + 3 = 92) f_X3_28 (by first | assumption | exact bk_0 | exact bk_1 | exact bk_2 | exact bk_3 | exact bk_4 | exact bk_5 | exact bk_6 | exact bk_7 | exact bk_8 | exact bk_9 | exact bk_10 | exact bk_11 | exact bk_12 | exact bk_13 | exact bk_14 | exact bk_15 | exact bk_16 | exact zup_self | exact (zup_ne (by first | assumption | omega)).trans (by first | assumption | exact zup_self) | exact (zup_ne (by first | assumption | omega)).trans ((zup_ne (by first | assumption | omega)).trans (by first | assumption | exact zup_self))) rfl ?_
                refine zr_iload dX3_tell_92 (rfl : 92 + 2 = 94) rfl ?_
                refine zr_dup2 dX3_tell_94 (rfl : 94 + 1 = 95) rfl rfl ?_
                refine zr_iald dX3_tell_95 (rfl : 95 + 1 = 96) (by first | assumption | exact bk_0 | exact bk_1 | exact bk_2 | exact bk_3 | exact bk_4 | exact bk_5 | exact bk_6 | exact bk_7 | exact bk_8 | exact bk_9 | exact bk_10 | exact bk_11 | exact bk_12 | exact bk_13 | exact bk_14 | exact bk_15 | exact bk_16 | exact zup_self | exact (zup_ne (by first | assumption | omega)).trans (by first | assumption | exact zup_self) | exact (zup_ne (by first | assumption | omega)).trans ((zup_ne (by first | assumption | omega)).trans (by first | assumption | exact zup_self))) (by decide) (by first | omega | (simp only [bset, reduceIte, Nat.reduceEqDiff]; omega)) (by first | omega | (simp only [bset, reduceIte, Nat.reduceEqDiff]; omega)) ?_
                refine zr_iconst dX3_tell_96 (rfl : 96 + 1 = 97) ?_
                refine zr_iadd dX3_tell_97 (rfl : 97 + 1 = 98) (by first | exact jI_add _ _ | rfl) ?_
                refine zr_iast dX3_tell_98 (rfl : 98 + 1 = 99) (by first | assumption | exact bk_0 | exact bk_1 | exact bk_2 | exact bk_3 | exact bk_4 | exact bk_5 | exact bk_6 | exact bk_7 | exact bk_8 | exact bk_9 | exact bk_10 | exact bk_11 | exact bk_12 | exact bk_13 | exact bk_14 | exact bk_15 | exact bk_16 | exact zup_self | exact (zup_ne (by first | assumption | omega)).trans (by first | assumption | exact zup_self) | exact (zup_ne (by first | assumption | omega)).trans ((zup_ne (by first | assumption | omega)).trans (by first | assumption | exact zup_self))) (by decide) (by first | omega | (simp only [bset, reduceIte, Nat.reduceEqDiff]; omega)) (by first | omega | (simp only [bset, reduceIte, Nat.reduceEqDiff]; omega)) rfl ?_
                rw [bku_8]
                refine zr_aload_n dX3_tell_99 (rfl : 99 + 1 = 100) rfl ?_
                refine zr_dup dX3_tell_100 (rfl : 100 + 1 = 101) rfl ?_
                refine zr_getf dX3_tell_101 (rfl : 101 + 3 = 104) f_X3_57 (by first | assumption | exact bk_0 | exact bk_1 | exact bk_2 | exact bk_3 | exact bk_4 | exact bk_5 | exact bk_6 | exact bk_7 | exact bk_8 | exact bk_9 | exact bk_10 | exact bk_11 | exact bk_12 | exact bk_13 | exact bk_14 | exact bk_15 | exact bk_16 | exact zup_self | exact (zup_ne (by first | assumption | omega)).trans (by first | assumption | exact zup_self) | exact (zup_ne (by first | assumption | omega)).trans ((zup_ne (by first | assumption | omega)).trans (by first | assumption | exact zup_self))) rfl ?_
                refine zr_iload_n dX3_tell_104 (rfl : 104 + 1 = 105) rfl ?_
                refine zr_if_eq (tgt := 112) dX3_tell_105 (by decide) (rfl : 105 + 3 = 108) (by first | exact jb_iff | exact jI_z (by first | omega | (simp only [bset, reduceIte, Nat.reduceEqDiff]; omega)) (by first | omega | (simp only [bset, reduceIte, Nat.reduceEqDiff]; omega))) (fun h105 => ?_) (fun h105 => ?_)
                · first
                  | (exfalso; omega)
                  | (
                    refine zr_iconst dX3_tell_112 (rfl : 112 + 1 = 113) ?_
                    refine zr_iadd dX3_tell_113 (rfl : 113 + 1 = 114) (by first | exact jI_add _ _ | rfl) ?_
                    refine zr_putf (fs' := [_, _, _, _, _, _, _, _, _, _]) dX3_tell_114 (rfl : 114 + 3 = 117) f_X3_57 ft_3_9 (by first | assumption | exact bk_0 | exact bk_1 | exact bk_2 | exact bk_3 | exact bk_4 | exact bk_5 | exact bk_6 | exact bk_7 | exact bk_8 | exact bk_9 | exact bk_10 | exact bk_11 | exact bk_12 | exact bk_13 | exact bk_14 | exact bk_15 | exact bk_16 | exact zup_self | exact (zup_ne (by first | assumption | omega)).trans (by first | assumption | exact zup_self) | exact (zup_ne (by first | assumption | omega)).trans ((zup_ne (by first | assumption | omega)).trans (by first | assumption | exact zup_self))) (Nat.le_of_ble_eq_true rfl) rfl rfl rfl ?_
                    rw [bku_13]
                    exact zr_vret dX3_tell_117 rfl rfl rfl rfl)
                · first
                  | (exfalso; omega)
                  | (
                    refine zr_iconst dX3_tell_108 (rfl : 108 + 1 = 109) ?_
                    refine zr_goto (tgt := 113) dX3_tell_109 (by decide) ?_
                    refine zr_iadd dX3_tell_113 (rfl : 113 + 1 = 114) (by first | exact jI_add _ _ | rfl) ?_
                    refine zr_putf (fs' := [_, _, _, _, _, _, _, _, _, _]) dX3_tell_114 (rfl : 114 + 3 = 117) f_X3_57 ft_3_9 (by first | assumption | exact bk_0 | exact bk_1 | exact bk_2 | exact bk_3 | exact bk_4 | exact bk_5 | exact bk_6 | exact bk_7 | exact bk_8 | exact bk_9 | exact bk_10 | exact bk_11 | exact bk_12 | exact bk_13 | exact bk_14 | exact bk_15 | exact bk_16 | exact zup_self | exact (zup_ne (by first | assumption | omega)).trans (by first | assumption | exact zup_self) | exact (zup_ne (by first | assumption | omega)).trans ((zup_ne (by first | assumption | omega)).trans (by first | assumption | exact zup_self))) (Nat.le_of_ble_eq_true rfl) rfl rfl rfl ?_
                    rw [bku_13]
                    exact zr_vret dX3_tell_117 rfl rfl rfl rfl))
            · first
              | (exfalso; omega)
              | (
                refine zr_iload_n dX3_tell_35 (rfl : 35 + 1 = 36) rfl ?_
                refine zr_bipush dX3_tell_36 (rfl : 36 + 2 = 38) (by decide) ?_
                refine zr_irem dX3_tell_38 (rfl : 38 + 1 = 39) (fun q => absurd ((jI_z (by first | omega | (simp only [bset, reduceIte, Nat.reduceEqDiff]; omega)) (by first | omega | (simp only [bset, reduceIte, Nat.reduceEqDiff]; omega))).mp q) (by first | omega | (simp only [bset, reduceIte, Nat.reduceEqDiff]; omega))) (jI_rem (by first | omega | (simp only [bset, reduceIte, Nat.reduceEqDiff]; omega)) (by first | omega | (simp only [bset, reduceIte, Nat.reduceEqDiff]; omega)) (by first | omega | (simp only [bset, reduceIte, Nat.reduceEqDiff]; omega)) (by first | omega | (simp only [bset, reduceIte, Nat.reduceEqDiff]; omega))) ?_
                refine zr_iconst dX3_tell_39 (rfl : 39 + 1 = 40) ?_
                refine zr_iadd dX3_tell_40 (rfl : 40 + 1 = 41) (by first | exact jI_add _ _ | rfl) ?_
                refine zr_goto (tgt := 45) dX3_tell_41 (by decide) ?_
                refine zr_istore (lv' := [_, _, _, _, _]) dX3_tell_45 (rfl : 45 + 2 = 47) (Nat.le_of_ble_eq_true rfl) rfl ?_
                refine zr_aload_n dX3_tell_47 (rfl : 47 + 1 = 48) rfl ?_
                refine zr_getf dX3_tell_48 (rfl : 48 + 3 = 51) f_X3_18 (by first | assumption | exact bk_0 | exact bk_1 | exact bk_2 | exact bk_3 | exact bk_4 | exact bk_5 | exact bk_6 | exact bk_7 | exact bk_8 | exact bk_9 | exact bk_10 | exact bk_11 | exact bk_12 | exact bk_13 | exact bk_14 | exact bk_15 | exact bk_16 | exact zup_self | exact (zup_ne (by first | assumption | omega)).trans (by first | assumption | exact zup_self) | exact (zup_ne (by first | assumption | omega)).trans ((zup_ne (by first | assumption | omega)).trans (by first | assumption | exact zup_self))) rfl ?_
                refine zr_aload_n dX3_tell_51 (rfl : 51 + 1 = 52) rfl ?_
                refine zr_getf dX3_tell_52 (rfl : 52 + 3 = 55) f_X3_54 (by first | assumption | exact bk_0 | exact bk_1 | exact bk_2 | exact bk_3 | exact bk_4 | exact bk_5 | exact bk_6 | exact bk_7 | exact bk_8 | exact bk_9 | exact bk_10 | exact bk_11 | exact bk_12 | exact bk_13 | exact bk_14 | exact bk_15 | exact bk_16 | exact zup_self | exact (zup_ne (by first | assumption | omega)).trans (by first | assumption | exact zup_self) | exact (zup_ne (by first | assumption | omega)).trans ((zup_ne (by first | assumption | omega)).trans (by first | assumption | exact zup_self))) rfl ?_
                refine zr_iload_n dX3_tell_55 (rfl : 55 + 1 = 56) rfl ?_
                refine zr_iast dX3_tell_56 (rfl : 56 + 1 = 57) (by first | assumption | exact bk_0 | exact bk_1 | exact bk_2 | exact bk_3 | exact bk_4 | exact bk_5 | exact bk_6 | exact bk_7 | exact bk_8 | exact bk_9 | exact bk_10 | exact bk_11 | exact bk_12 | exact bk_13 | exact bk_14 | exact bk_15 | exact bk_16 | exact zup_self | exact (zup_ne (by first | assumption | omega)).trans (by first | assumption | exact zup_self) | exact (zup_ne (by first | assumption | omega)).trans ((zup_ne (by first | assumption | omega)).trans (by first | assumption | exact zup_self))) (by decide) (by first | omega | (simp only [bset, reduceIte, Nat.reduceEqDiff]; omega)) (by first | omega | (simp only [bset, reduceIte, Nat.reduceEqDiff]; omega)) rfl ?_
                rw [bku_5]
                refine zr_aload_n dX3_tell_57 (rfl : 57 + 1 = 58) rfl ?_
                refine zr_getf dX3_tell_58 (rfl : 58 + 3 = 61) f_X3_22 (by first | assumption | exact bk_0 | exact bk_1 | exact bk_2 | exact bk_3 | exact bk_4 | exact bk_5 | exact bk_6 | exact bk_7 | exact bk_8 | exact bk_9 | exact bk_10 | exact bk_11 | exact bk_12 | exact bk_13 | exact bk_14 | exact bk_15 | exact bk_16 | exact zup_self | exact (zup_ne (by first | assumption | omega)).trans (by first | assumption | exact zup_self) | exact (zup_ne (by first | assumption | omega)).trans ((zup_ne (by first | assumption | omega)).trans (by first | assumption | exact zup_self))) rfl ?_
                refine zr_aload_n dX3_tell_61 (rfl : 61 + 1 = 62) rfl ?_
                refine zr_getf dX3_tell_62 (rfl : 62 + 3 = 65) f_X3_54 (by first | assumption | exact bk_0 | exact bk_1 | exact bk_2 | exact bk_3 | exact bk_4 | exact bk_5 | exact bk_6 | exact bk_7 | exact bk_8 | exact bk_9 | exact bk_10 | exact bk_11 | exact bk_12 | exact bk_13 | exact bk_14 | exact bk_15 | exact bk_16 | exact zup_self | exact (zup_ne (by first | assumption | omega)).trans (by first | assumption | exact zup_self) | exact (zup_ne (by first | assumption | omega)).trans ((zup_ne (by first | assumption | omega)).trans (by first | assumption | exact zup_self))) rfl ?_
                refine zr_iload dX3_tell_65 (rfl : 65 + 2 = 67) rfl ?_
                refine zr_iast dX3_tell_67 (rfl : 67 + 1 = 68) (by first | assumption | exact bk_0 | exact bk_1 | exact bk_2 | exact bk_3 | exact bk_4 | exact bk_5 | exact bk_6 | exact bk_7 | exact bk_8 | exact bk_9 | exact bk_10 | exact bk_11 | exact bk_12 | exact bk_13 | exact bk_14 | exact bk_15 | exact bk_16 | exact zup_self | exact (zup_ne (by first | assumption | omega)).trans (by first | assumption | exact zup_self) | exact (zup_ne (by first | assumption | omega)).trans ((zup_ne (by first | assumption | omega)).trans (by first | assumption | exact zup_self))) (by decide) (by first | omega | (simp only [bset, reduceIte, Nat.reduceEqDiff]; omega)) (by first | omega | (simp only [bset, reduceIte, Nat.reduceEqDiff]; omega)) rfl ?_
                rw [bku_6]
                refine zr_aload_n dX3_tell_68 (rfl : 68 + 1 = 69) rfl ?_
                refine zr_dup dX3_tell_69 (rfl : 69 + 1 = 70) rfl ?_
                refine zr_getf dX3_tell_70 (rfl : 70 + 3 = 73) f_X3_54 (by first | assumption | exact bk_0 | exact bk_1 | exact bk_2 | exact bk_3 | exact bk_4 | exact bk_5 | exact bk_6 | exact bk_7 | exact bk_8 | exact bk_9 | exact bk_10 | exact bk_11 | exact bk_12 | exact bk_13 | exact bk_14 | exact bk_15 | exact bk_16 | exact zup_self | exact (zup_ne (by first | assumption | omega)).trans (by first | assumption | exact zup_self) | exact (zup_ne (by first | assumption | omega)).trans ((zup_ne (by first | assumption | omega)).trans (by first | assumption | exact zup_self))) rfl ?_
                refine zr_iconst dX3_tell_73 (rfl : 73 + 1 = 74) ?_
                refine zr_iadd dX3_tell_74 (rfl : 74 + 1 = 75) (by first | exact jI_add _ _ | rfl) ?_
                refine zr_putf (fs' := [_, _, _, _, _, _, _, _, _, _]) dX3_tell_75 (rfl : 75 + 3 = 78) f_X3_54 ft_3_8 (by first | assumption | exact bk_0 | exact bk_1 | exact bk_2 | exact bk_3 | exact bk_4 | exact bk_5 | exact bk_6 | exact bk_7 | exact bk_8 | exact bk_9 | exact bk_10 | exact bk_11 | exact bk_12 | exact bk_13 | exact bk_14 | exact bk_15 | exact bk_16 | exact zup_self | exact (zup_ne (by first | assumption | omega)).trans (by first | assumption | exact zup_self) | exact (zup_ne (by first | assumption | omega)).trans ((zup_ne (by first | assumption | omega)).trans (by first | assumption | exact zup_self))) (Nat.le_of_ble_eq_true rfl) rfl rfl rfl ?_
                rw [bku_12]
                refine zr_aload_n dX3_tell_78 (rfl : 78 + 1 = 79) rfl ?_
                refine zr_getf dX3_tell_79 (rfl : 79 + 3 = 82) f_X3_25 (by first | assumption | exact bk_0 | exact bk_1 | exact bk_2 | exact bk_3 | exact bk_4 | exact bk_5 | exact bk_6 | exact bk_7 | exact bk_8 | exact bk_9 | exact bk_10 | exact bk_11 | exact bk_12 | exact bk_13 | exact bk_14 | exact bk_15 | exact bk_16 | exact zup_self | exact (zup_ne (by first | assumption | omega)).trans (by first | assumption | exact zup_self) | exact (zup_ne (by first | assumption | omega)).trans ((zup_ne (by first | assumption | omega)).trans (by first | assumption | exact zup_self))) rfl ?_
                refine zr_iload_n dX3_tell_82 (rfl : 82 + 1 = 83) rfl ?_
                refine zr_aload_n dX3_tell_83 (rfl : 83 + 1 = 84) rfl ?_
                refine zr_getf dX3_tell_84 (rfl : 84 + 3 = 87) f_X3_54 (by first | assumption | exact bk_0 | exact bk_1 | exact bk_2 | exact bk_3 | exact bk_4 | exact bk_5 | exact bk_6 | exact bk_7 | exact bk_8 | exact bk_9 | exact bk_10 | exact bk_11 | exact bk_12 | exact bk_13 | exact bk_14 | exact bk_15 | exact bk_16 | exact zup_self | exact (zup_ne (by first | assumption | omega)).trans (by first | assumption | exact zup_self) | exact (zup_ne (by first | assumption | omega)).trans ((zup_ne (by first | assumption | omega)).trans (by first | assumption | exact zup_self))) rfl ?_
                refine zr_iast dX3_tell_87 (rfl : 87 + 1 = 88) (by first | assumption | exact bk_0 | exact bk_1 | exact bk_2 | exact bk_3 | exact bk_4 | exact bk_5 | exact bk_6 | exact bk_7 | exact bk_8 | exact bk_9 | exact bk_10 | exact bk_11 | exact bk_12 | exact bk_13 | exact bk_14 | exact bk_15 | exact bk_16 | exact zup_self | exact (zup_ne (by first | assumption | omega)).trans (by first | assumption | exact zup_self) | exact (zup_ne (by first | assumption | omega)).trans ((zup_ne (by first | assumption | omega)).trans (by first | assumption | exact zup_self))) (by decide) (by first | omega | (simp only [bset, reduceIte, Nat.reduceEqDiff]; omega)) (by first | omega | (simp only [bset, reduceIte, Nat.reduceEqDiff]; omega)) rfl ?_
                rw [bku_7]
                refine zr_aload_n dX3_tell_88 (rfl : 88 + 1 = 89) rfl ?_
                refine zr_getf dX3_tell_89 (rfl : 89 + 3 = 92) f_X3_28 (by first | assumption | exact bk_0 | exact bk_1 | exact bk_2 | exact bk_3 | exact bk_4 | exact bk_5 | exact bk_6 | exact bk_7 | exact bk_8 | exact bk_9 | exact bk_10 | exact bk_11 | exact bk_12 | exact bk_13 | exact bk_14 | exact bk_15 | exact bk_16 | exact zup_self | exact (zup_ne (by first | assumption | omega)).trans (by first | assumption | exact zup_self) | exact (zup_ne (by first | assumption | omega)).trans ((zup_ne (by first | assumption | omega)).trans (by first | assumption | exact zup_self))) rfl ?_
                refine zr_iload dX3_tell_92 (rfl : 92 + 2 = 94) rfl ?_
                refine zr_dup2 dX3_tell_94 (rfl : 94 + 1 = 95) rfl rfl ?_
                refine zr_iald dX3_tell_95 (rfl : 95 + 1 = 96) (by first | assumption | exact bk_0 | exact bk_1 | exact bk_2 | exact bk_3 | exact bk_4 | exact bk_5 | exact bk_6 | exact bk_7 | exact bk_8 | exact bk_9 | exact bk_10 | exact bk_11 | exact bk_12 | exact bk_13 | exact bk_14 | exact bk_15 | exact bk_16 | exact zup_self | exact (zup_ne (by first | assumption | omega)).trans (by first | assumption | exact zup_self) | exact (zup_ne (by first | assumption | omega)).trans ((zup_ne (by first | assumption | omega)).trans (by first | assumption | exact zup_self))) (by decide) (by first | omega | (simp only [bset, reduceIte, Nat.reduceEqDiff]; omega)) (by first | omega | (simp only [bset, reduceIte, Nat.reduceEqDiff]; omega)) ?_
                refine zr_iconst dX3_tell_96 (rfl : 96 + 1 = 97) ?_
                refine zr_iadd dX3_tell_97 (rfl : 97 + 1 = 98) (by first | exact jI_add _ _ | rfl) ?_
                refine zr_iast dX3_tell_98 (rfl : 98 + 1 = 99) (by first | assumption | exact bk_0 | exact bk_1 | exact bk_2 | exact bk_3 | exact bk_4 | exact bk_5 | exact bk_6 | exact bk_7 | exact bk_8 | exact bk_9 | exact bk_10 | exact bk_11 | exact bk_12 | exact bk_13 | exact bk_14 | exact bk_15 | exact bk_16 | exact zup_self | exact (zup_ne (by first | assumption | omega)).trans (by first | assumption | exact zup_self) | exact (zup_ne (by first | assumption | omega)).trans ((zup_ne (by first | assumption | omega)).trans (by first | assumption | exact zup_self))) (by decide) (by first | omega | (simp only [bset, reduceIte, Nat.reduceEqDiff]; omega)) (by first | omega | (simp only [bset, reduceIte, Nat.reduceEqDiff]; omega)) rfl ?_
                rw [bku_8]
                refine zr_aload_n dX3_tell_99 (rfl : 99 + 1 = 100) rfl ?_
                refine zr_dup dX3_tell_100 (rfl : 100 + 1 = 101) rfl ?_
                refine zr_getf dX3_tell_101 (rfl : 101 + 3 = 104) f_X3_57 (by first | assumption | exact bk_0 | exact bk_1 | exact bk_2 | exact bk_3 | exact bk_4 | exact bk_5 | exact bk_6 | exact bk_7 | exact bk_8 | exact bk_9 | exact bk_10 | exact bk_11 | exact bk_12 | exact bk_13 | exact bk_14 | exact bk_15 | exact bk_16 | exact zup_self | exact (zup_ne (by first | assumption | omega)).trans (by first | assumption | exact zup_self) | exact (zup_ne (by first | assumption | omega)).trans ((zup_ne (by first | assumption | omega)).trans (by first | assumption | exact zup_self))) rfl ?_
                refine zr_iload_n dX3_tell_104 (rfl : 104 + 1 = 105) rfl ?_
                refine zr_if_eq (tgt := 112) dX3_tell_105 (by decide) (rfl : 105 + 3 = 108) (by first | exact jb_iff | exact jI_z (by first | omega | (simp only [bset, reduceIte, Nat.reduceEqDiff]; omega)) (by first | omega | (simp only [bset, reduceIte, Nat.reduceEqDiff]; omega))) (fun h105 => ?_) (fun h105 => ?_)
                · first
                  | (exfalso; omega)
                  | (
                    refine zr_iconst dX3_tell_112 (rfl : 112 + 1 = 113) ?_
                    refine zr_iadd dX3_tell_113 (rfl : 113 + 1 = 114) (by first | exact jI_add _ _ | rfl) ?_
                    refine zr_putf (fs' := [_, _, _, _, _, _, _, _, _, _]) dX3_tell_114 (rfl : 114 + 3 = 117) f_X3_57 ft_3_9 (by first | assumption | exact bk_0 | exact bk_1 | exact bk_2 | exact bk_3 | exact bk_4 | exact bk_5 | exact bk_6 | exact bk_7 | exact bk_8 | exact bk_9 | exact bk_10 | exact bk_11 | exact bk_12 | exact bk_13 | exact bk_14 | exact bk_15 | exact bk_16 | exact zup_self | exact (zup_ne (by first | assumption | omega)).trans (by first | assumption | exact zup_self) | exact (zup_ne (by first | assumption | omega)).trans ((zup_ne (by first | assumption | omega)).trans (by first | assumption | exact zup_self))) (Nat.le_of_ble_eq_true rfl) rfl rfl rfl ?_
                    rw [bku_13]
                    exact zr_vret dX3_tell_117 rfl rfl rfl rfl)
                · first
                  | (exfalso; omega)
                  | (
                    refine zr_iconst dX3_tell_108 (rfl : 108 + 1 = 109) ?_
                    refine zr_goto (tgt := 113) dX3_tell_109 (by decide) ?_
                    refine zr_iadd dX3_tell_113 (rfl : 113 + 1 = 114) (by first | exact jI_add _ _ | rfl) ?_
                    refine zr_putf (fs' := [_, _, _, _, _, _, _, _, _, _]) dX3_tell_114 (rfl : 114 + 3 = 117) f_X3_57 ft_3_9 (by first | assumption | exact bk_0 | exact bk_1 | exact bk_2 | exact bk_3 | exact bk_4 | exact bk_5 | exact bk_6 | exact bk_7 | exact bk_8 | exact bk_9 | exact bk_10 | exact bk_11 | exact bk_12 | exact bk_13 | exact bk_14 | exact bk_15 | exact bk_16 | exact zup_self | exact (zup_ne (by first | assumption | omega)).trans (by first | assumption | exact zup_self) | exact (zup_ne (by first | assumption | omega)).trans ((zup_ne (by first | assumption | omega)).trans (by first | assumption | exact zup_self))) (Nat.le_of_ble_eq_true rfl) rfl rfl rfl ?_
                    rw [bku_13]
                    exact zr_vret dX3_tell_117 rfl rfl rfl rfl)))
        · first
          | (exfalso; omega)
          | (
            refine zr_aload_n dX3_tell_14 (rfl : 14 + 1 = 15) rfl ?_
            refine zr_getf dX3_tell_15 (rfl : 15 + 3 = 18) f_X3_54 (by first | assumption | exact bk_0 | exact bk_1 | exact bk_2 | exact bk_3 | exact bk_4 | exact bk_5 | exact bk_6 | exact bk_7 | exact bk_8 | exact bk_9 | exact bk_10 | exact bk_11 | exact bk_12 | exact bk_13 | exact bk_14 | exact bk_15 | exact bk_16 | exact zup_self | exact (zup_ne (by first | assumption | omega)).trans (by first | assumption | exact zup_self) | exact (zup_ne (by first | assumption | omega)).trans ((zup_ne (by first | assumption | omega)).trans (by first | assumption | exact zup_self))) rfl ?_
            refine zr_iconst dX3_tell_18 (rfl : 18 + 1 = 19) ?_
            refine zr_iadd dX3_tell_19 (rfl : 19 + 1 = 20) (by first | exact jI_add _ _ | rfl) ?_
            refine zr_iload_n dX3_tell_20 (rfl : 20 + 1 = 21) rfl ?_
            refine zr_irem dX3_tell_21 (rfl : 21 + 1 = 22) (fun q => absurd ((jI_z (by first | omega | (simp only [bset, reduceIte, Nat.reduceEqDiff]; omega)) (by first | omega | (simp only [bset, reduceIte, Nat.reduceEqDiff]; omega))).mp q) (by first | omega | (simp only [bset, reduceIte, Nat.reduceEqDiff]; omega))) (jI_rem (by first | omega | (simp only [bset, reduceIte, Nat.reduceEqDiff]; omega)) (by first | omega | (simp only [bset, reduceIte, Nat.reduceEqDiff]; omega)) (by first | omega | (simp only [bset, reduceIte, Nat.reduceEqDiff]; omega)) (by first | omega | (simp only [bset, reduceIte, Nat.reduceEqDiff]; omega))) ?_
            refine zr_if_ne (tgt := 29) dX3_tell_22 (by decide) (rfl : 22 + 3 = 25) (by first | exact jb_iff | exact jI_z (by first | omega | (simp only [bset, reduceIte, Nat.reduceEqDiff]; omega)) (by first | omega | (simp only [bset, reduceIte, Nat.reduceEqDiff]; omega))) (fun h22 => ?_) (fun h22 => ?_)
            · first
              | (exfalso; omega)
              | (
                refine zr_iconst dX3_tell_29 (rfl : 29 + 1 = 30) ?_
                refine zr_istore_n (lv' := [_, _, _, _, _]) dX3_tell_30 (rfl : 30 + 1 = 31) (Nat.le_of_ble_eq_true rfl) rfl ?_
                refine zr_iload_n dX3_tell_31 (rfl : 31 + 1 = 32) rfl ?_
                refine zr_if_eq (tgt := 44) dX3_tell_32 (by decide) (rfl : 32 + 3 = 35) (by first | exact jb_iff | exact jI_z (by first | omega | (simp only [bset, reduceIte, Nat.reduceEqDiff]; omega)) (by first | omega | (simp only [bset, reduceIte, Nat.reduceEqDiff]; omega))) (fun h32 => ?_) (fun h32 => ?_)
                · first
                  | (exfalso; omega)
                  | (
                    refine zr_iload_n dX3_tell_44 (rfl : 44 + 1 = 45) rfl ?_
                    refine zr_istore (lv' := [_, _, _, _, _]) dX3_tell_45 (rfl : 45 + 2 = 47) (Nat.le_of_ble_eq_true rfl) rfl ?_
                    refine zr_aload_n dX3_tell_47 (rfl : 47 + 1 = 48) rfl ?_
                    refine zr_getf dX3_tell_48 (rfl : 48 + 3 = 51) f_X3_18 (by first | assumption | exact bk_0 | exact bk_1 | exact bk_2 | exact bk_3 | exact bk_4 | exact bk_5 | exact bk_6 | exact bk_7 | exact bk_8 | exact bk_9 | exact bk_10 | exact bk_11 | exact bk_12 | exact bk_13 | exact bk_14 | exact bk_15 | exact bk_16 | exact zup_self | exact (zup_ne (by first | assumption | omega)).trans (by first | assumption | exact zup_self) | exact (zup_ne (by first | assumption | omega)).trans ((zup_ne (by first | assumption | omega)).trans (by first | assumption | exact zup_self))) rfl ?_
                    refine zr_aload_n dX3_tell_51 (rfl : 51 + 1 = 52) rfl ?_
                    refine zr_getf dX3_tell_52 (rfl : 52 + 3 = 55) f_X3_54 (by first | assumption | exact bk_0 | exact bk_1 | exact bk_2 | exact bk_3 | exact bk_4 | exact bk_5 | exact bk_6 | exact bk_7 | exact bk_8 | exact bk_9 | exact bk_10 | exact bk_11 | exact bk_12 | exact bk_13 | exact bk_14 | exact bk_15 | exact bk_16 | exact zup_self | exact (zup_ne (by first | assumption | omega)).trans (by first | assumption | exact zup_self) | exact (zup_ne (by first | assumption | omega)).trans ((zup_ne (by first | assumption | omega)).trans (by first | assumption | exact zup_self))) rfl ?_
                    refine zr_iload_n dX3_tell_55 (rfl : 55 + 1 = 56) rfl ?_
                    refine zr_iast dX3_tell_56 (rfl : 56 + 1 = 57) (by first | assumption | exact bk_0 | exact bk_1 | exact bk_2 | exact bk_3 | exact bk_4 | exact bk_5 | exact bk_6 | exact bk_7 | exact bk_8 | exact bk_9 | exact bk_10 | exact bk_11 | exact bk_12 | exact bk_13 | exact bk_14 | exact bk_15 | exact bk_16 | exact zup_self | exact (zup_ne (by first | assumption | omega)).trans (by first | assumption | exact zup_self) | exact (zup_ne (by first | assumption | omega)).trans ((zup_ne (by first | assumption | omega)).trans (by first | assumption | exact zup_self))) (by decide) (by first | omega | (simp only [bset, reduceIte, Nat.reduceEqDiff]; omega)) (by first | omega | (simp only [bset, reduceIte, Nat.reduceEqDiff]; omega)) rfl ?_
                    rw [bku_5]
                    refine zr_aload_n dX3_tell_57 (rfl : 57 + 1 = 58) rfl ?_
                    refine zr_getf dX3_tell_58 (rfl : 58 + 3 = 61) f_X3_22 (by first | assumption | exact bk_0 | exact bk_1 | exact bk_2 | exact bk_3 | exact bk_4 | exact bk_5 | exact bk_6 | exact bk_7 | exact bk_8 | exact bk_9 | exact bk_10 | exact bk_11 | exact bk_12 | exact bk_13 | exact bk_14 | exact bk_15 | exact bk_16 | exact zup_self | exact (zup_ne (by first | assumption | omega)).trans (by first | assumption | exact zup_self) | exact (zup_ne (by first | assumption | omega)).trans ((zup_ne (by first | assumption | omega)).trans (by first | assumption | exact zup_self))) rfl ?_
                    refine zr_aload_n dX3_tell_61 (rfl : 61 + 1 = 62) rfl ?_
                    refine zr_getf dX3_tell_62 (rfl : 62 + 3 = 65) f_X3_54 (by first | assumption | exact bk_0 | exact bk_1 | exact bk_2 | exact bk_3 | exact bk_4 | exact bk_5 | exact bk_6 | exact bk_7 | exact bk_8 | exact bk_9 | exact bk_10 | exact bk_11 | exact bk_12 | exact bk_13 | exact bk_14 | exact bk_15 | exact bk_16 | exact zup_self | exact (zup_ne (by first | assumption | omega)).trans (by first | assumption | exact zup_self) | exact (zup_ne (by first | assumption | omega)).trans ((zup_ne (by first | assumption | omega)).trans (by first | assumption | exact zup_self))) rfl ?_
                    refine zr_iload dX3_tell_65 (rfl : 65 + 2 = 67) rfl ?_
                    refine zr_iast dX3_tell_67 (rfl : 67 + 1 = 68) (by first | assumption | exact bk_0 | exact bk_1 | exact bk_2 | exact bk_3 | exact bk_4 | exact bk_5 | exact bk_6 | exact bk_7 | exact bk_8 | exact bk_9 | exact bk_10 | exact bk_11 | exact bk_12 | exact bk_13 | exact bk_14 | exact bk_15 | exact bk_16 | exact zup_self | exact (zup_ne (by first | assumption | omega)).trans (by first | assumption | exact zup_self) | exact (zup_ne (by first | assumption | omega)).trans ((zup_ne (by first | assumption | omega)).trans (by first | assumption | exact zup_self))) (by decide) (by first | omega | (simp only [bset, reduceIte, Nat.reduceEqDiff]; omega)) (by first | omega | (simp only [bset, reduceIte, Nat.reduceEqDiff]; omega)) rfl ?_
                    rw [bku_6]
                    refine zr_aload_n dX3_tell_68 (rfl : 68 + 1 = 69) rfl ?_
                    refine zr_dup dX3_tell_69 (rfl : 69 + 1 = 70) rfl ?_
                    refine zr_getf dX3_tell_70 (rfl : 70 + 3 = 73) f_X3_54 (by first | assumption | exact bk_0 | exact bk_1 | exact bk_2 | exact bk_3 | exact bk_4 | exact bk_5 | exact bk_6 | exact bk_7 | exact bk_8 | exact bk_9 | exact bk_10 | exact bk_11 | exact bk_12 | exact bk_13 | exact bk_14 | exact bk_15 | exact bk_16 | exact zup_self | exact (zup_ne (by first | assumption | omega)).trans (by first | assumption | exact zup_self) | exact (zup_ne (by first | assumption | omega)).trans ((zup_ne (by first | assumption | omega)).trans (by first | assumption | exact zup_self))) rfl ?_
                    refine zr_iconst dX3_tell_73 (rfl : 73 + 1 = 74) ?_
                    refine zr_iadd dX3_tell_74 (rfl : 74 + 1 = 75) (by first | exact jI_add _ _ | rfl) ?_
                    refine zr_putf (fs' := [_, _, _, _, _, _, _, _, _, _]) dX3_tell_75 (rfl : 75 + 3 = 78) f_X3_54 ft_3_8 (by first | assumption | exact bk_0 | exact bk_1 | exact bk_2 | exact bk_3 | exact bk_4 | exact bk_5 | exact bk_6 | exact bk_7 | exact bk_8 | exact bk_9 | exact bk_10 | exact bk_11 | exact bk_12 | exact bk_13 | exact bk_14 | exact bk_15 | exact bk_16 | exact zup_self | exact (zup_ne (by first | assumption | omega)).trans (by first | assumption | exact zup_self) | exact (zup_ne (by first | assumption | omega)).trans ((zup_ne (by first | assumption | omega)).trans (by first | assumption | exact zup_self))) (Nat.le_of_ble_eq_true rfl) rfl rfl rfl ?_
                    rw [bku_12]
                    refine zr_aload_n dX3_tell_78 (rfl : 78 + 1 = 79) rfl ?_
                    refine zr_getf dX3_tell_79 (rfl : 79 + 3 = 82) f_X3_25 (by first | assumption | exact bk_0 | exact bk_1 | exact bk_2 | exact bk_3 | exact bk_4 | exact bk_5 | exact bk_6 | exact bk_7 | exact bk_8 | exact bk_9 | exact bk_10 | exact bk_11 | exact bk_12 | exact bk_13 | exact bk_14 | exact bk_15 | exact bk_16 | exact zup_self | exact (zup_ne (by first | assumption | omega)).trans (by first | assumption | exact zup_self) | exact (zup_ne (by first | assumption | omega)).trans ((zup_ne (by first | assumption | omega)).trans (by first | assumption | exact zup_self))) rfl ?_
                    refine zr_iload_n dX3_tell_82 (rfl : 82 + 1 = 83) rfl ?_
                    refine zr_aload_n dX3_tell_83 (rfl : 83 + 1 = 84) rfl ?_
                    refine zr_getf dX3_tell_84 (rfl : 84 + 3 = 87) f_X3_54 (by first | assumption | exact bk_0 | exact bk_1 | exact bk_2 | exact bk_3 | exact bk_4 | exact bk_5 | exact bk_6 | exact bk_7 | exact bk_8 | exact bk_9 | exact bk_10 | exact bk_11 | exact bk_12 | exact bk_13 | exact bk_14 | exact bk_15 | exact bk_16 | exact zup_self | exact (zup_ne (by first | assumption | omega)).trans (by first | assumption | exact zup_self) | exact (zup_ne (by first | assumption | omega)).trans ((zup_ne (by first | assumption | omega)).trans (by first | assumption | exact zup_self))) rfl ?_
                    refine zr_iast dX3_tell_87 (rfl : 87 + 1 = 88) (by first | assumption | exact bk_0 | exact bk_1 | exact bk_2 | exact bk_3 | exact bk_4 | exact bk_5 | exact bk_6 | exact bk_7 | exact bk_8 | exact bk_9 | exact bk_10 | exact bk_11 | exact bk_12 | exact bk_13 | exact bk_14 | exact bk_15 | exact bk_16 | exact zup_self | exact (zup_ne (by first | assumption | omega)).trans (by first | assumption | exact zup_self) | exact (zup_ne (by first | assumption | omega)).trans ((zup_ne (by first | assumption | omega)).trans (by first | assumption | exact zup_self))) (by decide) (by first | omega | (simp only [bset, reduceIte, Nat.reduceEqDiff]; omega)) (by first | omega | (simp only [bset, reduceIte, Nat.reduceEqDiff]; omega)) rfl ?_
                    rw [bku_7]
                    refine zr_aload_n dX3_tell_88 (rfl : 88 + 1 = 89) rfl ?_
                    refine zr_getf dX3_tell_89 (rfl : 89 + 3 = 92) f_X3_28 (by first | assumption | exact bk_0 | exact bk_1 | exact bk_2 | exact bk_3 | exact bk_4 | exact bk_5 | exact bk_6 | exact bk_7 | exact bk_8 | exact bk_9 | exact bk_10 | exact bk_11 | exact bk_12 | exact bk_13 | exact bk_14 | exact bk_15 | exact bk_16 | exact zup_self | exact (zup_ne (by first | assumption | omega)).trans (by first | assumption | exact zup_self) | exact (zup_ne (by first | assumption | omega)).trans ((zup_ne (by first | assumption | omega)).trans (by first | assumption | exact zup_self))) rfl ?_
                    refine zr_iload dX3_tell_92 (rfl : 92 + 2 = 94) rfl ?_
                    refine zr_dup2 dX3_tell_94 (rfl : 94 + 1 = 95) rfl rfl ?_
                    refine zr_iald dX3_tell_95 (rfl : 95 + 1 = 96) (by first | assumption | exact bk_0 | exact bk_1 | exact bk_2 | exact bk_3 | exact bk_4 | exact bk_5 | exact bk_6 | exact bk_7 | exact bk_8 | exact bk_9 | exact bk_10 | exact bk_11 | exact bk_12 | exact bk_13 | exact bk_14 | exact bk_15 | exact bk_16 | exact zup_self | exact (zup_ne (by first | assumption | omega)).trans (by first | assumption | exact zup_self) | exact (zup_ne (by first | assumption | omega)).trans ((zup_ne (by first | assumption | omega)).trans (by first | assumption | exact zup_self))) (by decide) (by first | omega | (simp only [bset, reduceIte, Nat.reduceEqDiff]; omega)) (by first | omega | (simp only [bset, reduceIte, Nat.reduceEqDiff]; omega)) ?_
                    refine zr_iconst dX3_tell_96 (rfl : 96 + 1 = 97) ?_
                    refine zr_iadd dX3_tell_97 (rfl : 97 + 1 = 98) (by first | exact jI_add _ _ | rfl) ?_
                    refine zr_iast dX3_tell_98 (rfl : 98 + 1 = 99) (by first | assumption | exact bk_0 | exact bk_1 | exact bk_2 | exact bk_3 | exact bk_4 | exact bk_5 | exact bk_6 | exact bk_7 | exact bk_8 | exact bk_9 | exact bk_10 | exact bk_11 | exact bk_12 | exact bk_13 | exact bk_14 | exact bk_15 | exact bk_16 | exact zup_self | exact (zup_ne (by first | assumption | omega)).trans (by first | assumption | exact zup_self) | exact (zup_ne (by first | assumption | omega)).trans ((zup_ne (by first | assumption | omega)).trans (by first | assumption | exact zup_self))) (by decide) (by first | omega | (simp only [bset, reduceIte, Nat.reduceEqDiff]; omega)) (by first | omega | (simp only [bset, reduceIte, Nat.reduceEqDiff]; omega)) rfl ?_
                    rw [bku_8]
                    refine zr_aload_n dX3_tell_99 (rfl : 99 + 1 = 100) rfl ?_
                    refine zr_dup dX3_tell_100 (rfl : 100 + 1 = 101) rfl ?_
                    refine zr_getf dX3_tell_101 (rfl : 101 + 3 = 104) f_X3_57 (by first | assumption | exact bk_0 | exact bk_1 | exact bk_2 | exact bk_3 | exact bk_4 | exact bk_5 | exact bk_6 | exact bk_7 | exact bk_8 | exact bk_9 | exact bk_10 | exact bk_11 | exact bk_12 | exact bk_13 | exact bk_14 | exact bk_15 | exact bk_16 | exact zup_self | exact (zup_ne (by first | assumption | omega)).trans (by first | assumption | exact zup_self) | exact (zup_ne (by first | assumption | omega)).trans ((zup_ne (by first | assumption | omega)).trans (by first | assumption | exact zup_self))) rfl ?_
                    refine zr_iload_n dX3_tell_104 (rfl : 104 + 1 = 105) rfl ?_
                    refine zr_if_eq (tgt := 112) dX3_tell_105 (by decide) (rfl : 105 + 3 = 108) (by first | exact jb_iff | exact jI_z (by first | omega | (simp only [bset, reduceIte, Nat.reduceEqDiff]; omega)) (by first | omega | (simp only [bset, reduceIte, Nat.reduceEqDiff]; omega))) (fun h105 => ?_) (fun h105 => ?_)
                    · first
                      | (exfalso; omega)
                      | (
                        refine zr_iconst dX3_tell_112 (rfl : 112 + 1 = 113) ?_
                        refine zr_iadd dX3_tell_113 (rfl : 113 + 1 = 114) (by first | exact jI_add _ _ | rfl) ?_
                        refine zr_putf (fs' := [_, _, _, _, _, _, _, _, _, _]) dX3_tell_114 (rfl : 114 + 3 = 117) f_X3_57 ft_3_9 (by first | assumption | exact bk_0 | exact bk_1 | exact bk_2 | exact bk_3 | exact bk_4 | exact bk_5 | exact bk_6 | exact bk_7 | exact bk_8 | exact bk_9 | exact bk_10 | exact bk_11 | exact bk_12 | exact bk_13 | exact bk_14 | exact bk_15 | exact bk_16 | exact zup_self | exact (zup_ne (by first | assumption | omega)).trans (by first | assumption | exact zup_self) | exact (zup_ne (by first | assumption | omega)).trans ((zup_ne (by first | assumption | omega)).trans (by first | assumption | exact zup_self))) (Nat.le_of_ble_eq_true rfl) rfl rfl rfl ?_
                        rw [bku_13]
                        exact zr_vret dX3_tell_117 rfl rfl rfl rfl)
                    · first
                      | (exfalso; omega)
                      | (
                        refine zr_iconst dX3_tell_108 (rfl : 108 + 1 = 109) ?_
                        refine zr_goto (tgt := 113) dX3_tell_109 (by decide) ?_
                        refine zr_iadd dX3_tell_113 (rfl : 113 + 1 = 114) (by first | exact jI_add _ _ | rfl) ?_
                        refine zr_putf (fs' := [_, _, _, _, _, _, _, _, _, _]) dX3_tell_114 (rfl : 114 + 3 = 117) f_X3_57 ft_3_9 (by first | assumption | exact bk_0 | exact bk_1 | exact bk_2 | exact bk_3 | exact bk_4 | exact bk_5 | exact bk_6 | exact bk_7 | exact bk_8 | exact bk_9 | exact bk_10 | exact bk_11 | exact bk_12 | exact bk_13 | exact bk_14 | exact bk_15 | exact bk_16 | exact zup_self | exact (zup_ne (by first | assumption | omega)).trans (by first | assumption | exact zup_self) | exact (zup_ne (by first | assumption | omega)).trans ((zup_ne (by first | assumption | omega)).trans (by first | assumption | exact zup_self))) (Nat.le_of_ble_eq_true rfl) rfl rfl rfl ?_
                        rw [bku_13]
                        exact zr_vret dX3_tell_117 rfl rfl rfl rfl))
                · first
                  | (exfalso; omega)
                  | (
                    refine zr_iload_n dX3_tell_35 (rfl : 35 + 1 = 36) rfl ?_
                    refine zr_bipush dX3_tell_36 (rfl : 36 + 2 = 38) (by decide) ?_
                    refine zr_irem dX3_tell_38 (rfl : 38 + 1 = 39) (fun q => absurd ((jI_z (by first | omega | (simp only [bset, reduceIte, Nat.reduceEqDiff]; omega)) (by first | omega | (simp only [bset, reduceIte, Nat.reduceEqDiff]; omega))).mp q) (by first | omega | (simp only [bset, reduceIte, Nat.reduceEqDiff]; omega))) (jI_rem (by first | omega | (simp only [bset, reduceIte, Nat.reduceEqDiff]; omega)) (by first | omega | (simp only [bset, reduceIte, Nat.reduceEqDiff]; omega)) (by first | omega | (simp only [bset, reduceIte, Nat.reduceEqDiff]; omega)) (by first | omega | (simp only [bset, reduceIte, Nat.reduceEqDiff]; omega))) ?_
                    refine zr_iconst dX3_tell_39 (rfl : 39 + 1 = 40) ?_
                    refine zr_iadd dX3_tell_40 (rfl : 40 + 1 = 41) (by first | exact jI_add _ _ | rfl) ?_
                    refine zr_goto (tgt := 45) dX3_tell_41 (by decide) ?_
                    refine zr_istore (lv' := [_, _, _, _, _]) dX3_tell_45 (rfl : 45 + 2 = 47) (Nat.le_of_ble_eq_true rfl) rfl ?_
                    refine zr_aload_n dX3_tell_47 (rfl : 47 + 1 = 48) rfl ?_
                    refine zr_getf dX3_tell_48 (rfl : 48 + 3 = 51) f_X3_18 (by first | assumption | exact bk_0 | exact bk_1 | exact bk_2 | exact bk_3 | exact bk_4 | exact bk_5 | exact bk_6 | exact bk_7 | exact bk_8 | exact bk_9 | exact bk_10 | exact bk_11 | exact bk_12 | exact bk_13 | exact bk_14 | exact bk_15 | exact bk_16 | exact zup_self | exact (zup_ne (by first | assumption | omega)).trans (by first | assumption | exact zup_self) | exact (zup_ne (by first | assumption | omega)).trans ((zup_ne (by first | assumption | omega)).trans (by first | assumption | exact zup_self))) rfl ?_
                    refine zr_aload_n dX3_tell_51 (rfl : 51 + 1 = 52) rfl ?_
                    refine zr_getf dX3_tell_52 (rfl : 52 + 3 = 55) f_X3_54 (by first | assumption | exact bk_0 | exact bk_1 | exact bk_2 | exact bk_3 | exact bk_4 | exact bk_5 | exact bk_6 | exact bk_7 | exact bk_8 | exact bk_9 | exact bk_10 | exact bk_11 | exact bk_12 | exact bk_13 | exact bk_14 | exact bk_15 | exact bk_16 | exact zup_self | exact (zup_ne (by first | assumption | omega)).trans (by first | assumption | exact zup_self) | exact (zup_ne (by first | assumption | omega)).trans ((zup_ne (by first | assumption | omega)).trans (by first | assumption | exact zup_self))) rfl ?_
                    refine zr_iload_n dX3_tell_55 (rfl : 55 + 1 = 56) rfl ?_
                    refine zr_iast dX3_tell_56 (rfl : 56 + 1 = 57) (by first | assumption | exact bk_0 | exact bk_1 | exact bk_2 | exact bk_3 | exact bk_4 | exact bk_5 | exact bk_6 | exact bk_7 | exact bk_8 | exact bk_9 | exact bk_10 | exact bk_11 | exact bk_12 | exact bk_13 | exact bk_14 | exact bk_15 | exact bk_16 | exact zup_self | exact (zup_ne (by first | assumption | omega)).trans (by first | assumption | exact zup_self) | exact (zup_ne (by first | assumption | omega)).trans ((zup_ne (by first | assumption | omega)).trans (by first | assumption | exact zup_self))) (by decide) (by first | omega | (simp only [bset, reduceIte, Nat.reduceEqDiff]; omega)) (by first | omega | (simp only [bset, reduceIte, Nat.reduceEqDiff]; omega)) rfl ?_
                    rw [bku_5]
                    refine zr_aload_n dX3_tell_57 (rfl : 57 + 1 = 58) rfl ?_
                    refine zr_getf dX3_tell_58 (rfl : 58 + 3 = 61) f_X3_22 (by first | assumption | exact bk_0 | exact bk_1 | exact bk_2 | exact bk_3 | exact bk_4 | exact bk_5 | exact bk_6 | exact bk_7 | exact bk_8 | exact bk_9 | exact bk_10 | exact bk_11 | exact bk_12 | exact bk_13 | exact bk_14 | exact bk_15 | exact bk_16 | exact zup_self | exact (zup_ne (by first | assumption | omega)).trans (by first | assumption | exact zup_self) | exact (zup_ne (by first | assumption | omega)).trans ((zup_ne (by first | assumption | omega)).trans (by first | assumption | exact zup_self))) rfl ?_
                    refine zr_aload_n dX3_tell_61 (rfl : 61 + 1 = 62) rfl ?_
                    refine zr_getf dX3_tell_62 (rfl : 62 + 3 = 65) f_X3_54 (by first | assumption | exact bk_0 | exact bk_1 | exact bk_2 | exact bk_3 | exact bk_4 | exact bk_5 | exact bk_6 | exact bk_7 | exact bk_8 | exact bk_9 | exact bk_10 | exact bk_11 | exact bk_12 | exact bk_13 | exact bk_14 | exact bk_15 | exact bk_16 | exact zup_self | exact (zup_ne (by first | assumption | omega)).trans (by first | assumption | exact zup_self) | exact (zup_ne (by first | assumption | omega)).trans ((zup_ne (by first | assumption | omega)).trans (by first | assumption | exact zup_self))) rfl ?_
                    refine zr_iload dX3_tell_65 (rfl : 65 + 2 = 67) rfl ?_
                    refine zr_iast dX3_tell_67 (rfl : 67 + 1 = 68) (by first | assumption | exact bk_0 | exact bk_1 | exact bk_2 | exact bk_3 | exact bk_4 | exact bk_5 | exact bk_6 | exact bk_7 | exact bk_8 | exact bk_9 | exact bk_10 | exact bk_11 | exact bk_12 | exact bk_13 | exact bk_14 | exact bk_15 | exact bk_16 | exact zup_self | exact (zup_ne (by first | assumption | omega)).trans (by first | assumption | exact zup_self) | exact (zup_ne (by first | assumption | omega)).trans ((zup_ne (by first | assumption | omega)).trans (by first | assumption | exact zup_self))) (by decide) (by first | omega | (simp only [bset, reduceIte, Nat.reduceEqDiff]; omega)) (by first | omega | (simp only [bset, reduceIte, Nat.reduceEqDiff]; omega)) rfl ?_
                    rw [bku_6]
                    refine zr_aload_n dX3_tell_68 (rfl : 68 + 1 = 69) rfl ?_
                    refine zr_dup dX3_tell_69 (rfl : 69 + 1 = 70) rfl ?_
                    refine zr_getf dX3_tell_70 (rfl : 70 + 3 = 73) f_X3_54 (by first | assumption | exact bk_0 | exact bk_1 | exact bk_2 | exact bk_3 | exact bk_4 | exact bk_5 | exact bk_6 | exact bk_7 | exact bk_8 | exact bk_9 | exact bk_10 | exact bk_11 | exact bk_12 | exact bk_13 | exact bk_14 | exact bk_15 | exact bk_16 | exact zup_self | exact (zup_ne (by first | assumption | omega)).trans (by first | assumption | exact zup_self) | exact (zup_ne (by first | assumption | omega)).trans ((zup_ne (by first | assumption | omega)).trans (by first | assumption | exact zup_self))) rfl ?_
                    refine zr_iconst dX3_tell_73 (rfl : 73 + 1 = 74) ?_
                    refine zr_iadd dX3_tell_74 (rfl : 74 + 1 = 75) (by first | exact jI_add _ _ | rfl) ?_
                    refine zr_putf (fs' := [_, _, _, _, _, _, _, _, _, _]) dX3_tell_75 (rfl : 75 + 3 = 78) f_X3_54 ft_3_8 (by first | assumption | exact bk_0 | exact bk_1 | exact bk_2 | exact bk_3 | exact bk_4 | exact bk_5 | exact bk_6 | exact bk_7 | exact bk_8 | exact bk_9 | exact bk_10 | exact bk_11 | exact bk_12 | exact bk_13 | exact bk_14 | exact bk_15 | exact bk_16 | exact zup_self | exact (zup_ne (by first | assumption | omega)).trans (by first | assumption | exact zup_self) | exact (zup_ne (by first | assumption | omega)).trans ((zup_ne (by first | assumption | omega)).trans (by first | assumption | exact zup_self))) (Nat.le_of_ble_eq_true rfl) rfl rfl rfl ?_
                    rw [bku_12]
                    refine zr_aload_n dX3_tell_78 (rfl : 78 + 1 = 79) rfl ?_
                    refine zr_getf dX3_tell_79 (rfl : 79 + 3 = 82) f_X3_25 (by first | assumption | exact bk_0 | exact bk_1 | exact bk_2 | exact bk_3 | exact bk_4 | exact bk_5 | exact bk_6 | exact bk_7 | exact bk_8 | exact bk_9 | exact bk_10 | exact bk_11 | exact bk_12 | exact bk_13 | exact bk_14 | exact bk_15 | exact bk_16 | exact zup_self | exact (zup_ne (by first | assumption | omega)).trans (by first | assumption | exact zup_self) | exact (zup_ne (by first | assumption | omega)).trans ((zup_ne (by first | assumption | omega)).trans (by first | assumption | exact zup_self))) rfl ?_
                    refine zr_iload_n dX3_tell_82 (rfl : 82 + 1 = 83) rfl ?_
                    refine zr_aload_n dX3_tell_83 (rfl : 83 + 1 = 84) rfl ?_
                    refine zr_getf dX3_tell_84 (rfl : 84 + 3 = 87) f_X3_54 (by first | assumption | exact bk_0 | exact bk_1 | exact bk_2 | exact bk_3 | exact bk_4 | exact bk_5 | exact bk_6 | exact bk_7 | exact bk_8 | exact bk_9 | exact bk_10 | exact bk_11 | exact bk_12 | exact bk_13 | exact bk_14 | exact bk_15 | exact bk_16 | exact zup_self | exact (zup_ne (by first | assumption | omega)).trans (by first | assumption | exact zup_self) | exact (zup_ne (by first | assumption | omega)).trans ((zup_ne (by first | assumption | omega)).trans (by first | assumption | exact zup_self))) rfl ?_
                    refine zr_iast dX3_tell_87 (rfl : 87 + 1 = 88) (by first | assumption | exact bk_0 | exact bk_1 | exact bk_2 | exact bk_3 | exact bk_4 | exact bk_5 | exact bk_6 | exact bk_7 | exact bk_8 | exact bk_9 | exact bk_10 | exact bk_11 | exact bk_12 | exact bk_13 | exact bk_14 | exact bk_15 | exact bk_16 | exact zup_self | exact (zup_ne (by first | assumption | omega)).trans (by first | assumption | exact zup_self) | exact (zup_ne (by first | assumption | omega)).trans ((zup_ne (by first | assumption | omega)).trans (by first | assumption | exact zup_self))) (by decide) (by first | omega | (simp only [bset, reduceIte, Nat.reduceEqDiff]; omega)) (by first | omega | (simp only [bset, reduceIte, Nat.reduceEqDiff]; omega)) rfl ?_
                    rw [bku_7]
                    refine zr_aload_n dX3_tell_88 (rfl : 88 + 1 = 89) rfl ?_
                    refine zr_getf dX3_tell_89 (rfl : 89 + 3 = 92) f_X3_28 (by first | assumption | exact bk_0 | exact bk_1 | exact bk_2 | exact bk_3 | exact bk_4 | exact bk_5 | exact bk_6 | exact bk_7 | exact bk_8 | exact bk_9 | exact bk_10 | exact bk_11 | exact bk_12 | exact bk_13 | exact bk_14 | exact bk_15 | exact bk_16 | exact zup_self | exact (zup_ne (by first | assumption | omega)).trans (by first | assumption | exact zup_self) | exact (zup_ne (by first | assumption | omega)).trans ((zup_ne (by first | assumption | omega)).trans (by first | assumption | exact zup_self))) rfl ?_
                    refine zr_iload dX3_tell_92 (rfl : 92 + 2 = 94) rfl ?_
                    refine zr_dup2 dX3_tell_94 (rfl : 94 + 1 = 95) rfl rfl ?_
                    refine zr_iald dX3_tell_95 (rfl : 95 + 1 = 96) (by first | assumption | exact bk_0 | exact bk_1 | exact bk_2 | exact bk_3 | exact bk_4 | exact bk_5 | exact bk_6 | exact bk_7 | exact bk_8 | exact bk_9 | exact bk_10 | exact bk_11 | exact bk_12 | exact bk_13 | exact bk_14 | exact bk_15 | exact bk_16 | exact zup_self | exact (zup_ne (by first | assumption | omega)).trans (by first | assumption | exact zup_self) | exact (zup_ne (by first | assumption | omega)).trans ((zup_ne (by first | assumption | omega)).trans (by first | assumption | exact zup_self))) (by decide) (by first | omega | (simp only [bset, reduceIte, Nat.reduceEqDiff]; omega)) (by first | omega | (simp only [bset, reduceIte, Nat.reduceEqDiff]; omega)) ?_
                    refine zr_iconst dX3_tell_96 (rfl : 96 + 1 = 97) ?_
                    refine zr_iadd dX3_tell_97 (rfl : 97 + 1 = 98) (by first | exact jI_add _ _ | rfl) ?_
                    refine zr_iast dX3_tell_98 (rfl : 98 + 1 = 99) (by first | assumption | exact bk_0 | exact bk_1 | exact bk_2 | exact bk_3 | exact bk_4 | exact bk_5 | exact bk_6 | exact bk_7 | exact bk_8 | exact bk_9 | exact bk_10 | exact bk_11 | exact bk_12 | exact bk_13 | exact bk_14 | exact bk_15 | exact bk_16 | exact zup_self | exact (zup_ne (by first | assumption | omega)).trans (by first | assumption | exact zup_self) | exact (zup_ne (by first | assumption | omega)).trans ((zup_ne (by first | assumption | omega)).trans (by first | assumption | exact zup_self))) (by decide) (by first | omega | (simp only [bset, reduceIte, Nat.reduceEqDiff]; omega)) (by first | omega | (simp only [bset, reduceIte, Nat.reduceEqDiff]; omega)) rfl ?_
                    rw [bku_8]
                    refine zr_aload_n dX3_tell_99 (rfl : 99 + 1 = 100) rfl ?_
                    refine zr_dup dX3_tell_100 (rfl : 100 + 1 = 101) rfl ?_
                    refine zr_getf dX3_tell_101 (rfl : 101 + 3 = 104) f_X3_57 (by first | assumption | exact bk_0 | exact bk_1 | exact bk_2 | exact bk_3 | exact bk_4 | exact bk_5 | exact bk_6 | exact bk_7 | exact bk_8 | exact bk_9 | exact bk_10 | exact bk_11 | exact bk_12 | exact bk_13 | exact bk_14 | exact bk_15 | exact bk_16 | exact zup_self | exact (zup_ne (by first | assumption | omega)).trans (by first | assumption | exact zup_self) | exact (zup_ne (by first | assumption | omega)).trans ((zup_ne (by first | assumption | omega)).trans (by first | assumption | exact zup_self))) rfl ?_
                    refine zr_iload_n dX3_tell_104 (rfl : 104 + 1 = 105) rfl ?_
                    refine zr_if_eq (tgt := 112) dX3_tell_105 (by decide) (rfl : 105 + 3 = 108) (by first | exact jb_iff | exact jI_z (by first | omega | (simp only [bset, reduceIte, Nat.reduceEqDiff]; omega)) (by first | omega | (simp only [bset, reduceIte, Nat.reduceEqDiff]; omega))) (fun h105 => ?_) (fun h105 => ?_)
                    · first
                      | (exfalso; omega)
                      | (
                        refine zr_iconst dX3_tell_112 (rfl : 112 + 1 = 113) ?_
                        refine zr_iadd dX3_tell_113 (rfl : 113 + 1 = 114) (by first | exact jI_add _ _ | rfl) ?_
                        refine zr_putf (fs' := [_, _, _, _, _, _, _, _, _, _]) dX3_tell_114 (rfl : 114 + 3 = 117) f_X3_57 ft_3_9 (by first | assumption | exact bk_0 | exact bk_1 | exact bk_2 | exact bk_3 | exact bk_4 | exact bk_5 | exact bk_6 | exact bk_7 | exact bk_8 | exact bk_9 | exact bk_10 | exact bk_11 | exact bk_12 | exact bk_13 | exact bk_14 | exact bk_15 | exact bk_16 | exact zup_self | exact (zup_ne (by first | assumption | omega)).trans (by first | assumption | exact zup_self) | exact (zup_ne (by first | assumption | omega)).trans ((zup_ne (by first | assumption | omega)).trans (by first | assumption | exact zup_self))) (Nat.le_of_ble_eq_true rfl) rfl rfl rfl ?_
                        rw [bku_13]
                        exact zr_vret dX3_tell_117 rfl rfl rfl rfl)
                    · first
                      | (exfalso; omega)
                      | (
                        refine zr_iconst dX3_tell_108 (rfl : 108 + 1 = 109) ?_
                        refine zr_goto (tgt := 113) dX3_tell_109 (by decide) ?_
                        refine zr_iadd dX3_tell_113 (rfl : 113 + 1 = 114) (by first | exact jI_add _ _ | rfl) ?_
                        refine zr_putf (fs' := [_, _, _, _, _, _, _, _, _, _]) dX3_tell_114 (rfl : 114 + 3 = 117) f_X3_57 ft_3_9 (by first | assumption | exact bk_0 | exact bk_1 | exact bk_2 | exact bk_3 | exact bk_4 | exact bk_5 | exact bk_6 | exact bk_7 | exact bk_8 | exact bk_9 | exact bk_10 | exact bk_11 | exact bk_12 | exact bk_13 | exact bk_14 | exact bk_15 | exact bk_16 | exact zup_self | exact (zup_ne (by first | assumption | omega)).trans (by first | assumption | exact zup_self) | exact (zup_ne (by first | assumption | omega)).trans ((zup_ne (by first | assumption | omega)).trans (by first | assumption | exact zup_self))) (Nat.le_of_ble_eq_true rfl) rfl rfl rfl ?_
                        rw [bku_13]
                        exact zr_vret dX3_tell_117 rfl rfl rfl rfl)))
            · first
              | (exfalso; omega)
              | (
                refine zr_iconst dX3_tell_25 (rfl : 25 + 1 = 26) ?_
                refine zr_goto (tgt := 30) dX3_tell_26 (by decide) ?_
                refine zr_istore_n (lv' := [_, _, _, _, _]) dX3_tell_30 (rfl : 30 + 1 = 31) (Nat.le_of_ble_eq_true rfl) rfl ?_
                refine zr_iload_n dX3_tell_31 (rfl : 31 + 1 = 32) rfl ?_
                refine zr_if_eq (tgt := 44) dX3_tell_32 (by decide) (rfl : 32 + 3 = 35) (by first | exact jb_iff | exact jI_z (by first | omega | (simp only [bset, reduceIte, Nat.reduceEqDiff]; omega)) (by first | omega | (simp only [bset, reduceIte, Nat.reduceEqDiff]; omega))) (fun h32 => ?_) (fun h32 => ?_)
                · first
                  | (exfalso; omega)
                  | (
                    refine zr_iload_n dX3_tell_44 (rfl : 44 + 1 = 45) rfl ?_
                    refine zr_istore (lv' := [_, _, _, _, _]) dX3_tell_45 (rfl : 45 + 2 = 47) (Nat.le_of_ble_eq_true rfl) rfl ?_
                    refine zr_aload_n dX3_tell_47 (rfl : 47 + 1 = 48) rfl ?_
                    refine zr_getf dX3_tell_48 (rfl : 48 + 3 = 51) f_X3_18 (by first | assumption | exact bk_0 | exact bk_1 | exact bk_2 | exact bk_3 | exact bk_4 | exact bk_5 | exact bk_6 | exact bk_7 | exact bk_8 | exact bk_9 | exact bk_10 | exact bk_11 | exact bk_12 | exact bk_13 | exact bk_14 | exact bk_15 | exact bk_16 | exact zup_self | exact (zup_ne (by first | assumption | omega)).trans (by first | assumption | exact zup_self) | exact (zup_ne (by first | assumption | omega)).trans ((zup_ne (by first | assumption | omega)).trans (by first | assumption | exact zup_self))) rfl ?_
                    refine zr_aload_n dX3_tell_51 (rfl : 51 + 1 = 52) rfl ?_
                    refine zr_getf dX3_tell_52 (rfl : 52 + 3 = 55) f_X3_54 (by first | assumption | exact bk_0 | exact bk_1 | exact bk_2 | exact bk_3 | exact bk_4 | exact bk_5 | exact bk_6 | exact bk_7 | exact bk_8 | exact bk_9 | exact bk_10 | exact bk_11 | exact bk_12 | exact bk_13 | exact bk_14 | exact bk_15 | exact bk_16 | exact zup_self | exact (zup_ne (by first | assumption | omega)).trans (by first | assumption | exact zup_self) | exact (zup_ne (by first | assumption | omega)).trans ((zup_ne (by first | assumption | omega)).trans (by first | assumption | exact zup_self))) rfl ?_
                    refine zr_iload_n dX3_tell_55 (rfl : 55 + 1 = 56) rfl ?_
                    refine zr_iast dX3_tell_56 (rfl : 56 + 1 = 57) (by first | assumption | exact bk_0 | exact bk_1 | exact bk_2 | exact bk_3 | exact bk_4 | exact bk_5 | exact bk_6 | exact bk_7 | exact bk_8 | exact bk_9 | exact bk_10 | exact bk_11 | exact bk_12 | exact bk_13 | exact bk_14 | exact bk_15 | exact bk_16 | exact zup_self | exact (zup_ne (by first | assumption | omega)).trans (by first | assumption | exact zup_self) | exact (zup_ne (by first | assumption | omega)).trans ((zup_ne (by first | assumption | omega)).trans (by first | assumption | exact zup_self))) (by decide) (by first | omega | (simp only [bset, reduceIte, Nat.reduceEqDiff]; omega)) (by first | omega | (simp only [bset, reduceIte, Nat.reduceEqDiff]; omega)) rfl ?_
                    rw [bku_5]
                    refine zr_aload_n dX3_tell_57 (rfl : 57 + 1 = 58) rfl ?_
                    refine zr_getf dX3_tell_58 (rfl : 58 + 3 = 61) f_X3_22 (by first | assumption | exact bk_0 | exact bk_1 | exact bk_2 | exact bk_3 | exact bk_4 | exact bk_5 | exact bk_6 | exact bk_7 | exact bk_8 | exact bk_9 | exact bk_10 | exact bk_11 | exact bk_12 | exact bk_13 | exact bk_14 | exact bk_15 | exact bk_16 | exact zup_self | exact (zup_ne (by first | assumption | omega)).trans (by first | assumption | exact zup_self) | exact (zup_ne (by first | assumption | omega)).trans ((zup_ne (by first | assumption | omega)).trans (by first | assumption | exact zup_self))) rfl ?_
                    refine zr_aload_n dX3_tell_61 (rfl : 61 + 1 = 62) rfl ?_
                    refine zr_getf dX3_tell_62 (rfl : 62 + 3 = 65) f_X3_54 (by first | assumption | exact bk_0 | exact bk_1 | exact bk_2 | exact bk_3 | exact bk_4 | exact bk_5 | exact bk_6 | exact bk_7 | exact bk_8 | exact bk_9 | exact bk_10 | exact bk_11 | exact bk_12 | exact bk_13 | exact bk_14 | exact bk_15 | exact bk_16 | exact zup_self | exact (zup_ne (by first | assumption | omega)).trans (by first | assumption | exact zup_self) | exact (zup_ne (by first | assumption | omega)).trans ((zup_ne (by first | assumption | omega)).trans (by first | assumption | exact zup_self))) rfl ?_
                    refine zr_iload dX3_tell_65 (rfl : 65 + 2 = 67) rfl ?_
                    refine zr_iast dX3_tell_67 (rfl : 67 + 1 = 68) (by first | assumption | exact bk_0 | exact bk_1 | exact bk_2 | exact bk_3 | exact bk_4 | exact bk_5 | exact bk_6 | exact bk_7 | exact bk_8 | exact bk_9 | exact bk_10 | exact bk_11 | exact bk_12 | exact bk_13 | exact bk_14 | exact bk_15 | exact bk_16 | exact zup_self | exact (zup_ne (by first | assumption | omega)).trans (by first | assumption | exact zup_self) | exact (zup_ne (by first | assumption | omega)).trans ((zup_ne (by first | assumption | omega)).trans (by first | assumption | exact zup_self))) (by decide) (by first | omega | (simp only [bset, reduceIte, Nat.reduceEqDiff]; omega)) (by first | omega | (simp only [bset, reduceIte, Nat.reduceEqDiff]; omega)) rfl ?_
                    rw [bku_6]
                    refine zr_aload_n dX3_tell_68 (rfl : 68 + 1 = 69) rfl ?_
                    refine zr_dup dX3_tell_69 (rfl : 69 + 1 = 70) rfl ?_
                    refine zr_getf dX3_tell_70 (rfl : 70 + 3 = 73) f_X3_54 (by first | assumption | exact bk_0 | exact bk_1 | exact bk_2 | exact bk_3 | exact bk_4 | exact bk_5 | exact bk_6 | exact bk_7 | exact bk_8 | exact bk_9 | exact bk_10 | exact bk_11 | exact bk_12 | exact bk_13 | exact bk_14 | exact bk_15 | exact bk_16 | exact zup_self | exact (zup_ne (by first | assumption | omega)).trans (by first | assumption | exact zup_self) | exact (zup_ne (by first | assumption | omega)).trans ((zup_ne (by first | assumption | omega)).trans (by first | assumption | exact zup_self))) rfl ?_
                    refine zr_iconst dX3_tell_73 (rfl : 73 + 1 = 74) ?_
                    refine zr_iadd dX3_tell_74 (rfl : 74 + 1 = 75) (by first | exact jI_add _ _ | rfl) ?_
                    refine zr_putf (fs' := [_, _, _, _, _, _, _, _, _, _]) dX3_tell_75 (rfl : 75 + 3 = 78) f_X3_54 ft_3_8 (by first | assumption | exact bk_0 | exact bk_1 | exact bk_2 | exact bk_3 | exact bk_4 | exact bk_5 | exact bk_6 | exact bk_7 | exact bk_8 | exact bk_9 | exact bk_10 | exact bk_11 | exact bk_12 | exact bk_13 | exact bk_14 | exact bk_15 | exact bk_16 | exact zup_self | exact (zup_ne (by first | assumption | omega)).trans (by first | assumption | exact zup_self) | exact (zup_ne (by first | assumption | omega)).trans ((zup_ne (by first | assumption | omega)).trans (by first | assumption | exact zup_self))) (Nat.le_of_ble_eq_true rfl) rfl rfl rfl ?_
                    rw [bku_12]
                    refine zr_aload_n dX3_tell_78 (rfl : 78 + 1 = 79) rfl ?_
                    refine zr_getf dX3_tell_79 (rfl : 79 + 3 = 82) f_X3_25 (by first | assumption | exact bk_0 | exact bk_1 | exact bk_2 | exact bk_3 | exact bk_4 | exact bk_5 | exact bk_6 | exact bk_7 | exact bk_8 | exact bk_9 | exact bk_10 | exact bk_11 | exact bk_12 | exact bk_13 | exact bk_14 | exact bk_15 | exact bk_16 | exact zup_self | exact (zup_ne (by first | assumption | omega)).trans (by first | assumption | exact zup_self) | exact (zup_ne (by first | assumption | omega)).trans ((zup_ne (by first | assumption | omega)).trans (by first | assumption | exact zup_self))) rfl ?_
                    refine zr_iload_n dX3_tell_82 (rfl : 82 + 1 = 83) rfl ?_
                    refine zr_aload_n dX3_tell_83 (rfl : 83 + 1 = 84) rfl ?_
                    refine zr_getf dX3_tell_84 (rfl : 84 + 3 = 87) f_X3_54 (by first | assumption | exact bk_0 | exact bk_1 | exact bk_2 | exact bk_3 | exact bk_4 | exact bk_5 | exact bk_6 | exact bk_7 | exact bk_8 | exact bk_9 | exact bk_10 | exact bk_11 | exact bk_12 | exact bk_13 | exact bk_14 | exact bk_15 | exact bk_16 | exact zup_self | exact (zup_ne (by first | assumption | omega)).trans (by first | assumption | exact zup_self) | exact (zup_ne (by first | assumption | omega)).trans ((zup_ne (by first | assumption | omega)).trans (by first | assumption | exact zup_self))) rfl ?_
                    refine zr_iast dX3_tell_87 (rfl : 87 + 1 = 88) (by first | assumption | exact bk_0 | exact bk_1 | exact bk_2 | exact bk_3 | exact bk_4 | exact bk_5 | exact bk_6 | exact bk_7 | exact bk_8 | exact bk_9 | exact bk_10 | exact bk_11 | exact bk_12 | exact bk_13 | exact bk_14 | exact bk_15 | exact bk_16 | exact zup_self | exact (zup_ne (by first | assumption | omega)).trans (by first | assumption | exact zup_self) | exact (zup_ne (by first | assumption | omega)).trans ((zup_ne (by first | assumption | omega)).trans (by first | assumption | exact zup_self))) (by decide) (by first | omega | (simp only [bset, reduceIte, Nat.reduceEqDiff]; omega)) (by first | omega | (simp only [bset, reduceIte, Nat.reduceEqDiff]; omega)) rfl ?_
                    rw [bku_7]
                    refine zr_aload_n dX3_tell_88 (rfl : 88 + 1 = 89) rfl ?_
                    refine zr_getf dX3_tell_89 (rfl : 89 + 3 = 92) f_X3_28 (by first | assumption | exact bk_0 | exact bk_1 | exact bk_2 | exact bk_3 | exact bk_4 | exact bk_5 | exact bk_6 | exact bk_7 | exact bk_8 | exact bk_9 | exact bk_10 | exact bk_11 | exact bk_12 | exact bk_13 | exact bk_14 | exact bk_15 | exact bk_16 | exact zup_self | exact (zup_ne (by first | assumption | omega)).trans (by first | assumption | exact zup_self) | exact (zup_ne (by first | assumption | omega)).trans ((zup_ne (by first | assumption | omega)).trans (by first | assumption | exact zup_self))) rfl ?_
                    refine zr_iload dX3_tell_92 (rfl : 92 + 2 = 94) rfl ?_
                    refine zr_dup2 dX3_tell_94 (rfl : 94 + 1 = 95) rfl rfl ?_
                    refine zr_iald dX3_tell_95 (rfl : 95 + 1 = 96) (by first | assumption | exact bk_0 | exact bk_1 | exact bk_2 | exact bk_3 | exact bk_4 | exact bk_5 | exact bk_6 | exact bk_7 | exact bk_8 | exact bk_9 | exact bk_10 | exact bk_11 | exact bk_12 | exact bk_13 | exact bk_14 | exact bk_15 | exact bk_16 | exact zup_self | exact (zup_ne (by first | assumption | omega)).trans (by first | assumption | exact zup_self) | exact (zup_ne (by first | assumption | omega)).trans ((zup_ne (by first | assumption | omega)).trans (by first | assumption | exact zup_self))) (by decide) (by first | omega | (simp only [bset, reduceIte, Nat.reduceEqDiff]; omega)) (by first | omega | (simp only [bset, reduceIte, Nat.reduceEqDiff]; omega)) ?_
                    refine zr_iconst dX3_tell_96 (rfl : 96 + 1 = 97) ?_
                    refine zr_iadd dX3_tell_97 (rfl : 97 + 1 = 98) (by first | exact jI_add _ _ | rfl) ?_
                    refine zr_iast dX3_tell_98 (rfl : 98 + 1 = 99) (by first | assumption | exact bk_0 | exact bk_1 | exact bk_2 | exact bk_3 | exact bk_4 | exact bk_5 | exact bk_6 | exact bk_7 | exact bk_8 | exact bk_9 | exact bk_10 | exact bk_11 | exact bk_12 | exact bk_13 | exact bk_14 | exact bk_15 | exact bk_16 | exact zup_self | exact (zup_ne (by first | assumption | omega)).trans (by first | assumption | exact zup_self) | exact (zup_ne (by first | assumption | omega)).trans ((zup_ne (by first | assumption | omega)).trans (by first | assumption | exact zup_self))) (by decide) (by first | omega | (simp only [bset, reduceIte, Nat.reduceEqDiff]; omega)) (by first | omega | (simp only [bset, reduceIte, Nat.reduceEqDiff]; omega)) rfl ?_
                    rw [bku_8]
                    refine zr_aload_n dX3_tell_99 (rfl : 99 + 1 = 100) rfl ?_
                    refine zr_dup dX3_tell_100 (rfl : 100 + 1 = 101) rfl ?_
                    refine zr_getf dX3_tell_101 (rfl : 101 + 3 = 104) f_X3_57 (by first | assumption | exact bk_0 | exact bk_1 | exact bk_2 | exact bk_3 | exact bk_4 | exact bk_5 | exact bk_6 | exact bk_7 | exact bk_8 | exact bk_9 | exact bk_10 | exact bk_11 | exact bk_12 | exact bk_13 | exact bk_14 | exact bk_15 | exact bk_16 | exact zup_self | exact (zup_ne (by first | assumption | omega)).trans (by first | assumption | exact zup_self) | exact (zup_ne (by first | assumption | omega)).trans ((zup_ne (by first | assumption | omega)).trans (by first | assumption | exact zup_self))) rfl ?_
                    refine zr_iload_n dX3_tell_104 (rfl : 104 + 1 = 105) rfl ?_
                    refine zr_if_eq (tgt := 112) dX3_tell_105 (by decide) (rfl : 105 + 3 = 108) (by first | exact jb_iff | exact jI_z (by first | omega | (simp only [bset, reduceIte, Nat.reduceEqDiff]; omega)) (by first | omega | (simp only [bset, reduceIte, Nat.reduceEqDiff]; omega))) (fun h105 => ?_) (fun h105 => ?_)
                    · first
                      | (exfalso; omega)
                      | (
                        refine zr_iconst dX3_tell_112 (rfl : 112 + 1 = 113) ?_
                        refine zr_iadd dX3_tell_113 (rfl : 113 + 1 = 114) (by first | exact jI_add _ _ | rfl) ?_
                        refine zr_putf (fs' := [_, _, _, _, _, _, _, _, _, _]) dX3_tell_114 (rfl : 114 + 3 = 117) f_X3_57 ft_3_9 (by first | assumption | exact bk_0 | exact bk_1 | exact bk_2 | exact bk_3 | exact bk_4 | exact bk_5 | exact bk_6 | exact bk_7 | exact bk_8 | exact bk_9 | exact bk_10 | exact bk_11 | exact bk_12 | exact bk_13 | exact bk_14 | exact bk_15 | exact bk_16 | exact zup_self | exact (zup_ne (by first | assumption | omega)).trans (by first | assumption | exact zup_self) | exact (zup_ne (by first | assumption | omega)).trans ((zup_ne (by first | assumption | omega)).trans (by first | assumption | exact zup_self))) (Nat.le_of_ble_eq_true rfl) rfl rfl rfl ?_
                        rw [bku_13]
                        exact zr_vret dX3_tell_117 rfl rfl rfl rfl)
                    · first
                      | (exfalso; omega)
                      | (
                        refine zr_iconst dX3_tell_108 (rfl : 108 + 1 = 109) ?_
                        refine zr_goto (tgt := 113) dX3_tell_109 (by decide) ?_
                        refine zr_iadd dX3_tell_113 (rfl : 113 + 1 = 114) (by first | exact jI_add _ _ | rfl) ?_
                        refine zr_putf (fs' := [_, _, _, _, _, _, _, _, _, _]) dX3_tell_114 (rfl : 114 + 3 = 117) f_X3_57 ft_3_9 (by first | assumption | exact bk_0 | exact bk_1 | exact bk_2 | exact bk_3 | exact bk_4 | exact bk_5 | exact bk_6 | exact bk_7 | exact bk_8 | exact bk_9 | exact bk_10 | exact bk_11 | exact bk_12 | exact bk_13 | exact bk_14 | exact bk_15 | exact bk_16 | exact zup_self | exact (zup_ne (by first | assumption | omega)).trans (by first | assumption | exact zup_self) | exact (zup_ne (by first | assumption | omega)).trans ((zup_ne (by first | assumption | omega)).trans (by first | assumption | exact zup_self))) (Nat.le_of_ble_eq_true rfl) rfl rfl rfl ?_
                        rw [bku_13]
                        exact zr_vret dX3_tell_117 rfl rfl rfl rfl))
                · first
                  | (exfalso; omega)
                  | (
                    refine zr_iload_n dX3_tell_35 (rfl : 35 + 1 = 36) rfl ?_
                    refine zr_bipush dX3_tell_36 (rfl : 36 + 2 = 38) (by decide) ?_
                    refine zr_irem dX3_tell_38 (rfl : 38 + 1 = 39) (fun q => absurd ((jI_z (by first | omega | (simp only [bset, reduceIte, Nat.reduceEqDiff]; omega)) (by first | omega | (simp only [bset, reduceIte, Nat.reduceEqDiff]; omega))).mp q) (by first | omega | (simp only [bset, reduceIte, Nat.reduceEqDiff]; omega))) (jI_rem (by first | omega | (simp only [bset, reduceIte, Nat.reduceEqDiff]; omega)) (by first | omega | (simp only [bset, reduceIte, Nat.reduceEqDiff]; omega)) (by first | omega | (simp only [bset, reduceIte, Nat.reduceEqDiff]; omega)) (by first | omega | (simp only [bset, reduceIte, Nat.reduceEqDiff]; omega))) ?_
                    refine zr_iconst dX3_tell_39 (rfl : 39 + 1 = 40) ?_
                    refine zr_iadd dX3_tell_40 (rfl : 40 + 1 = 41) (by first | exact jI_add _ _ | rfl) ?_
                    refine zr_goto (tgt := 45) dX3_tell_41 (by decide) ?_
                    refine zr_istore (lv' := [_, _, _, _, _]) dX3_tell_45 (rfl : 45 + 2 = 47) (Nat.le_of_ble_eq_true rfl) rfl ?_
                    refine zr_aload_n dX3_tell_47 (rfl : 47 + 1 = 48) rfl ?_
                    refine zr_getf dX3_tell_48 (rfl : 48 + 3 = 51) f_X3_18 (by first | assumption | exact bk_0 | exact bk_1 | exact bk_2 | exact bk_3 | exact bk_4 | exact bk_5 | exact bk_6 | exact bk_7 | exact bk_8 | exact bk_9 | exact bk_10 | exact bk_11 | exact bk_12 | exact bk_13 | exact bk_14 | exact bk_15 | exact bk_16 | exact zup_self | exact (zup_ne (by first | assumption | omega)).trans (by first | assumption | exact zup_self) | exact (zup_ne (by first | assumption | omega)).trans ((zup_ne (by first | assumption | omega)).trans (by first | assumption | exact zup_self))) rfl ?_
                    refine zr_aload_n dX3_tell_51 (rfl : 51 + 1 = 52) rfl ?_
                    refine zr_getf dX3_tell_52 (rfl : 52 + 3 = 55) f_X3_54 (by first | assumption | exact bk_0 | exact bk_1 | exact bk_2 | exact bk_3 | exact bk_4 | exact bk_5 | exact bk_6 | exact bk_7 | exact bk_8 | exact bk_9 | exact bk_10 | exact bk_11 | exact bk_12 | exact bk_13 | exact bk_14 | exact bk_15 | exact bk_16 | exact zup_self | exact (zup_ne (by first | assumption | omega)).trans (by first | assumption | exact zup_self) | exact (zup_ne (by first | assumption | omega)).trans ((zup_ne (by first | assumption | omega)).trans (by first | assumption | exact zup_self))) rfl ?_
                    refine zr_iload_n dX3_tell_55 (rfl : 55 + 1 = 56) rfl ?_
                    refine zr_iast dX3_tell_56 (rfl : 56 + 1 = 57) (by first | assumption | exact bk_0 | exact bk_1 | exact bk_2 | exact bk_3 | exact bk_4 | exact bk_5 | exact bk_6 | exact bk_7 | exact bk_8 | exact bk_9 | exact bk_10 | exact bk_11 | exact bk_12 | exact bk_13 | exact bk_14 | exact bk_15 | exact bk_16 | exact zup_self | exact (zup_ne (by first | assumption | omega)).trans (by first | assumption | exact zup_self) | exact (zup_ne (by first | assumption | omega)).trans ((zup_ne (by first | assumption | omega)).trans (by first | assumption | exact zup_self))) (by decide) (by first | omega | (simp only [bset, reduceIte, Nat.reduceEqDiff]; omega)) (by first | omega | (simp only [bset, reduceIte, Nat.reduceEqDiff]; omega)) rfl ?_
                    rw [bku_5]
                    refine zr_aload_n dX3_tell_57 (rfl : 57 + 1 = 58) rfl ?_
                    refine zr_getf dX3_tell_58 (rfl : 58 + 3 = 61) f_X3_22 (by first | assumption | exact bk_0 | exact bk_1 | exact bk_2 | exact bk_3 | exact bk_4 | exact bk_5 | exact bk_6 | exact bk_7 | exact bk_8 | exact bk_9 | exact bk_10 | exact bk_11 | exact bk_12 | exact bk_13 | exact bk_14 | exact bk_15 | exact bk_16 | exact zup_self | exact (zup_ne (by first | assumption | omega)).trans (by first | assumption | exact zup_self) | exact (zup_ne (by first | assumption | omega)).trans ((zup_ne (by first | assumption | omega)).trans (by first | assumption | exact zup_self))) rfl ?_
                    refine zr_aload_n dX3_tell_61 (rfl : 61 + 1 = 62) rfl ?_
                    refine zr_getf dX3_tell_62 (rfl : 62 + 3 = 65) f_X3_54 (by first | assumption | exact bk_0 | exact bk_1 | exact bk_2 | exact bk_3 | exact bk_4 | exact bk_5 | exact bk_6 | exact bk_7 | exact bk_8 | exact bk_9 | exact bk_10 | exact bk_11 | exact bk_12 | exact bk_13 | exact bk_14 | exact bk_15 | exact bk_16 | exact zup_self | exact (zup_ne (by first | assumption | omega)).trans (by first | assumption | exact zup_self) | exact (zup_ne (by first | assumption | omega)).trans ((zup_ne (by first | assumption | omega)).trans (by first | assumption | exact zup_self))) rfl ?_
                    refine zr_iload dX3_tell_65 (rfl : 65 + 2 = 67) rfl ?_
                    refine zr_iast dX3_tell_67 (rfl : 67 + 1 = 68) (by first | assumption | exact bk_0 | exact bk_1 | exact bk_2 | exact bk_3 | exact bk_4 | exact bk_5 | exact bk_6 | exact bk_7 | exact bk_8 | exact bk_9 | exact bk_10 | exact bk_11 | exact bk_12 | exact bk_13 | exact bk_14 | exact bk_15 | exact bk_16 | exact zup_self | exact (zup_ne (by first | assumption | omega)).trans (by first | assumption | exact zup_self) | exact (zup_ne (by first | assumption | omega)).trans ((zup_ne (by first | assumption | omega)).trans (by first | assumption | exact zup_self))) (by decide) (by first | omega | (simp only [bset, reduceIte, Nat.reduceEqDiff]; omega)) (by first | omega | (simp only [bset, reduceIte, Nat.reduceEqDiff]; omega)) rfl ?_
                    rw [bku_6]
                    refine zr_aload_n dX3_tell_68 (rfl : 68 + 1 = 69) rfl ?_
                    refine zr_dup dX3_tell_69 (rfl : 69 + 1 = 70) rfl ?_
                    refine zr_getf dX3_tell_70 (rfl : 70 + 3 = 73) f_X3_54 (by first | assumption | exact bk_0 | exact bk_1 | exact bk_2 | exact bk_3 | exact bk_4 | exact bk_5 | exact bk_6 | exact bk_7 | exact bk_8 | exact bk_9 | exact bk_10 | exact bk_11 | exact bk_12 | exact bk_13 | exact bk_14 | exact bk_15 | exact bk_16 | exact zup_self | exact (zup_ne (by first | assumption | omega)).trans (by first | assumption | exact zup_self) | exact (zup_ne (by first | assumption | omega)).trans ((zup_ne (by first | assumption | omega)).trans (by first | assumption | exact zup_self))) rfl ?_
                    refine zr_iconst dX3_tell_73 (rfl : 73 + 1 = 74) ?_
                    refine zr_iadd dX3_tell_74 (rfl : 74 + 1 = 75) (by first | exact jI_add _ _ | rfl) ?_
                    refine zr_putf (fs' := [_, _, _, _, _, _, _, _, _, _]) dX3_tell_75 (rfl : 75 + 3 = 78) f_X3_54 ft_3_8 (by first | assumption | exact bk_0 | exact bk_1 | exact bk_2 | exact bk_3 | exact bk_4 | exact bk_5 | exact bk_6 | exact bk_7 | exact bk_8 | exact bk_9 | exact bk_10 | exact bk_11 | exact bk_12 | exact bk_13 | exact bk_14 | exact bk_15 | exact bk_16 | exact zup_self | exact (zup_ne (by first | assumption | omega)).trans (by first | assumption | exact zup_self) | exact (zup_ne (by first | assumption | omega)).trans ((zup_ne (by first | assumption | omega)).trans (by first | assumption | exact zup_self))) (Nat.le_of_ble_eq_true rfl) rfl rfl rfl ?_
                    rw [bku_12]
                    refine zr_aload_n dX3_tell_78 (rfl : 78 + 1 = 79) rfl ?_
                    refine zr_getf dX3_tell_79 (rfl : 79 + 3 = 82) f_X3_25 (by first | assumption | exact bk_0 | exact bk_1 | exact bk_2 | exact bk_3 | exact bk_4 | exact bk_5 | exact bk_6 | exact bk_7 | exact bk_8 | exact bk_9 | exact bk_10 | exact bk_11 | exact bk_12 | exact bk_13 | exact bk_14 | exact bk_15 | exact bk_16 | exact zup_self | exact (zup_ne (by first | assumption | omega)).trans (by first | assumption | exact zup_self) | exact (zup_ne (by first | assumption | omega)).trans ((zup_ne (by first | assumption | omega)).trans (by first | assumption | exact zup_self))) rfl ?_
                    refine zr_iload_n dX3_tell_82 (rfl : 82 + 1 = 83) rfl ?_
                    refine zr_aload_n dX3_tell_83 (rfl : 83 + 1 = 84) rfl ?_
                    refine zr_getf dX3_tell_84 (rfl : 84 + 3 = 87) f_X3_54 (by first | assumption | exact bk_0 | exact bk_1 | exact bk_2 | exact bk_3 | exact bk_4 | exact bk_5 | exact bk_6 | exact bk_7 | exact bk_8 | exact bk_9 | exact bk_10 | exact bk_11 | exact bk_12 | exact bk_13 | exact bk_14 | exact bk_15 | exact bk_16 | exact zup_self | exact (zup_ne (by first | assumption | omega)).trans (by first | assumption | exact zup_self) | exact (zup_ne (by first | assumption | omega)).trans ((zup_ne (by first | assumption | omega)).trans (by first | assumption | exact zup_self))) rfl ?_
                    refine zr_iast dX3_tell_87 (rfl : 87 + 1 = 88) (by first | assumption | exact bk_0 | exact bk_1 | exact bk_2 | exact bk_3 | exact bk_4 | exact bk_5 | exact bk_6 | exact bk_7 | exact bk_8 | exact bk_9 | exact bk_10 | exact bk_11 | exact bk_12 | exact bk_13 | exact bk_14 | exact bk_15 | exact bk_16 | exact zup_self | exact (zup_ne (by first | assumption | omega)).trans (by first | assumption | exact zup_self) | exact (zup_ne (by first | assumption | omega)).trans ((zup_ne (by first | assumption | omega)).trans (by first | assumption | exact zup_self))) (by decide) (by first | omega | (simp only [bset, reduceIte, Nat.reduceEqDiff]; omega)) (by first | omega | (simp only [bset, reduceIte, Nat.reduceEqDiff]; omega)) rfl ?_
                    rw [bku_7]
                    refine zr_aload_n dX3_tell_88 (rfl : 88 + 1 = 89) rfl ?_
                    refine zr_getf dX3_tell_89 (rfl : 89 + 3 = 92) f_X3_28 (by first | assumption | exact bk_0 | exact bk_1 | exact bk_2 | exact bk_3 | exact bk_4 | exact bk_5 | exact bk_6 | exact bk_7 | exact bk_8 | exact bk_9 | exact bk_10 | exact bk_11 | exact bk_12 | exact bk_13 | exact bk_14 | exact bk_15 | exact bk_16 | exact zup_self | exact (zup_ne (by first | assumption | omega)).trans (by first | assumption | exact zup_self) | exact (zup_ne (by first | assumption | omega)).trans ((zup_ne (by first | assumption | omega)).trans (by first | assumption | exact zup_self))) rfl ?_
                    refine zr_iload dX3_tell_92 (rfl : 92 + 2 = 94) rfl ?_
                    refine zr_dup2 dX3_tell_94 (rfl : 94 + 1 = 95) rfl rfl ?_
                    refine zr_iald dX3_tell_95 (rfl : 95 + 1 = 96) (by first | assumption | exact bk_0 | exact bk_1 | exact bk_2 | exact bk_3 | exact bk_4 | exact bk_5 | exact bk_6 | exact bk_7 | exact bk_8 | exact bk_9 | exact bk_10 | exact bk_11 | exact bk_12 | exact bk_13 | exact bk_14 | exact bk_15 | exact bk_16 | exact zup_self | exact (zup_ne (by first | assumption | omega)).trans (by first | assumption | exact zup_self) | exact (zup_ne (by first | assumption | omega)).trans ((zup_ne (by first | assumption | omega)).trans (by first | assumption | exact zup_self))) (by decide) (by first | omega | (simp only [bset, reduceIte, Nat.reduceEqDiff]; omega)) (by first | omega | (simp only [bset, reduceIte, Nat.reduceEqDiff]; omega)) ?_
                    refine zr_iconst dX3_tell_96 (rfl : 96 + 1 = 97) ?_
                    refine zr_iadd dX3_tell_97 (rfl : 97 + 1 = 98) (by first | exact jI_add _ _ | rfl) ?_
                    refine zr_iast dX3_tell_98 (rfl : 98 + 1 = 99) (by first | assumption | exact bk_0 | exact bk_1 | exact bk_2 | exact bk_3 | exact bk_4 | exact bk_5 | exact bk_6 | exact bk_7 | exact bk_8 | exact bk_9 | exact bk_10 | exact bk_11 | exact bk_12 | exact bk_13 | exact bk_14 | exact bk_15 | exact bk_16 | exact zup_self | exact (zup_ne (by first | assumption | omega)).trans (by first | assumption | exact zup_self) | exact (zup_ne (by first | assumption | omega)).trans ((zup_ne (by first | assumption | omega)).trans (by first | assumption | exact zup_self))) (by decide) (by first | omega | (simp only [bset, reduceIte, Nat.reduceEqDiff]; omega)) (by first | omega | (simp only [bset, reduceIte, Nat.reduceEqDiff]; omega)) rfl ?_
                    rw [bku_8]
                    refine zr_aload_n dX3_tell_99 (rfl : 99 + 1 = 100) rfl ?_
                    refine zr_dup dX3_tell_100 (rfl : 100 + 1 = 101) rfl ?_
                    refine zr_getf dX3_tell_101 (rfl : 101 + 3 = 104) f_X3_57 (by first | assumption | exact bk_0 | exact bk_1 | exact bk_2 | exact bk_3 | exact bk_4 | exact bk_5 | exact bk_6 | exact bk_7 | exact bk_8 | exact bk_9 | exact bk_10 | exact bk_11 | exact bk_12 | exact bk_13 | exact bk_14 | exact bk_15 | exact bk_16 | exact zup_self | exact (zup_ne (by first | assumption | omega)).trans (by first | assumption | exact zup_self) | exact (zup_ne (by first | assumption | omega)).trans ((zup_ne (by first | assumption | omega)).trans (by first | assumption | exact zup_self))) rfl ?_
                    refine zr_iload_n dX3_tell_104 (rfl : 104 + 1 = 105) rfl ?_
                    refine zr_if_eq (tgt := 112) dX3_tell_105 (by decide) (rfl : 105 + 3 = 108) (by first | exact jb_iff | exact jI_z (by first | omega | (simp only [bset, reduceIte, Nat.reduceEqDiff]; omega)) (by first | omega | (simp only [bset, reduceIte, Nat.reduceEqDiff]; omega))) (fun h105 => ?_) (fun h105 => ?_)
                    · first
                      | (exfalso; omega)
                      | (
                        refine zr_iconst dX3_tell_112 (rfl : 112 + 1 = 113) ?_
                        refine zr_iadd dX3_tell_113 (rfl : 113 + 1 = 114) (by first | exact jI_add _ _ | rfl) ?_
                        refine zr_putf (fs' := [_, _, _, _, _, _, _, _, _, _]) dX3_tell_114 (rfl : 114 + 3 = 117) f_X3_57 ft_3_9 (by first | assumption | exact bk_0 | exact bk_1 | exact bk_2 | exact bk_3 | exact bk_4 | exact bk_5 | exact bk_6 | exact bk_7 | exact bk_8 | exact bk_9 | exact bk_10 | exact bk_11 | exact bk_12 | exact bk_13 | exact bk_14 | exact bk_15 | exact bk_16 | exact zup_self | exact (zup_ne (by first | assumption | omega)).trans (by first | assumption | exact zup_self) | exact (zup_ne (by first | assumption | omega)).trans ((zup_ne (by first | assumption | omega)).trans (by first | assumption | exact zup_self))) (Nat.le_of_ble_eq_true rfl) rfl rfl rfl ?_
                        rw [bku_13]
                        exact zr_vret dX3_tell_117 rfl rfl rfl rfl)
                    · first
                      | (exfalso; omega)
                      | (
                        refine zr_iconst dX3_tell_108 (rfl : 108 + 1 = 109) ?_
                        refine zr_goto (tgt := 113) dX3_tell_109 (by decide) ?_
                        refine zr_iadd dX3_tell_113 (rfl : 113 + 1 = 114) (by first | exact jI_add _ _ | rfl) ?_
                        refine zr_putf (fs' := [_, _, _, _, _, _, _, _, _, _]) dX3_tell_114 (rfl : 114 + 3 = 117) f_X3_57 ft_3_9 (by first | assumption | exact bk_0 | exact bk_1 | exact bk_2 | exact bk_3 | exact bk_4 | exact bk_5 | exact bk_6 | exact bk_7 | exact bk_8 | exact bk_9 | exact bk_10 | exact bk_11 | exact bk_12 | exact bk_13 | exact bk_14 | exact bk_15 | exact bk_16 | exact zup_self | exact (zup_ne (by first | assumption | omega)).trans (by first | assumption | exact zup_self) | exact (zup_ne (by first | assumption | omega)).trans ((zup_ne (by first | assumption | omega)).trans (by first | assumption | exact zup_self))) (Nat.le_of_ble_eq_true rfl) rfl rfl rfl ?_
                        rw [bku_13]
                        exact zr_vret dX3_tell_117 rfl rfl rfl rfl)))))
    · first
      | (exfalso; omega)
      | (
        exact zr_vret dX3_tell_9 rfl rfl rfl rfl)
theorem s_tell1 (n e : Int) (hn : 1 ≤ n ∧ n ≤ 90) (he : 0 ≤ e ∧ e < 100) (hc : 0 ≤ B 12 0 ∧ B 12 0 < 90) (hs : jslip B e) : zFn Γ md_X3_tell d [.ref (b + 4), .int (jI n), .int (jI e)] (bk b B w) none (bk b (jtl B n (n % 90 + 1) 1) w) := by
  unfold jslip at hs
  refine zFn.of_run (lv := [some (.ref (b + 4)), some (.int (jI n)), some (.int (jI e)), none, none]) (by decide) rfl (Nat.le_of_ble_eq_true rfl) rfl (fun n9 g9 => ?_)
  have hm : 0 ≤ (B 12 0 + 1) % e ∧ (B 12 0 + 1) % e < e := ⟨Int.emod_nonneg _ (by omega), Int.emod_lt_of_pos _ hs.1⟩
  refine zr_aload_n dX3_tell_0 (rfl : 0 + 1 = 1) rfl ?_
  refine zr_getf dX3_tell_1 (rfl : 1 + 3 = 4) f_X3_54 (by first | assumption | exact bk_0 | exact bk_1 | exact bk_2 | exact bk_3 | exact bk_4 | exact bk_5 | exact bk_6 | exact bk_7 | exact bk_8 | exact bk_9 | exact bk_10 | exact bk_11 | exact bk_12 | exact bk_13 | exact bk_14 | exact bk_15 | exact bk_16 | exact zup_self | exact (zup_ne (by first | assumption | omega)).trans (by first | assumption | exact zup_self) | exact (zup_ne (by first | assumption | omega)).trans ((zup_ne (by first | assumption | omega)).trans (by first | assumption | exact zup_self))) rfl ?_
  refine zr_bipush dX3_tell_4 (rfl : 4 + 2 = 6) (by decide) ?_
  refine zr_icmp_lt (tgt := 10) dX3_tell_6 (by decide) (rfl : 6 + 3 = 9) (jI_lt (by first | omega | (simp only [bset, reduceIte, Nat.reduceEqDiff]; omega)) (by first | omega | (simp only [bset, reduceIte, Nat.reduceEqDiff]; omega)) (by first | omega | (simp only [bset, reduceIte, Nat.reduceEqDiff]; omega)) (by first | omega | (simp only [bset, reduceIte, Nat.reduceEqDiff]; omega))) (fun h6 => ?_) (fun h6 => ?_)
  · first
    | (exfalso; omega)
    | (
      refine zr_iload_n dX3_tell_10 (rfl : 10 + 1 = 11) rfl ?_
      refine zr_if_le (tgt := 29) dX3_tell_11 (by decide) (rfl : 11 + 3 = 14) (jI_lez (by first | omega | (simp only [bset, reduceIte, Nat.reduceEqDiff]; omega)) (by first | omega | (simp only [bset, reduceIte, Nat.reduceEqDiff]; omega))) (fun h11 => ?_) (fun h11 => ?_)
      · first
        | (exfalso; omega)
        | (
          refine zr_iconst dX3_tell_29 (rfl : 29 + 1 = 30) ?_
          refine zr_istore_n (lv' := [_, _, _, _, _]) dX3_tell_30 (rfl : 30 + 1 = 31) (Nat.le_of_ble_eq_true rfl) rfl ?_
          refine zr_iload_n dX3_tell_31 (rfl : 31 + 1 = 32) rfl ?_
          refine zr_if_eq (tgt := 44) dX3_tell_32 (by decide) (rfl : 32 + 3 = 35) (by first | exact jb_iff | exact jI_z (by first | omega | (simp only [bset, reduceIte, Nat.reduceEqDiff]; omega)) (by first | omega | (simp only [bset, reduceIte, Nat.reduceEqDiff]; omega))) (fun h32 => ?_) (fun h32 => ?_)
          · first
            | (exfalso; omega)
            | (
              refine zr_iload_n dX3_tell_44 (rfl : 44 + 1 = 45) rfl ?_
              refine zr_istore (lv' := [_, _, _, _, _]) dX3_tell_45 (rfl : 45 + 2 = 47) (Nat.le_of_ble_eq_true rfl) rfl ?_
              refine zr_aload_n dX3_tell_47 (rfl : 47 + 1 = 48) rfl ?_
              refine zr_getf dX3_tell_48 (rfl : 48 + 3 = 51) f_X3_18 (by first | assumption | exact bk_0 | exact bk_1 | exact bk_2 | exact bk_3 | exact bk_4 | exact bk_5 | exact bk_6 | exact bk_7 | exact bk_8 | exact bk_9 | exact bk_10 | exact bk_11 | exact bk_12 | exact bk_13 | exact bk_14 | exact bk_15 | exact bk_16 | exact zup_self | exact (zup_ne (by first | assumption | omega)).trans (by first | assumption | exact zup_self) | exact (zup_ne (by first | assumption | omega)).trans ((zup_ne (by first | assumption | omega)).trans (by first | assumption | exact zup_self))) rfl ?_
              refine zr_aload_n dX3_tell_51 (rfl : 51 + 1 = 52) rfl ?_
              refine zr_getf dX3_tell_52 (rfl : 52 + 3 = 55) f_X3_54 (by first | assumption | exact bk_0 | exact bk_1 | exact bk_2 | exact bk_3 | exact bk_4 | exact bk_5 | exact bk_6 | exact bk_7 | exact bk_8 | exact bk_9 | exact bk_10 | exact bk_11 | exact bk_12 | exact bk_13 | exact bk_14 | exact bk_15 | exact bk_16 | exact zup_self | exact (zup_ne (by first | assumption | omega)).trans (by first | assumption | exact zup_self) | exact (zup_ne (by first | assumption | omega)).trans ((zup_ne (by first | assumption | omega)).trans (by first | assumption | exact zup_self))) rfl ?_
              refine zr_iload_n dX3_tell_55 (rfl : 55 + 1 = 56) rfl ?_
              refine zr_iast dX3_tell_56 (rfl : 56 + 1 = 57) (by first | assumption | exact bk_0 | exact bk_1 | exact bk_2 | exact bk_3 | exact bk_4 | exact bk_5 | exact bk_6 | exact bk_7 | exact bk_8 | exact bk_9 | exact bk_10 | exact bk_11 | exact bk_12 | exact bk_13 | exact bk_14 | exact bk_15 | exact bk_16 | exact zup_self | exact (zup_ne (by first | assumption | omega)).trans (by first | assumption | exact zup_self) | exact (zup_ne (by first | assumption | omega)).trans ((zup_ne (by first | assumption | omega)).trans (by first | assumption | exact zup_self))) (by decide) (by first | omega | (simp only [bset, reduceIte, Nat.reduceEqDiff]; omega)) (by first | omega | (simp only [bset, reduceIte, Nat.reduceEqDiff]; omega)) rfl ?_
              rw [bku_5]
              refine zr_aload_n dX3_tell_57 (rfl : 57 + 1 = 58) rfl ?_
              refine zr_getf dX3_tell_58 (rfl : 58 + 3 = 61) f_X3_22 (by first | assumption | exact bk_0 | exact bk_1 | exact bk_2 | exact bk_3 | exact bk_4 | exact bk_5 | exact bk_6 | exact bk_7 | exact bk_8 | exact bk_9 | exact bk_10 | exact bk_11 | exact bk_12 | exact bk_13 | exact bk_14 | exact bk_15 | exact bk_16 | exact zup_self | exact (zup_ne (by first | assumption | omega)).trans (by first | assumption | exact zup_self) | exact (zup_ne (by first | assumption | omega)).trans ((zup_ne (by first | assumption | omega)).trans (by first | assumption | exact zup_self))) rfl ?_
              refine zr_aload_n dX3_tell_61 (rfl : 61 + 1 = 62) rfl ?_
              refine zr_getf dX3_tell_62 (rfl : 62 + 3 = 65) f_X3_54 (by first | assumption | exact bk_0 | exact bk_1 | exact bk_2 | exact bk_3 | exact bk_4 | exact bk_5 | exact bk_6 | exact bk_7 | exact bk_8 | exact bk_9 | exact bk_10 | exact bk_11 | exact bk_12 | exact bk_13 | exact bk_14 | exact bk_15 | exact bk_16 | exact zup_self | exact (zup_ne (by first | assumption | omega)).trans (by first | assumption | exact zup_self) | exact (zup_ne (by first | assumption | omega)).trans ((zup_ne (by first | assumption | omega)).trans (by first | assumption | exact zup_self))) rfl ?_
              refine zr_iload dX3_tell_65 (rfl : 65 + 2 = 67) rfl ?_
              refine zr_iast dX3_tell_67 (rfl : 67 + 1 = 68) (by first | assumption | exact bk_0 | exact bk_1 | exact bk_2 | exact bk_3 | exact bk_4 | exact bk_5 | exact bk_6 | exact bk_7 | exact bk_8 | exact bk_9 | exact bk_10 | exact bk_11 | exact bk_12 | exact bk_13 | exact bk_14 | exact bk_15 | exact bk_16 | exact zup_self | exact (zup_ne (by first | assumption | omega)).trans (by first | assumption | exact zup_self) | exact (zup_ne (by first | assumption | omega)).trans ((zup_ne (by first | assumption | omega)).trans (by first | assumption | exact zup_self))) (by decide) (by first | omega | (simp only [bset, reduceIte, Nat.reduceEqDiff]; omega)) (by first | omega | (simp only [bset, reduceIte, Nat.reduceEqDiff]; omega)) rfl ?_
              rw [bku_6]
              refine zr_aload_n dX3_tell_68 (rfl : 68 + 1 = 69) rfl ?_
              refine zr_dup dX3_tell_69 (rfl : 69 + 1 = 70) rfl ?_
              refine zr_getf dX3_tell_70 (rfl : 70 + 3 = 73) f_X3_54 (by first | assumption | exact bk_0 | exact bk_1 | exact bk_2 | exact bk_3 | exact bk_4 | exact bk_5 | exact bk_6 | exact bk_7 | exact bk_8 | exact bk_9 | exact bk_10 | exact bk_11 | exact bk_12 | exact bk_13 | exact bk_14 | exact bk_15 | exact bk_16 | exact zup_self | exact (zup_ne (by first | assumption | omega)).trans (by first | assumption | exact zup_self) | exact (zup_ne (by first | assumption | omega)).trans ((zup_ne (by first | assumption | omega)).trans (by first | assumption | exact zup_self))) rfl ?_
              refine zr_iconst dX3_tell_73 (rfl : 73 + 1 = 74) ?_
              refine zr_iadd dX3_tell_74 (rfl : 74 + 1 = 75) (by first | exact jI_add _ _ | rfl) ?_
              refine zr_putf (fs' := [_, _, _, _, _, _, _, _, _, _]) dX3_tell_75 (rfl : 75 + 3 = 78) f_X3_54 ft_3_8 (by first | assumption | exact bk_0 | exact bk_1 | exact bk_2 | exact bk_3 | exact bk_4 | exact bk_5 | exact bk_6 | exact bk_7 | exact bk_8 | exact bk_9 | exact bk_10 | exact bk_11 | exact bk_12 | exact bk_13 | exact bk_14 | exact bk_15 | exact bk_16 | exact zup_self | exact (zup_ne (by first | assumption | omega)).trans (by first | assumption | exact zup_self) | exact (zup_ne (by first | assumption | omega)).trans ((zup_ne (by first | assumption | omega)).trans (by first | assumption | exact zup_self))) (Nat.le_of_ble_eq_true rfl) rfl rfl rfl ?_
              rw [bku_12]
              refine zr_aload_n dX3_tell_78 (rfl : 78 + 1 = 79) rfl ?_
              refine zr_getf dX3_tell_79 (rfl : 79 + 3 = 82) f_X3_25 (by first | assumption | exact bk_0 | exact bk_1 | exact bk_2 | exact bk_3 | exact bk_4 | exact bk_5 | exact bk_6 | exact bk_7 | exact bk_8 | exact bk_9 | exact bk_10 | exact bk_11 | exact bk_12 | exact bk_13 | exact bk_14 | exact bk_15 | exact bk_16 | exact zup_self | exact (zup_ne (by first | assumption | omega)).trans (by first | assumption | exact zup_self) | exact (zup_ne (by first | assumption | omega)).trans ((zup_ne (by first | assumption | omega)).trans (by first | assumption | exact zup_self))) rfl ?_
              refine zr_iload_n dX3_tell_82 (rfl : 82 + 1 = 83) rfl ?_
              refine zr_aload_n dX3_tell_83 (rfl : 83 + 1 = 84) rfl ?_
              refine zr_getf dX3_tell_84 (rfl : 84 + 3 = 87) f_X3_54 (by first | assumption | exact bk_0 | exact bk_1 | exact bk_2 | exact bk_3 | exact bk_4 | exact bk_5 | exact bk_6 | exact bk_7 | exact bk_8 | exact bk_9 | exact bk_10 | exact bk_11 | exact bk_12 | exact bk_13 | exact bk_14 | exact bk_15 | exact bk_16 | exact zup_self | exact (zup_ne (by first | assumption | omega)).trans (by first | assumption | exact zup_self) | exact (zup_ne (by first | assumption | omega)).trans ((zup_ne (by first | assumption | omega)).trans (by first | assumption | exact zup_self))) rfl ?_
              refine zr_iast dX3_tell_87 (rfl : 87 + 1 = 88) (by first | assumption | exact bk_0 | exact bk_1 | exact bk_2 | exact bk_3 | exact bk_4 | exact bk_5 | exact bk_6 | exact bk_7 | exact bk_8 | exact bk_9 | exact bk_10 | exact bk_11 | exact bk_12 | exact bk_13 | exact bk_14 | exact bk_15 | exact bk_16 | exact zup_self | exact (zup_ne (by first | assumption | omega)).trans (by first | assumption | exact zup_self) | exact (zup_ne (by first | assumption | omega)).trans ((zup_ne (by first | assumption | omega)).trans (by first | assumption | exact zup_self))) (by decide) (by first | omega | (simp only [bset, reduceIte, Nat.reduceEqDiff]; omega)) (by first | omega | (simp only [bset, reduceIte, Nat.reduceEqDiff]; omega)) rfl ?_
              rw [bku_7]
              refine zr_aload_n dX3_tell_88 (rfl : 88 + 1 = 89) rfl ?_
              refine zr_getf dX3_tell_89 (rfl : 89 + 3 = 92) f_X3_28 (by first | assumption | exact bk_0 | exact bk_1 | exact bk_2 | exact bk_3 | exact bk_4 | exact bk_5 | exact bk_6 | exact bk_7 | exact bk_8 | exact bk_9 | exact bk_10 | exact bk_11 | exact bk_12 | exact bk_13 | exact bk_14 | exact bk_15 | exact bk_16 | exact zup_self | exact (zup_ne (by first | assumption | omega)).trans (by first | assumption | exact zup_self) | exact (zup_ne (by first | assumption | omega)).trans ((zup_ne (by first | assumption | omega)).trans (by first | assumption | exact zup_self))) rfl ?_
              refine zr_iload dX3_tell_92 (rfl : 92 + 2 = 94) rfl ?_
              refine zr_dup2 dX3_tell_94 (rfl : 94 + 1 = 95) rfl rfl ?_
              refine zr_iald dX3_tell_95 (rfl : 95 + 1 = 96) (by first | assumption | exact bk_0 | exact bk_1 | exact bk_2 | exact bk_3 | exact bk_4 | exact bk_5 | exact bk_6 | exact bk_7 | exact bk_8 | exact bk_9 | exact bk_10 | exact bk_11 | exact bk_12 | exact bk_13 | exact bk_14 | exact bk_15 | exact bk_16 | exact zup_self | exact (zup_ne (by first | assumption | omega)).trans (by first | assumption | exact zup_self) | exact (zup_ne (by first | assumption | omega)).trans ((zup_ne (by first | assumption | omega)).trans (by first | assumption | exact zup_self))) (by decide) (by first | omega | (simp only [bset, reduceIte, Nat.reduceEqDiff]; omega)) (by first | omega | (simp only [bset, reduceIte, Nat.reduceEqDiff]; omega)) ?_
              refine zr_iconst dX3_tell_96 (rfl : 96 + 1 = 97) ?_
              refine zr_iadd dX3_tell_97 (rfl : 97 + 1 = 98) (by first | exact jI_add _ _ | rfl) ?_
              refine zr_iast dX3_tell_98 (rfl : 98 + 1 = 99) (by first | assumption | exact bk_0 | exact bk_1 | exact bk_2 | exact bk_3 | exact bk_4 | exact bk_5 | exact bk_6 | exact bk_7 | exact bk_8 | exact bk_9 | exact bk_10 | exact bk_11 | exact bk_12 | exact bk_13 | exact bk_14 | exact bk_15 | exact bk_16 | exact zup_self | exact (zup_ne (by first | assumption | omega)).trans (by first | assumption | exact zup_self) | exact (zup_ne (by first | assumption | omega)).trans ((zup_ne (by first | assumption | omega)).trans (by first | assumption | exact zup_self))) (by decide) (by first | omega | (simp only [bset, reduceIte, Nat.reduceEqDiff]; omega)) (by first | omega | (simp only [bset, reduceIte, Nat.reduceEqDiff]; omega)) rfl ?_
              rw [bku_8]
              refine zr_aload_n dX3_tell_99 (rfl : 99 + 1 = 100) rfl ?_
              refine zr_dup dX3_tell_100 (rfl : 100 + 1 = 101) rfl ?_
              refine zr_getf dX3_tell_101 (rfl : 101 + 3 = 104) f_X3_57 (by first | assumption | exact bk_0 | exact bk_1 | exact bk_2 | exact bk_3 | exact bk_4 | exact bk_5 | exact bk_6 | exact bk_7 | exact bk_8 | exact bk_9 | exact bk_10 | exact bk_11 | exact bk_12 | exact bk_13 | exact bk_14 | exact bk_15 | exact bk_16 | exact zup_self | exact (zup_ne (by first | assumption | omega)).trans (by first | assumption | exact zup_self) | exact (zup_ne (by first | assumption | omega)).trans ((zup_ne (by first | assumption | omega)).trans (by first | assumption | exact zup_self))) rfl ?_
              refine zr_iload_n dX3_tell_104 (rfl : 104 + 1 = 105) rfl ?_
              refine zr_if_eq (tgt := 112) dX3_tell_105 (by decide) (rfl : 105 + 3 = 108) (by first | exact jb_iff | exact jI_z (by first | omega | (simp only [bset, reduceIte, Nat.reduceEqDiff]; omega)) (by first | omega | (simp only [bset, reduceIte, Nat.reduceEqDiff]; omega))) (fun h105 => ?_) (fun h105 => ?_)
              · first
                | (exfalso; omega)
                | (
                  refine zr_iconst dX3_tell_112 (rfl : 112 + 1 = 113) ?_
                  refine zr_iadd dX3_tell_113 (rfl : 113 + 1 = 114) (by first | exact jI_add _ _ | rfl) ?_
                  refine zr_putf (fs' := [_, _, _, _, _, _, _, _, _, _]) dX3_tell_114 (rfl : 114 + 3 = 117) f_X3_57 ft_3_9 (by first | assumption | exact bk_0 | exact bk_1 | exact bk_2 | exact bk_3 | exact bk_4 | exact bk_5 | exact bk_6 | exact bk_7 | exact bk_8 | exact bk_9 | exact bk_10 | exact bk_11 | exact bk_12 | exact bk_13 | exact bk_14 | exact bk_15 | exact bk_16 | exact zup_self | exact (zup_ne (by first | assumption | omega)).trans (by first | assumption | exact zup_self) | exact (zup_ne (by first | assumption | omega)).trans ((zup_ne (by first | assumption | omega)).trans (by first | assumption | exact zup_self))) (Nat.le_of_ble_eq_true rfl) rfl rfl rfl ?_
                  rw [bku_13]
                  exact zr_vret dX3_tell_117 rfl rfl rfl rfl)
              · first
                | (exfalso; omega)
                | (
                  refine zr_iconst dX3_tell_108 (rfl : 108 + 1 = 109) ?_
                  refine zr_goto (tgt := 113) dX3_tell_109 (by decide) ?_
                  refine zr_iadd dX3_tell_113 (rfl : 113 + 1 = 114) (by first | exact jI_add _ _ | rfl) ?_
                  refine zr_putf (fs' := [_, _, _, _, _, _, _, _, _, _]) dX3_tell_114 (rfl : 114 + 3 = 117) f_X3_57 ft_3_9 (by first | assumption | exact bk_0 | exact bk_1 | exact bk_2 | exact bk_3 | exact bk_4 | exact bk_5 | exact bk_6 | exact bk_7 | exact bk_8 | exact bk_9 | exact bk_10 | exact bk_11 | exact bk_12 | exact bk_13 | exact bk_14 | exact bk_15 | exact bk_16 | exact zup_self | exact (zup_ne (by first | assumption | omega)).trans (by first | assumption | exact zup_self) | exact (zup_ne (by first | assumption | omega)).trans ((zup_ne (by first | assumption | omega)).trans (by first | assumption | exact zup_self))) (Nat.le_of_ble_eq_true rfl) rfl rfl rfl ?_
                  rw [bku_13]
                  exact zr_vret dX3_tell_117 rfl rfl rfl rfl))
          · first
            | (exfalso; omega)
            | (
              refine zr_iload_n dX3_tell_35 (rfl : 35 + 1 = 36) rfl ?_
              refine zr_bipush dX3_tell_36 (rfl : 36 + 2 = 38) (by decide) ?_
              refine zr_irem dX3_tell_38 (rfl : 38 + 1 = 39) (fun q => absurd ((jI_z (by first | omega | (simp only [bset, reduceIte, Nat.reduceEqDiff]; omega)) (by first | omega | (simp only [bset, reduceIte, Nat.reduceEqDiff]; omega))).mp q) (by first | omega | (simp only [bset, reduceIte, Nat.reduceEqDiff]; omega))) (jI_rem (by first | omega | (simp only [bset, reduceIte, Nat.reduceEqDiff]; omega)) (by first | omega | (simp only [bset, reduceIte, Nat.reduceEqDiff]; omega)) (by first | omega | (simp only [bset, reduceIte, Nat.reduceEqDiff]; omega)) (by first | omega | (simp only [bset, reduceIte, Nat.reduceEqDiff]; omega))) ?_
              refine zr_iconst dX3_tell_39 (rfl : 39 + 1 = 40) ?_
              refine zr_iadd dX3_tell_40 (rfl : 40 + 1 = 41) (by first | exact jI_add _ _ | rfl) ?_
              refine zr_goto (tgt := 45) dX3_tell_41 (by decide) ?_
              refine zr_istore (lv' := [_, _, _, _, _]) dX3_tell_45 (rfl : 45 + 2 = 47) (Nat.le_of_ble_eq_true rfl) rfl ?_
              refine zr_aload_n dX3_tell_47 (rfl : 47 + 1 = 48) rfl ?_
              refine zr_getf dX3_tell_48 (rfl : 48 + 3 = 51) f_X3_18 (by first | assumption | exact bk_0 | exact bk_1 | exact bk_2 | exact bk_3 | exact bk_4 | exact bk_5 | exact bk_6 | exact bk_7 | exact bk_8 | exact bk_9 | exact bk_10 | exact bk_11 | exact bk_12 | exact bk_13 | exact bk_14 | exact bk_15 | exact bk_16 | exact zup_self | exact (zup_ne (by first | assumption | omega)).trans (by first | assumption | exact zup_self) | exact (zup_ne (by first | assumption | omega)).trans ((zup_ne (by first | assumption | omega)).trans (by first | assumption | exact zup_self))) rfl ?_
              refine zr_aload_n dX3_tell_51 (rfl : 51 + 1 = 52) rfl ?_
              refine zr_getf dX3_tell_52 (rfl : 52 + 3 = 55) f_X3_54 (by first | assumption | exact bk_0 | exact bk_1 | exact bk_2 | exact bk_3 | exact bk_4 | exact bk_5 | exact bk_6 | exact bk_7 | exact bk_8 | exact bk_9 | exact bk_10 | exact bk_11 | exact bk_12 | exact bk_13 | exact bk_14 | exact bk_15 | exact bk_16 | exact zup_self | exact (zup_ne (by first | assumption | omega)).trans (by first | assumption | exact zup_self) | exact (zup_ne (by first | assumption | omega)).trans ((zup_ne (by first | assumption | omega)).trans (by first | assumption | exact zup_self))) rfl ?_
              refine zr_iload_n dX3_tell_55 (rfl : 55 + 1 = 56) rfl ?_
              refine zr_iast dX3_tell_56 (rfl : 56 + 1 = 57) (by first | assumption | exact bk_0 | exact bk_1 | exact bk_2 | exact bk_3 | exact bk_4 | exact bk_5 | exact bk_6 | exact bk_7 | exact bk_8 | exact bk_9 | exact bk_10 | exact bk_11 | exact bk_12 | exact bk_13 | exact bk_14 | exact bk_15 | exact bk_16 | exact zup_self | exact (zup_ne (by first | assumption | omega)).trans (by first | assumption | exact zup_self) | exact (zup_ne (by first | assumption | omega)).trans ((zup_ne (by first | assumption | omega)).trans (by first | assumption | exact zup_self))) (by decide) (by first | omega | (simp only [bset, reduceIte, Nat.reduceEqDiff]; omega)) (by first | omega | (simp only [bset, reduceIte, Nat.reduceEqDiff]; omega)) rfl ?_
              rw [bku_5]
              refine zr_aload_n dX3_tell_57 (rfl : 57 + 1 = 58) rfl ?_
              refine zr_getf dX3_tell_58 (rfl : 58 + 3 = 61) f_X3_22 (by first | assumption | exact bk_0 | exact bk_1 | exact bk_2 | exact bk_3 | exact bk_4 | exact bk_5 | exact bk_6 | exact bk_7 | exact bk_8 | exact bk_9 | exact bk_10 | exact bk_11 | exact bk_12 | exact bk_13 | exact bk_14 | exact bk_15 | exact bk_16 | exact zup_self | exact (zup_ne (by first | assumption | omega)).trans (by first | assumption | exact zup_self) | exact (zup_ne (by first | assumption | omega)).trans ((zup_ne (by first | assumption | omega)).trans (by first | assumption | exact zup_self))) rfl ?_
              refine zr_aload_n dX3_tell_61 (rfl : 61 + 1 = 62) rfl ?_
              refine zr_getf dX3_tell_62 (rfl : 62 + 3 = 65) f_X3_54 (by first | assumption | exact bk_0 | exact bk_1 | exact bk_2 | exact bk_3 | exact bk_4 | exact bk_5 | exact bk_6 | exact bk_7 | exact bk_8 | exact bk_9 | exact bk_10 | exact bk_11 | exact bk_12 | exact bk_13 | exact bk_14 | exact bk_15 | exact bk_16 | exact zup_self | exact (zup_ne (by first | assumption | omega)).trans (by first | assumption | exact zup_self) | exact (zup_ne (by first | assumption | omega)).trans ((zup_ne (by first | assumption | omega)).trans (by first | assumption | exact zup_self))) rfl ?_
              refine zr_iload dX3_tell_65 (rfl : 65 + 2 = 67) rfl ?_
              refine zr_iast dX3_tell_67 (rfl : 67 + 1 = 68) (by first | assumption | exact bk_0 | exact bk_1 | exact bk_2 | exact bk_3 | exact bk_4 | exact bk_5 | exact bk_6 | exact bk_7 | exact bk_8 | exact bk_9 | exact bk_10 | exact bk_11 | exact bk_12 | exact bk_13 | exact bk_14 | exact bk_15 | exact bk_16 | exact zup_self | exact (zup_ne (by first | assumption | omega)).trans (by first | assumption | exact zup_self) | exact (zup_ne (by first | assumption | omega)).trans ((zup_ne (by first | assumption | omega)).trans (by first | assumption | exact zup_self))) (by decide) (by first | omega | (simp only [bset, reduceIte, Nat.reduceEqDiff]; omega)) (by first | omega | (simp only [bset, reduceIte, Nat.reduceEqDiff]; omega)) rfl ?_
              rw [bku_6]
              refine zr_aload_n dX3_tell_68 (rfl : 68 + 1 = 69) rfl ?_
              refine zr_dup dX3_tell_69 (rfl : 69 + 1 = 70) rfl ?_
              refine zr_getf dX3_tell_70 (rfl : 70 + 3 = 73) f_X3_54 (by first | assumption | exact bk_0 | exact bk_1 | exact bk_2 | exact bk_3 | exact bk_4 | exact bk_5 | exact bk_6 | exact bk_7 | exact bk_8 | exact bk_9 | exact bk_10 | exact bk_11 | exact bk_12 | exact bk_13 | exact bk_14 | exact bk_15 | exact bk_16 | exact zup_self | exact (zup_ne (by first | assumption | omega)).trans (by first | assumption | exact zup_self) | exact (zup_ne (by first | assumption | omega)).trans ((zup_ne (by first | assumption | omega)).trans (by first | assumption | exact zup_self))) rfl ?_
              refine zr_iconst dX3_tell_73 (rfl : 73 + 1 = 74) ?_
              refine zr_iadd dX3_tell_74 (rfl : 74 + 1 = 75) (by first | exact jI_add _ _ | rfl) ?_
              refine zr_putf (fs' := [_, _, _, _, _, _, _, _, _, _]) dX3_tell_75 (rfl : 75 + 3 = 78) f_X3_54 ft_3_8 (by first | assumption | exact bk_0 | exact bk_1 | exact bk_2 | exact bk_3 | exact bk_4 | exact bk_5 | exact bk_6 | exact bk_7 | exact bk_8 | exact bk_9 | exact bk_10 | exact bk_11 | exact bk_12 | exact bk_13 | exact bk_14 | exact bk_15 | exact bk_16 | exact zup_self | exact (zup_ne (by first | assumption | omega)).trans (by first | assumption | exact zup_self) | exact (zup_ne (by first | assumption | omega)).trans ((zup_ne (by first | assumption | omega)).trans (by first | assumption | exact zup_self))) (Nat.le_of_ble_eq_true rfl) rfl rfl rfl ?_
              rw [bku_12]
              refine zr_aload_n dX3_tell_78 (rfl : 78 + 1 = 79) rfl ?_
              refine zr_getf dX3_tell_79 (rfl : 79 + 3 = 82) f_X3_25 (by first | assumption | exact bk_0 | exact bk_1 | exact bk_2 | exact bk_3 | exact bk_4 | exact bk_5 | exact bk_6 | exact bk_7 | exact bk_8 | exact bk_9 | exact bk_10 | exact bk_11 | exact bk_12 | exact bk_13 | exact bk_14 | exact bk_15 | exact bk_16 | exact zup_self | exact (zup_ne (by first | assumption | omega)).trans (by first | assumption | exact zup_self) | exact (zup_ne (by first | assumption | omega)).trans ((zup_ne (by first | assumption | omega)).trans (by first | assumption | exact zup_self))) rfl ?_
              refine zr_iload_n dX3_tell_82 (rfl : 82 + 1 = 83) rfl ?_
              refine zr_aload_n dX3_tell_83 (rfl : 83 + 1 = 84) rfl ?_
              refine zr_getf dX3_tell_84 (rfl : 84 + 3 = 87) f_X3_54 (by first | assumption | exact bk_0 | exact bk_1 | exact bk_2 | exact bk_3 | exact bk_4 | exact bk_5 | exact bk_6 | exact bk_7 | exact bk_8 | exact bk_9 | exact bk_10 | exact bk_11 | exact bk_12 | exact bk_13 | exact bk_14 | exact bk_15 | exact bk_16 | exact zup_self | exact (zup_ne (by first | assumption | omega)).trans (by first | assumption | exact zup_self) | exact (zup_ne (by first | assumption | omega)).trans ((zup_ne (by first | assumption | omega)).trans (by first | assumption | exact zup_self))) rfl ?_
              refine zr_iast dX3_tell_87 (rfl : 87 + 1 = 88) (by first | assumption | exact bk_0 | exact bk_1 | exact bk_2 | exact bk_3 | exact bk_4 | exact bk_5 | exact bk_6 | exact bk_7 | exact bk_8 | exact bk_9 | exact bk_10 | exact bk_11 | exact bk_12 | exact bk_13 | exact bk_14 | exact bk_15 | exact bk_16 | exact zup_self | exact (zup_ne (by first | assumption | omega)).trans (by first | assumption | exact zup_self) | exact (zup_ne (by first | assumption | omega)).trans ((zup_ne (by first | assumption | omega)).trans (by first | assumption | exact zup_self))) (by decide) (by first | omega | (simp only [bset, reduceIte, Nat.reduceEqDiff]; omega)) (by first | omega | (simp only [bset, reduceIte, Nat.reduceEqDiff]; omega)) rfl ?_
              rw [bku_7]
              refine zr_aload_n dX3_tell_88 (rfl : 88 + 1 = 89) rfl ?_
              refine zr_getf dX3_tell_89 (rfl : 89 + 3 = 92) f_X3_28 (by first | assumption | exact bk_0 | exact bk_1 | exact bk_2 | exact bk_3 | exact bk_4 | exact bk_5 | exact bk_6 | exact bk_7 | exact bk_8 | exact bk_9 | exact bk_10 | exact bk_11 | exact bk_12 | exact bk_13 | exact bk_14 | exact bk_15 | exact bk_16 | exact zup_self | exact (zup_ne (by first | assumption | omega)).trans (by first | assumption | exact zup_self) | exact (zup_ne (by first | assumption | omega)).trans ((zup_ne (by first | assumption | omega)).trans (by first | assumption | exact zup_self))) rfl ?_
              refine zr_iload dX3_tell_92 (rfl : 92 + 2 = 94) rfl ?_
              refine zr_dup2 dX3_tell_94 (rfl : 94 + 1 = 95) rfl rfl ?_
              refine zr_iald dX3_tell_95 (rfl : 95 + 1 = 96) (by first | assumption | exact bk_0 | exact bk_1 | exact bk_2 | exact bk_3 | exact bk_4 | exact bk_5 | exact bk_6 | exact bk_7 | exact bk_8 | exact bk_9 | exact bk_10 | exact bk_11 | exact bk_12 | exact bk_13 | exact bk_14 | exact bk_15 | exact bk_16 | exact zup_self | exact (zup_ne (by first | assumption | omega)).trans (by first | assumption | exact zup_self) | exact (zup_ne (by first | assumption | omega)).trans ((zup_ne (by first | assumption | omega)).trans (by first | assumption | exact zup_self))) (by decide) (by first | omega | (simp only [bset, reduceIte, Nat.reduceEqDiff]; omega)) (by first | omega | (simp only [bset, reduceIte, Nat.reduceEqDiff]; omega)) ?_
              refine zr_iconst dX3_tell_96 (rfl : 96 + 1 = 97) ?_
              refine zr_iadd dX3_tell_97 (rfl : 97 + 1 = 98) (by first | exact jI_add _ _ | rfl) ?_
              refine zr_iast dX3_tell_98 (rfl : 98 + 1 = 99) (by first | assumption | exact bk_0 | exact bk_1 | exact bk_2 | exact bk_3 | exact bk_4 | exact bk_5 | exact bk_6 | exact bk_7 | exact bk_8 | exact bk_9 | exact bk_10 | exact bk_11 | exact bk_12 | exact bk_13 | exact bk_14 | exact bk_15 | exact bk_16 | exact zup_self | exact (zup_ne (by first | assumption | omega)).trans (by first | assumption | exact zup_self) | exact (zup_ne (by first | assumption | omega)).trans ((zup_ne (by first | assumption | omega)).trans (by first | assumption | exact zup_self))) (by decide) (by first | omega | (simp only [bset, reduceIte, Nat.reduceEqDiff]; omega)) (by first | omega | (simp only [bset, reduceIte, Nat.reduceEqDiff]; omega)) rfl ?_
              rw [bku_8]
              refine zr_aload_n dX3_tell_99 (rfl : 99 + 1 = 100) rfl ?_
              refine zr_dup dX3_tell_100 (rfl : 100 + 1 = 101) rfl ?_
              refine zr_getf dX3_tell_101 (rfl : 101 + 3 = 104) f_X3_57 (by first | assumption | exact bk_0 | exact bk_1 | exact bk_2 | exact bk_3 | exact bk_4 | exact bk_5 | exact bk_6 | exact bk_7 | exact bk_8 | exact bk_9 | exact bk_10 | exact bk_11 | exact bk_12 | exact bk_13 | exact bk_14 | exact bk_15 | exact bk_16 | exact zup_self | exact (zup_ne (by first | assumption | omega)).trans (by first | assumption | exact zup_self) | exact (zup_ne (by first | assumption | omega)).trans ((zup_ne (by first | assumption | omega)).trans (by first | assumption | exact zup_self))) rfl ?_
              refine zr_iload_n dX3_tell_104 (rfl : 104 + 1 = 105) rfl ?_
              refine zr_if_eq (tgt := 112) dX3_tell_105 (by decide) (rfl : 105 + 3 = 108) (by first | exact jb_iff | exact jI_z (by first | omega | (simp only [bset, reduceIte, Nat.reduceEqDiff]; omega)) (by first | omega | (simp only [bset, reduceIte, Nat.reduceEqDiff]; omega))) (fun h105 => ?_) (fun h105 => ?_)
              · first
                | (exfalso; omega)
                | (
                  refine zr_iconst dX3_tell_112 (rfl : 112 + 1 = 113) ?_
                  refine zr_iadd dX3_tell_113 (rfl : 113 + 1 = 114) (by first | exact jI_add _ _ | rfl) ?_
                  refine zr_putf (fs' := [_, _, _, _, _, _, _, _, _, _]) dX3_tell_114 (rfl : 114 + 3 = 117) f_X3_57 ft_3_9 (by first | assumption | exact bk_0 | exact bk_1 | exact bk_2 | exact bk_3 | exact bk_4 | exact bk_5 | exact bk_6 | exact bk_7 | exact bk_8 | exact bk_9 | exact bk_10 | exact bk_11 | exact bk_12 | exact bk_13 | exact bk_14 | exact bk_15 | exact bk_16 | exact zup_self | exact (zup_ne (by first | assumption | omega)).trans (by first | assumption | exact zup_self) | exact (zup_ne (by first | assumption | omega)).trans ((zup_ne (by first | assumption | omega)).trans (by first | assumption | exact zup_self))) (Nat.le_of_ble_eq_true rfl) rfl rfl rfl ?_
                  rw [bku_13]
                  exact zr_vret dX3_tell_117 rfl rfl rfl rfl)
              · first
                | (exfalso; omega)
                | (
                  refine zr_iconst dX3_tell_108 (rfl : 108 + 1 = 109) ?_
                  refine zr_goto (tgt := 113) dX3_tell_109 (by decide) ?_
                  refine zr_iadd dX3_tell_113 (rfl : 113 + 1 = 114) (by first | exact jI_add _ _ | rfl) ?_
                  refine zr_putf (fs' := [_, _, _, _, _, _, _, _, _, _]) dX3_tell_114 (rfl : 114 + 3 = 117) f_X3_57 ft_3_9 (by first | assumption | exact bk_0 | exact bk_1 | exact bk_2 | exact bk_3 | exact bk_4 | exact bk_5 | exact bk_6 | exact bk_7 | exact bk_8 | exact bk_9 | exact bk_10 | exact bk_11 | exact bk_12 | exact bk_13 | exact bk_14 | exact bk_15 | exact bk_16 | exact zup_self | exact (zup_ne (by first | assumption | omega)).trans (by first | assumption | exact zup_self) | exact (zup_ne (by first | assumption | omega)).trans ((zup_ne (by first | assumption | omega)).trans (by first | assumption | exact zup_self))) (Nat.le_of_ble_eq_true rfl) rfl rfl rfl ?_
                  rw [bku_13]
                  exact zr_vret dX3_tell_117 rfl rfl rfl rfl)))
      · first
        | (exfalso; omega)
        | (
          refine zr_aload_n dX3_tell_14 (rfl : 14 + 1 = 15) rfl ?_
          refine zr_getf dX3_tell_15 (rfl : 15 + 3 = 18) f_X3_54 (by first | assumption | exact bk_0 | exact bk_1 | exact bk_2 | exact bk_3 | exact bk_4 | exact bk_5 | exact bk_6 | exact bk_7 | exact bk_8 | exact bk_9 | exact bk_10 | exact bk_11 | exact bk_12 | exact bk_13 | exact bk_14 | exact bk_15 | exact bk_16 | exact zup_self | exact (zup_ne (by first | assumption | omega)).trans (by first | assumption | exact zup_self) | exact (zup_ne (by first | assumption | omega)).trans ((zup_ne (by first | assumption | omega)).trans (by first | assumption | exact zup_self))) rfl ?_
          refine zr_iconst dX3_tell_18 (rfl : 18 + 1 = 19) ?_
          refine zr_iadd dX3_tell_19 (rfl : 19 + 1 = 20) (by first | exact jI_add _ _ | rfl) ?_
          refine zr_iload_n dX3_tell_20 (rfl : 20 + 1 = 21) rfl ?_
          refine zr_irem dX3_tell_21 (rfl : 21 + 1 = 22) (fun q => absurd ((jI_z (by first | omega | (simp only [bset, reduceIte, Nat.reduceEqDiff]; omega)) (by first | omega | (simp only [bset, reduceIte, Nat.reduceEqDiff]; omega))).mp q) (by first | omega | (simp only [bset, reduceIte, Nat.reduceEqDiff]; omega))) (jI_rem (by first | omega | (simp only [bset, reduceIte, Nat.reduceEqDiff]; omega)) (by first | omega | (simp only [bset, reduceIte, Nat.reduceEqDiff]; omega)) (by first | omega | (simp only [bset, reduceIte, Nat.reduceEqDiff]; omega)) (by first | omega | (simp only [bset, reduceIte, Nat.reduceEqDiff]; omega))) ?_
          refine zr_if_ne (tgt := 29) dX3_tell_22 (by decide) (rfl : 22 + 3 = 25) (by first | exact jb_iff | exact jI_z (by first | omega | (simp only [bset, reduceIte, Nat.reduceEqDiff]; omega)) (by first | omega | (simp only [bset, reduceIte, Nat.reduceEqDiff]; omega))) (fun h22 => ?_) (fun h22 => ?_)
          · first
            | (exfalso; omega)
            | (
              refine zr_iconst dX3_tell_29 (rfl : 29 + 1 = 30) ?_
              refine zr_istore_n (lv' := [_, _, _, _, _]) dX3_tell_30 (rfl : 30 + 1 = 31) (Nat.le_of_ble_eq_true rfl) rfl ?_
              refine zr_iload_n dX3_tell_31 (rfl : 31 + 1 = 32) rfl ?_
              refine zr_if_eq (tgt := 44) dX3_tell_32 (by decide) (rfl : 32 + 3 = 35) (by first | exact jb_iff | exact jI_z (by first | omega | (simp only [bset, reduceIte, Nat.reduceEqDiff]; omega)) (by first | omega | (simp only [bset, reduceIte, Nat.reduceEqDiff]; omega))) (fun h32 => ?_) (fun h32 => ?_)
              · first
                | (exfalso; omega)
                | (
                  refine zr_iload_n dX3_tell_44 (rfl : 44 + 1 = 45) rfl ?_
                  refine zr_istore (lv' := [_, _, _, _, _]) dX3_tell_45 (rfl : 45 + 2 = 47) (Nat.le_of_ble_eq_true rfl) rfl ?_
                  refine zr_aload_n dX3_tell_47 (rfl : 47 + 1 = 48) rfl ?_
                  refine zr_getf dX3_tell_48 (rfl : 48 + 3 = 51) f_X3_18 (by first | assumption | exact bk_0 | exact bk_1 | exact bk_2 | exact bk_3 | exact bk_4 | exact bk_5 | exact bk_6 | exact bk_7 | exact bk_8 | exact bk_9 | exact bk_10 | exact bk_11 | exact bk_12 | exact bk_13 | exact bk_14 | exact bk_15 | exact bk_16 | exact zup_self | exact (zup_ne (by first | assumption | omega)).trans (by first | assumption | exact zup_self) | exact (zup_ne (by first | assumption | omega)).trans ((zup_ne (by first | assumption | omega)).trans (by first | assumption | exact zup_self))) rfl ?_
                  refine zr_aload_n dX3_tell_51 (rfl : 51 + 1 = 52) rfl ?_
                  refine zr_getf dX3_tell_52 (rfl : 52 + 3 = 55) f_X3_54 (by first | assumption | exact bk_0 | exact bk_1 | exact bk_2 | exact bk_3 | exact bk_4 | exact bk_5 | exact bk_6 | exact bk_7 | exact bk_8 | exact bk_9 | exact bk_10 | exact bk_11 | exact bk_12 | exact bk_13 | exact bk_14 | exact bk_15 | exact bk_16 | exact zup_self | exact (zup_ne (by first | assumption | omega)).trans (by first | assumption | exact zup_self) | exact (zup_ne (by first | assumption | omega)).trans ((zup_ne (by first | assumption | omega)).trans (by first | assumption | exact zup_self))) rfl ?_
                  refine zr_iload_n dX3_tell_55 (rfl : 55 + 1 = 56) rfl ?_
                  refine zr_iast dX3_tell_56 (rfl : 56 + 1 = 57) (by first | assumption | exact bk_0 | exact bk_1 | exact bk_2 | exact bk_3 | exact bk_4 | exact bk_5 | exact bk_6 | exact bk_7 | exact bk_8 | exact bk_9 | exact bk_10 | exact bk_11 | exact bk_12 | exact bk_13 | exact bk_14 | exact bk_15 | exact bk_16 | exact zup_self | exact (zup_ne (by first | assumption | omega)).trans (by first | assumption | exact zup_self) | exact (zup_ne (by first | assumption | omega)).trans ((zup_ne (by first | assumption | omega)).trans (by first | assumption | exact zup_self))) (by decide) (by first | omega | (simp only [bset, reduceIte, Nat.reduceEqDiff]; omega)) (by first | omega | (simp only [bset, reduceIte, Nat.reduceEqDiff]; omega)) rfl ?_
                  rw [bku_5]
                  refine zr_aload_n dX3_tell_57 (rfl : 57 + 1 = 58) rfl ?_
                  refine zr_getf dX3_tell_58 (rfl : 58 + 3 = 61) f_X3_22 (by first | assumption | exact bk_0 | exact bk_1 | exact bk_2 | exact bk_3 | exact bk_4 | exact bk_5 | exact bk_6 | exact bk_7 | exact bk_8 | exact bk_9 | exact bk_10 | exact bk_11 | exact bk_12 | exact bk_13 | exact bk_14 | exact bk_15 | exact bk_16 | exact zup_self | exact (zup_ne (by first | assumption | omega)).trans (by first | assumption | exact zup_self) | exact (zup_ne (by first | assumption | omega)).trans ((zup_ne (by first | assumption | omega)).trans (by first | assumption | exact zup_self))) rfl ?_
                  refine zr_aload_n dX3_tell_61 (rfl : 61 + 1 = 62) rfl ?_
                  refine zr_getf dX3_tell_62 (rfl : 62 + 3 = 65) f_X3_54 (by first | assumption | exact bk_0 | exact bk_1 | exact bk_2 | exact bk_3 | exact bk_4 | exact bk_5 | exact bk_6 | exact bk_7 | exact bk_8 | exact bk_9 | exact bk_10 | exact bk_11 | exact bk_12 | exact bk_13 | exact bk_14 | exact bk_15 | exact bk_16 | exact zup_self | exact (zup_ne (by first | assumption | omega)).trans (by first | assumption | exact zup_self) | exact (zup_ne (by first | assumption | omega)).trans ((zup_ne (by first | assumption | omega)).trans (by first | assumption | exact zup_self))) rfl ?_
                  refine zr_iload dX3_tell_65 (rfl : 65 + 2 = 67) rfl ?_
                  refine zr_iast dX3_tell_67 (rfl : 67 + 1 = 68) (by first | assumption | exact bk_0 | exact bk_1 | exact bk_2 | exact bk_3 | exact bk_4 | exact bk_5 | exact bk_6 | exact bk_7 | exact bk_8 | exact bk_9 | exact bk_10 | exact bk_11 | exact bk_12 | exact bk_13 | exact bk_14 | exact bk_15 | exact bk_16 | exact zup_self | exact (zup_ne (by first | assumption | omega)).trans (by first | assumption | exact zup_self) | exact (zup_ne (by first | assumption | omega)).trans ((zup_ne (by first | assumption | omega)).trans (by first | assumption | exact zup_self))) (by decide) (by first | omega | (simp only [bset, reduceIte, Nat.reduceEqDiff]; omega)) (by first | omega | (simp only [bset, reduceIte, Nat.reduceEqDiff]; omega)) rfl ?_
                  rw [bku_6]
                  refine zr_aload_n dX3_tell_68 (rfl : 68 + 1 = 69) rfl ?_
                  refine zr_dup dX3_tell_69 (rfl : 69 + 1 = 70) rfl ?_
                  refine zr_getf dX3_tell_70 (rfl : 70 + 3 = 73) f_X3_54 (by first | assumption | exact bk_0 | exact bk_1 | exact bk_2 | exact bk_3 | exact bk_4 | exact bk_5 | exact bk_6 | exact bk_7 | exact bk_8 | exact bk_9 | exact bk_10 | exact bk_11 | exact bk_12 | exact bk_13 | exact bk_14 | exact bk_15 | exact bk_16 | exact zup_self | exact (zup_ne (by first | assumption | omega)).trans (by first | assumption | exact zup_self) | exact (zup_ne (by first | assumption | omega)).trans ((zup_ne (by first | assumption | omega)).trans (by first | assumption | exact zup_self))) rfl ?_
                  refine zr_iconst dX3_tell_73 (rfl : 73 + 1 = 74) ?_
                  refine zr_iadd dX3_tell_74 (rfl : 74 + 1 = 75) (by first | exact jI_add _ _ | rfl) ?_
                  refine zr_putf (fs' := [_, _, _, _, _, _, _, _, _, _]) dX3_tell_75 (rfl : 75 + 3 = 78) f_X3_54 ft_3_8 (by first | assumption | exact bk_0 | exact bk_1 | exact bk_2 | exact bk_3 | exact bk_4 | exact bk_5 | exact bk_6 | exact bk_7 | exact bk_8 | exact bk_9 | exact bk_10 | exact bk_11 | exact bk_12 | exact bk_13 | exact bk_14 | exact bk_15 | exact bk_16 | exact zup_self | exact (zup_ne (by first | assumption | omega)).trans (by first | assumption | exact zup_self) | exact (zup_ne (by first | assumption | omega)).trans ((zup_ne (by first | assumption | omega)).trans (by first | assumption | exact zup_self))) (Nat.le_of_ble_eq_true rfl) rfl rfl rfl ?_
                  rw [bku_12]
                  refine zr_aload_n dX3_tell_78 (rfl : 78 + 1 = 79) rfl ?_
                  refine zr_getf dX3_tell_79 (rfl : 79 + 3 = 82) f_X3_25 (by first | assumption | exact bk_0 | exact bk_1 | exact bk_2 | exact bk_3 | exact bk_4 | exact bk_5 | exact bk_6 | exact bk_7 | exact bk_8 | exact bk_9 | exact bk_10 | exact bk_11 | exact bk_12 | exact bk_13 | exact bk_14 | exact bk_15 | exact bk_16 | exact zup_self | exact (zup_ne (by first | assumption | omega)).trans (by first | assumption | exact zup_self) | exact (zup_ne (by first | assumption | omega)).trans ((zup_ne (by first | assumption | omega)).trans (by first | assumption | exact zup_self))) rfl ?_
                  refine zr_iload_n dX3_tell_82 (rfl : 82 + 1 = 83) rfl ?_
                  refine zr_aload_n dX3_tell_83 (rfl : 83 + 1 = 84) rfl ?_
                  refine zr_getf dX3_tell_84 (rfl : 84 + 3 = 87) f_X3_54 (by first | assumption | exact bk_0 | exact bk_1 | exact bk_2 | exact bk_3 | exact bk_4 | exact bk_5 | exact bk_6 | exact bk_7 | exact bk_8 | exact bk_9 | exact bk_10 | exact bk_11 | exact bk_12 | exact bk_13 | exact bk_14 | exact bk_15 | exact bk_16 | exact zup_self | exact (zup_ne (by first | assumption | omega)).trans (by first | assumption | exact zup_self) | exact (zup_ne (by first | assumption | omega)).trans ((zup_ne (by first | assumption | omega)).trans (by first | assumption | exact zup_self))) rfl ?_
                  refine zr_iast dX3_tell_87 (rfl : 87 + 1 = 88) (by first | assumption | exact bk_0 | exact bk_1 | exact bk_2 | exact bk_3 | exact bk_4 | exact bk_5 | exact bk_6 | exact bk_7 | exact bk_8 | exact bk_9 | exact bk_10 | exact bk_11 | exact bk_12 | exact bk_13 | exact bk_14 | exact bk_15 | exact bk_16 | exact zup_self | exact (zup_ne (by first | assumption | omega)).trans (by first | assumption | exact zup_self) | exact (zup_ne (by first | assumption | omega)).trans ((zup_ne (by first | assumption | omega)).trans (by first | assumption | exact zup_self))) (by decide) (by first | omega | (simp only [bset, reduceIte, Nat.reduceEqDiff]; omega)) (by first | omega | (simp only [bset, reduceIte, Nat.reduceEqDiff]; omega)) rfl ?_
                  rw [bku_7]
                  refine zr_aload_n dX3_tell_88 (rfl : 88 + 1 = 89) rfl ?_
                  refine zr_getf dX3_tell_89 (rfl : 89 + 3 = 92) f_X3_28 (by first | assumption | exact bk_0 | exact bk_1 | exact bk_2 | exact bk_3 | exact bk_4 | exact bk_5 | exact bk_6 | exact bk_7 | exact bk_8 | exact bk_9 | exact bk_10 | exact bk_11 | exact bk_12 | exact bk_13 | exact bk_14 | exact bk_15 | exact bk_16 | exact zup_self | exact (zup_ne (by first | assumption | omega)).trans (by first | assumption | exact zup_self) | exact (zup_ne (by first | assumption | omega)).trans ((zup_ne (by first | assumption | omega)).trans (by first | assumption | exact zup_self))) rfl ?_
                  refine zr_iload dX3_tell_92 (rfl : 92 + 2 = 94) rfl ?_
                  refine zr_dup2 dX3_tell_94 (rfl : 94 + 1 = 95) rfl rfl ?_
                  refine zr_iald dX3_tell_95 (rfl : 95 + 1 = 96) (by first | assumption | exact bk_0 | exact bk_1 | exact bk_2 | exact bk_3 | exact bk_4 | exact bk_5 | exact bk_6 | exact bk_7 | exact bk_8 | exact bk_9 | exact bk_10 | exact bk_11 | exact bk_12 | exact bk_13 | exact bk_14 | exact bk_15 | exact bk_16 | exact zup_self | exact (zup_ne (by first | assumption | omega)).trans (by first | assumption | exact zup_self) | exact (zup_ne (by first | assumption | omega)).trans ((zup_ne (by first | assumption | omega)).trans (by first | assumption | exact zup_self))) (by decide) (by first | omega | (simp only [bset, reduceIte, Nat.reduceEqDiff]; omega)) (by first | omega | (simp only [bset, reduceIte, Nat.reduceEqDiff]; omega)) ?_
                  refine zr_iconst dX3_tell_96 (rfl : 96 + 1 = 97) ?_
                  refine zr_iadd dX3_tell_97 (rfl : 97 + 1 = 98) (by first | exact jI_add _ _ | rfl) ?_
                  refine zr_iast dX3_tell_98 (rfl : 98 + 1 = 99) (by first | assumption | exact bk_0 | exact bk_1 | exact bk_2 | exact bk_3 | exact bk_4 | exact bk_5 | exact bk_6 | exact bk_7 | exact bk_8 | exact bk_9 | exact bk_10 | exact bk_11 | exact bk_12 | exact bk_13 | exact bk_14 | exact bk_15 | exact bk_16 | exact zup_self | exact (zup_ne (by first | assumption | omega)).trans (by first | assumption | exact zup_self) | exact (zup_ne (by first | assumption | omega)).trans ((zup_ne (by first | assumption | omega)).trans (by first | assumption | exact zup_self))) (by decide) (by first | omega | (simp only [bset, reduceIte, Nat.reduceEqDiff]; omega)) (by first | omega | (simp only [bset, reduceIte, Nat.reduceEqDiff]; omega)) rfl ?_
                  rw [bku_8]
                  refine zr_aload_n dX3_tell_99 (rfl : 99 + 1 = 100) rfl ?_
                  refine zr_dup dX3_tell_100 (rfl : 100 + 1 = 101) rfl ?_
                  refine zr_getf dX3_tell_101 (rfl : 101 + 3 = 104) f_X3_57 (by first | assumption | exact bk_0 | exact bk_1 | exact bk_2 | exact bk_3 | exact bk_4 | exact bk_5 | exact bk_6 | exact bk_7 | exact bk_8 | exact bk_9 | exact bk_10 | exact bk_11 | exact bk_12 | exact bk_13 | exact bk_14 | exact bk_15 | exact bk_16 | exact zup_self | exact (zup_ne (by first | assumption | omega)).trans (by first | assumption | exact zup_self) | exact (zup_ne (by first | assumption | omega)).trans ((zup_ne (by first | assumption | omega)).trans (by first | assumption | exact zup_self))) rfl ?_
                  refine zr_iload_n dX3_tell_104 (rfl : 104 + 1 = 105) rfl ?_
                  refine zr_if_eq (tgt := 112) dX3_tell_105 (by decide) (rfl : 105 + 3 = 108) (by first | exact jb_iff | exact jI_z (by first | omega | (simp only [bset, reduceIte, Nat.reduceEqDiff]; omega)) (by first | omega | (simp only [bset, reduceIte, Nat.reduceEqDiff]; omega))) (fun h105 => ?_) (fun h105 => ?_)
                  · first
                    | (exfalso; omega)
                    | (
                      refine zr_iconst dX3_tell_112 (rfl : 112 + 1 = 113) ?_
                      refine zr_iadd dX3_tell_113 (rfl : 113 + 1 = 114) (by first | exact jI_add _ _ | rfl) ?_
                      refine zr_putf (fs' := [_, _, _, _, _, _, _, _, _, _]) dX3_tell_114 (rfl : 114 + 3 = 117) f_X3_57 ft_3_9 (by first | assumption | exact bk_0 | exact bk_1 | exact bk_2 | exact bk_3 | exact bk_4 | exact bk_5 | exact bk_6 | exact bk_7 | exact bk_8 | exact bk_9 | exact bk_10 | exact bk_11 | exact bk_12 | exact bk_13 | exact bk_14 | exact bk_15 | exact bk_16 | exact zup_self | exact (zup_ne (by first | assumption | omega)).trans (by first | assumption | exact zup_self) | exact (zup_ne (by first | assumption | omega)).trans ((zup_ne (by first | assumption | omega)).trans (by first | assumption | exact zup_self))) (Nat.le_of_ble_eq_true rfl) rfl rfl rfl ?_
                      rw [bku_13]
                      exact zr_vret dX3_tell_117 rfl rfl rfl rfl)
                  · first
                    | (exfalso; omega)
                    | (
                      refine zr_iconst dX3_tell_108 (rfl : 108 + 1 = 109) ?_
                      refine zr_goto (tgt := 113) dX3_tell_109 (by decide) ?_
                      refine zr_iadd dX3_tell_113 (rfl : 113 + 1 = 114) (by first | exact jI_add _ _ | rfl) ?_
                      refine zr_putf (fs' := [_, _, _, _, _, _, _, _, _, _]) dX3_tell_114 (rfl : 114 + 3 = 117) f_X3_57 ft_3_9 (by first | assumption | exact bk_0 | exact bk_1 | exact bk_2 | exact bk_3 | exact bk_4 | exact bk_5 | exact bk_6 | exact bk_7 | exact bk_8 | exact bk_9 | exact bk_10 | exact bk_11 | exact bk_12 | exact bk_13 | exact bk_14 | exact bk_15 | exact bk_16 | exact zup_self | exact (zup_ne (by first | assumption | omega)).trans (by first | assumption | exact zup_self) | exact (zup_ne (by first | assumption | omega)).trans ((zup_ne (by first | assumption | omega)).trans (by first | assumption | exact zup_self))) (Nat.le_of_ble_eq_true rfl) rfl rfl rfl ?_
                      rw [bku_13]
                      exact zr_vret dX3_tell_117 rfl rfl rfl rfl))
              · first
                | (exfalso; omega)
                | (
                  refine zr_iload_n dX3_tell_35 (rfl : 35 + 1 = 36) rfl ?_
                  refine zr_bipush dX3_tell_36 (rfl : 36 + 2 = 38) (by decide) ?_
                  refine zr_irem dX3_tell_38 (rfl : 38 + 1 = 39) (fun q => absurd ((jI_z (by first | omega | (simp only [bset, reduceIte, Nat.reduceEqDiff]; omega)) (by first | omega | (simp only [bset, reduceIte, Nat.reduceEqDiff]; omega))).mp q) (by first | omega | (simp only [bset, reduceIte, Nat.reduceEqDiff]; omega))) (jI_rem (by first | omega | (simp only [bset, reduceIte, Nat.reduceEqDiff]; omega)) (by first | omega | (simp only [bset, reduceIte, Nat.reduceEqDiff]; omega)) (by first | omega | (simp only [bset, reduceIte, Nat.reduceEqDiff]; omega)) (by first | omega | (simp only [bset, reduceIte, Nat.reduceEqDiff]; omega))) ?_
                  refine zr_iconst dX3_tell_39 (rfl : 39 + 1 = 40) ?_
                  refine zr_iadd dX3_tell_40 (rfl : 40 + 1 = 41) (by first | exact jI_add _ _ | rfl) ?_
                  refine zr_goto (tgt := 45) dX3_tell_41 (by decide) ?_
                  refine zr_istore (lv' := [_, _, _, _, _]) dX3_tell_45 (rfl : 45 + 2 = 47) (Nat.le_of_ble_eq_true rfl) rfl ?_
                  refine zr_aload_n dX3_tell_47 (rfl : 47 + 1 = 48) rfl ?_
                  refine zr_getf dX3_tell_48 (rfl : 48 + 3 = 51) f_X3_18 (by first | assumption | exact bk_0 | exact bk_1 | exact bk_2 | exact bk_3 | exact bk_4 | exact bk_5 | exact bk_6 | exact bk_7 | exact bk_8 | exact bk_9 | exact bk_10 | exact bk_11 | exact bk_12 | exact bk_13 | exact bk_14 | exact bk_15 | exact bk_16 | exact zup_self | exact (zup_ne (by first | assumption | omega)).trans (by first | assumption | exact zup_self) | exact (zup_ne (by first | assumption | omega)).trans ((zup_ne (by first | assumption | omega)).trans (by first | assumption | exact zup_self))) rfl ?_
                  refine zr_aload_n dX3_tell_51 (rfl : 51 + 1 = 52) rfl ?_
                  refine zr_getf dX3_tell_52 (rfl : 52 + 3 = 55) f_X3_54 (by first | assumption | exact bk_0 | exact bk_1 | exact bk_2 | exact bk_3 | exact bk_4 | exact bk_5 | exact bk_6 | exact bk_7 | exact bk_8 | exact bk_9 | exact bk_10 | exact bk_11 | exact bk_12 | exact bk_13 | exact bk_14 | exact bk_15 | exact bk_16 | exact zup_self | exact (zup_ne (by first | assumption | omega)).trans (by first | assumption | exact zup_self) | exact (zup_ne (by first | assumption | omega)).trans ((zup_ne (by first | assumption | omega)).trans (by first | assumption | exact zup_self))) rfl ?_
                  refine zr_iload_n dX3_tell_55 (rfl : 55 + 1 = 56) rfl ?_
                  refine zr_iast dX3_tell_56 (rfl : 56 + 1 = 57) (by first | assumption | exact bk_0 | exact bk_1 | exact bk_2 | exact bk_3 | exact bk_4 | exact bk_5 | exact bk_6 | exact bk_7 | exact bk_8 | exact bk_9 | exact bk_10 | exact bk_11 | exact bk_12 | exact bk_13 | exact bk_14 | exact bk_15 | exact bk_16 | exact zup_self | exact (zup_ne (by first | assumption | omega)).trans (by first | assumption | exact zup_self) | exact (zup_ne (by first | assumption | omega)).trans ((zup_ne (by first | assumption | omega)).trans (by first | assumption | exact zup_self))) (by decide) (by first | omega | (simp only [bset, reduceIte, Nat.reduceEqDiff]; omega)) (by first | omega | (simp only [bset, reduceIte, Nat.reduceEqDiff]; omega)) rfl ?_
                  rw [bku_5]
                  refine zr_aload_n dX3_tell_57 (rfl : 57 + 1 = 58) rfl ?_
                  refine zr_getf dX3_tell_58 (rfl : 58 + 3 = 61) f_X3_22 (by first | assumption | exact bk_0 | exact bk_1 | exact bk_2 | exact bk_3 | exact bk_4 | exact bk_5 | exact bk_6 | exact bk_7 | exact bk_8 | exact bk_9 | exact bk_10 | exact bk_11 | exact bk_12 | exact bk_13 | exact bk_14 | exact bk_15 | exact bk_16 | exact zup_self | exact (zup_ne (by first | assumption | omega)).trans (by first | assumption | exact zup_self) | exact (zup_ne (by first | assumption | omega)).trans ((zup_ne (by first | assumption | omega)).trans (by first | assumption | exact zup_self))) rfl ?_
                  refine zr_aload_n dX3_tell_61 (rfl : 61 + 1 = 62) rfl ?_
                  refine zr_getf dX3_tell_62 (rfl : 62 + 3 = 65) f_X3_54 (by first | assumption | exact bk_0 | exact bk_1 | exact bk_2 | exact bk_3 | exact bk_4 | exact bk_5 | exact bk_6 | exact bk_7 | exact bk_8 | exact bk_9 | exact bk_10 | exact bk_11 | exact bk_12 | exact bk_13 | exact bk_14 | exact bk_15 | exact bk_16 | exact zup_self | exact (zup_ne (by first | assumption | omega)).trans (by first | assumption | exact zup_self) | exact (zup_ne (by first | assumption | omega)).trans ((zup_ne (by first | assumption | omega)).trans (by first | assumption | exact zup_self))) rfl ?_
                  refine zr_iload dX3_tell_65 (rfl : 65 + 2 = 67) rfl ?_
                  refine zr_iast dX3_tell_67 (rfl : 67 + 1 = 68) (by first | assumption | exact bk_0 | exact bk_1 | exact bk_2 | exact bk_3 | exact bk_4 | exact bk_5 | exact bk_6 | exact bk_7 | exact bk_8 | exact bk_9 | exact bk_10 | exact bk_11 | exact bk_12 | exact bk_13 | exact bk_14 | exact bk_15 | exact bk_16 | exact zup_self | exact (zup_ne (by first | assumption | omega)).trans (by first | assumption | exact zup_self) | exact (zup_ne (by first | assumption | omega)).trans ((zup_ne (by first | assumption | omega)).trans (by first | assumption | exact zup_self))) (by decide) (by first | omega | (simp only [bset, reduceIte, Nat.reduceEqDiff]; omega)) (by first | omega | (simp only [bset, reduceIte, Nat.reduceEqDiff]; omega)) rfl ?_
                  rw [bku_6]
                  refine zr_aload_n dX3_tell_68 (rfl : 68 + 1 = 69) rfl ?_
                  refine zr_dup dX3_tell_69 (rfl : 69 + 1 = 70) rfl ?_
                  refine zr_getf dX3_tell_70 (rfl : 70 + 3 = 73) f_X3_54 (by first | assumption | exact bk_0 | exact bk_1 | exact bk_2 | exact bk_3 | exact bk_4 | exact bk_5 | exact bk_6 | exact bk_7 | exact bk_8 | exact bk_9 | exact bk_10 | exact bk_11 | exact bk_12 | exact bk_13 | exact bk_14 | exact bk_15 | exact bk_16 | exact zup_self | exact (zup_ne (by first | assumption | omega)).trans (by first | assumption | exact zup_self) | exact (zup_ne (by first | assumption | omega)).trans ((zup_ne (by first | assumption | omega)).trans (by first | assumption | exact zup_self))) rfl ?_
                  refine zr_iconst dX3_tell_73 (rfl : 73 + 1 = 74) ?_
                  refine zr_iadd dX3_tell_74 (rfl : 74 + 1 = 75) (by first | exact jI_add _ _ | rfl) ?_
                  refine zr_putf (fs' := [_, _, _, _, _, _, _, _, _, _]) dX3_tell_75 (rfl : 75 + 3 = 78) f_X3_54 ft_3_8 (by first | assumption | exact bk_0 | exact bk_1 | exact bk_2 | exact bk_3 | exact bk_4 | exact bk_5 | exact bk_6 | exact bk_7 | exact bk_8 | exact bk_9 | exact bk_10 | exact bk_11 | exact bk_12 | exact bk_13 | exact bk_14 | exact bk_15 | exact bk_16 | exact zup_self | exact (zup_ne (by first | assumption | omega)).trans (by first | assumption | exact zup_self) | exact (zup_ne (by first | assumption | omega)).trans ((zup_ne (by first | assumption | omega)).trans (by first | assumption | exact zup_self))) (Nat.le_of_ble_eq_true rfl) rfl rfl rfl ?_
                  rw [bku_12]
                  refine zr_aload_n dX3_tell_78 (rfl : 78 + 1 = 79) rfl ?_
                  refine zr_getf dX3_tell_79 (rfl : 79 + 3 = 82) f_X3_25 (by first | assumption | exact bk_0 | exact bk_1 | exact bk_2 | exact bk_3 | exact bk_4 | exact bk_5 | exact bk_6 | exact bk_7 | exact bk_8 | exact bk_9 | exact bk_10 | exact bk_11 | exact bk_12 | exact bk_13 | exact bk_14 | exact bk_15 | exact bk_16 | exact zup_self | exact (zup_ne (by first | assumption | omega)).trans (by first | assumption | exact zup_self) | exact (zup_ne (by first | assumption | omega)).trans ((zup_ne (by first | assumption | omega)).trans (by first | assumption | exact zup_self))) rfl ?_
                  refine zr_iload_n dX3_tell_82 (rfl : 82 + 1 = 83) rfl ?_
                  refine zr_aload_n dX3_tell_83 (rfl : 83 + 1 = 84) rfl ?_
                  refine zr_getf dX3_tell_84 (rfl : 84 + 3 = 87) f_X3_54 (by first | assumption | exact bk_0 | exact bk_1 | exact bk_2 | exact bk_3 | exact bk_4 | exact bk_5 | exact bk_6 | exact bk_7 | exact bk_8 | exact bk_9 | exact bk_10 | exact bk_11 | exact bk_12 | exact bk_13 | exact bk_14 | exact bk_15 | exact bk_16 | exact zup_self | exact (zup_ne (by first | assumption | omega)).trans (by first | assumption | exact zup_self) | exact (zup_ne (by first | assumption | omega)).trans ((zup_ne (by first | assumption | omega)).trans (by first | assumption | exact zup_self))) rfl ?_
                  refine zr_iast dX3_tell_87 (rfl : 87 + 1 = 88) (by first | assumption | exact bk_0 | exact bk_1 | exact bk_2 | exact bk_3 | exact bk_4 | exact bk_5 | exact bk_6 | exact bk_7 | exact bk_8 | exact bk_9 | exact bk_10 | exact bk_11 | exact bk_12 | exact bk_13 | exact bk_14 | exact bk_15 | exact bk_16 | exact zup_self | exact (zup_ne (by first | assumption | omega)).trans (by first | assumption | exact zup_self) | exact (zup_ne (by first | assumption | omega)).trans ((zup_ne (by first | assumption | omega)).trans (by first | assumption | exact zup_self))) (by decide) (by first | omega | (simp only [bset, reduceIte, Nat.reduceEqDiff]; omega)) (by first | omega | (simp only [bset, reduceIte, Nat.reduceEqDiff]; omega)) rfl ?_
                  rw [bku_7]
                  refine zr_aload_n dX3_tell_88 (rfl : 88 + 1 = 89) rfl ?_
                  refine zr_getf dX3_tell_89 (rfl : 89 + 3 = 92) f_X3_28 (by first | assumption | exact bk_0 | exact bk_1 | exact bk_2 | exact bk_3 | exact bk_4 | exact bk_5 | exact bk_6 | exact bk_7 | exact bk_8 | exact bk_9 | exact bk_10 | exact bk_11 | exact bk_12 | exact bk_13 | exact bk_14 | exact bk_15 | exact bk_16 | exact zup_self | exact (zup_ne (by first | assumption | omega)).trans (by first | assumption | exact zup_self) | exact (zup_ne (by first | assumption | omega)).trans ((zup_ne (by first | assumption | omega)).trans (by first | assumption | exact zup_self))) rfl ?_
                  refine zr_iload dX3_tell_92 (rfl : 92 + 2 = 94) rfl ?_
                  refine zr_dup2 dX3_tell_94 (rfl : 94 + 1 = 95) rfl rfl ?_
                  refine zr_iald dX3_tell_95 (rfl : 95 + 1 = 96) (by first | assumption | exact bk_0 | exact bk_1 | exact bk_2 | exact bk_3 | exact bk_4 | exact bk_5 | exact bk_6 | exact bk_7 | exact bk_8 | exact bk_9 | exact bk_10 | exact bk_11 | exact bk_12 | exact bk_13 | exact bk_14 | exact bk_15 | exact bk_16 | exact zup_self | exact (zup_ne (by first | assumption | omega)).trans (by first | assumption | exact zup_self) | exact (zup_ne (by first | assumption | omega)).trans ((zup_ne (by first | assumption | omega)).trans (by first | assumption | exact zup_self))) (by decide) (by first | omega | (simp only [bset, reduceIte, Nat.reduceEqDiff]; omega)) (by first | omega | (simp only [bset, reduceIte, Nat.reduceEqDiff]; omega)) ?_
                  refine zr_iconst dX3_tell_96 (rfl : 96 + 1 = 97) ?_
                  refine zr_iadd dX3_tell_97 (rfl : 97 + 1 = 98) (by first | exact jI_add _ _ | rfl) ?_
                  refine zr_iast dX3_tell_98 (rfl : 98 + 1 = 99) (by first | assumption | exact bk_0 | exact bk_1 | exact bk_2 | exact bk_3 | exact bk_4 | exact bk_5 | exact bk_6 | exact bk_7 | exact bk_8 | exact bk_9 | exact bk_10 | exact bk_11 | exact bk_12 | exact bk_13 | exact bk_14 | exact bk_15 | exact bk_16 | exact zup_self | exact (zup_ne (by first | assumption | omega)).trans (by first | assumption | exact zup_self) | exact (zup_ne (by first | assumption | omega)).trans ((zup_ne (by first | assumption | omega)).trans (by first | assumption | exact zup_self))) (by decide) (by first | omega | (simp only [bset, reduceIte, Nat.reduceEqDiff]; omega)) (by first | omega | (simp only [bset, reduceIte, Nat.reduceEqDiff]; omega)) rfl ?_
                  rw [bku_8]
                  refine zr_aload_n dX3_tell_99 (rfl : 99 + 1 = 100) rfl ?_
                  refine zr_dup dX3_tell_100 (rfl : 100 + 1 = 101) rfl ?_
                  refine zr_getf dX3_tell_101 (rfl : 101 + 3 = 104) f_X3_57 (by first | assumption | exact bk_0 | exact bk_1 | exact bk_2 | exact bk_3 | exact bk_4 | exact bk_5 | exact bk_6 | exact bk_7 | exact bk_8 | exact bk_9 | exact bk_10 | exact bk_11 | exact bk_12 | exact bk_13 | exact bk_14 | exact bk_15 | exact bk_16 | exact zup_self | exact (zup_ne (by first | assumption | omega)).trans (by first | assumption | exact zup_self) | exact (zup_ne (by first | assumption | omega)).trans ((zup_ne (by first | assumption | omega)).trans (by first | assumption | exact zup_self))) rfl ?_
                  refine zr_iload_n dX3_tell_104 (rfl : 104 + 1 = 105) rfl ?_
                  refine zr_if_eq (tgt := 112) dX3_tell_105 (by decide) (rfl : 105 + 3 = 108) (by first | exact jb_iff | exact jI_z (by first | omega | (simp only [bset, reduceIte, Nat.reduceEqDiff]; omega)) (by first | omega | (simp only [bset, reduceIte, Nat.reduceEqDiff]; omega))) (fun h105 => ?_) (fun h105 => ?_)
                  · first
                    | (exfalso; omega)
                    | (
                      refine zr_iconst dX3_tell_112 (rfl : 112 + 1 = 113) ?_
                      refine zr_iadd dX3_tell_113 (rfl : 113 + 1 = 114) (by first | exact jI_add _ _ | rfl) ?_
                      refine zr_putf (fs' := [_, _, _, _, _, _, _, _, _, _]) dX3_tell_114 (rfl : 114 + 3 = 117) f_X3_57 ft_3_9 (by first | assumption | exact bk_0 | exact bk_1 | exact bk_2 | exact bk_3 | exact bk_4 | exact bk_5 | exact bk_6 | exact bk_7 | exact bk_8 | exact bk_9 | exact bk_10 | exact bk_11 | exact bk_12 | exact bk_13 | exact bk_14 | exact bk_15 | exact bk_16 | exact zup_self | exact (zup_ne (by first | assumption | omega)).trans (by first | assumption | exact zup_self) | exact (zup_ne (by first | assumption | omega)).trans ((zup_ne (by first | assumption | omega)).trans (by first | assumption | exact zup_self))) (Nat.le_of_ble_eq_true rfl) rfl rfl rfl ?_
                      rw [bku_13]
                      exact zr_vret dX3_tell_117 rfl rfl rfl rfl)
                  · first
                    | (exfalso; omega)
                    | (
                      refine zr_iconst dX3_tell_108 (rfl : 108 + 1 = 109) ?_
                      refine zr_goto (tgt := 113) dX3_tell_109 (by decide) ?_
                      refine zr_iadd dX3_tell_113 (rfl : 113 + 1 = 114) (by first | exact jI_add _ _ | rfl) ?_
                      refine zr_putf (fs' := [_, _, _, _, _, _, _, _, _, _]) dX3_tell_114 (rfl : 114 + 3 = 117) f_X3_57 ft_3_9 (by first | assumption | exact bk_0 | exact bk_1 | exact bk_2 | exact bk_3 | exact bk_4 | exact bk_5 | exact bk_6 | exact bk_7 | exact bk_8 | exact bk_9 | exact bk_10 | exact bk_11 | exact bk_12 | exact bk_13 | exact bk_14 | exact bk_15 | exact bk_16 | exact zup_self | exact (zup_ne (by first | assumption | omega)).trans (by first | assumption | exact zup_self) | exact (zup_ne (by first | assumption | omega)).trans ((zup_ne (by first | assumption | omega)).trans (by first | assumption | exact zup_self))) (Nat.le_of_ble_eq_true rfl) rfl rfl rfl ?_
                      rw [bku_13]
                      exact zr_vret dX3_tell_117 rfl rfl rfl rfl)))
          · first
            | (exfalso; omega)
            | (
              refine zr_iconst dX3_tell_25 (rfl : 25 + 1 = 26) ?_
              refine zr_goto (tgt := 30) dX3_tell_26 (by decide) ?_
              refine zr_istore_n (lv' := [_, _, _, _, _]) dX3_tell_30 (rfl : 30 + 1 = 31) (Nat.le_of_ble_eq_true rfl) rfl ?_
              refine zr_iload_n dX3_tell_31 (rfl : 31 + 1 = 32) rfl ?_
              refine zr_if_eq (tgt := 44) dX3_tell_32 (by decide) (rfl : 32 + 3 = 35) (by first | exact jb_iff | exact jI_z (by first | omega | (simp only [bset, reduceIte, Nat.reduceEqDiff]; omega)) (by first | omega | (simp only [bset, reduceIte, Nat.reduceEqDiff]; omega))) (fun h32 => ?_) (fun h32 => ?_)
              · first
                | (exfalso; omega)
                | (
                  refine zr_iload_n dX3_tell_44 (rfl : 44 + 1 = 45) rfl ?_
                  refine zr_istore (lv' := [_, _, _, _, _]) dX3_tell_45 (rfl : 45 + 2 = 47) (Nat.le_of_ble_eq_true rfl) rfl ?_
                  refine zr_aload_n dX3_tell_47 (rfl : 47 + 1 = 48) rfl ?_
                  refine zr_getf dX3_tell_48 (rfl : 48 + 3 = 51) f_X3_18 (by first | assumption | exact bk_0 | exact bk_1 | exact bk_2 | exact bk_3 | exact bk_4 | exact bk_5 | exact bk_6 | exact bk_7 | exact bk_8 | exact bk_9 | exact bk_10 | exact bk_11 | exact bk_12 | exact bk_13 | exact bk_14 | exact bk_15 | exact bk_16 | exact zup_self | exact (zup_ne (by first | assumption | omega)).trans (by first | assumption | exact zup_self) | exact (zup_ne (by first | assumption | omega)).trans ((zup_ne (by first | assumption | omega)).trans (by first | assumption | exact zup_self))) rfl ?_
                  refine zr_aload_n dX3_tell_51 (rfl : 51 + 1 = 52) rfl ?_
                  refine zr_getf dX3_tell_52 (rfl : 52 + 3 = 55) f_X3_54 (by first | assumption | exact bk_0 | exact bk_1 | exact bk_2 | exact bk_3 | exact bk_4 | exact bk_5 | exact bk_6 | exact bk_7 | exact bk_8 | exact bk_9 | exact bk_10 | exact bk_11 | exact bk_12 | exact bk_13 | exact bk_14 | exact bk_15 | exact bk_16 | exact zup_self | exact (zup_ne (by first | assumption | omega)).trans (by first | assumption | exact zup_self) | exact (zup_ne (by first | assumption | omega)).trans ((zup_ne (by first | assumption | omega)).trans (by first | assumption | exact zup_self))) rfl ?_
                  refine zr_iload_n dX3_tell_55 (rfl : 55 + 1 = 56) rfl ?_
                  refine zr_iast dX3_tell_56 (rfl : 56 + 1 = 57) (by first | assumption | exact bk_0 | exact bk_1 | exact bk_2 | exact bk_3 | exact bk_4 | exact bk_5 | exact bk_6 | exact bk_7 | exact bk_8 | exact bk_9 | exact bk_10 | exact bk_11 | exact bk_12 | exact bk_13 | exact bk_14 | exact bk_15 | exact bk_16 | exact zup_self | exact (zup_ne (by first | assumption | omega)).trans (by first | assumption | exact zup_self) | exact (zup_ne (by first | assumption | omega)).trans ((zup_ne (by first | assumption | omega)).trans (by first | assumption | exact zup_self))) (by decide) (by first | omega | (simp only [bset, reduceIte, Nat.reduceEqDiff]; omega)) (by first | omega | (simp only [bset, reduceIte, Nat.reduceEqDiff]; omega)) rfl ?_
                  rw [bku_5]
                  refine zr_aload_n dX3_tell_57 (rfl : 57 + 1 = 58) rfl ?_
                  refine zr_getf dX3_tell_58 (rfl : 58 + 3 = 61) f_X3_22 (by first | assumption | exact bk_0 | exact bk_1 | exact bk_2 | exact bk_3 | exact bk_4 | exact bk_5 | exact bk_6 | exact bk_7 | exact bk_8 | exact bk_9 | exact bk_10 | exact bk_11 | exact bk_12 | exact bk_13 | exact bk_14 | exact bk_15 | exact bk_16 | exact zup_self | exact (zup_ne (by first | assumption | omega)).trans (by first | assumption | exact zup_self) | exact (zup_ne (by first | assumption | omega)).trans ((zup_ne (by first | assumption | omega)).trans (by first | assumption | exact zup_self))) rfl ?_
                  refine zr_aload_n dX3_tell_61 (rfl : 61 + 1 = 62) rfl ?_
                  refine zr_getf dX3_tell_62 (rfl : 62 + 3 = 65) f_X3_54 (by first | assumption | exact bk_0 | exact bk_1 | exact bk_2 | exact bk_3 | exact bk_4 | exact bk_5 | exact bk_6 | exact bk_7 | exact bk_8 | exact bk_9 | exact bk_10 | exact bk_11 | exact bk_12 | exact bk_13 | exact bk_14 | exact bk_15 | exact bk_16 | exact zup_self | exact (zup_ne (by first | assumption | omega)).trans (by first | assumption | exact zup_self) | exact (zup_ne (by first | assumption | omega)).trans ((zup_ne (by first | assumption | omega)).trans (by first | assumption | exact zup_self))) rfl ?_
                  refine zr_iload dX3_tell_65 (rfl : 65 + 2 = 67) rfl ?_
                  refine zr_iast dX3_tell_67 (rfl : 67 + 1 = 68) (by first | assumption | exact bk_0 | exact bk_1 | exact bk_2 | exact bk_3 | exact bk_4 | exact bk_5 | exact bk_6 | exact bk_7 | exact bk_8 | exact bk_9 | exact bk_10 | exact bk_11 | exact bk_12 | exact bk_13 | exact bk_14 | exact bk_15 | exact bk_16 | exact zup_self | exact (zup_ne (by first | assumption | omega)).trans (by first | assumption | exact zup_self) | exact (zup_ne (by first | assumption | omega)).trans ((zup_ne (by first | assumption | omega)).trans (by first | assumption | exact zup_self))) (by decide) (by first | omega | (simp only [bset, reduceIte, Nat.reduceEqDiff]; omega)) (by first | omega | (simp only [bset, reduceIte, Nat.reduceEqDiff]; omega)) rfl ?_
                  rw [bku_6]
                  refine zr_aload_n dX3_tell_68 (rfl : 68 + 1 = 69) rfl ?_
                  refine zr_dup dX3_tell_69 (rfl : 69 + 1 = 70) rfl ?_
                  refine zr_getf dX3_tell_70 (rfl : 70 + 3 = 73) f_X3_54 (by first | assumption | exact bk_0 | exact bk_1 | exact bk_2 | exact bk_3 | exact bk_4 | exact bk_5 | exact bk_6 | exact bk_7 | exact bk_8 | exact bk_9 | exact bk_10 | exact bk_11 | exact bk_12 | exact bk_13 | exact bk_14 | exact bk_15 | exact bk_16 | exact zup_self | exact (zup_ne (by first | assumption | omega)).trans (by first | assumption | exact zup_self) | exact (zup_ne (by first | assumption | omega)).trans ((zup_ne (by first | assumption | omega)).trans (by first | assumption | exact zup_self))) rfl ?_
                  refine zr_iconst dX3_tell_73 (rfl : 73 + 1 = 74) ?_
                  refine zr_iadd dX3_tell_74 (rfl : 74 + 1 = 75) (by first | exact jI_add _ _ | rfl) ?_
                  refine zr_putf (fs' := [_, _, _, _, _, _, _, _, _, _]) dX3_tell_75 (rfl : 75 + 3 = 78) f_X3_54 ft_3_8 (by first | assumption | exact bk_0 | exact bk_1 | exact bk_2 | exact bk_3 | exact bk_4 | exact bk_5 | exact bk_6 | exact bk_7 | exact bk_8 | exact bk_9 | exact bk_10 | exact bk_11 | exact bk_12 | exact bk_13 | exact bk_14 | exact bk_15 | exact bk_16 | exact zup_self | exact (zup_ne (by first | assumption | omega)).trans (by first | assumption | exact zup_self) | exact (zup_ne (by first | assumption | omega)).trans ((zup_ne (by first | assumption | omega)).trans (by first | assumption | exact zup_self))) (Nat.le_of_ble_eq_true rfl) rfl rfl rfl ?_
                  rw [bku_12]
                  refine zr_aload_n dX3_tell_78 (rfl : 78 + 1 = 79) rfl ?_
                  refine zr_getf dX3_tell_79 (rfl : 79 + 3 = 82) f_X3_25 (by first | assumption | exact bk_0 | exact bk_1 | exact bk_2 | exact bk_3 | exact bk_4 | exact bk_5 | exact bk_6 | exact bk_7 | exact bk_8 | exact bk_9 | exact bk_10 | exact bk_11 | exact bk_12 | exact bk_13 | exact bk_14 | exact bk_15 | exact bk_16 | exact zup_self | exact (zup_ne (by first | assumption | omega)).trans (by first | assumption | exact zup_self) | exact (zup_ne (by first | assumption | omega)).trans ((zup_ne (by first | assumption | omega)).trans (by first | assumption | exact zup_self))) rfl ?_
                  refine zr_iload_n dX3_tell_82 (rfl : 82 + 1 = 83) rfl ?_
                  refine zr_aload_n dX3_tell_83 (rfl : 83 + 1 = 84) rfl ?_
                  refine zr_getf dX3_tell_84 (rfl : 84 + 3 = 87) f_X3_54 (by first | assumption | exact bk_0 | exact bk_1 | exact bk_2 | exact bk_3 | exact bk_4 | exact bk_5 | exact bk_6 | exact bk_7 | exact bk_8 | exact bk_9 | exact bk_10 | exact bk_11 | exact bk_12 | exact bk_13 | exact bk_14 | exact bk_15 | exact bk_16 | exact zup_self | exact (zup_ne (by first | assumption | omega)).trans (by first | assumption | exact zup_self) | exact (zup_ne (by first | assumption | omega)).trans ((zup_ne (by first | assumption | omega)).trans (by first | assumption | exact zup_self))) rfl ?_
                  refine zr_iast dX3_tell_87 (rfl : 87 + 1 = 88) (by first | assumption | exact bk_0 | exact bk_1 | exact bk_2 | exact bk_3 | exact bk_4 | exact bk_5 | exact bk_6 | exact bk_7 | exact bk_8 | exact bk_9 | exact bk_10 | exact bk_11 | exact bk_12 | exact bk_13 | exact bk_14 | exact bk_15 | exact bk_16 | exact zup_self | exact (zup_ne (by first | assumption | omega)).trans (by first | assumption | exact zup_self) | exact (zup_ne (by first | assumption | omega)).trans ((zup_ne (by first | assumption | omega)).trans (by first | assumption | exact zup_self))) (by decide) (by first | omega | (simp only [bset, reduceIte, Nat.reduceEqDiff]; omega)) (by first | omega | (simp only [bset, reduceIte, Nat.reduceEqDiff]; omega)) rfl ?_
                  rw [bku_7]
                  refine zr_aload_n dX3_tell_88 (rfl : 88 + 1 = 89) rfl ?_
                  refine zr_getf dX3_tell_89 (rfl : 89 + 3 = 92) f_X3_28 (by first | assumption | exact bk_0 | exact bk_1 | exact bk_2 | exact bk_3 | exact bk_4 | exact bk_5 | exact bk_6 | exact bk_7 | exact bk_8 | exact bk_9 | exact bk_10 | exact bk_11 | exact bk_12 | exact bk_13 | exact bk_14 | exact bk_15 | exact bk_16 | exact zup_self | exact (zup_ne (by first | assumption | omega)).trans (by first | assumption | exact zup_self) | exact (zup_ne (by first | assumption | omega)).trans ((zup_ne (by first | assumption | omega)).trans (by first | assumption | exact zup_self))) rfl ?_
                  refine zr_iload dX3_tell_92 (rfl : 92 + 2 = 94) rfl ?_
                  refine zr_dup2 dX3_tell_94 (rfl : 94 + 1 = 95) rfl rfl ?_
                  refine zr_iald dX3_tell_95 (rfl : 95 + 1 = 96) (by first | assumption | exact bk_0 | exact bk_1 | exact bk_2 | exact bk_3 | exact bk_4 | exact bk_5 | exact bk_6 | exact bk_7 | exact bk_8 | exact bk_9 | exact bk_10 | exact bk_11 | exact bk_12 | exact bk_13 | exact bk_14 | exact bk_15 | exact bk_16 | exact zup_self | exact (zup_ne (by first | assumption | omega)).trans (by first | assumption | exact zup_self) | exact (zup_ne (by first | assumption | omega)).trans ((zup_ne (by first | assumption | omega)).trans (by first | assumption | exact zup_self))) (by decide) (by first | omega | (simp only [bset, reduceIte, Nat.reduceEqDiff]; omega)) (by first | omega | (simp only [bset, reduceIte, Nat.reduceEqDiff]; omega)) ?_
                  refine zr_iconst dX3_tell_96 (rfl : 96 + 1 = 97) ?_
                  refine zr_iadd dX3_tell_97 (rfl : 97 + 1 = 98) (by first | exact jI_add _ _ | rfl) ?_
                  refine zr_iast dX3_tell_98 (rfl : 98 + 1 = 99) (by first | assumption | exact bk_0 | exact bk_1 | exact bk_2 | exact bk_3 | exact bk_4 | exact bk_5 | exact bk_6 | exact bk_7 | exact bk_8 | exact bk_9 | exact bk_10 | exact bk_11 | exact bk_12 | exact bk_13 | exact bk_14 | exact bk_15 | exact bk_16 | exact zup_self | exact (zup_ne (by first | assumption | omega)).trans (by first | assumption | exact zup_self) | exact (zup_ne (by first | assumption | omega)).trans ((zup_ne (by first | assumption | omega)).trans (by first | assumption | exact zup_self))) (by decide) (by first | omega | (simp only [bset, reduceIte, Nat.reduceEqDiff]; omega)) (by first | omega | (simp only [bset, reduceIte, Nat.reduceEqDiff]; omega)) rfl ?_
                  rw [bku_8]
                  refine zr_aload_n dX3_tell_99 (rfl : 99 + 1 = 100) rfl ?_
                  refine zr_dup dX3_tell_100 (rfl : 100 + 1 = 101) rfl ?_
                  refine zr_getf dX3_tell_101 (rfl : 101 + 3 = 104) f_X3_57 (by first | assumption | exact bk_0 | exact bk_1 | exact bk_2 | exact bk_3 | exact bk_4 | exact bk_5 | exact bk_6 | exact bk_7 | exact bk_8 | exact bk_9 | exact bk_10 | exact bk_11 | exact bk_12 | exact bk_13 | exact bk_14 | exact bk_15 | exact bk_16 | exact zup_self | exact (zup_ne (by first | assumption | omega)).trans (by first | assumption | exact zup_self) | exact (zup_ne (by first | assumption | omega)).trans ((zup_ne (by first | assumption | omega)).trans (by first | assumption | exact zup_self))) rfl ?_
                  refine zr_iload_n dX3_tell_104 (rfl : 104 + 1 = 105) rfl ?_
                  refine zr_if_eq (tgt := 112) dX3_tell_105 (by decide) (rfl : 105 + 3 = 108) (by first | exact jb_iff | exact jI_z (by first | omega | (simp only [bset, reduceIte, Nat.reduceEqDiff]; omega)) (by first | omega | (simp only [bset, reduceIte, Nat.reduceEqDiff]; omega))) (fun h105 => ?_) (fun h105 => ?_)
                  · first
                    | (exfalso; omega)
                    | (
                      refine zr_iconst dX3_tell_112 (rfl : 112 + 1 = 113) ?_
                      refine zr_iadd dX3_tell_113 (rfl : 113 + 1 = 114) (by first | exact jI_add _ _ | rfl) ?_
                      refine zr_putf (fs' := [_, _, _, _, _, _, _, _, _, _]) dX3_tell_114 (rfl : 114 + 3 = 117) f_X3_57 ft_3_9 (by first | assumption | exact bk_0 | exact bk_1 | exact bk_2 | exact bk_3 | exact bk_4 | exact bk_5 | exact bk_6 | exact bk_7 | exact bk_8 | exact bk_9 | exact bk_10 | exact bk_11 | exact bk_12 | exact bk_13 | exact bk_14 | exact bk_15 | exact bk_16 | exact zup_self | exact (zup_ne (by first | assumption | omega)).trans (by first | assumption | exact zup_self) | exact (zup_ne (by first | assumption | omega)).trans ((zup_ne (by first | assumption | omega)).trans (by first | assumption | exact zup_self))) (Nat.le_of_ble_eq_true rfl) rfl rfl rfl ?_
                      rw [bku_13]
                      exact zr_vret dX3_tell_117 rfl rfl rfl rfl)
                  · first
                    | (exfalso; omega)
                    | (
                      refine zr_iconst dX3_tell_108 (rfl : 108 + 1 = 109) ?_
                      refine zr_goto (tgt := 113) dX3_tell_109 (by decide) ?_
                      refine zr_iadd dX3_tell_113 (rfl : 113 + 1 = 114) (by first | exact jI_add _ _ | rfl) ?_
                      refine zr_putf (fs' := [_, _, _, _, _, _, _, _, _, _]) dX3_tell_114 (rfl : 114 + 3 = 117) f_X3_57 ft_3_9 (by first | assumption | exact bk_0 | exact bk_1 | exact bk_2 | exact bk_3 | exact bk_4 | exact bk_5 | exact bk_6 | exact bk_7 | exact bk_8 | exact bk_9 | exact bk_10 | exact bk_11 | exact bk_12 | exact bk_13 | exact bk_14 | exact bk_15 | exact bk_16 | exact zup_self | exact (zup_ne (by first | assumption | omega)).trans (by first | assumption | exact zup_self) | exact (zup_ne (by first | assumption | omega)).trans ((zup_ne (by first | assumption | omega)).trans (by first | assumption | exact zup_self))) (Nat.le_of_ble_eq_true rfl) rfl rfl rfl ?_
                      rw [bku_13]
                      exact zr_vret dX3_tell_117 rfl rfl rfl rfl))
              · first
                | (exfalso; omega)
                | (
                  refine zr_iload_n dX3_tell_35 (rfl : 35 + 1 = 36) rfl ?_
                  refine zr_bipush dX3_tell_36 (rfl : 36 + 2 = 38) (by decide) ?_
                  refine zr_irem dX3_tell_38 (rfl : 38 + 1 = 39) (fun q => absurd ((jI_z (by first | omega | (simp only [bset, reduceIte, Nat.reduceEqDiff]; omega)) (by first | omega | (simp only [bset, reduceIte, Nat.reduceEqDiff]; omega))).mp q) (by first | omega | (simp only [bset, reduceIte, Nat.reduceEqDiff]; omega))) (jI_rem (by first | omega | (simp only [bset, reduceIte, Nat.reduceEqDiff]; omega)) (by first | omega | (simp only [bset, reduceIte, Nat.reduceEqDiff]; omega)) (by first | omega | (simp only [bset, reduceIte, Nat.reduceEqDiff]; omega)) (by first | omega | (simp only [bset, reduceIte, Nat.reduceEqDiff]; omega))) ?_
                  refine zr_iconst dX3_tell_39 (rfl : 39 + 1 = 40) ?_
                  refine zr_iadd dX3_tell_40 (rfl : 40 + 1 = 41) (by first | exact jI_add _ _ | rfl) ?_
                  refine zr_goto (tgt := 45) dX3_tell_41 (by decide) ?_
                  refine zr_istore (lv' := [_, _, _, _, _]) dX3_tell_45 (rfl : 45 + 2 = 47) (Nat.le_of_ble_eq_true rfl) rfl ?_
                  refine zr_aload_n dX3_tell_47 (rfl : 47 + 1 = 48) rfl ?_
                  refine zr_getf dX3_tell_48 (rfl : 48 + 3 = 51) f_X3_18 (by first | assumption | exact bk_0 | exact bk_1 | exact bk_2 | exact bk_3 | exact bk_4 | exact bk_5 | exact bk_6 | exact bk_7 | exact bk_8 | exact bk_9 | exact bk_10 | exact bk_11 | exact bk_12 | exact bk_13 | exact bk_14 | exact bk_15 | exact bk_16 | exact zup_self | exact (zup_ne (by first | assumption | omega)).trans (by first | assumption | exact zup_self) | exact (zup_ne (by first | assumption | omega)).trans ((zup_ne (by first | assumption | omega)).trans (by first | assumption | exact zup_self))) rfl ?_
                  refine zr_aload_n dX3_tell_51 (rfl : 51 + 1 = 52) rfl ?_
                  refine zr_getf dX3_tell_52 (rfl : 52 + 3 = 55) f_X3_54 (by first | assumption | exact bk_0 | exact bk_1 | exact bk_2 | exact bk_3 | exact bk_4 | exact bk_5 | exact bk_6 | exact bk_7 | exact bk_8 | exact bk_9 | exact bk_10 | exact bk_11 | exact bk_12 | exact bk_13 | exact bk_14 | exact bk_15 | exact bk_16 | exact zup_self | exact (zup_ne (by first | assumption | omega)).trans (by first | assumption | exact zup_self) | exact (zup_ne (by first | assumption | omega)).trans ((zup_ne (by first | assumption | omega)).trans (by first | assumption | exact zup_self))) rfl ?_
                  refine zr_iload_n dX3_tell_55 (rfl : 55 + 1 = 56) rfl ?_
                  refine zr_iast dX3_tell_56 (rfl : 56 + 1 = 57) (by first | assumption | exact bk_0 | exact bk_1 | exact bk_2 | exact bk_3 | exact bk_4 | exact bk_5 | exact bk_6 | exact bk_7 | exact bk_8 | exact bk_9 | exact bk_10 | exact bk_11 | exact bk_12 | exact bk_13 | exact bk_14 | exact bk_15 | exact bk_16 | exact zup_self | exact (zup_ne (by first | assumption | omega)).trans (by first | assumption | exact zup_self) | exact (zup_ne (by first | assumption | omega)).trans ((zup_ne (by first | assumption | omega)).trans (by first | assumption | exact zup_self))) (by decide) (by first | omega | (simp only [bset, reduceIte, Nat.reduceEqDiff]; omega)) (by first | omega | (simp only [bset, reduceIte, Nat.reduceEqDiff]; omega)) rfl ?_
                  rw [bku_5]
                  refine zr_aload_n dX3_tell_57 (rfl : 57 + 1 = 58) rfl ?_
                  refine zr_getf dX3_tell_58 (rfl : 58 + 3 = 61) f_X3_22 (by first | assumption | exact bk_0 | exact bk_1 | exact bk_2 | exact bk_3 | exact bk_4 | exact bk_5 | exact bk_6 | exact bk_7 | exact bk_8 | exact bk_9 | exact bk_10 | exact bk_11 | exact bk_12 | exact bk_13 | exact bk_14 | exact bk_15 | exact bk_16 | exact zup_self | exact (zup_ne (by first | assumption | omega)).trans (by first | assumption | exact zup_self) | exact (zup_ne (by first | assumption | omega)).trans ((zup_ne (by first | assumption | omega)).trans (by first | assumption | exact zup_self))) rfl ?_
                  refine zr_aload_n dX3_tell_61 (rfl : 61 + 1 = 62) rfl ?_
                  refine zr_getf dX3_tell_62 (rfl : 62 + 3 = 65) f_X3_54 (by first | assumption | exact bk_0 | exact bk_1 | exact bk_2 | exact bk_3 | exact bk_4 | exact bk_5 | exact bk_6 | exact bk_7 | exact bk_8 | exact bk_9 | exact bk_10 | exact bk_11 | exact bk_12 | exact bk_13 | exact bk_14 | exact bk_15 | exact bk_16 | exact zup_self | exact (zup_ne (by first | assumption | omega)).trans (by first | assumption | exact zup_self) | exact (zup_ne (by first | assumption | omega)).trans ((zup_ne (by first | assumption | omega)).trans (by first | assumption | exact zup_self))) rfl ?_
                  refine zr_iload dX3_tell_65 (rfl : 65 + 2 = 67) rfl ?_
                  refine zr_iast dX3_tell_67 (rfl : 67 + 1 = 68) (by first | assumption | exact bk_0 | exact bk_1 | exact bk_2 | exact bk_3 | exact bk_4 | exact bk_5 | exact bk_6 | exact bk_7 | exact bk_8 | exact bk_9 | exact bk_10 | exact bk_11 | exact bk_12 | exact bk_13 | exact bk_14 | exact bk_15 | exact bk_16 | exact zup_self | exact (zup_ne (by first | assumption | omega)).trans (by first | assumption | exact zup_self) | exact (zup_ne (by first | assumption | omega)).trans ((zup_ne (by first | assumption | omega)).trans (by first | assumption | exact zup_self))) (by decide) (by first | omega | (simp only [bset, reduceIte, Nat.reduceEqDiff]; omega)) (by first | omega | (simp only [bset, reduceIte, Nat.reduceEqDiff]; omega)) rfl ?_
                  rw [bku_6]
                  refine zr_aload_n dX3_tell_68 (rfl : 68 + 1 = 69) rfl ?_
                  refine zr_dup dX3_tell_69 (rfl : 69 + 1 = 70) rfl ?_
                  refine zr_getf dX3_tell_70 (rfl : 70 + 3 = 73) f_X3_54 (by first | assumption | exact bk_0 | exact bk_1 | exact bk_2 | exact bk_3 | exact bk_4 | exact bk_5 | exact bk_6 | exact bk_7 | exact bk_8 | exact bk_9 | exact bk_10 | exact bk_11 | exact bk_12 | exact bk_13 | exact bk_14 | exact bk_15 | exact bk_16 | exact zup_self | exact (zup_ne (by first | assumption | omega)).trans (by first | assumption | exact zup_self) | exact (zup_ne (by first | assumption | omega)).trans ((zup_ne (by first | assumption | omega)).trans (by first | assumption | exact zup_self))) rfl ?_
                  refine zr_iconst dX3_tell_73 (rfl : 73 + 1 = 74) ?_
                  refine zr_iadd dX3_tell_74 (rfl : 74 + 1 = 75) (by first | exact jI_add _ _ | rfl) ?_
                  refine zr_putf (fs' := [_, _, _, _, _, _, _, _, _, _]) dX3_tell_75 (rfl : 75 + 3 = 78) f_X3_54 ft_3_8 (by first | assumption | exact bk_0 | exact bk_1 | exact bk_2 | exact bk_3 | exact bk_4 | exact bk_5 | exact bk_6 | exact bk_7 | exact bk_8 | exact bk_9 | exact bk_10 | exact bk_11 | exact bk_12 | exact bk_13 | exact bk_14 | exact bk_15 | exact bk_16 | exact zup_self | exact (zup_ne (by first | assumption | omega)).trans (by first | assumption | exact zup_self) | exact (zup_ne (by first | assumption | omega)).trans ((zup_ne (by first | assumption | omega)).trans (by first | assumption | exact zup_self))) (Nat.le_of_ble_eq_true rfl) rfl rfl rfl ?_
                  rw [bku_12]
                  refine zr_aload_n dX3_tell_78 (rfl : 78 + 1 = 79) rfl ?_
                  refine zr_getf dX3_tell_79 (rfl : 79 + 3 = 82) f_X3_25 (by first | assumption | exact bk_0 | exact bk_1 | exact bk_2 | exact bk_3 | exact bk_4 | exact bk_5 | exact bk_6 | exact bk_7 | exact bk_8 | exact bk_9 | exact bk_10 | exact bk_11 | exact bk_12 | exact bk_13 | exact bk_14 | exact bk_15 | exact bk_16 | exact zup_self | exact (zup_ne (by first | assumption | omega)).trans (by first | assumption | exact zup_self) | exact (zup_ne (by first | assumption | omega)).trans ((zup_ne (by first | assumption | omega)).trans (by first | assumption | exact zup_self))) rfl ?_
                  refine zr_iload_n dX3_tell_82 (rfl : 82 + 1 = 83) rfl ?_
                  refine zr_aload_n dX3_tell_83 (rfl : 83 + 1 = 84) rfl ?_
                  refine zr_getf dX3_tell_84 (rfl : 84 + 3 = 87) f_X3_54 (by first | assumption | exact bk_0 | exact bk_1 | exact bk_2 | exact bk_3 | exact bk_4 | exact bk_5 | exact bk_6 | exact bk_7 | exact bk_8 | exact bk_9 | exact bk_10 | exact bk_11 | exact bk_12 | exact bk_13 | exact bk_14 | exact bk_15 | exact bk_16 | exact zup_self | exact (zup_ne (by first | assumption | omega)).trans (by first | assumption | exact zup_self) | exact (zup_ne (by first | assumption | omega)).trans ((zup_ne (by first | assumption | omega)).trans (by first | assumption | exact zup_self))) rfl ?_
                  refine zr_iast dX3_tell_87 (rfl : 87 + 1 = 88) (by first | assumption | exact bk_0 | exact bk_1 | exact bk_2 | exact bk_3 | exact bk_4 | exact bk_5 | exact bk_6 | exact bk_7 | exact bk_8 | exact bk_9 | exact bk_10 | exact bk_11 | exact bk_12 | exact bk_13 | exact bk_14 | exact bk_15 | exact bk_16 | exact zup_self | exact (zup_ne (by first | assumption | omega)).trans (by first | assumption | exact zup_self) | exact (zup_ne (by first | assumption | omega)).trans ((zup_ne (by first | assumption | omega)).trans (by first | assumption | exact zup_self))) (by decide) (by first | omega | (simp only [bset, reduceIte, Nat.reduceEqDiff]; omega)) (by first | omega | (simp only [bset, reduceIte, Nat.reduceEqDiff]; omega)) rfl ?_
                  rw [bku_7]
                  refine zr_aload_n dX3_tell_88 (rfl : 88 + 1 = 89) rfl ?_
                  refine zr_getf dX3_tell_89 (rfl : 89 + 3 = 92) f_X3_28 (by first | assumption | exact bk_0 | exact bk_1 | exact bk_2 | exact bk_3 | exact bk_4 | exact bk_5 | exact bk_6 | exact bk_7 | exact bk_8 | exact bk_9 | exact bk_10 | exact bk_11 | exact bk_12 | exact bk_13 | exact bk_14 | exact bk_15 | exact bk_16 | exact zup_self | exact (zup_ne (by first | assumption | omega)).trans (by first | assumption | exact zup_self) | exact (zup_ne (by first | assumption | omega)).trans ((zup_ne (by first | assumption | omega)).trans (by first | assumption | exact zup_self))) rfl ?_
                  refine zr_iload dX3_tell_92 (rfl : 92 + 2 = 94) rfl ?_
                  refine zr_dup2 dX3_tell_94 (rfl : 94 + 1 = 95) rfl rfl ?_
                  refine zr_iald dX3_tell_95 (rfl : 95 + 1 = 96) (by first | assumption | exact bk_0 | exact bk_1 | exact bk_2 | exact bk_3 | exact bk_4 | exact bk_5 | exact bk_6 | exact bk_7 | exact bk_8 | exact bk_9 | exact bk_10 | exact bk_11 | exact bk_12 | exact bk_13 | exact bk_14 | exact bk_15 | exact bk_16 | exact zup_self | exact (zup_ne (by first | assumption | omega)).trans (by first | assumption | exact zup_self) | exact (zup_ne (by first | assumption | omega)).trans ((zup_ne (by first | assumption | omega)).trans (by first | assumption | exact zup_self))) (by decide) (by first | omega | (simp only [bset, reduceIte, Nat.reduceEqDiff]; omega)) (by first | omega | (simp only [bset, reduceIte, Nat.reduceEqDiff]; omega)) ?_
                  refine zr_iconst dX3_tell_96 (rfl : 96 + 1 = 97) ?_
                  refine zr_iadd dX3_tell_97 (rfl : 97 + 1 = 98) (by first | exact jI_add _ _ | rfl) ?_
                  refine zr_iast dX3_tell_98 (rfl : 98 + 1 = 99) (by first | assumption | exact bk_0 | exact bk_1 | exact bk_2 | exact bk_3 | exact bk_4 | exact bk_5 | exact bk_6 | exact bk_7 | exact bk_8 | exact bk_9 | exact bk_10 | exact bk_11 | exact bk_12 | exact bk_13 | exact bk_14 | exact bk_15 | exact bk_16 | exact zup_self | exact (zup_ne (by first | assumption | omega)).trans (by first | assumption | exact zup_self) | exact (zup_ne (by first | assumption | omega)).trans ((zup_ne (by first | assumption | omega)).trans (by first | assumption | exact zup_self))) (by decide) (by first | omega | (simp only [bset, reduceIte, Nat.reduceEqDiff]; omega)) (by first | omega | (simp only [bset, reduceIte, Nat.reduceEqDiff]; omega)) rfl ?_
                  rw [bku_8]
                  refine zr_aload_n dX3_tell_99 (rfl : 99 + 1 = 100) rfl ?_
                  refine zr_dup dX3_tell_100 (rfl : 100 + 1 = 101) rfl ?_
                  refine zr_getf dX3_tell_101 (rfl : 101 + 3 = 104) f_X3_57 (by first | assumption | exact bk_0 | exact bk_1 | exact bk_2 | exact bk_3 | exact bk_4 | exact bk_5 | exact bk_6 | exact bk_7 | exact bk_8 | exact bk_9 | exact bk_10 | exact bk_11 | exact bk_12 | exact bk_13 | exact bk_14 | exact bk_15 | exact bk_16 | exact zup_self | exact (zup_ne (by first | assumption | omega)).trans (by first | assumption | exact zup_self) | exact (zup_ne (by first | assumption | omega)).trans ((zup_ne (by first | assumption | omega)).trans (by first | assumption | exact zup_self))) rfl ?_
                  refine zr_iload_n dX3_tell_104 (rfl : 104 + 1 = 105) rfl ?_
                  refine zr_if_eq (tgt := 112) dX3_tell_105 (by decide) (rfl : 105 + 3 = 108) (by first | exact jb_iff | exact jI_z (by first | omega | (simp only [bset, reduceIte, Nat.reduceEqDiff]; omega)) (by first | omega | (simp only [bset, reduceIte, Nat.reduceEqDiff]; omega))) (fun h105 => ?_) (fun h105 => ?_)
                  · first
                    | (exfalso; omega)
                    | (
                      refine zr_iconst dX3_tell_112 (rfl : 112 + 1 = 113) ?_
                      refine zr_iadd dX3_tell_113 (rfl : 113 + 1 = 114) (by first | exact jI_add _ _ | rfl) ?_
                      refine zr_putf (fs' := [_, _, _, _, _, _, _, _, _, _]) dX3_tell_114 (rfl : 114 + 3 = 117) f_X3_57 ft_3_9 (by first | assumption | exact bk_0 | exact bk_1 | exact bk_2 | exact bk_3 | exact bk_4 | exact bk_5 | exact bk_6 | exact bk_7 | exact bk_8 | exact bk_9 | exact bk_10 | exact bk_11 | exact bk_12 | exact bk_13 | exact bk_14 | exact bk_15 | exact bk_16 | exact zup_self | exact (zup_ne (by first | assumption | omega)).trans (by first | assumption | exact zup_self) | exact (zup_ne (by first | assumption | omega)).trans ((zup_ne (by first | assumption | omega)).trans (by first | assumption | exact zup_self))) (Nat.le_of_ble_eq_true rfl) rfl rfl rfl ?_
                      rw [bku_13]
                      exact zr_vret dX3_tell_117 rfl rfl rfl rfl)
                  · first
                    | (exfalso; omega)
                    | (
                      refine zr_iconst dX3_tell_108 (rfl : 108 + 1 = 109) ?_
                      refine zr_goto (tgt := 113) dX3_tell_109 (by decide) ?_
                      refine zr_iadd dX3_tell_113 (rfl : 113 + 1 = 114) (by first | exact jI_add _ _ | rfl) ?_
                      refine zr_putf (fs' := [_, _, _, _, _, _, _, _, _, _]) dX3_tell_114 (rfl : 114 + 3 = 117) f_X3_57 ft_3_9 (by first | assumption | exact bk_0 | exact bk_1 | exact bk_2 | exact bk_3 | exact bk_4 | exact bk_5 | exact bk_6 | exact bk_7 | exact bk_8 | exact bk_9 | exact bk_10 | exact bk_11 | exact bk_12 | exact bk_13 | exact bk_14 | exact bk_15 | exact bk_16 | exact zup_self | exact (zup_ne (by first | assumption | omega)).trans (by first | assumption | exact zup_self) | exact (zup_ne (by first | assumption | omega)).trans ((zup_ne (by first | assumption | omega)).trans (by first | assumption | exact zup_self))) (Nat.le_of_ble_eq_true rfl) rfl rfl rfl ?_
                      rw [bku_13]
                      exact zr_vret dX3_tell_117 rfl rfl rfl rfl)))))
  · first
    | (exfalso; omega)
    | (
      exact zr_vret dX3_tell_9 rfl rfl rfl rfl)
theorem s_takeIn (x : Int) : zFn Γ md_X4_takeIn d [.ref (b + 13), .int (jI x)] (bk b B w) (some (.int (jI (B 16 0 + x)))) (bk b (bset (bset B 16 (fun _ => B 16 0 + x)) 17 (fun _ => B 17 0 + x)) w) := by
  refine zFn.of_run (lv := [some (.ref (b + 13)), some (.int (jI x))]) (by decide) rfl (Nat.le_of_ble_eq_true rfl) rfl (fun n9 g9 => ?_)
  refine zr_aload_n dX4_takeIn_0 (rfl : 0 + 1 = 1) rfl ?_
  refine zr_dup dX4_takeIn_1 (rfl : 1 + 1 = 2) rfl ?_
  refine zr_getf dX4_takeIn_2 (rfl : 2 + 3 = 5) f_X4_24 (by first | assumption | exact bk_0 | exact bk_1 | exact bk_2 | exact bk_3 | exact bk_4 | exact bk_5 | exact bk_6 | exact bk_7 | exact bk_8 | exact bk_9 | exact bk_10 | exact bk_11 | exact bk_12 | exact bk_13 | exact bk_14 | exact bk_15 | exact bk_16 | exact zup_self | exact (zup_ne (by first | assumption | omega)).trans (by first | assumption | exact zup_self) | exact (zup_ne (by first | assumption | omega)).trans ((zup_ne (by first | assumption | omega)).trans (by first | assumption | exact zup_self))) rfl ?_
  refine zr_iload_n dX4_takeIn_5 (rfl : 5 + 1 = 6) rfl ?_
  refine zr_iadd dX4_takeIn_6 (rfl : 6 + 1 = 7) (by first | exact jI_add _ _ | rfl) ?_
  refine zr_putf (fs' := [_, _, _, _, _, _, _, _, _]) dX4_takeIn_7 (rfl : 7 + 3 = 10) f_X4_24 ft_4_2 (by first | assumption | exact bk_0 | exact bk_1 | exact bk_2 | exact bk_3 | exact bk_4 | exact bk_5 | exact bk_6 | exact bk_7 | exact bk_8 | exact bk_9 | exact bk_10 | exact bk_11 | exact bk_12 | exact bk_13 | exact bk_14 | exact bk_15 | exact bk_16 | exact zup_self | exact (zup_ne (by first | assumption | omega)).trans (by first | assumption | exact zup_self) | exact (zup_ne (by first | assumption | omega)).trans ((zup_ne (by first | assumption | omega)).trans (by first | assumption | exact zup_self))) (Nat.le_of_ble_eq_true rfl) rfl rfl rfl ?_
  rw [bku_16]
  refine zr_aload_n dX4_takeIn_10 (rfl : 10 + 1 = 11) rfl ?_
  refine zr_dup dX4_takeIn_11 (rfl : 11 + 1 = 12) rfl ?_
  refine zr_getf dX4_takeIn_12 (rfl : 12 + 3 = 15) f_X4_28 (by first | assumption | exact bk_0 | exact bk_1 | exact bk_2 | exact bk_3 | exact bk_4 | exact bk_5 | exact bk_6 | exact bk_7 | exact bk_8 | exact bk_9 | exact bk_10 | exact bk_11 | exact bk_12 | exact bk_13 | exact bk_14 | exact bk_15 | exact bk_16 | exact zup_self | exact (zup_ne (by first | assumption | omega)).trans (by first | assumption | exact zup_self) | exact (zup_ne (by first | assumption | omega)).trans ((zup_ne (by first | assumption | omega)).trans (by first | assumption | exact zup_self))) rfl ?_
  refine zr_iload_n dX4_takeIn_15 (rfl : 15 + 1 = 16) rfl ?_
  refine zr_iadd dX4_takeIn_16 (rfl : 16 + 1 = 17) (by first | exact jI_add _ _ | rfl) ?_
  refine zr_putf (fs' := [_, _, _, _, _, _, _, _, _]) dX4_takeIn_17 (rfl : 17 + 3 = 20) f_X4_28 ft_4_3 (by first | assumption | exact bk_0 | exact bk_1 | exact bk_2 | exact bk_3 | exact bk_4 | exact bk_5 | exact bk_6 | exact bk_7 | exact bk_8 | exact bk_9 | exact bk_10 | exact bk_11 | exact bk_12 | exact bk_13 | exact bk_14 | exact bk_15 | exact bk_16 | exact zup_self | exact (zup_ne (by first | assumption | omega)).trans (by first | assumption | exact zup_self) | exact (zup_ne (by first | assumption | omega)).trans ((zup_ne (by first | assumption | omega)).trans (by first | assumption | exact zup_self))) (Nat.le_of_ble_eq_true rfl) rfl rfl rfl ?_
  rw [bku_17]
  refine zr_aload_n dX4_takeIn_20 (rfl : 20 + 1 = 21) rfl ?_
  refine zr_getf dX4_takeIn_21 (rfl : 21 + 3 = 24) f_X4_24 (by first | assumption | exact bk_0 | exact bk_1 | exact bk_2 | exact bk_3 | exact bk_4 | exact bk_5 | exact bk_6 | exact bk_7 | exact bk_8 | exact bk_9 | exact bk_10 | exact bk_11 | exact bk_12 | exact bk_13 | exact bk_14 | exact bk_15 | exact bk_16 | exact zup_self | exact (zup_ne (by first | assumption | omega)).trans (by first | assumption | exact zup_self) | exact (zup_ne (by first | assumption | omega)).trans ((zup_ne (by first | assumption | omega)).trans (by first | assumption | exact zup_self))) rfl ?_
  refine zr_iret dX4_takeIn_24 rfl (by first | rfl | exact jb_nar) ?_ rfl rfl rfl
  first | rfl | rw [jb_pos (by first | assumption | omega)] | rw [jb_neg (by first | assumption | omega)] | rw [if_pos (by first | assumption | omega)] | rw [if_neg (by first | assumption | omega)]
theorem s_closeEvening (x : Int) : zFn Γ md_X4_closeEvening d [.ref (b + 13), .int (jI x)] (bk b B w) none (bk b (bset (bset (bset B 19 (fun _ => B 19 0 + x)) 16 (fun _ => 0)) 22 (fun _ => B 22 0 + 1)) w) := by
  refine zFn.of_run (lv := [some (.ref (b + 13)), some (.int (jI x))]) (by decide) rfl (Nat.le_of_ble_eq_true rfl) rfl (fun n9 g9 => ?_)
  refine zr_aload_n dX4_closeEvening_0 (rfl : 0 + 1 = 1) rfl ?_
  refine zr_dup dX4_closeEvening_1 (rfl : 1 + 1 = 2) rfl ?_
  refine zr_getf dX4_closeEvening_2 (rfl : 2 + 3 = 5) f_X4_34 (by first | assumption | exact bk_0 | exact bk_1 | exact bk_2 | exact bk_3 | exact bk_4 | exact bk_5 | exact bk_6 | exact bk_7 | exact bk_8 | exact bk_9 | exact bk_10 | exact bk_11 | exact bk_12 | exact bk_13 | exact bk_14 | exact bk_15 | exact bk_16 | exact zup_self | exact (zup_ne (by first | assumption | omega)).trans (by first | assumption | exact zup_self) | exact (zup_ne (by first | assumption | omega)).trans ((zup_ne (by first | assumption | omega)).trans (by first | assumption | exact zup_self))) rfl ?_
  refine zr_iload_n dX4_closeEvening_5 (rfl : 5 + 1 = 6) rfl ?_
  refine zr_iadd dX4_closeEvening_6 (rfl : 6 + 1 = 7) (by first | exact jI_add _ _ | rfl) ?_
  refine zr_putf (fs' := [_, _, _, _, _, _, _, _, _]) dX4_closeEvening_7 (rfl : 7 + 3 = 10) f_X4_34 ft_4_5 (by first | assumption | exact bk_0 | exact bk_1 | exact bk_2 | exact bk_3 | exact bk_4 | exact bk_5 | exact bk_6 | exact bk_7 | exact bk_8 | exact bk_9 | exact bk_10 | exact bk_11 | exact bk_12 | exact bk_13 | exact bk_14 | exact bk_15 | exact bk_16 | exact zup_self | exact (zup_ne (by first | assumption | omega)).trans (by first | assumption | exact zup_self) | exact (zup_ne (by first | assumption | omega)).trans ((zup_ne (by first | assumption | omega)).trans (by first | assumption | exact zup_self))) (Nat.le_of_ble_eq_true rfl) rfl rfl rfl ?_
  rw [bku_19]
  refine zr_aload_n dX4_closeEvening_10 (rfl : 10 + 1 = 11) rfl ?_
  refine zr_iconst dX4_closeEvening_11 (rfl : 11 + 1 = 12) ?_
  refine zr_putf (fs' := [_, _, _, _, _, _, _, _, _]) dX4_closeEvening_12 (rfl : 12 + 3 = 15) f_X4_24 ft_4_2 (by first | assumption | exact bk_0 | exact bk_1 | exact bk_2 | exact bk_3 | exact bk_4 | exact bk_5 | exact bk_6 | exact bk_7 | exact bk_8 | exact bk_9 | exact bk_10 | exact bk_11 | exact bk_12 | exact bk_13 | exact bk_14 | exact bk_15 | exact bk_16 | exact zup_self | exact (zup_ne (by first | assumption | omega)).trans (by first | assumption | exact zup_self) | exact (zup_ne (by first | assumption | omega)).trans ((zup_ne (by first | assumption | omega)).trans (by first | assumption | exact zup_self))) (Nat.le_of_ble_eq_true rfl) rfl rfl rfl ?_
  rw [bku_16]
  refine zr_aload_n dX4_closeEvening_15 (rfl : 15 + 1 = 16) rfl ?_
  refine zr_dup dX4_closeEvening_16 (rfl : 16 + 1 = 17) rfl ?_
  refine zr_getf dX4_closeEvening_17 (rfl : 17 + 3 = 20) f_X4_43 (by first | assumption | exact bk_0 | exact bk_1 | exact bk_2 | exact bk_3 | exact bk_4 | exact bk_5 | exact bk_6 | exact bk_7 | exact bk_8 | exact bk_9 | exact bk_10 | exact bk_11 | exact bk_12 | exact bk_13 | exact bk_14 | exact bk_15 | exact bk_16 | exact zup_self | exact (zup_ne (by first | assumption | omega)).trans (by first | assumption | exact zup_self) | exact (zup_ne (by first | assumption | omega)).trans ((zup_ne (by first | assumption | omega)).trans (by first | assumption | exact zup_self))) rfl ?_
  refine zr_iconst dX4_closeEvening_20 (rfl : 20 + 1 = 21) ?_
  refine zr_iadd dX4_closeEvening_21 (rfl : 21 + 1 = 22) (by first | exact jI_add _ _ | rfl) ?_
  refine zr_putf (fs' := [_, _, _, _, _, _, _, _, _]) dX4_closeEvening_22 (rfl : 22 + 3 = 25) f_X4_43 ft_4_8 (by first | assumption | exact bk_0 | exact bk_1 | exact bk_2 | exact bk_3 | exact bk_4 | exact bk_5 | exact bk_6 | exact bk_7 | exact bk_8 | exact bk_9 | exact bk_10 | exact bk_11 | exact bk_12 | exact bk_13 | exact bk_14 | exact bk_15 | exact bk_16 | exact zup_self | exact (zup_ne (by first | assumption | omega)).trans (by first | assumption | exact zup_self) | exact (zup_ne (by first | assumption | omega)).trans ((zup_ne (by first | assumption | omega)).trans (by first | assumption | exact zup_self))) (Nat.le_of_ble_eq_true rfl) rfl rfl rfl ?_
  rw [bku_22]
  exact zr_vret dX4_closeEvening_25 rfl rfl rfl rfl
def jtold (B : zB) (k : Int) : Int := if k = 3 then B 16 0 else if k = 4 then B 17 0 else if k = 5 then B 18 0 else if k = 6 then B 19 0 else if k = 10 then B 20 0 else if k = 11 then B 21 0 else B 22 0
theorem s_told (k : Int) (hk : 0 ≤ k ∧ k < 15) : zFn Γ md_X4_told d [.ref (b + 13), .int (jI k)] (bk b B w) (some (.int (jI (jtold B k)))) (bk b B w) := by
  refine zFn.of_run (lv := [some (.ref (b + 13)), some (.int (jI k))]) (by decide) rfl (Nat.le_of_ble_eq_true rfl) rfl (fun n9 g9 => ?_)
  refine zr_iload_n dX4_told_0 (rfl : 0 + 1 = 1) rfl ?_
  by_cases hs3 : k = 3
  · first
    | (exfalso; omega)
    | (
      refine zr_tableIn (off := 51) (tgt := 52) dX4_told_1 ⟨by omega, by omega⟩ (by first | omega | (simp only [bset, reduceIte, Nat.reduceEqDiff]; omega)) (by first | omega | (simp only [bset, reduceIte, Nat.reduceEqDiff]; omega)) (by rw [hs3]; rfl) (by decide) ?_
      refine zr_aload_n dX4_told_52 (rfl : 52 + 1 = 53) rfl ?_
      refine zr_getf dX4_told_53 (rfl : 53 + 3 = 56) f_X4_24 (by first | assumption | exact bk_0 | exact bk_1 | exact bk_2 | exact bk_3 | exact bk_4 | exact bk_5 | exact bk_6 | exact bk_7 | exact bk_8 | exact bk_9 | exact bk_10 | exact bk_11 | exact bk_12 | exact bk_13 | exact bk_14 | exact bk_15 | exact bk_16 | exact zup_self | exact (zup_ne (by first | assumption | omega)).trans (by first | assumption | exact zup_self) | exact (zup_ne (by first | assumption | omega)).trans ((zup_ne (by first | assumption | omega)).trans (by first | assumption | exact zup_self))) rfl ?_
      refine zr_iret dX4_told_56 rfl (by first | rfl | exact jb_nar) ?_ rfl rfl rfl
      unfold jtold
      repeat (first | rfl | rw [if_pos (by omega)] | rw [if_neg (by omega)]))
  by_cases hs4 : k = 4
  · first
    | (exfalso; omega)
    | (
      refine zr_tableIn (off := 56) (tgt := 57) dX4_told_1 ⟨by omega, by omega⟩ (by first | omega | (simp only [bset, reduceIte, Nat.reduceEqDiff]; omega)) (by first | omega | (simp only [bset, reduceIte, Nat.reduceEqDiff]; omega)) (by rw [hs4]; rfl) (by decide) ?_
      refine zr_aload_n dX4_told_57 (rfl : 57 + 1 = 58) rfl ?_
      refine zr_getf dX4_told_58 (rfl : 58 + 3 = 61) f_X4_28 (by first | assumption | exact bk_0 | exact bk_1 | exact bk_2 | exact bk_3 | exact bk_4 | exact bk_5 | exact bk_6 | exact bk_7 | exact bk_8 | exact bk_9 | exact bk_10 | exact bk_11 | exact bk_12 | exact bk_13 | exact bk_14 | exact bk_15 | exact bk_16 | exact zup_self | exact (zup_ne (by first | assumption | omega)).trans (by first | assumption | exact zup_self) | exact (zup_ne (by first | assumption | omega)).trans ((zup_ne (by first | assumption | omega)).trans (by first | assumption | exact zup_self))) rfl ?_
      refine zr_iret dX4_told_61 rfl (by first | rfl | exact jb_nar) ?_ rfl rfl rfl
      unfold jtold
      repeat (first | rfl | rw [if_pos (by omega)] | rw [if_neg (by omega)]))
  by_cases hs5 : k = 5
  · first
    | (exfalso; omega)
    | (
      refine zr_tableIn (off := 61) (tgt := 62) dX4_told_1 ⟨by omega, by omega⟩ (by first | omega | (simp only [bset, reduceIte, Nat.reduceEqDiff]; omega)) (by first | omega | (simp only [bset, reduceIte, Nat.reduceEqDiff]; omega)) (by rw [hs5]; rfl) (by decide) ?_
      refine zr_aload_n dX4_told_62 (rfl : 62 + 1 = 63) rfl ?_
      refine zr_getf dX4_told_63 (rfl : 63 + 3 = 66) f_X4_31 (by first | assumption | exact bk_0 | exact bk_1 | exact bk_2 | exact bk_3 | exact bk_4 | exact bk_5 | exact bk_6 | exact bk_7 | exact bk_8 | exact bk_9 | exact bk_10 | exact bk_11 | exact bk_12 | exact bk_13 | exact bk_14 | exact bk_15 | exact bk_16 | exact zup_self | exact (zup_ne (by first | assumption | omega)).trans (by first | assumption | exact zup_self) | exact (zup_ne (by first | assumption | omega)).trans ((zup_ne (by first | assumption | omega)).trans (by first | assumption | exact zup_self))) rfl ?_
      refine zr_iret dX4_told_66 rfl (by first | rfl | exact jb_nar) ?_ rfl rfl rfl
      unfold jtold
      repeat (first | rfl | rw [if_pos (by omega)] | rw [if_neg (by omega)]))
  by_cases hs6 : k = 6
  · first
    | (exfalso; omega)
    | (
      refine zr_tableIn (off := 66) (tgt := 67) dX4_told_1 ⟨by omega, by omega⟩ (by first | omega | (simp only [bset, reduceIte, Nat.reduceEqDiff]; omega)) (by first | omega | (simp only [bset, reduceIte, Nat.reduceEqDiff]; omega)) (by rw [hs6]; rfl) (by decide) ?_
      refine zr_aload_n dX4_told_67 (rfl : 67 + 1 = 68) rfl ?_
      refine zr_getf dX4_told_68 (rfl : 68 + 3 = 71) f_X4_34 (by first | assumption | exact bk_0 | exact bk_1 | exact bk_2 | exact bk_3 | exact bk_4 | exact bk_5 | exact bk_6 | exact bk_7 | exact bk_8 | exact bk_9 | exact bk_10 | exact bk_11 | exact bk_12 | exact bk_13 | exact bk_14 | exact bk_15 | exact bk_16 | exact zup_self | exact (zup_ne (by first | assumption | omega)).trans (by first | assumption | exact zup_self) | exact (zup_ne (by first | assumption | omega)).trans ((zup_ne (by first | assumption | omega)).trans (by first | assumption | exact zup_self))) rfl ?_
      refine zr_iret dX4_told_71 rfl (by first | rfl | exact jb_nar) ?_ rfl rfl rfl
      unfold jtold
      repeat (first | rfl | rw [if_pos (by omega)] | rw [if_neg (by omega)]))
  by_cases hs7 : k = 7
  · first
    | (exfalso; omega)
    | (
      refine zr_tableIn (off := 81) (tgt := 82) dX4_told_1 ⟨by omega, by omega⟩ (by first | omega | (simp only [bset, reduceIte, Nat.reduceEqDiff]; omega)) (by first | omega | (simp only [bset, reduceIte, Nat.reduceEqDiff]; omega)) (by rw [hs7]; rfl) (by decide) ?_
      refine zr_aload_n dX4_told_82 (rfl : 82 + 1 = 83) rfl ?_
      refine zr_getf dX4_told_83 (rfl : 83 + 3 = 86) f_X4_43 (by first | assumption | exact bk_0 | exact bk_1 | exact bk_2 | exact bk_3 | exact bk_4 | exact bk_5 | exact bk_6 | exact bk_7 | exact bk_8 | exact bk_9 | exact bk_10 | exact bk_11 | exact bk_12 | exact bk_13 | exact bk_14 | exact bk_15 | exact bk_16 | exact zup_self | exact (zup_ne (by first | assumption | omega)).trans (by first | assumption | exact zup_self) | exact (zup_ne (by first | assumption | omega)).trans ((zup_ne (by first | assumption | omega)).trans (by first | assumption | exact zup_self))) rfl ?_
      refine zr_iret dX4_told_86 rfl (by first | rfl | exact jb_nar) ?_ rfl rfl rfl
      unfold jtold
      repeat (first | rfl | rw [if_pos (by omega)] | rw [if_neg (by omega)]))
  by_cases hs8 : k = 8
  · first
    | (exfalso; omega)
    | (
      refine zr_tableIn (off := 81) (tgt := 82) dX4_told_1 ⟨by omega, by omega⟩ (by first | omega | (simp only [bset, reduceIte, Nat.reduceEqDiff]; omega)) (by first | omega | (simp only [bset, reduceIte, Nat.reduceEqDiff]; omega)) (by rw [hs8]; rfl) (by decide) ?_
      refine zr_aload_n dX4_told_82 (rfl : 82 + 1 = 83) rfl ?_
      refine zr_getf dX4_told_83 (rfl : 83 + 3 = 86) f_X4_43 (by first | assumption | exact bk_0 | exact bk_1 | exact bk_2 | exact bk_3 | exact bk_4 | exact bk_5 | exact bk_6 | exact bk_7 | exact bk_8 | exact bk_9 | exact bk_10 | exact bk_11 | exact bk_12 | exact bk_13 | exact bk_14 | exact bk_15 | exact bk_16 | exact zup_self | exact (zup_ne (by first | assumption | omega)).trans (by first | assumption | exact zup_self) | exact (zup_ne (by first | assumption | omega)).trans ((zup_ne (by first | assumption | omega)).trans (by first | assumption | exact zup_self))) rfl ?_
      refine zr_iret dX4_told_86 rfl (by first | rfl | exact jb_nar) ?_ rfl rfl rfl
      unfold jtold
      repeat (first | rfl | rw [if_pos (by omega)] | rw [if_neg (by omega)]))
  by_cases hs9 : k = 9
  · first
    | (exfalso; omega)
    | (
      refine zr_tableIn (off := 81) (tgt := 82) dX4_told_1 ⟨by omega, by omega⟩ (by first | omega | (simp only [bset, reduceIte, Nat.reduceEqDiff]; omega)) (by first | omega | (simp only [bset, reduceIte, Nat.reduceEqDiff]; omega)) (by rw [hs9]; rfl) (by decide) ?_
      refine zr_aload_n dX4_told_82 (rfl : 82 + 1 = 83) rfl ?_
      refine zr_getf dX4_told_83 (rfl : 83 + 3 = 86) f_X4_43 (by first | assumption | exact bk_0 | exact bk_1 | exact bk_2 | exact bk_3 | exact bk_4 | exact bk_5 | exact bk_6 | exact bk_7 | exact bk_8 | exact bk_9 | exact bk_10 | exact bk_11 | exact bk_12 | exact bk_13 | exact bk_14 | exact bk_15 | exact bk_16 | exact zup_self | exact (zup_ne (by first | assumption | omega)).trans (by first | assumption | exact zup_self) | exact (zup_ne (by first | assumption | omega)).trans ((zup_ne (by first | assumption | omega)).trans (by first | assumption | exact zup_self))) rfl ?_
      refine zr_iret dX4_told_86 rfl (by first | rfl | exact jb_nar) ?_ rfl rfl rfl
      unfold jtold
      repeat (first | rfl | rw [if_pos (by omega)] | rw [if_neg (by omega)]))
  by_cases hs10 : k = 10
  · first
    | (exfalso; omega)
    | (
      refine zr_tableIn (off := 71) (tgt := 72) dX4_told_1 ⟨by omega, by omega⟩ (by first | omega | (simp only [bset, reduceIte, Nat.reduceEqDiff]; omega)) (by first | omega | (simp only [bset, reduceIte, Nat.reduceEqDiff]; omega)) (by rw [hs10]; rfl) (by decide) ?_
      refine zr_aload_n dX4_told_72 (rfl : 72 + 1 = 73) rfl ?_
      refine zr_getf dX4_told_73 (rfl : 73 + 3 = 76) f_X4_37 (by first | assumption | exact bk_0 | exact bk_1 | exact bk_2 | exact bk_3 | exact bk_4 | exact bk_5 | exact bk_6 | exact bk_7 | exact bk_8 | exact bk_9 | exact bk_10 | exact bk_11 | exact bk_12 | exact bk_13 | exact bk_14 | exact bk_15 | exact bk_16 | exact zup_self | exact (zup_ne (by first | assumption | omega)).trans (by first | assumption | exact zup_self) | exact (zup_ne (by first | assumption | omega)).trans ((zup_ne (by first | assumption | omega)).trans (by first | assumption | exact zup_self))) rfl ?_
      refine zr_iret dX4_told_76 rfl (by first | rfl | exact jb_nar) ?_ rfl rfl rfl
      unfold jtold
      repeat (first | rfl | rw [if_pos (by omega)] | rw [if_neg (by omega)]))
  by_cases hs11 : k = 11
  · first
    | (exfalso; omega)
    | (
      refine zr_tableIn (off := 76) (tgt := 77) dX4_told_1 ⟨by omega, by omega⟩ (by first | omega | (simp only [bset, reduceIte, Nat.reduceEqDiff]; omega)) (by first | omega | (simp only [bset, reduceIte, Nat.reduceEqDiff]; omega)) (by rw [hs11]; rfl) (by decide) ?_
      refine zr_aload_n dX4_told_77 (rfl : 77 + 1 = 78) rfl ?_
      refine zr_getf dX4_told_78 (rfl : 78 + 3 = 81) f_X4_40 (by first | assumption | exact bk_0 | exact bk_1 | exact bk_2 | exact bk_3 | exact bk_4 | exact bk_5 | exact bk_6 | exact bk_7 | exact bk_8 | exact bk_9 | exact bk_10 | exact bk_11 | exact bk_12 | exact bk_13 | exact bk_14 | exact bk_15 | exact bk_16 | exact zup_self | exact (zup_ne (by first | assumption | omega)).trans (by first | assumption | exact zup_self) | exact (zup_ne (by first | assumption | omega)).trans ((zup_ne (by first | assumption | omega)).trans (by first | assumption | exact zup_self))) rfl ?_
      refine zr_iret dX4_told_81 rfl (by first | rfl | exact jb_nar) ?_ rfl rfl rfl
      unfold jtold
      repeat (first | rfl | rw [if_pos (by omega)] | rw [if_neg (by omega)]))
  refine zr_tableOut (tgt := 82) dX4_told_1 ⟨by omega, by omega⟩ (by first | omega | (simp only [bset, reduceIte, Nat.reduceEqDiff]; omega)) (by decide) ?_
  refine zr_aload_n dX4_told_82 (rfl : 82 + 1 = 83) rfl ?_
  refine zr_getf dX4_told_83 (rfl : 83 + 3 = 86) f_X4_43 (by first | assumption | exact bk_0 | exact bk_1 | exact bk_2 | exact bk_3 | exact bk_4 | exact bk_5 | exact bk_6 | exact bk_7 | exact bk_8 | exact bk_9 | exact bk_10 | exact bk_11 | exact bk_12 | exact bk_13 | exact bk_14 | exact bk_15 | exact bk_16 | exact zup_self | exact (zup_ne (by first | assumption | omega)).trans (by first | assumption | exact zup_self) | exact (zup_ne (by first | assumption | omega)).trans ((zup_ne (by first | assumption | omega)).trans (by first | assumption | exact zup_self))) rfl ?_
  refine zr_iret dX4_told_86 rfl (by first | rfl | exact jb_nar) ?_ rfl rfl rfl
  unfold jtold
  repeat (first | rfl | rw [if_pos (by omega)] | rw [if_neg (by omega)])
end EV

