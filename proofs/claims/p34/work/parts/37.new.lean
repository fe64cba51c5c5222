/-! constructors -/
section NW
variable {Γ : zΓ} {d n a : Nat} {w : zW}
theorem n_Cards (ha : a < 5 + n) (hw : w a = some (.inr (1, [.null, .null, .int (jI 0)]))) : zNew Γ md_X1_init (d + 2) 2 253 [.ref a] n w (n + 2) (zup (zup (zup w a (.inr (1, [.ref (5 + n), .ref (5 + (n + 1)), .int (jI 0)]))) (5 + n) (zia 162 (fun _ => 0))) (5 + (n + 1)) (zia 91 (jfil 91 (-1) (fun _ => 0)))) := by
  refine zNew.of_run (lv := [some (.ref a)]) (by decide) rfl (Nat.le_of_ble_eq_true rfl) rfl ?_
  refine zr_aload_n dX1_init_0 (rfl : 0 + 1 = 1) rfl ?_
  refine zr_objI dX1_init_1 (rfl : 1 + 3 = 4) l_X1_3 (Nat.le_of_ble_eq_true rfl) ?_
  refine zr_aload_n dX1_init_4 (rfl : 4 + 1 = 5) rfl ?_
  refine zr_sipush dX1_init_5 (rfl : 5 + 3 = 8) (by decide) ?_
  refine zr_newa (tg := 0) dX1_init_8 (rfl : 8 + 2 = 10) rfl (Or.inl ⟨rfl, rfl⟩) ac_int (by decide) (by decide) rfl (by first | omega | (simp only [bset, reduceIte, Nat.reduceEqDiff]; omega)) (by first | omega | (simp only [bset, reduceIte, Nat.reduceEqDiff]; omega)) ?_
  refine zr_putF (fs' := [_, _, _]) dX1_init_10 (rfl : 10 + 3 = 13) f_X1_9 ft_1_0 rfl rfl (by repeat (first | exact zup_self | assumption | refine (zup_ne (by first | assumption | omega)).trans ?_ | refine (bk_out (by first | omega | (simp only [bset, reduceIte, Nat.reduceEqDiff]; omega))).trans ?_)) (Nat.le_of_ble_eq_true rfl) rfl rfl rfl ?_
  refine zr_aload_n dX1_init_13 (rfl : 13 + 1 = 14) rfl ?_
  refine zr_bipush dX1_init_14 (rfl : 14 + 2 = 16) (by decide) ?_
  refine zr_newa (tg := 0) dX1_init_16 (rfl : 16 + 2 = 18) rfl (Or.inl ⟨rfl, rfl⟩) ac_int (by decide) (by decide) rfl (by first | omega | (simp only [bset, reduceIte, Nat.reduceEqDiff]; omega)) (by first | omega | (simp only [bset, reduceIte, Nat.reduceEqDiff]; omega)) ?_
  refine zr_putF (fs' := [_, _, _]) dX1_init_18 (rfl : 18 + 3 = 21) f_X1_15 ft_1_1 rfl rfl (by repeat (first | exact zup_self | assumption | refine (zup_ne (by first | assumption | omega)).trans ?_ | refine (bk_out (by first | omega | (simp only [bset, reduceIte, Nat.reduceEqDiff]; omega))).trans ?_)) (Nat.le_of_ble_eq_true rfl) rfl rfl rfl ?_
  refine zr_aload_n dX1_init_21 (rfl : 21 + 1 = 22) rfl ?_
  refine zr_getf dX1_init_22 (rfl : 22 + 3 = 25) f_X1_15 (by repeat (first | exact zup_self | assumption | refine (zup_ne (by first | assumption | omega)).trans ?_ | refine (bk_out (by first | omega | (simp only [bset, reduceIte, Nat.reduceEqDiff]; omega))).trans ?_)) rfl ?_
  refine zr_iconst dX1_init_25 (rfl : 25 + 1 = 26) ?_
  refine zr_fnS dX1_init_26 (rfl : 26 + 3 = 29) l_X1_18 (s_fill (N := 91) (f := fun _ => 0) (-1) (by exact (zup_ne (by first | omega | (simp only [bset, reduceIte, Nat.reduceEqDiff]; omega))).trans zup_self) (by decide)) rfl rfl (Nat.le_of_ble_eq_true rfl) ?_
  refine zr_vret dX1_init_29 rfl ?_ rfl rfl
  funext j
  unfold zup
  by_cases h2 : j = 5 + (n + 1)
  · repeat (first | rw [if_pos (by omega)] | rw [if_neg (by omega)])
    rfl
  · by_cases h1 : j = a
    · repeat (first | rw [if_pos (by omega)] | rw [if_neg (by omega)])
    · by_cases h3 : j = 5 + n
      · repeat (first | rw [if_pos (by omega)] | rw [if_neg (by omega)])
        rfl
      · repeat (first | rw [if_pos (by omega)] | rw [if_neg (by omega)])
theorem n_Drum (ha : a < 5 + n) (hw : w a = some (.inr (2, [.null, .int (jI 0)]))) : zNew Γ md_X2_init (d + 2) 1 90 [.ref a] n w (n + 1) (zup (zup w a (zdr (5 + n) 0)) (5 + n) (zia 90 (fun _ => 0))) := by
  refine zNew.of_run (lv := [some (.ref a)]) (by decide) rfl (Nat.le_of_ble_eq_true rfl) rfl ?_
  refine zr_aload_n dX2_init_0 (rfl : 0 + 1 = 1) rfl ?_
  refine zr_objI dX2_init_1 (rfl : 1 + 3 = 4) l_X2_3 (Nat.le_of_ble_eq_true rfl) ?_
  refine zr_aload_n dX2_init_4 (rfl : 4 + 1 = 5) rfl ?_
  refine zr_bipush dX2_init_5 (rfl : 5 + 2 = 7) (by decide) ?_
  refine zr_newa (tg := 0) dX2_init_7 (rfl : 7 + 2 = 9) rfl (Or.inl ⟨rfl, rfl⟩) ac_int (by decide) (by decide) rfl (by first | omega | (simp only [bset, reduceIte, Nat.reduceEqDiff]; omega)) (by first | omega | (simp only [bset, reduceIte, Nat.reduceEqDiff]; omega)) ?_
  refine zr_putF (fs' := [_, _]) dX2_init_9 (rfl : 9 + 3 = 12) f_X2_9 ft_2_0 rfl rfl (by repeat (first | exact zup_self | assumption | refine (zup_ne (by first | assumption | omega)).trans ?_ | refine (bk_out (by first | omega | (simp only [bset, reduceIte, Nat.reduceEqDiff]; omega))).trans ?_)) (Nat.le_of_ble_eq_true rfl) rfl rfl rfl ?_
  refine zr_vret dX2_init_12 rfl ?_ rfl rfl
  funext j
  unfold zup
  by_cases h1 : j = a
  · repeat (first | rw [if_pos (by omega)] | rw [if_neg (by omega)])
  · by_cases h3 : j = 5 + n
    · repeat (first | rw [if_pos (by omega)] | rw [if_neg (by omega)])
      rfl
    · repeat (first | rw [if_pos (by omega)] | rw [if_neg (by omega)])
theorem n_Text (ha : a < 5 + n) (hw : w a = some (.inr (5, [.null, .int (jI 0)]))) : zNew Γ md_X5_init (d + 2) 1 60 [.ref a] n w (n + 1) (zup (zup w a (.inr (5, [.ref (5 + n), .int (jI 0)]))) (5 + n) (zia 60 (fun _ => 0))) := by
  refine zNew.of_run (lv := [some (.ref a)]) (by decide) rfl (Nat.le_of_ble_eq_true rfl) rfl ?_
  refine zr_aload_n dX5_init_0 (rfl : 0 + 1 = 1) rfl ?_
  refine zr_objI dX5_init_1 (rfl : 1 + 3 = 4) l_X5_3 (Nat.le_of_ble_eq_true rfl) ?_
  refine zr_aload_n dX5_init_4 (rfl : 4 + 1 = 5) rfl ?_
  refine zr_bipush dX5_init_5 (rfl : 5 + 2 = 7) (by decide) ?_
  refine zr_newa (tg := 0) dX5_init_7 (rfl : 7 + 2 = 9) rfl (Or.inl ⟨rfl, rfl⟩) ac_int (by decide) (by decide) rfl (by first | omega | (simp only [bset, reduceIte, Nat.reduceEqDiff]; omega)) (by first | omega | (simp only [bset, reduceIte, Nat.reduceEqDiff]; omega)) ?_
  refine zr_putF (fs' := [_, _]) dX5_init_9 (rfl : 9 + 3 = 12) f_X5_9 ft_5_0 rfl rfl (by repeat (first | exact zup_self | assumption | refine (zup_ne (by first | assumption | omega)).trans ?_ | refine (bk_out (by first | omega | (simp only [bset, reduceIte, Nat.reduceEqDiff]; omega))).trans ?_)) (Nat.le_of_ble_eq_true rfl) rfl rfl rfl ?_
  refine zr_vret dX5_init_12 rfl ?_ rfl rfl
  funext j
  unfold zup
  by_cases h1 : j = a
  · repeat (first | rw [if_pos (by omega)] | rw [if_neg (by omega)])
  · by_cases h3 : j = 5 + n
    · repeat (first | rw [if_pos (by omega)] | rw [if_neg (by omega)])
      rfl
    · repeat (first | rw [if_pos (by omega)] | rw [if_neg (by omega)])
theorem n_Tally (ha : a < 5 + n) (hw : w a = some (.inr (4, [.null, .null, .int (jI 0), .int (jI 0), .int (jI 0), .int (jI 0), .int (jI 0), .int (jI 0), .int (jI 0)]))) : zNew Γ md_X4_init (d + 2) 2 12 [.ref a] n w (n + 2) (zup (zup (zup w a (.inr (4, [.ref (5 + n), .ref (5 + (n + 1)), .int (jI 0), .int (jI 0), .int (jI 0), .int (jI 0), .int (jI 0), .int (jI 0), .int (jI 0)]))) (5 + n) (zia 6 (fun _ => 0))) (5 + (n + 1)) (zia 6 (fun _ => 0))) := by
  refine zNew.of_run (lv := [some (.ref a)]) (by decide) rfl (Nat.le_of_ble_eq_true rfl) rfl ?_
  refine zr_aload_n dX4_init_0 (rfl : 0 + 1 = 1) rfl ?_
  refine zr_objI dX4_init_1 (rfl : 1 + 3 = 4) l_X4_3 (Nat.le_of_ble_eq_true rfl) ?_
  refine zr_aload_n dX4_init_4 (rfl : 4 + 1 = 5) rfl ?_
  refine zr_bipush dX4_init_5 (rfl : 5 + 2 = 7) (by decide) ?_
  refine zr_newa (tg := 0) dX4_init_7 (rfl : 7 + 2 = 9) rfl (Or.inl ⟨rfl, rfl⟩) ac_int (by decide) (by decide) rfl (by first | omega | (simp only [bset, reduceIte, Nat.reduceEqDiff]; omega)) (by first | omega | (simp only [bset, reduceIte, Nat.reduceEqDiff]; omega)) ?_
  refine zr_putF (fs' := [_, _, _, _, _, _, _, _, _]) dX4_init_9 (rfl : 9 + 3 = 12) f_X4_9 ft_4_0 rfl rfl (by repeat (first | exact zup_self | assumption | refine (zup_ne (by first | assumption | omega)).trans ?_ | refine (bk_out (by first | omega | (simp only [bset, reduceIte, Nat.reduceEqDiff]; omega))).trans ?_)) (Nat.le_of_ble_eq_true rfl) rfl rfl rfl ?_
  refine zr_aload_n dX4_init_12 (rfl : 12 + 1 = 13) rfl ?_
  refine zr_bipush dX4_init_13 (rfl : 13 + 2 = 15) (by decide) ?_
  refine zr_newa (tg := 0) dX4_init_15 (rfl : 15 + 2 = 17) rfl (Or.inl ⟨rfl, rfl⟩) ac_int (by decide) (by decide) rfl (by first | omega | (simp only [bset, reduceIte, Nat.reduceEqDiff]; omega)) (by first | omega | (simp only [bset, reduceIte, Nat.reduceEqDiff]; omega)) ?_
  refine zr_putF (fs' := [_, _, _, _, _, _, _, _, _]) dX4_init_17 (rfl : 17 + 3 = 20) f_X4_15 ft_4_1 rfl rfl (by repeat (first | exact zup_self | assumption | refine (zup_ne (by first | assumption | omega)).trans ?_ | refine (bk_out (by first | omega | (simp only [bset, reduceIte, Nat.reduceEqDiff]; omega))).trans ?_)) (Nat.le_of_ble_eq_true rfl) rfl rfl rfl ?_
  refine zr_vret dX4_init_20 rfl ?_ rfl rfl
  funext j
  unfold zup
  by_cases h1 : j = a
  · repeat (first | rw [if_pos (by omega)] | rw [if_neg (by omega)])
  · by_cases h3 : j = 5 + n
    · repeat (first | rw [if_pos (by omega)] | rw [if_neg (by omega)])
      rfl
    · by_cases h4 : j = 5 + (n + 1)
      · repeat (first | rw [if_pos (by omega)] | rw [if_neg (by omega)])
        rfl
      · repeat (first | rw [if_pos (by omega)] | rw [if_neg (by omega)])
theorem n_Evening (ha : a < 5 + n) (hw : w a = some (.inr (3, [.null, .null, .null, .null, .null, .null, .null, .int (jI 0), .int (jI 0), .int (jI 0)]))) : zNew Γ md_X3_init (d + 3) 8 462 [.ref a] n w (n + 8) (zup (zup (zup (zup (zup (zup (zup (zup (zup w (a) (.inr (3, [.ref (5 + n), .ref (5 + ((n + 1) + 1)), .ref (5 + (((n + 1) + 1) + 1)), .ref (5 + ((((n + 1) + 1) + 1) + 1)), .ref (5 + (((((n + 1) + 1) + 1) + 1) + 1)), .ref (5 + ((((((n + 1) + 1) + 1) + 1) + 1) + 1)), .ref (5 + (((((((n + 1) + 1) + 1) + 1) + 1) + 1) + 1)), .int (jI 0), .int (jI 0), .int (jI 0)]))) (5 + n) (zdr (5 + (n + 1)) 90)) (5 + (n + 1)) (zia 90 (fun z => if 0 ≤ z ∧ z < 90 then z + 1 else 0))) (5 + ((n + 1) + 1)) (zia 90 (fun _ => 0))) (5 + (((n + 1) + 1) + 1)) (zia 90 (fun _ => 0))) (5 + ((((n + 1) + 1) + 1) + 1)) (zia 91 (fun _ => 0))) (5 + (((((n + 1) + 1) + 1) + 1) + 1)) (zia 91 (fun _ => 0))) (5 + ((((((n + 1) + 1) + 1) + 1) + 1) + 1)) (zia 4 (fun _ => 0))) (5 + (((((((n + 1) + 1) + 1) + 1) + 1) + 1) + 1)) (zia 4 (fun _ => 0))) := by
  refine zNew.of_run (lv := [some (.ref a)]) (by decide) rfl (Nat.le_of_ble_eq_true rfl) rfl ?_
  refine zr_aload_n dX3_init_0 (rfl : 0 + 1 = 1) rfl ?_
  refine zr_objI dX3_init_1 (rfl : 1 + 3 = 4) l_X3_3 (Nat.le_of_ble_eq_true rfl) ?_
  refine zr_aload_n dX3_init_4 (rfl : 4 + 1 = 5) rfl ?_
  refine zr_new dX3_init_5 (rfl : 5 + 3 = 8) nc_X3_9 (by first | omega | (simp only [bset, reduceIte, Nat.reduceEqDiff]; omega)) (by first | omega | (simp only [bset, reduceIte, Nat.reduceEqDiff]; omega)) ?_
  refine zr_dup dX3_init_8 (rfl : 8 + 1 = 9) rfl ?_
  refine zr_newIN dX3_init_9 (rfl : 9 + 3 = 12) l_X3_11 (n_Drum (d := d) (a := 5 + n) (n := n + 1) (by first | omega | (simp only [bset, reduceIte, Nat.reduceEqDiff]; omega)) (by repeat (first | exact zup_self | assumption | refine (zup_ne (by first | assumption | omega)).trans ?_ | refine (bk_out (by first | omega | (simp only [bset, reduceIte, Nat.reduceEqDiff]; omega))).trans ?_))) rfl rfl (Nat.le_of_ble_eq_true rfl) (by first | omega | (simp only [bset, reduceIte, Nat.reduceEqDiff]; omega)) (by first | omega | (simp only [bset, reduceIte, Nat.reduceEqDiff]; omega)) ?_
  refine zr_putF (fs' := [_, _, _, _, _, _, _, _, _, _]) dX3_init_12 (rfl : 12 + 3 = 15) f_X3_12 ft_3_0 rfl rfl (by repeat (first | exact zup_self | assumption | refine (zup_ne (by first | assumption | omega)).trans ?_ | refine (bk_out (by first | omega | (simp only [bset, reduceIte, Nat.reduceEqDiff]; omega))).trans ?_)) (Nat.le_of_ble_eq_true rfl) rfl rfl rfl ?_
  refine zr_aload_n dX3_init_15 (rfl : 15 + 1 = 16) rfl ?_
  refine zr_bipush dX3_init_16 (rfl : 16 + 2 = 18) (by decide) ?_
  refine zr_newa (tg := 0) dX3_init_18 (rfl : 18 + 2 = 20) rfl (Or.inl ⟨rfl, rfl⟩) ac_int (by decide) (by decide) rfl (by first | omega | (simp only [bset, reduceIte, Nat.reduceEqDiff]; omega)) (by first | omega | (simp only [bset, reduceIte, Nat.reduceEqDiff]; omega)) ?_
  refine zr_putF (fs' := [_, _, _, _, _, _, _, _, _, _]) dX3_init_20 (rfl : 20 + 3 = 23) f_X3_18 ft_3_1 rfl rfl (by repeat (first | exact zup_self | assumption | refine (zup_ne (by first | assumption | omega)).trans ?_ | refine (bk_out (by first | omega | (simp only [bset, reduceIte, Nat.reduceEqDiff]; omega))).trans ?_)) (Nat.le_of_ble_eq_true rfl) rfl rfl rfl ?_
  refine zr_aload_n dX3_init_23 (rfl : 23 + 1 = 24) rfl ?_
  refine zr_bipush dX3_init_24 (rfl : 24 + 2 = 26) (by decide) ?_
  refine zr_newa (tg := 0) dX3_init_26 (rfl : 26 + 2 = 28) rfl (Or.inl ⟨rfl, rfl⟩) ac_int (by decide) (by decide) rfl (by first | omega | (simp only [bset, reduceIte, Nat.reduceEqDiff]; omega)) (by first | omega | (simp only [bset, reduceIte, Nat.reduceEqDiff]; omega)) ?_
  refine zr_putF (fs' := [_, _, _, _, _, _, _, _, _, _]) dX3_init_28 (rfl : 28 + 3 = 31) f_X3_22 ft_3_2 rfl rfl (by repeat (first | exact zup_self | assumption | refine (zup_ne (by first | assumption | omega)).trans ?_ | refine (bk_out (by first | omega | (simp only [bset, reduceIte, Nat.reduceEqDiff]; omega))).trans ?_)) (Nat.le_of_ble_eq_true rfl) rfl rfl rfl ?_
  refine zr_aload_n dX3_init_31 (rfl : 31 + 1 = 32) rfl ?_
  refine zr_bipush dX3_init_32 (rfl : 32 + 2 = 34) (by decide) ?_
  refine zr_newa (tg := 0) dX3_init_34 (rfl : 34 + 2 = 36) rfl (Or.inl ⟨rfl, rfl⟩) ac_int (by decide) (by decide) rfl (by first | omega | (simp only [bset, reduceIte, Nat.reduceEqDiff]; omega)) (by first | omega | (simp only [bset, reduceIte, Nat.reduceEqDiff]; omega)) ?_
  refine zr_putF (fs' := [_, _, _, _, _, _, _, _, _, _]) dX3_init_36 (rfl : 36 + 3 = 39) f_X3_25 ft_3_3 rfl rfl (by repeat (first | exact zup_self | assumption | refine (zup_ne (by first | assumption | omega)).trans ?_ | refine (bk_out (by first | omega | (simp only [bset, reduceIte, Nat.reduceEqDiff]; omega))).trans ?_)) (Nat.le_of_ble_eq_true rfl) rfl rfl rfl ?_
  refine zr_aload_n dX3_init_39 (rfl : 39 + 1 = 40) rfl ?_
  refine zr_bipush dX3_init_40 (rfl : 40 + 2 = 42) (by decide) ?_
  refine zr_newa (tg := 0) dX3_init_42 (rfl : 42 + 2 = 44) rfl (Or.inl ⟨rfl, rfl⟩) ac_int (by decide) (by decide) rfl (by first | omega | (simp only [bset, reduceIte, Nat.reduceEqDiff]; omega)) (by first | omega | (simp only [bset, reduceIte, Nat.reduceEqDiff]; omega)) ?_
  refine zr_putF (fs' := [_, _, _, _, _, _, _, _, _, _]) dX3_init_44 (rfl : 44 + 3 = 47) f_X3_28 ft_3_4 rfl rfl (by repeat (first | exact zup_self | assumption | refine (zup_ne (by first | assumption | omega)).trans ?_ | refine (bk_out (by first | omega | (simp only [bset, reduceIte, Nat.reduceEqDiff]; omega))).trans ?_)) (Nat.le_of_ble_eq_true rfl) rfl rfl rfl ?_
  refine zr_aload_n dX3_init_47 (rfl : 47 + 1 = 48) rfl ?_
  refine zr_iconst dX3_init_48 (rfl : 48 + 1 = 49) ?_
  refine zr_newa (tg := 0) dX3_init_49 (rfl : 49 + 2 = 51) rfl (Or.inl ⟨rfl, rfl⟩) ac_int (by decide) (by decide) rfl (by first | omega | (simp only [bset, reduceIte, Nat.reduceEqDiff]; omega)) (by first | omega | (simp only [bset, reduceIte, Nat.reduceEqDiff]; omega)) ?_
  refine zr_putF (fs' := [_, _, _, _, _, _, _, _, _, _]) dX3_init_51 (rfl : 51 + 3 = 54) f_X3_31 ft_3_5 rfl rfl (by repeat (first | exact zup_self | assumption | refine (zup_ne (by first | assumption | omega)).trans ?_ | refine (bk_out (by first | omega | (simp only [bset, reduceIte, Nat.reduceEqDiff]; omega))).trans ?_)) (Nat.le_of_ble_eq_true rfl) rfl rfl rfl ?_
  refine zr_aload_n dX3_init_54 (rfl : 54 + 1 = 55) rfl ?_
  refine zr_iconst dX3_init_55 (rfl : 55 + 1 = 56) ?_
  refine zr_newa (tg := 0) dX3_init_56 (rfl : 56 + 2 = 58) rfl (Or.inl ⟨rfl, rfl⟩) ac_int (by decide) (by decide) rfl (by first | omega | (simp only [bset, reduceIte, Nat.reduceEqDiff]; omega)) (by first | omega | (simp only [bset, reduceIte, Nat.reduceEqDiff]; omega)) ?_
  refine zr_putF (fs' := [_, _, _, _, _, _, _, _, _, _]) dX3_init_58 (rfl : 58 + 3 = 61) f_X3_34 ft_3_6 rfl rfl (by repeat (first | exact zup_self | assumption | refine (zup_ne (by first | assumption | omega)).trans ?_ | refine (bk_out (by first | omega | (simp only [bset, reduceIte, Nat.reduceEqDiff]; omega))).trans ?_)) (Nat.le_of_ble_eq_true rfl) rfl rfl rfl ?_
  refine zr_aload_n dX3_init_61 (rfl : 61 + 1 = 62) rfl ?_
  refine zr_getf dX3_init_62 (rfl : 62 + 3 = 65) f_X3_12 (by repeat (first | exact zup_self | assumption | refine (zup_ne (by first | assumption | omega)).trans ?_ | refine (bk_out (by first | omega | (simp only [bset, reduceIte, Nat.reduceEqDiff]; omega))).trans ?_)) rfl ?_
  refine zr_fnV dX3_init_65 (rfl : 65 + 3 = 68) l_X3_37 (s_holdAll (a := 5 + n) (p := 5 + (n + 1)) (f := fun _ => 0) (s := 0) (by first | omega | (simp only [bset, reduceIte, Nat.reduceEqDiff]; omega)) (by repeat (first | exact zup_self | assumption | refine (zup_ne (by first | assumption | omega)).trans ?_ | refine (bk_out (by first | omega | (simp only [bset, reduceIte, Nat.reduceEqDiff]; omega))).trans ?_)) (by repeat (first | exact zup_self | assumption | refine (zup_ne (by first | assumption | omega)).trans ?_ | refine (bk_out (by first | omega | (simp only [bset, reduceIte, Nat.reduceEqDiff]; omega))).trans ?_))) (by repeat (first | exact zup_self | assumption | refine (zup_ne (by first | assumption | omega)).trans ?_ | refine (bk_out (by first | omega | (simp only [bset, reduceIte, Nat.reduceEqDiff]; omega))).trans ?_)) rfl rfl rfl (Nat.le_of_ble_eq_true rfl) ?_
  refine zr_vret dX3_init_68 rfl ?_ rfl rfl
  funext j
  unfold zup
  by_cases h0 : j = a
  · repeat (first | rw [if_pos (by omega)] | rw [if_neg (by omega)])
    try rfl
  by_cases h1 : j = 5 + n
  · repeat (first | rw [if_pos (by omega)] | rw [if_neg (by omega)])
    try rfl
  by_cases h2 : j = 5 + (n + 1)
  · repeat (first | rw [if_pos (by omega)] | rw [if_neg (by omega)])
    try rfl
  by_cases h3 : j = 5 + ((n + 1) + 1)
  · repeat (first | rw [if_pos (by omega)] | rw [if_neg (by omega)])
    try rfl
  by_cases h4 : j = 5 + (((n + 1) + 1) + 1)
  · repeat (first | rw [if_pos (by omega)] | rw [if_neg (by omega)])
    try rfl
  by_cases h5 : j = 5 + ((((n + 1) + 1) + 1) + 1)
  · repeat (first | rw [if_pos (by omega)] | rw [if_neg (by omega)])
    try rfl
  by_cases h6 : j = 5 + (((((n + 1) + 1) + 1) + 1) + 1)
  · repeat (first | rw [if_pos (by omega)] | rw [if_neg (by omega)])
    try rfl
  by_cases h7 : j = 5 + ((((((n + 1) + 1) + 1) + 1) + 1) + 1)
  · repeat (first | rw [if_pos (by omega)] | rw [if_neg (by omega)])
    try rfl
  by_cases h8 : j = 5 + (((((((n + 1) + 1) + 1) + 1) + 1) + 1) + 1)
  · repeat (first | rw [if_pos (by omega)] | rw [if_neg (by omega)])
    try rfl
  repeat (first | rw [if_pos (by omega)] | rw [if_neg (by omega)])
def jB0 : zB := bset (bset (bset (bset (bset (fun _ _ => 0) 1 (jfil 91 (-1) (fun _ => 0))) 3 (fun z => if 0 ≤ z ∧ z < 90 then z + 1 else 0)) 4 (fun _ => 90)) 23 (fun z => if z = 0 then 10 else 0)) 24 (fun _ => 1)
theorem jfirst_eq : va_cpy (fun j => nI ([10, 0, 0].getD j 0)) (jf (fun _ => 0)) (0 : Int).toNat (0 : Int).toNat (3 : Int).toNat = jf (fun z => if z = 0 then 10 else 0) := by
  funext k
  show (if 0 ≤ k ∧ k < 0 + 3 then nI ([10, 0, 0].getD (0 + (k - 0)) 0) else jI 0) = jI (if (k : Int) = 0 then 10 else 0)
  by_cases h3 : k < 3
  · rw [if_pos (by omega)]
    rcases (by omega : k = 0 ∨ k = 1 ∨ k = 2) with h | h | h <;> rw [h] <;> rfl
  · rw [if_neg (by omega), if_neg (by omega)]
theorem n_Book (hw : w (5 + n) = some (.inr (0, [.null, .null, .null, .null, .int (jI 0)]))) : zNew Γ md_X0_init (d + 4) 16 752 [.ref (5 + n)] (n + 1) w (n + 17) (bk (5 + n) jB0 w) := by
  refine zNew.of_run (lv := [some (.ref (5 + n))]) (by decide) rfl (Nat.le_of_ble_eq_true rfl) rfl ?_
  refine zr_aload_n dX0_init_0 (rfl : 0 + 1 = 1) rfl ?_
  refine zr_objI dX0_init_1 (rfl : 1 + 3 = 4) l_X0_3 (Nat.le_of_ble_eq_true rfl) ?_
  refine zr_aload_n dX0_init_4 (rfl : 4 + 1 = 5) rfl ?_
  refine zr_new dX0_init_5 (rfl : 5 + 3 = 8) nc_X0_9 (by first | omega | (simp only [bset, reduceIte, Nat.reduceEqDiff]; omega)) (by first | omega | (simp only [bset, reduceIte, Nat.reduceEqDiff]; omega)) ?_
  refine zr_dup dX0_init_8 (rfl : 8 + 1 = 9) rfl ?_
  refine zr_newI dX0_init_9 (rfl : 9 + 3 = 12) l_X0_11 (n_Cards (d := d + 1) (a := 5 + (n + 1)) (n := n + 1 + 1) (by first | omega | (simp only [bset, reduceIte, Nat.reduceEqDiff]; omega)) (by repeat (first | exact zup_self | assumption | refine (zup_ne (by first | assumption | omega)).trans ?_ | refine (bk_out (by first | omega | (simp only [bset, reduceIte, Nat.reduceEqDiff]; omega))).trans ?_))) rfl rfl (Nat.le_of_ble_eq_true rfl) (by first | omega | (simp only [bset, reduceIte, Nat.reduceEqDiff]; omega)) (by first | omega | (simp only [bset, reduceIte, Nat.reduceEqDiff]; omega)) ?_
  refine zr_putF (fs' := [_, _, _, _, _]) dX0_init_12 (rfl : 12 + 3 = 15) f_X0_12 ft_0_0 rfl rfl (by repeat (first | exact zup_self | assumption | refine (zup_ne (by first | assumption | omega)).trans ?_ | refine (bk_out (by first | omega | (simp only [bset, reduceIte, Nat.reduceEqDiff]; omega))).trans ?_)) (Nat.le_of_ble_eq_true rfl) rfl rfl rfl ?_
  refine zr_aload_n dX0_init_15 (rfl : 15 + 1 = 16) rfl ?_
  refine zr_new dX0_init_16 (rfl : 16 + 3 = 19) nc_X0_18 (by first | omega | (simp only [bset, reduceIte, Nat.reduceEqDiff]; omega)) (by first | omega | (simp only [bset, reduceIte, Nat.reduceEqDiff]; omega)) ?_
  refine zr_dup dX0_init_19 (rfl : 19 + 1 = 20) rfl ?_
  refine zr_newI dX0_init_20 (rfl : 20 + 3 = 23) l_X0_20 (n_Evening (d := d) (a := 5 + (n + 1 + 1 + 2)) (n := n + 1 + 1 + 2 + 1) (by first | omega | (simp only [bset, reduceIte, Nat.reduceEqDiff]; omega)) (by repeat (first | exact zup_self | assumption | refine (zup_ne (by first | assumption | omega)).trans ?_ | refine (bk_out (by first | omega | (simp only [bset, reduceIte, Nat.reduceEqDiff]; omega))).trans ?_))) rfl rfl (Nat.le_of_ble_eq_true rfl) (by first | omega | (simp only [bset, reduceIte, Nat.reduceEqDiff]; omega)) (by first | omega | (simp only [bset, reduceIte, Nat.reduceEqDiff]; omega)) ?_
  refine zr_putF (fs' := [_, _, _, _, _]) dX0_init_23 (rfl : 23 + 3 = 26) f_X0_21 ft_0_1 rfl rfl (by repeat (first | exact zup_self | assumption | refine (zup_ne (by first | assumption | omega)).trans ?_ | refine (bk_out (by first | omega | (simp only [bset, reduceIte, Nat.reduceEqDiff]; omega))).trans ?_)) (Nat.le_of_ble_eq_true rfl) rfl rfl rfl ?_
  refine zr_aload_n dX0_init_26 (rfl : 26 + 1 = 27) rfl ?_
  refine zr_new dX0_init_27 (rfl : 27 + 3 = 30) nc_X0_25 (by first | omega | (simp only [bset, reduceIte, Nat.reduceEqDiff]; omega)) (by first | omega | (simp only [bset, reduceIte, Nat.reduceEqDiff]; omega)) ?_
  refine zr_dup dX0_init_30 (rfl : 30 + 1 = 31) rfl ?_
  refine zr_newIN dX0_init_31 (rfl : 31 + 3 = 34) l_X0_27 (n_Tally (d := d + 1) (a := 5 + (n + 1 + 1 + 2 + 1 + 8)) (n := n + 1 + 1 + 2 + 1 + 8 + 1) (by first | omega | (simp only [bset, reduceIte, Nat.reduceEqDiff]; omega)) (by repeat (first | exact zup_self | assumption | refine (zup_ne (by first | assumption | omega)).trans ?_ | refine (bk_out (by first | omega | (simp only [bset, reduceIte, Nat.reduceEqDiff]; omega))).trans ?_))) rfl rfl (Nat.le_of_ble_eq_true rfl) (by first | omega | (simp only [bset, reduceIte, Nat.reduceEqDiff]; omega)) (by first | omega | (simp only [bset, reduceIte, Nat.reduceEqDiff]; omega)) ?_
  refine zr_putF (fs' := [_, _, _, _, _]) dX0_init_34 (rfl : 34 + 3 = 37) f_X0_28 ft_0_2 rfl rfl (by repeat (first | exact zup_self | assumption | refine (zup_ne (by first | assumption | omega)).trans ?_ | refine (bk_out (by first | omega | (simp only [bset, reduceIte, Nat.reduceEqDiff]; omega))).trans ?_)) (Nat.le_of_ble_eq_true rfl) rfl rfl rfl ?_
  refine zr_aload_n dX0_init_37 (rfl : 37 + 1 = 38) rfl ?_
  refine zr_iconst dX0_init_38 (rfl : 38 + 1 = 39) ?_
  refine zr_newa (tg := 0) dX0_init_39 (rfl : 39 + 2 = 41) rfl (Or.inl ⟨rfl, rfl⟩) ac_int (by decide) (by decide) rfl (by first | omega | (simp only [bset, reduceIte, Nat.reduceEqDiff]; omega)) (by first | omega | (simp only [bset, reduceIte, Nat.reduceEqDiff]; omega)) ?_
  refine zr_putF (fs' := [_, _, _, _, _]) dX0_init_41 (rfl : 41 + 3 = 44) f_X0_32 ft_0_3 rfl rfl (by repeat (first | exact zup_self | assumption | refine (zup_ne (by first | assumption | omega)).trans ?_ | refine (bk_out (by first | omega | (simp only [bset, reduceIte, Nat.reduceEqDiff]; omega))).trans ?_)) (Nat.le_of_ble_eq_true rfl) rfl rfl rfl ?_
  refine zr_aload_n dX0_init_44 (rfl : 44 + 1 = 45) rfl ?_
  refine zr_iconst dX0_init_45 (rfl : 45 + 1 = 46) ?_
  refine zr_putf (fs' := [_, _, _, _, _]) dX0_init_46 (rfl : 46 + 3 = 49) f_X0_36 ft_0_4 (by repeat (first | exact zup_self | assumption | refine (zup_ne (by first | assumption | omega)).trans ?_ | refine (bk_out (by first | omega | (simp only [bset, reduceIte, Nat.reduceEqDiff]; omega))).trans ?_)) (Nat.le_of_ble_eq_true rfl) rfl rfl rfl ?_
  refine zr_getsN dX0_init_49 (rfl : 49 + 3 = 52) zB_s1 sf_X0_40 ?_
  refine zr_iconst dX0_init_52 (rfl : 52 + 1 = 53) ?_
  refine zr_aload_n dX0_init_53 (rfl : 53 + 1 = 54) rfl ?_
  refine zr_getf dX0_init_54 (rfl : 54 + 3 = 57) f_X0_32 (by repeat (first | exact zup_self | assumption | refine (zup_ne (by first | assumption | omega)).trans ?_ | refine (bk_out (by first | omega | (simp only [bset, reduceIte, Nat.reduceEqDiff]; omega))).trans ?_)) rfl ?_
  refine zr_iconst dX0_init_57 (rfl : 57 + 1 = 58) ?_
  refine zr_iconst dX0_init_58 (rfl : 58 + 1 = 59) ?_
  refine zr_copyO (h := fun _ => 0) (f' := fun z => if z = 0 then 10 else 0) dX0_init_59 (rfl : 59 + 3 = 62) l_X0_43 zB_o1 (by repeat (first | exact zup_self | assumption | refine (zup_ne (by first | assumption | omega)).trans ?_ | refine (bk_out (by first | omega | (simp only [bset, reduceIte, Nat.reduceEqDiff]; omega))).trans ?_)) (by decide) (by decide) (by decide) (by decide) (by decide) (by decide) (Nat.le_of_ble_eq_true rfl) jfirst_eq ?_
  refine zr_vret dX0_init_62 rfl ?_ rfl rfl
  funext j
  unfold zup bk
  by_cases hr : 5 + n ≤ j ∧ j < 5 + n + 17
  · have hk : ∃ k, k < 17 ∧ j = 5 + n + k := ⟨j - (5 + n), by omega, by omega⟩
    obtain ⟨k, hk, rfl⟩ := hk
    rw [show 5 + n + k - (5 + n) = k by omega]
    match k, hk with
    | 0, _ =>
      repeat (first | rw [if_pos (by omega)] | rw [if_neg (by omega)])
      rfl
    | 1, _ =>
      repeat (first | rw [if_pos (by omega)] | rw [if_neg (by omega)])
      rfl
    | 2, _ =>
      repeat (first | rw [if_pos (by omega)] | rw [if_neg (by omega)])
      rfl
    | 3, _ =>
      repeat (first | rw [if_pos (by omega)] | rw [if_neg (by omega)])
      rfl
    | 4, _ =>
      repeat (first | rw [if_pos (by omega)] | rw [if_neg (by omega)])
      rfl
    | 5, _ =>
      repeat (first | rw [if_pos (by omega)] | rw [if_neg (by omega)])
      rfl
    | 6, _ =>
      repeat (first | rw [if_pos (by omega)] | rw [if_neg (by omega)])
      rfl
    | 7, _ =>
      repeat (first | rw [if_pos (by omega)] | rw [if_neg (by omega)])
      rfl
    | 8, _ =>
      repeat (first | rw [if_pos (by omega)] | rw [if_neg (by omega)])
      rfl
    | 9, _ =>
      repeat (first | rw [if_pos (by omega)] | rw [if_neg (by omega)])
      rfl
    | 10, _ =>
      repeat (first | rw [if_pos (by omega)] | rw [if_neg (by omega)])
      rfl
    | 11, _ =>
      repeat (first | rw [if_pos (by omega)] | rw [if_neg (by omega)])
      rfl
    | 12, _ =>
      repeat (first | rw [if_pos (by omega)] | rw [if_neg (by omega)])
      rfl
    | 13, _ =>
      repeat (first | rw [if_pos (by omega)] | rw [if_neg (by omega)])
      rfl
    | 14, _ =>
      repeat (first | rw [if_pos (by omega)] | rw [if_neg (by omega)])
      rfl
    | 15, _ =>
      repeat (first | rw [if_pos (by omega)] | rw [if_neg (by omega)])
      rfl
    | 16, _ =>
      repeat (first | rw [if_pos (by omega)] | rw [if_neg (by omega)])
      rfl
    | k + 17, h => exact absurd h (by omega)
  · repeat (first | rw [if_pos (by omega)] | rw [if_neg (by omega)])
end NW

