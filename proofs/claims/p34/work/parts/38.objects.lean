/-! the two objects -/
def jσ0 : zC := (fun _ => jB0, fun _ => 0, 0, 0, fun _ => 0, 0)
def jτ0 : zTau := (fun _ => 0, 0, fun _ => 0)
theorem bk_in {b : Nat} {B : zB} {w : zW} {j : Nat} (h : b ≤ j ∧ j < b + 17) : bk b B w j = some (bkc B b (j - b)) := if_pos h
section NO
variable {Γ : zΓ} {d : Nat} {w : zW}
theorem n_TombolaBooks (hw : w 5 = some (.inr (6, [.null, .null, .null, .null, .int (jI 0), .int (jI 0), .null, .null, .null]))) : zNew Γ md_X6_init (d + 5) 161 7067 [.ref 5] 1 w 162 (bk 6 jB0 (cr jσ0 jτ0 w)) := by
  refine zNew.of_run (lv := [some (.ref 5), none]) (by decide) rfl (Nat.le_of_ble_eq_true rfl) rfl ?_
  refine zr_aload_n dX6_init_0 (rfl : 0 + 1 = 1) rfl ?_
  refine zr_objI dX6_init_1 (rfl : 1 + 3 = 4) l_X6_1 (Nat.le_of_ble_eq_true rfl) ?_
  refine zr_aload_n dX6_init_4 (rfl : 4 + 1 = 5) rfl ?_
  refine zr_new dX6_init_5 (rfl : 5 + 3 = 8) nc_X6_7 (by first | omega | (simp only [bset, reduceIte, Nat.reduceEqDiff]; omega)) (by first | omega | (simp only [bset, reduceIte, Nat.reduceEqDiff]; omega)) ?_
  refine zr_dup dX6_init_8 (rfl : 8 + 1 = 9) rfl ?_
  refine zr_newI dX6_init_9 (rfl : 9 + 3 = 12) l_X6_9 (n_Book (d := d) (n := 1) (by repeat (first | exact zup_self | assumption | refine (zup_ne (by first | assumption | omega)).trans ?_ | refine (bk_out (by first | omega | (simp only [bset, reduceIte, Nat.reduceEqDiff]; omega))).trans ?_))) rfl rfl (Nat.le_of_ble_eq_true rfl) (by first | omega | (simp only [bset, reduceIte, Nat.reduceEqDiff]; omega)) (by first | omega | (simp only [bset, reduceIte, Nat.reduceEqDiff]; omega)) ?_
  refine zr_putF (fs' := [_, _, _, _, _, _, _, _, _]) dX6_init_12 (rfl : 12 + 3 = 15) f_X6_10 ft_6_0 rfl rfl (by repeat (first | exact zup_self | assumption | refine (zup_ne (by first | assumption | omega)).trans ?_ | refine (bk_out (by first | omega | (simp only [bset, reduceIte, Nat.reduceEqDiff]; omega))).trans ?_)) (Nat.le_of_ble_eq_true rfl) rfl rfl rfl ?_
  refine zr_aload_n dX6_init_15 (rfl : 15 + 1 = 16) rfl ?_
  refine zr_iconst dX6_init_16 (rfl : 16 + 1 = 17) ?_
  refine zr_anewa dX6_init_17 (rfl : 17 + 3 = 20) k_X6_7 ao_Book (by decide) (by decide) rfl (by first | omega | (simp only [bset, reduceIte, Nat.reduceEqDiff]; omega)) (by first | omega | (simp only [bset, reduceIte, Nat.reduceEqDiff]; omega)) ?_
  refine zr_putF (fs' := [_, _, _, _, _, _, _, _, _]) dX6_init_20 (rfl : 20 + 3 = 23) f_X6_16 ft_6_1 rfl rfl (by repeat (first | exact zup_self | assumption | refine (zup_ne (by first | assumption | omega)).trans ?_ | refine (bk_out (by first | omega | (simp only [bset, reduceIte, Nat.reduceEqDiff]; omega))).trans ?_)) (Nat.le_of_ble_eq_true rfl) rfl rfl rfl ?_
  refine zr_aload_n dX6_init_23 (rfl : 23 + 1 = 24) rfl ?_
  refine zr_iconst dX6_init_24 (rfl : 24 + 1 = 25) ?_
  refine zr_newa (tg := 2) dX6_init_25 (rfl : 25 + 2 = 27) rfl (Or.inr ⟨rfl, rfl⟩) ac_boolean (by decide) (by decide) rfl (by first | omega | (simp only [bset, reduceIte, Nat.reduceEqDiff]; omega)) (by first | omega | (simp only [bset, reduceIte, Nat.reduceEqDiff]; omega)) ?_
  refine zr_putF (fs' := [_, _, _, _, _, _, _, _, _]) dX6_init_27 (rfl : 27 + 3 = 30) f_X6_20 ft_6_2 rfl rfl (by repeat (first | exact zup_self | assumption | refine (zup_ne (by first | assumption | omega)).trans ?_ | refine (bk_out (by first | omega | (simp only [bset, reduceIte, Nat.reduceEqDiff]; omega))).trans ?_)) (Nat.le_of_ble_eq_true rfl) rfl rfl rfl ?_
  refine zr_aload_n dX6_init_30 (rfl : 30 + 1 = 31) rfl ?_
  refine zr_bipush dX6_init_31 (rfl : 31 + 2 = 33) (by decide) ?_
  refine zr_anewa dX6_init_33 (rfl : 33 + 3 = 36) k_X6_7 ao_Book (by decide) (by decide) rfl (by first | omega | (simp only [bset, reduceIte, Nat.reduceEqDiff]; omega)) (by first | omega | (simp only [bset, reduceIte, Nat.reduceEqDiff]; omega)) ?_
  refine zr_putF (fs' := [_, _, _, _, _, _, _, _, _]) dX6_init_36 (rfl : 36 + 3 = 39) f_X6_24 ft_6_3 rfl rfl (by repeat (first | exact zup_self | assumption | refine (zup_ne (by first | assumption | omega)).trans ?_ | refine (bk_out (by first | omega | (simp only [bset, reduceIte, Nat.reduceEqDiff]; omega))).trans ?_)) (Nat.le_of_ble_eq_true rfl) rfl rfl rfl ?_
  refine zr_aload_n dX6_init_39 (rfl : 39 + 1 = 40) rfl ?_
  refine zr_new dX6_init_40 (rfl : 40 + 3 = 43) nc_X6_27 (by first | omega | (simp only [bset, reduceIte, Nat.reduceEqDiff]; omega)) (by first | omega | (simp only [bset, reduceIte, Nat.reduceEqDiff]; omega)) ?_
  refine zr_dup dX6_init_43 (rfl : 43 + 1 = 44) rfl ?_
  refine zr_newIN dX6_init_44 (rfl : 44 + 3 = 47) l_X6_29 (n_Text (d := d + 2) (a := 5 + (1 + 17 + 1 + 1 + 1)) (n := 1 + 17 + 1 + 1 + 1 + 1) (by first | omega | (simp only [bset, reduceIte, Nat.reduceEqDiff]; omega)) (by repeat (first | exact zup_self | assumption | refine (zup_ne (by first | assumption | omega)).trans ?_ | refine (bk_out (by first | omega | (simp only [bset, reduceIte, Nat.reduceEqDiff]; omega))).trans ?_))) rfl rfl (Nat.le_of_ble_eq_true rfl) (by first | omega | (simp only [bset, reduceIte, Nat.reduceEqDiff]; omega)) (by first | omega | (simp only [bset, reduceIte, Nat.reduceEqDiff]; omega)) ?_
  refine zr_putF (fs' := [_, _, _, _, _, _, _, _, _]) dX6_init_47 (rfl : 47 + 3 = 50) f_X6_30 ft_6_6 rfl rfl (by repeat (first | exact zup_self | assumption | refine (zup_ne (by first | assumption | omega)).trans ?_ | refine (bk_out (by first | omega | (simp only [bset, reduceIte, Nat.reduceEqDiff]; omega))).trans ?_)) (Nat.le_of_ble_eq_true rfl) rfl rfl rfl ?_
  refine zr_aload_n dX6_init_50 (rfl : 50 + 1 = 51) rfl ?_
  refine zr_new dX6_init_51 (rfl : 51 + 3 = 54) nc_X6_34 (by first | omega | (simp only [bset, reduceIte, Nat.reduceEqDiff]; omega)) (by first | omega | (simp only [bset, reduceIte, Nat.reduceEqDiff]; omega)) ?_
  refine zr_dup dX6_init_54 (rfl : 54 + 1 = 55) rfl ?_
  refine zr_newIN dX6_init_55 (rfl : 55 + 3 = 58) l_X6_36 (n_Drum (d := d + 2) (a := 5 + (1 + 17 + 1 + 1 + 1 + 1 + 1)) (n := 1 + 17 + 1 + 1 + 1 + 1 + 1 + 1) (by first | omega | (simp only [bset, reduceIte, Nat.reduceEqDiff]; omega)) (by repeat (first | exact zup_self | assumption | refine (zup_ne (by first | assumption | omega)).trans ?_ | refine (bk_out (by first | omega | (simp only [bset, reduceIte, Nat.reduceEqDiff]; omega))).trans ?_))) rfl rfl (Nat.le_of_ble_eq_true rfl) (by first | omega | (simp only [bset, reduceIte, Nat.reduceEqDiff]; omega)) (by first | omega | (simp only [bset, reduceIte, Nat.reduceEqDiff]; omega)) ?_
  refine zr_putF (fs' := [_, _, _, _, _, _, _, _, _]) dX6_init_58 (rfl : 58 + 3 = 61) f_X6_37 ft_6_7 rfl rfl (by repeat (first | exact zup_self | assumption | refine (zup_ne (by first | assumption | omega)).trans ?_ | refine (bk_out (by first | omega | (simp only [bset, reduceIte, Nat.reduceEqDiff]; omega))).trans ?_)) (Nat.le_of_ble_eq_true rfl) rfl rfl rfl ?_
  refine zr_aload_n dX6_init_61 (rfl : 61 + 1 = 62) rfl ?_
  refine zr_bipush dX6_init_62 (rfl : 62 + 2 = 64) (by decide) ?_
  refine zr_newa (tg := 0) dX6_init_64 (rfl : 64 + 2 = 66) rfl (Or.inl ⟨rfl, rfl⟩) ac_int (by decide) (by decide) rfl (by first | omega | (simp only [bset, reduceIte, Nat.reduceEqDiff]; omega)) (by first | omega | (simp only [bset, reduceIte, Nat.reduceEqDiff]; omega)) ?_
  refine zr_putF (fs' := [_, _, _, _, _, _, _, _, _]) dX6_init_66 (rfl : 66 + 3 = 69) f_X6_41 ft_6_8 rfl rfl (by repeat (first | exact zup_self | assumption | refine (zup_ne (by first | assumption | omega)).trans ?_ | refine (bk_out (by first | omega | (simp only [bset, reduceIte, Nat.reduceEqDiff]; omega))).trans ?_)) (Nat.le_of_ble_eq_true rfl) rfl rfl rfl ?_
  refine zr_iconst dX6_init_69 (rfl : 69 + 1 = 70) ?_
  refine zr_istore_n (lv' := [_, _]) dX6_init_70 (rfl : 70 + 1 = 71) (Nat.le_of_ble_eq_true rfl) rfl ?_
  refine zr_iload_n dX6_init_71 (rfl : 71 + 1 = 72) rfl ?_
  refine zr_iconst dX6_init_72 (rfl : 72 + 1 = 73) ?_
  refine zr_icmp_ge (tgt := 95) dX6_init_73 (by decide) (rfl : 73 + 3 = 76) (jI_le (by first | omega | (simp only [bset, reduceIte, Nat.reduceEqDiff]; omega)) (by first | omega | (simp only [bset, reduceIte, Nat.reduceEqDiff]; omega)) (by first | omega | (simp only [bset, reduceIte, Nat.reduceEqDiff]; omega)) (by first | omega | (simp only [bset, reduceIte, Nat.reduceEqDiff]; omega))) (fun h => ?_) (fun h => ?_)
  · exfalso; omega
  refine zr_aload_n dX6_init_76 (rfl : 76 + 1 = 77) rfl ?_
  refine zr_getf dX6_init_77 (rfl : 77 + 3 = 80) f_X6_16 (by repeat (first | exact zup_self | assumption | refine (zup_ne (by first | assumption | omega)).trans ?_ | refine (bk_out (by first | omega | (simp only [bset, reduceIte, Nat.reduceEqDiff]; omega))).trans ?_)) rfl ?_
  refine zr_iload_n dX6_init_80 (rfl : 80 + 1 = 81) rfl ?_
  refine zr_new dX6_init_81 (rfl : 81 + 3 = 84) nc_X6_7 (by first | omega | (simp only [bset, reduceIte, Nat.reduceEqDiff]; omega)) (by first | omega | (simp only [bset, reduceIte, Nat.reduceEqDiff]; omega)) ?_
  refine zr_dup dX6_init_84 (rfl : 84 + 1 = 85) rfl ?_
  refine zr_newI dX6_init_85 (rfl : 85 + 3 = 88) l_X6_9 (n_Book (d := d) (by repeat (first | exact zup_self | assumption | refine (zup_ne (by first | assumption | omega)).trans ?_ | refine (bk_out (by first | omega | (simp only [bset, reduceIte, Nat.reduceEqDiff]; omega))).trans ?_))) rfl rfl (Nat.le_of_ble_eq_true rfl) (by first | omega | (simp only [bset, reduceIte, Nat.reduceEqDiff]; omega)) (by first | omega | (simp only [bset, reduceIte, Nat.reduceEqDiff]; omega)) ?_
  refine zr_aast dX6_init_88 (rfl : 88 + 1 = 89) (by repeat (first | exact zup_self | assumption | refine (zup_ne (by first | assumption | omega)).trans ?_ | refine (bk_out (by first | omega | (simp only [bset, reduceIte, Nat.reduceEqDiff]; omega))).trans ?_)) (by decide) (by decide) (by decide) bk_0 rfl ?_
  refine zr_iinc (lv' := [_, _]) dX6_init_89 (rfl : 89 + 3 = 92) (Nat.le_of_ble_eq_true rfl) rfl (by first | exact jI_add _ _ | rfl) rfl ?_
  refine zr_goto (tgt := 71) dX6_init_92 (by decide) ?_
  refine zr_iload_n dX6_init_71 (rfl : 71 + 1 = 72) rfl ?_
  refine zr_iconst dX6_init_72 (rfl : 72 + 1 = 73) ?_
  refine zr_icmp_ge (tgt := 95) dX6_init_73 (by decide) (rfl : 73 + 3 = 76) (jI_le (by first | omega | (simp only [bset, reduceIte, Nat.reduceEqDiff]; omega)) (by first | omega | (simp only [bset, reduceIte, Nat.reduceEqDiff]; omega)) (by first | omega | (simp only [bset, reduceIte, Nat.reduceEqDiff]; omega)) (by first | omega | (simp only [bset, reduceIte, Nat.reduceEqDiff]; omega))) (fun h => ?_) (fun h => ?_)
  · exfalso; omega
  refine zr_aload_n dX6_init_76 (rfl : 76 + 1 = 77) rfl ?_
  refine zr_getf dX6_init_77 (rfl : 77 + 3 = 80) f_X6_16 (by repeat (first | exact zup_self | assumption | refine (zup_ne (by first | assumption | omega)).trans ?_ | refine (bk_out (by first | omega | (simp only [bset, reduceIte, Nat.reduceEqDiff]; omega))).trans ?_)) rfl ?_
  refine zr_iload_n dX6_init_80 (rfl : 80 + 1 = 81) rfl ?_
  refine zr_new dX6_init_81 (rfl : 81 + 3 = 84) nc_X6_7 (by first | omega | (simp only [bset, reduceIte, Nat.reduceEqDiff]; omega)) (by first | omega | (simp only [bset, reduceIte, Nat.reduceEqDiff]; omega)) ?_
  refine zr_dup dX6_init_84 (rfl : 84 + 1 = 85) rfl ?_
  refine zr_newI dX6_init_85 (rfl : 85 + 3 = 88) l_X6_9 (n_Book (d := d) (by repeat (first | exact zup_self | assumption | refine (zup_ne (by first | assumption | omega)).trans ?_ | refine (bk_out (by first | omega | (simp only [bset, reduceIte, Nat.reduceEqDiff]; omega))).trans ?_))) rfl rfl (Nat.le_of_ble_eq_true rfl) (by first | omega | (simp only [bset, reduceIte, Nat.reduceEqDiff]; omega)) (by first | omega | (simp only [bset, reduceIte, Nat.reduceEqDiff]; omega)) ?_
  refine zr_aast dX6_init_88 (rfl : 88 + 1 = 89) (by repeat (first | exact zup_self | assumption | refine (zup_ne (by first | assumption | omega)).trans ?_ | refine (bk_out (by first | omega | (simp only [bset, reduceIte, Nat.reduceEqDiff]; omega))).trans ?_)) (by decide) (by decide) (by decide) bk_0 rfl ?_
  refine zr_iinc (lv' := [_, _]) dX6_init_89 (rfl : 89 + 3 = 92) (Nat.le_of_ble_eq_true rfl) rfl (by first | exact jI_add _ _ | rfl) rfl ?_
  refine zr_goto (tgt := 71) dX6_init_92 (by decide) ?_
  refine zr_iload_n dX6_init_71 (rfl : 71 + 1 = 72) rfl ?_
  refine zr_iconst dX6_init_72 (rfl : 72 + 1 = 73) ?_
  refine zr_icmp_ge (tgt := 95) dX6_init_73 (by decide) (rfl : 73 + 3 = 76) (jI_le (by first | omega | (simp only [bset, reduceIte, Nat.reduceEqDiff]; omega)) (by first | omega | (simp only [bset, reduceIte, Nat.reduceEqDiff]; omega)) (by first | omega | (simp only [bset, reduceIte, Nat.reduceEqDiff]; omega)) (by first | omega | (simp only [bset, reduceIte, Nat.reduceEqDiff]; omega))) (fun h => ?_) (fun h => ?_)
  rotate_left
  · exfalso; omega
  refine zr_iconst dX6_init_95 (rfl : 95 + 1 = 96) ?_
  refine zr_istore_n (lv' := [_, _]) dX6_init_96 (rfl : 96 + 1 = 97) (Nat.le_of_ble_eq_true rfl) rfl ?_
  refine zr_iload_n dX6_init_97 (rfl : 97 + 1 = 98) rfl ?_
  refine zr_bipush dX6_init_98 (rfl : 98 + 2 = 100) (by decide) ?_
  refine zr_icmp_ge (tgt := 122) dX6_init_100 (by decide) (rfl : 100 + 3 = 103) (jI_le (by first | omega | (simp only [bset, reduceIte, Nat.reduceEqDiff]; omega)) (by first | omega | (simp only [bset, reduceIte, Nat.reduceEqDiff]; omega)) (by first | omega | (simp only [bset, reduceIte, Nat.reduceEqDiff]; omega)) (by first | omega | (simp only [bset, reduceIte, Nat.reduceEqDiff]; omega))) (fun h => ?_) (fun h => ?_)
  · exfalso; omega
  refine zr_aload_n dX6_init_103 (rfl : 103 + 1 = 104) rfl ?_
  refine zr_getf dX6_init_104 (rfl : 104 + 3 = 107) f_X6_24 (by repeat (first | exact zup_self | assumption | refine (zup_ne (by first | assumption | omega)).trans ?_ | refine (bk_out (by first | omega | (simp only [bset, reduceIte, Nat.reduceEqDiff]; omega))).trans ?_)) rfl ?_
  refine zr_iload_n dX6_init_107 (rfl : 107 + 1 = 108) rfl ?_
  refine zr_new dX6_init_108 (rfl : 108 + 3 = 111) nc_X6_7 (by first | omega | (simp only [bset, reduceIte, Nat.reduceEqDiff]; omega)) (by first | omega | (simp only [bset, reduceIte, Nat.reduceEqDiff]; omega)) ?_
  refine zr_dup dX6_init_111 (rfl : 111 + 1 = 112) rfl ?_
  refine zr_newI dX6_init_112 (rfl : 112 + 3 = 115) l_X6_9 (n_Book (d := d) (by repeat (first | exact zup_self | assumption | refine (zup_ne (by first | assumption | omega)).trans ?_ | refine (bk_out (by first | omega | (simp only [bset, reduceIte, Nat.reduceEqDiff]; omega))).trans ?_))) rfl rfl (Nat.le_of_ble_eq_true rfl) (by first | omega | (simp only [bset, reduceIte, Nat.reduceEqDiff]; omega)) (by first | omega | (simp only [bset, reduceIte, Nat.reduceEqDiff]; omega)) ?_
  refine zr_aast dX6_init_115 (rfl : 115 + 1 = 116) (by repeat (first | exact zup_self | assumption | refine (zup_ne (by first | assumption | omega)).trans ?_ | refine (bk_out (by first | omega | (simp only [bset, reduceIte, Nat.reduceEqDiff]; omega))).trans ?_)) (by decide) (by decide) (by decide) bk_0 rfl ?_
  refine zr_iinc (lv' := [_, _]) dX6_init_116 (rfl : 116 + 3 = 119) (Nat.le_of_ble_eq_true rfl) rfl (by first | exact jI_add _ _ | rfl) rfl ?_
  refine zr_goto (tgt := 97) dX6_init_119 (by decide) ?_
  refine zr_iload_n dX6_init_97 (rfl : 97 + 1 = 98) rfl ?_
  refine zr_bipush dX6_init_98 (rfl : 98 + 2 = 100) (by decide) ?_
  refine zr_icmp_ge (tgt := 122) dX6_init_100 (by decide) (rfl : 100 + 3 = 103) (jI_le (by first | omega | (simp only [bset, reduceIte, Nat.reduceEqDiff]; omega)) (by first | omega | (simp only [bset, reduceIte, Nat.reduceEqDiff]; omega)) (by first | omega | (simp only [bset, reduceIte, Nat.reduceEqDiff]; omega)) (by first | omega | (simp only [bset, reduceIte, Nat.reduceEqDiff]; omega))) (fun h => ?_) (fun h => ?_)
  · exfalso; omega
  refine zr_aload_n dX6_init_103 (rfl : 103 + 1 = 104) rfl ?_
  refine zr_getf dX6_init_104 (rfl : 104 + 3 = 107) f_X6_24 (by repeat (first | exact zup_self | assumption | refine (zup_ne (by first | assumption | omega)).trans ?_ | refine (bk_out (by first | omega | (simp only [bset, reduceIte, Nat.reduceEqDiff]; omega))).trans ?_)) rfl ?_
  refine zr_iload_n dX6_init_107 (rfl : 107 + 1 = 108) rfl ?_
  refine zr_new dX6_init_108 (rfl : 108 + 3 = 111) nc_X6_7 (by first | omega | (simp only [bset, reduceIte, Nat.reduceEqDiff]; omega)) (by first | omega | (simp only [bset, reduceIte, Nat.reduceEqDiff]; omega)) ?_
  refine zr_dup dX6_init_111 (rfl : 111 + 1 = 112) rfl ?_
  refine zr_newI dX6_init_112 (rfl : 112 + 3 = 115) l_X6_9 (n_Book (d := d) (by repeat (first | exact zup_self | assumption | refine (zup_ne (by first | assumption | omega)).trans ?_ | refine (bk_out (by first | omega | (simp only [bset, reduceIte, Nat.reduceEqDiff]; omega))).trans ?_))) rfl rfl (Nat.le_of_ble_eq_true rfl) (by first | omega | (simp only [bset, reduceIte, Nat.reduceEqDiff]; omega)) (by first | omega | (simp only [bset, reduceIte, Nat.reduceEqDiff]; omega)) ?_
  refine zr_aast dX6_init_115 (rfl : 115 + 1 = 116) (by repeat (first | exact zup_self | assumption | refine (zup_ne (by first | assumption | omega)).trans ?_ | refine (bk_out (by first | omega | (simp only [bset, reduceIte, Nat.reduceEqDiff]; omega))).trans ?_)) (by decide) (by decide) (by decide) bk_0 rfl ?_
  refine zr_iinc (lv' := [_, _]) dX6_init_116 (rfl : 116 + 3 = 119) (Nat.le_of_ble_eq_true rfl) rfl (by first | exact jI_add _ _ | rfl) rfl ?_
  refine zr_goto (tgt := 97) dX6_init_119 (by decide) ?_
  refine zr_iload_n dX6_init_97 (rfl : 97 + 1 = 98) rfl ?_
  refine zr_bipush dX6_init_98 (rfl : 98 + 2 = 100) (by decide) ?_
  refine zr_icmp_ge (tgt := 122) dX6_init_100 (by decide) (rfl : 100 + 3 = 103) (jI_le (by first | omega | (simp only [bset, reduceIte, Nat.reduceEqDiff]; omega)) (by first | omega | (simp only [bset, reduceIte, Nat.reduceEqDiff]; omega)) (by first | omega | (simp only [bset, reduceIte, Nat.reduceEqDiff]; omega)) (by first | omega | (simp only [bset, reduceIte, Nat.reduceEqDiff]; omega))) (fun h => ?_) (fun h => ?_)
  · exfalso; omega
  refine zr_aload_n dX6_init_103 (rfl : 103 + 1 = 104) rfl ?_
  refine zr_getf dX6_init_104 (rfl : 104 + 3 = 107) f_X6_24 (by repeat (first | exact zup_self | assumption | refine (zup_ne (by first | assumption | omega)).trans ?_ | refine (bk_out (by first | omega | (simp only [bset, reduceIte, Nat.reduceEqDiff]; omega))).trans ?_)) rfl ?_
  refine zr_iload_n dX6_init_107 (rfl : 107 + 1 = 108) rfl ?_
  refine zr_new dX6_init_108 (rfl : 108 + 3 = 111) nc_X6_7 (by first | omega | (simp only [bset, reduceIte, Nat.reduceEqDiff]; omega)) (by first | omega | (simp only [bset, reduceIte, Nat.reduceEqDiff]; omega)) ?_
  refine zr_dup dX6_init_111 (rfl : 111 + 1 = 112) rfl ?_
  refine zr_newI dX6_init_112 (rfl : 112 + 3 = 115) l_X6_9 (n_Book (d := d) (by repeat (first | exact zup_self | assumption | refine (zup_ne (by first | assumption | omega)).trans ?_ | refine (bk_out (by first | omega | (simp only [bset, reduceIte, Nat.reduceEqDiff]; omega))).trans ?_))) rfl rfl (Nat.le_of_ble_eq_true rfl) (by first | omega | (simp only [bset, reduceIte, Nat.reduceEqDiff]; omega)) (by first | omega | (simp only [bset, reduceIte, Nat.reduceEqDiff]; omega)) ?_
  refine zr_aast dX6_init_115 (rfl : 115 + 1 = 116) (by repeat (first | exact zup_self | assumption | refine (zup_ne (by first | assumption | omega)).trans ?_ | refine (bk_out (by first | omega | (simp only [bset, reduceIte, Nat.reduceEqDiff]; omega))).trans ?_)) (by decide) (by decide) (by decide) bk_0 rfl ?_
  refine zr_iinc (lv' := [_, _]) dX6_init_116 (rfl : 116 + 3 = 119) (Nat.le_of_ble_eq_true rfl) rfl (by first | exact jI_add _ _ | rfl) rfl ?_
  refine zr_goto (tgt := 97) dX6_init_119 (by decide) ?_
  refine zr_iload_n dX6_init_97 (rfl : 97 + 1 = 98) rfl ?_
  refine zr_bipush dX6_init_98 (rfl : 98 + 2 = 100) (by decide) ?_
  refine zr_icmp_ge (tgt := 122) dX6_init_100 (by decide) (rfl : 100 + 3 = 103) (jI_le (by first | omega | (simp only [bset, reduceIte, Nat.reduceEqDiff]; omega)) (by first | omega | (simp only [bset, reduceIte, Nat.reduceEqDiff]; omega)) (by first | omega | (simp only [bset, reduceIte, Nat.reduceEqDiff]; omega)) (by first | omega | (simp only [bset, reduceIte, Nat.reduceEqDiff]; omega))) (fun h => ?_) (fun h => ?_)
  · exfalso; omega
  refine zr_aload_n dX6_init_103 (rfl : 103 + 1 = 104) rfl ?_
  refine zr_getf dX6_init_104 (rfl : 104 + 3 = 107) f_X6_24 (by repeat (first | exact zup_self | assumption | refine (zup_ne (by first | assumption | omega)).trans ?_ | refine (bk_out (by first | omega | (simp only [bset, reduceIte, Nat.reduceEqDiff]; omega))).trans ?_)) rfl ?_
  refine zr_iload_n dX6_init_107 (rfl : 107 + 1 = 108) rfl ?_
  refine zr_new dX6_init_108 (rfl : 108 + 3 = 111) nc_X6_7 (by first | omega | (simp only [bset, reduceIte, Nat.reduceEqDiff]; omega)) (by first | omega | (simp only [bset, reduceIte, Nat.reduceEqDiff]; omega)) ?_
  refine zr_dup dX6_init_111 (rfl : 111 + 1 = 112) rfl ?_
  refine zr_newI dX6_init_112 (rfl : 112 + 3 = 115) l_X6_9 (n_Book (d := d) (by repeat (first | exact zup_self | assumption | refine (zup_ne (by first | assumption | omega)).trans ?_ | refine (bk_out (by first | omega | (simp only [bset, reduceIte, Nat.reduceEqDiff]; omega))).trans ?_))) rfl rfl (Nat.le_of_ble_eq_true rfl) (by first | omega | (simp only [bset, reduceIte, Nat.reduceEqDiff]; omega)) (by first | omega | (simp only [bset, reduceIte, Nat.reduceEqDiff]; omega)) ?_
  refine zr_aast dX6_init_115 (rfl : 115 + 1 = 116) (by repeat (first | exact zup_self | assumption | refine (zup_ne (by first | assumption | omega)).trans ?_ | refine (bk_out (by first | omega | (simp only [bset, reduceIte, Nat.reduceEqDiff]; omega))).trans ?_)) (by decide) (by decide) (by decide) bk_0 rfl ?_
  refine zr_iinc (lv' := [_, _]) dX6_init_116 (rfl : 116 + 3 = 119) (Nat.le_of_ble_eq_true rfl) rfl (by first | exact jI_add _ _ | rfl) rfl ?_
  refine zr_goto (tgt := 97) dX6_init_119 (by decide) ?_
  refine zr_iload_n dX6_init_97 (rfl : 97 + 1 = 98) rfl ?_
  refine zr_bipush dX6_init_98 (rfl : 98 + 2 = 100) (by decide) ?_
  refine zr_icmp_ge (tgt := 122) dX6_init_100 (by decide) (rfl : 100 + 3 = 103) (jI_le (by first | omega | (simp only [bset, reduceIte, Nat.reduceEqDiff]; omega)) (by first | omega | (simp only [bset, reduceIte, Nat.reduceEqDiff]; omega)) (by first | omega | (simp only [bset, reduceIte, Nat.reduceEqDiff]; omega)) (by first | omega | (simp only [bset, reduceIte, Nat.reduceEqDiff]; omega))) (fun h => ?_) (fun h => ?_)
  · exfalso; omega
  refine zr_aload_n dX6_init_103 (rfl : 103 + 1 = 104) rfl ?_
  refine zr_getf dX6_init_104 (rfl : 104 + 3 = 107) f_X6_24 (by repeat (first | exact zup_self | assumption | refine (zup_ne (by first | assumption | omega)).trans ?_ | refine (bk_out (by first | omega | (simp only [bset, reduceIte, Nat.reduceEqDiff]; omega))).trans ?_)) rfl ?_
  refine zr_iload_n dX6_init_107 (rfl : 107 + 1 = 108) rfl ?_
  refine zr_new dX6_init_108 (rfl : 108 + 3 = 111) nc_X6_7 (by first | omega | (simp only [bset, reduceIte, Nat.reduceEqDiff]; omega)) (by first | omega | (simp only [bset, reduceIte, Nat.reduceEqDiff]; omega)) ?_
  refine zr_dup dX6_init_111 (rfl : 111 + 1 = 112) rfl ?_
  refine zr_newI dX6_init_112 (rfl : 112 + 3 = 115) l_X6_9 (n_Book (d := d) (by repeat (first | exact zup_self | assumption | refine (zup_ne (by first | assumption | omega)).trans ?_ | refine (bk_out (by first | omega | (simp only [bset, reduceIte, Nat.reduceEqDiff]; omega))).trans ?_))) rfl rfl (Nat.le_of_ble_eq_true rfl) (by first | omega | (simp only [bset, reduceIte, Nat.reduceEqDiff]; omega)) (by first | omega | (simp only [bset, reduceIte, Nat.reduceEqDiff]; omega)) ?_
  refine zr_aast dX6_init_115 (rfl : 115 + 1 = 116) (by repeat (first | exact zup_self | assumption | refine (zup_ne (by first | assumption | omega)).trans ?_ | refine (bk_out (by first | omega | (simp only [bset, reduceIte, Nat.reduceEqDiff]; omega))).trans ?_)) (by decide) (by decide) (by decide) bk_0 rfl ?_
  refine zr_iinc (lv' := [_, _]) dX6_init_116 (rfl : 116 + 3 = 119) (Nat.le_of_ble_eq_true rfl) rfl (by first | exact jI_add _ _ | rfl) rfl ?_
  refine zr_goto (tgt := 97) dX6_init_119 (by decide) ?_
  refine zr_iload_n dX6_init_97 (rfl : 97 + 1 = 98) rfl ?_
  refine zr_bipush dX6_init_98 (rfl : 98 + 2 = 100) (by decide) ?_
  refine zr_icmp_ge (tgt := 122) dX6_init_100 (by decide) (rfl : 100 + 3 = 103) (jI_le (by first | omega | (simp only [bset, reduceIte, Nat.reduceEqDiff]; omega)) (by first | omega | (simp only [bset, reduceIte, Nat.reduceEqDiff]; omega)) (by first | omega | (simp only [bset, reduceIte, Nat.reduceEqDiff]; omega)) (by first | omega | (simp only [bset, reduceIte, Nat.reduceEqDiff]; omega))) (fun h => ?_) (fun h => ?_)
  · exfalso; omega
  refine zr_aload_n dX6_init_103 (rfl : 103 + 1 = 104) rfl ?_
  refine zr_getf dX6_init_104 (rfl : 104 + 3 = 107) f_X6_24 (by repeat (first | exact zup_self | assumption | refine (zup_ne (by first | assumption | omega)).trans ?_ | refine (bk_out (by first | omega | (simp only [bset, reduceIte, Nat.reduceEqDiff]; omega))).trans ?_)) rfl ?_
  refine zr_iload_n dX6_init_107 (rfl : 107 + 1 = 108) rfl ?_
  refine zr_new dX6_init_108 (rfl : 108 + 3 = 111) nc_X6_7 (by first | omega | (simp only [bset, reduceIte, Nat.reduceEqDiff]; omega)) (by first | omega | (simp only [bset, reduceIte, Nat.reduceEqDiff]; omega)) ?_
  refine zr_dup dX6_init_111 (rfl : 111 + 1 = 112) rfl ?_
  refine zr_newI dX6_init_112 (rfl : 112 + 3 = 115) l_X6_9 (n_Book (d := d) (by repeat (first | exact zup_self | assumption | refine (zup_ne (by first | assumption | omega)).trans ?_ | refine (bk_out (by first | omega | (simp only [bset, reduceIte, Nat.reduceEqDiff]; omega))).trans ?_))) rfl rfl (Nat.le_of_ble_eq_true rfl) (by first | omega | (simp only [bset, reduceIte, Nat.reduceEqDiff]; omega)) (by first | omega | (simp only [bset, reduceIte, Nat.reduceEqDiff]; omega)) ?_
  refine zr_aast dX6_init_115 (rfl : 115 + 1 = 116) (by repeat (first | exact zup_self | assumption | refine (zup_ne (by first | assumption | omega)).trans ?_ | refine (bk_out (by first | omega | (simp only [bset, reduceIte, Nat.reduceEqDiff]; omega))).trans ?_)) (by decide) (by decide) (by decide) bk_0 rfl ?_
  refine zr_iinc (lv' := [_, _]) dX6_init_116 (rfl : 116 + 3 = 119) (Nat.le_of_ble_eq_true rfl) rfl (by first | exact jI_add _ _ | rfl) rfl ?_
  refine zr_goto (tgt := 97) dX6_init_119 (by decide) ?_
  refine zr_iload_n dX6_init_97 (rfl : 97 + 1 = 98) rfl ?_
  refine zr_bipush dX6_init_98 (rfl : 98 + 2 = 100) (by decide) ?_
  refine zr_icmp_ge (tgt := 122) dX6_init_100 (by decide) (rfl : 100 + 3 = 103) (jI_le (by first | omega | (simp only [bset, reduceIte, Nat.reduceEqDiff]; omega)) (by first | omega | (simp only [bset, reduceIte, Nat.reduceEqDiff]; omega)) (by first | omega | (simp only [bset, reduceIte, Nat.reduceEqDiff]; omega)) (by first | omega | (simp only [bset, reduceIte, Nat.reduceEqDiff]; omega))) (fun h => ?_) (fun h => ?_)
  rotate_left
  · exfalso; omega
  refine zr_vret dX6_init_122 rfl ?_ rfl rfl
  funext j
  by_cases h5 : j = 5
  · subst h5
    refine Eq.trans ?_ (cr_at (by omega) cr_5).symm
    repeat (first | exact zup_self | refine (zup_ne (by decide)).trans ?_ | refine (bk_out (by decide)).trans ?_)
  by_cases h24 : j = 24
  · subst h24
    refine Eq.trans ?_ (cr_at (by omega) cr_24).symm
    repeat (first | exact zup_self | refine (zup_ne (by decide)).trans ?_ | refine (bk_out (by decide)).trans ?_)
  by_cases h26 : j = 26
  · subst h26
    refine Eq.trans ?_ (cr_at (by omega) cr_26).symm
    repeat (first | exact zup_self | refine (zup_ne (by decide)).trans ?_ | refine (bk_out (by decide)).trans ?_)
  by_cases h27 : j = 27
  · subst h27
    refine Eq.trans ?_ (cr_at (by omega) cr_27).symm
    repeat (first | exact zup_self | refine (zup_ne (by decide)).trans ?_ | refine (bk_out (by decide)).trans ?_)
  by_cases h28 : j = 28
  · subst h28
    refine Eq.trans ?_ (cr_at (by omega) cr_28).symm
    repeat (first | exact zup_self | refine (zup_ne (by decide)).trans ?_ | refine (bk_out (by decide)).trans ?_)
  by_cases h29 : j = 29
  · subst h29
    refine Eq.trans ?_ (cr_at (by omega) cr_29).symm
    repeat (first | exact zup_self | refine (zup_ne (by decide)).trans ?_ | refine (bk_out (by decide)).trans ?_)
  by_cases h30 : j = 30
  · subst h30
    refine Eq.trans ?_ (cr_at (by omega) cr_30).symm
    repeat (first | exact zup_self | refine (zup_ne (by decide)).trans ?_ | refine (bk_out (by decide)).trans ?_)
  by_cases h23 : j = 23
  · subst h23
    refine Eq.trans ?_ (cr_at (by omega) cr_23).symm
    repeat (first | refine zup_self.trans ?_ | refine (zup_ne (by decide)).trans ?_ | refine (bk_out (by decide)).trans ?_)
    refine congrArg some (congrArg Sum.inl ?_)
    refine congrArg (fun f => ((4 : Nat), (2 : Nat), Sum.inr (Sum.inr (Sum.inr (Sum.inr f))))) ?_
    funext i
    unfold va_up
    by_cases i1 : i = 1
    · subst i1
      rfl
    · by_cases i0 : i = 0
      · subst i0
        rfl
      · show (if i = 1 then _ else if i = 0 then _ else none) = _
        rw [if_neg i1, if_neg i0, if_neg (by omega)]
  by_cases h25 : j = 25
  · subst h25
    refine Eq.trans ?_ (cr_at (by omega) cr_25).symm
    repeat (first | refine zup_self.trans ?_ | refine (zup_ne (by decide)).trans ?_ | refine (bk_out (by decide)).trans ?_)
    refine congrArg some (congrArg Sum.inl ?_)
    refine congrArg (fun f => ((4 : Nat), (6 : Nat), Sum.inr (Sum.inr (Sum.inr (Sum.inr f))))) ?_
    funext i
    unfold va_up
    by_cases i6 : i < 6
    · rcases (by omega : i = 0 ∨ i = 1 ∨ i = 2 ∨ i = 3 ∨ i = 4 ∨ i = 5) with h | h | h | h | h | h <;> (subst h; rfl)
    · show (if i = 5 then _ else if i = 4 then _ else if i = 3 then _ else if i = 2 then _ else if i = 1 then _ else if i = 0 then _ else none) = _
      rw [if_neg (by omega), if_neg (by omega), if_neg (by omega), if_neg (by omega), if_neg (by omega), if_neg (by omega), if_neg (by omega)]
  by_cases hb : 6 ≤ j ∧ j < 23
  · repeat (first | exact zup_self | refine (zup_ne (by omega)).trans ?_ | refine (bk_out (by omega)).trans ?_)
    refine (bk_in (by omega)).trans ?_
    exact (bk_in (b := 6) (by omega)).symm
  by_cases q0 : 31 ≤ j ∧ j < 48
  · repeat (first | exact zup_self | refine (zup_ne (by omega)).trans ?_ | refine (bk_out (by omega)).trans ?_)
    refine (bk_in (by omega)).trans ?_
    refine Eq.trans ?_ (cr_at (by omega) (cr_bx (by omega))).symm
    unfold zbx
    rw [show (j - 31) / 17 = 0 by omega, show (j - 31) % 17 = j - (31 + 17 * 0) by omega]
    rfl
  by_cases q1 : 48 ≤ j ∧ j < 65
  · repeat (first | exact zup_self | refine (zup_ne (by omega)).trans ?_ | refine (bk_out (by omega)).trans ?_)
    refine (bk_in (by omega)).trans ?_
    refine Eq.trans ?_ (cr_at (by omega) (cr_bx (by omega))).symm
    unfold zbx
    rw [show (j - 31) / 17 = 1 by omega, show (j - 31) % 17 = j - (31 + 17 * 1) by omega]
    rfl
  by_cases q2 : 65 ≤ j ∧ j < 82
  · repeat (first | exact zup_self | refine (zup_ne (by omega)).trans ?_ | refine (bk_out (by omega)).trans ?_)
    refine (bk_in (by omega)).trans ?_
    refine Eq.trans ?_ (cr_at (by omega) (cr_bx (by omega))).symm
    unfold zbx
    rw [show (j - 31) / 17 = 2 by omega, show (j - 31) % 17 = j - (31 + 17 * 2) by omega]
    rfl
  by_cases q3 : 82 ≤ j ∧ j < 99
  · repeat (first | exact zup_self | refine (zup_ne (by omega)).trans ?_ | refine (bk_out (by omega)).trans ?_)
    refine (bk_in (by omega)).trans ?_
    refine Eq.trans ?_ (cr_at (by omega) (cr_bx (by omega))).symm
    unfold zbx
    rw [show (j - 31) / 17 = 3 by omega, show (j - 31) % 17 = j - (31 + 17 * 3) by omega]
    rfl
  by_cases q4 : 99 ≤ j ∧ j < 116
  · repeat (first | exact zup_self | refine (zup_ne (by omega)).trans ?_ | refine (bk_out (by omega)).trans ?_)
    refine (bk_in (by omega)).trans ?_
    refine Eq.trans ?_ (cr_at (by omega) (cr_bx (by omega))).symm
    unfold zbx
    rw [show (j - 31) / 17 = 4 by omega, show (j - 31) % 17 = j - (31 + 17 * 4) by omega]
    rfl
  by_cases q5 : 116 ≤ j ∧ j < 133
  · repeat (first | exact zup_self | refine (zup_ne (by omega)).trans ?_ | refine (bk_out (by omega)).trans ?_)
    refine (bk_in (by omega)).trans ?_
    refine Eq.trans ?_ (cr_at (by omega) (cr_bx (by omega))).symm
    unfold zbx
    rw [show (j - 31) / 17 = 5 by omega, show (j - 31) % 17 = j - (31 + 17 * 5) by omega]
    rfl
  by_cases q6 : 133 ≤ j ∧ j < 150
  · repeat (first | exact zup_self | refine (zup_ne (by omega)).trans ?_ | refine (bk_out (by omega)).trans ?_)
    refine (bk_in (by omega)).trans ?_
    refine Eq.trans ?_ (cr_at (by omega) (cr_bx (by omega))).symm
    unfold zbx
    rw [show (j - 31) / 17 = 6 by omega, show (j - 31) % 17 = j - (31 + 17 * 6) by omega]
    rfl
  by_cases q7 : 150 ≤ j ∧ j < 167
  · repeat (first | exact zup_self | refine (zup_ne (by omega)).trans ?_ | refine (bk_out (by omega)).trans ?_)
    refine (bk_in (by omega)).trans ?_
    refine Eq.trans ?_ (cr_at (by omega) (cr_bx (by omega))).symm
    unfold zbx
    rw [show (j - 31) / 17 = 7 by omega, show (j - 31) % 17 = j - (31 + 17 * 7) by omega]
    rfl
  repeat (first | exact zup_self | refine (zup_ne (by omega)).trans ?_ | refine (bk_out (by omega)).trans ?_)
  exact ((bk_out (b := 6) (by omega)).trans (cr_out (by omega))).symm
end NO

