/-! the buffer -/
def jca (T : Int → Int) (L i : Int) : Int := if 0 ≤ i ∧ i < L then T i else 0
def jol (z : Int) : Int := if z = 98 then 2 else if z = 99 then 3 else if z = 100 then 2 else if z = 112 then 5 else 0
theorem jol_r (z : Int) : 0 ≤ jol z ∧ jol z ≤ 5 := by unfold jol; split <;> (try split) <;> (try split) <;> (try split) <;> omega
def jfit (T : Int → Int) (L s i : Int) : Int :=
  if i = s then jb (0 < jol (jca T L s)) else
  if jca T L i - 48 < 0 ∨ 9 < jca T L i - 48 then 0 else
  if jca T L s = 100 then jb (0 < jca T L i - 48) else
  if i - s = 1 then jb (0 ≤ jca T L i - 48 ∧ jca T L i - 48 < 6) else
  if i - s = 2 then (if jca T L s = 99 then jb (0 ≤ jca T L i - 48 ∧ jca T L i - 48 < 4) else jb (0 ≤ jca T L i - 48 ∧ jca T L i - 48 < 3)) else
  if i - s = 3 then 1 else jb (1 ≤ 10 * (jca T L (i - 1) - 48) + (jca T L i - 48) ∧ 10 * (jca T L (i - 1) - 48) + (jca T L i - 48) ≤ 90)
def jnx (T : Int → Int) (L s i : Int) : Int := if s < i ∧ i - s = jol (jca T L s) then i else s
def jfw (T : Int → Int) (L : Int) : Nat → Int → Int → Int
  | 0, _, _ => L
  | n + 1, s, i => if jfit T L (jnx T L s i) i = 0 then i else jfw T L n (jnx T L s i) (i + 1)
theorem jfw_succ (T : Int → Int) (L : Int) (n : Nat) (s i : Int) : jfw T L (n + 1) s i = if jfit T L (jnx T L s i) i = 0 then i else jfw T L n (jnx T L s i) (i + 1) := rfl
def jad (T : Int → Int) (L : Int) : Nat → Int
  | 0 => 0
  | n + 1 => if jad T L n < L then jad T L n + jol (jca T L (jad T L n)) else jad T L n
theorem jad_stuck {T : Int → Int} {L : Int} {n : Nat} (h : ¬ jad T L n < L) : ∀ m : Nat, jad T L (n + m) = jad T L n
  | 0 => rfl
  | m + 1 => by
    have ih := jad_stuck h m
    show (if jad T L (n + m) < L then _ else jad T L (n + m)) = _
    rw [ih, if_neg h]
theorem jad_r {T : Int → Int} {L : Int} (hL : 0 ≤ L ∧ L ≤ 60) : ∀ n : Nat, 0 ≤ jad T L n ∧ jad T L n ≤ 65
  | 0 => ⟨Int.le_refl _, (by decide : (0 : Int) ≤ 65)⟩
  | n + 1 => by
    have ih := jad_r (T := T) hL n
    have := jol_r (jca T L (jad T L n))
    show 0 ≤ (if jad T L n < L then jad T L n + jol (jca T L (jad T L n)) else jad T L n) ∧ (if jad T L n < L then jad T L n + jol (jca T L (jad T L n)) else jad T L n) ≤ 65
    split <;> omega
theorem jfw_r {T : Int → Int} {L : Int} : ∀ (n : Nat) (s i : Int), 0 ≤ i → i + n ≤ L → 0 ≤ L → 0 ≤ jfw T L n s i ∧ jfw T L n s i ≤ L
  | 0, _, _, _, _, h => ⟨h, Int.le_refl _⟩
  | n + 1, s, i, h0, h1, h => by
    unfold jfw
    split
    · omega
    · exact jfw_r n _ (i + 1) (by omega) (by omega) h
theorem jfit_r (T : Int → Int) (L s i : Int) : 0 ≤ jfit T L s i ∧ jfit T L s i ≤ 1 := by
  unfold jfit
  repeat' split
  all_goals first | exact jb_r | decide
section TX
variable {Γ : zΓ} {d : Nat} {w : zW} {tx ct : Nat} {T : Int → Int} {L : Int}
theorem jca_r (hT : ∀ z, 0 ≤ T z ∧ T z ≤ 126) (i : Int) : 0 ≤ jca T L i ∧ jca T L i ≤ 126 := by
  unfold jca
  split
  · exact hT i
  · decide
theorem s_orderLength (z : Int) (hz : -2147483648 ≤ z ∧ z < 2147483648) : zFn Γ md_X5_orderLength d [.int (jI z)] w (some (.int (jI (jol z)))) w := by
  refine zFn.of_run (lv := [some (.int (jI z))]) (by decide) rfl (Nat.le_of_ble_eq_true rfl) rfl (fun n9 g9 => ?_)
  refine zr_iload_n dX5_orderLength_0 (rfl : 0 + 1 = 1) rfl ?_
  by_cases hs98 : z = 98
  · first
    | (exfalso; omega)
    | (
      refine zr_lookup (off := 47) (tgt := 48) dX5_orderLength_1 ⟨by omega, by omega⟩ (by decide) (by rw [hs98]; rfl) (by decide) ?_
      refine zr_iconst dX5_orderLength_48 (rfl : 48 + 1 = 49) ?_
      refine zr_iret dX5_orderLength_49 rfl rfl ?_ rfl rfl rfl
      (unfold jol; first | (rw [if_pos (by assumption)]) | (rw [if_neg (by assumption), if_pos (by assumption)]) | (rw [if_neg (by assumption), if_neg (by assumption), if_pos (by assumption)]) | (rw [if_neg (by assumption), if_neg (by assumption), if_neg (by assumption), if_pos (by assumption)]) | (rw [if_neg (by assumption), if_neg (by assumption), if_neg (by assumption), if_neg (by assumption)])))
  by_cases hs99 : z = 99
  · first
    | (exfalso; omega)
    | (
      refine zr_lookup (off := 45) (tgt := 46) dX5_orderLength_1 ⟨by omega, by omega⟩ (by decide) (by rw [hs99]; rfl) (by decide) ?_
      refine zr_iconst dX5_orderLength_46 (rfl : 46 + 1 = 47) ?_
      refine zr_iret dX5_orderLength_47 rfl rfl ?_ rfl rfl rfl
      (unfold jol; first | (rw [if_pos (by assumption)]) | (rw [if_neg (by assumption), if_pos (by assumption)]) | (rw [if_neg (by assumption), if_neg (by assumption), if_pos (by assumption)]) | (rw [if_neg (by assumption), if_neg (by assumption), if_neg (by assumption), if_pos (by assumption)]) | (rw [if_neg (by assumption), if_neg (by assumption), if_neg (by assumption), if_neg (by assumption)])))
  by_cases hs100 : z = 100
  · first
    | (exfalso; omega)
    | (
      refine zr_lookup (off := 47) (tgt := 48) dX5_orderLength_1 ⟨by omega, by omega⟩ (by decide) (by rw [hs100]; rfl) (by decide) ?_
      refine zr_iconst dX5_orderLength_48 (rfl : 48 + 1 = 49) ?_
      refine zr_iret dX5_orderLength_49 rfl rfl ?_ rfl rfl rfl
      (unfold jol; first | (rw [if_pos (by assumption)]) | (rw [if_neg (by assumption), if_pos (by assumption)]) | (rw [if_neg (by assumption), if_neg (by assumption), if_pos (by assumption)]) | (rw [if_neg (by assumption), if_neg (by assumption), if_neg (by assumption), if_pos (by assumption)]) | (rw [if_neg (by assumption), if_neg (by assumption), if_neg (by assumption), if_neg (by assumption)])))
  by_cases hs112 : z = 112
  · first
    | (exfalso; omega)
    | (
      refine zr_lookup (off := 43) (tgt := 44) dX5_orderLength_1 ⟨by omega, by omega⟩ (by decide) (by rw [hs112]; rfl) (by decide) ?_
      refine zr_iconst dX5_orderLength_44 (rfl : 44 + 1 = 45) ?_
      refine zr_iret dX5_orderLength_45 rfl rfl ?_ rfl rfl rfl
      (unfold jol; first | (rw [if_pos (by assumption)]) | (rw [if_neg (by assumption), if_pos (by assumption)]) | (rw [if_neg (by assumption), if_neg (by assumption), if_pos (by assumption)]) | (rw [if_neg (by assumption), if_neg (by assumption), if_neg (by assumption), if_pos (by assumption)]) | (rw [if_neg (by assumption), if_neg (by assumption), if_neg (by assumption), if_neg (by assumption)])))
  refine zr_lookup (off := 49) (tgt := 50) dX5_orderLength_1 ⟨by omega, by omega⟩ (by decide) (by simp [Op.lookupswitch.offset, Ne.symm hs98, Ne.symm hs99, Ne.symm hs100, Ne.symm hs112]) (by decide) ?_
  refine zr_iconst dX5_orderLength_50 (rfl : 50 + 1 = 51) ?_
  refine zr_iret dX5_orderLength_51 rfl rfl ?_ rfl rfl rfl
  (unfold jol; first | (rw [if_pos (by assumption)]) | (rw [if_neg (by assumption), if_pos (by assumption)]) | (rw [if_neg (by assumption), if_neg (by assumption), if_pos (by assumption)]) | (rw [if_neg (by assumption), if_neg (by assumption), if_neg (by assumption), if_pos (by assumption)]) | (rw [if_neg (by assumption), if_neg (by assumption), if_neg (by assumption), if_neg (by assumption)]))
theorem s_codeAt (i : Int) (hi : -2147483648 ≤ i ∧ i < 2147483648) (hL : 0 ≤ L ∧ L ≤ 60) (hx : w tx = some (.inr (5, [.ref ct, .int (jI L)]))) (hc : w ct = some (zia 60 T)) : zFn Γ md_X5_codeAt d [.ref tx, .int (jI i)] w (some (.int (jI (jca T L i)))) w := by
  refine zFn.of_run (lv := [some (.ref tx), some (.int (jI i))]) (by decide) rfl (Nat.le_of_ble_eq_true rfl) rfl (fun n9 g9 => ?_)
  refine zr_iload_n dX5_codeAt_0 (rfl : 0 + 1 = 1) rfl ?_
  refine zr_if_lt (tgt := 21) dX5_codeAt_1 (by decide) (rfl : 1 + 3 = 4) (jI_ltz (by first | omega | (simp only [bset, reduceIte, Nat.reduceEqDiff]; omega)) (by first | omega | (simp only [bset, reduceIte, Nat.reduceEqDiff]; omega))) (fun h1 => ?_) (fun h1 => ?_)
  · first
    | (exfalso; omega)
    | (
      refine zr_iconst dX5_codeAt_21 (rfl : 21 + 1 = 22) ?_
      refine zr_iret dX5_codeAt_22 rfl rfl ?_ rfl rfl rfl
      unfold jca; first | rw [if_pos (by omega)] | rw [if_neg (by omega)])
  · first
    | (exfalso; omega)
    | (
      refine zr_iload_n dX5_codeAt_4 (rfl : 4 + 1 = 5) rfl ?_
      refine zr_aload_n dX5_codeAt_5 (rfl : 5 + 1 = 6) rfl ?_
      refine zr_getf dX5_codeAt_6 (rfl : 6 + 3 = 9) f_X5_15 (by first | assumption | exact mw_167 | exact mw_168 | exact mw_169 | exact mw_170 | exact bk_0 | exact bk_1 | exact bk_2 | exact bk_3 | exact bk_4 | exact bk_5 | exact bk_6 | exact bk_7 | exact bk_8 | exact bk_9 | exact bk_10 | exact bk_11 | exact bk_12 | exact bk_13 | exact bk_14 | exact bk_15 | exact bk_16 | exact zup_self | exact (zup_ne (by first | assumption | omega)).trans (by first | assumption | exact zup_self) | exact (zup_ne (by first | assumption | omega)).trans ((zup_ne (by first | assumption | omega)).trans (by first | assumption | exact zup_self)) | exact (bk_out (by first | omega | (simp only [bset, reduceIte, Nat.reduceEqDiff]; omega))).trans (by first | exact bk_0 | exact bk_1 | exact bk_2 | exact bk_3 | exact bk_4 | exact bk_5 | exact bk_6 | exact bk_7 | exact bk_8 | exact bk_9 | exact bk_10 | exact bk_11 | exact bk_12 | exact bk_13 | exact bk_14 | exact bk_15 | exact bk_16 | exact cr_5 | exact cr_23 | exact cr_24 | exact cr_25 | exact cr_26 | exact cr_27 | exact cr_28 | exact cr_29 | exact cr_30 | assumption)) rfl ?_
      refine zr_icmp_ge (tgt := 21) dX5_codeAt_9 (by decide) (rfl : 9 + 3 = 12) (jI_le (by first | omega | (simp only [bset, reduceIte, Nat.reduceEqDiff]; omega)) (by first | omega | (simp only [bset, reduceIte, Nat.reduceEqDiff]; omega)) (by first | omega | (simp only [bset, reduceIte, Nat.reduceEqDiff]; omega)) (by first | omega | (simp only [bset, reduceIte, Nat.reduceEqDiff]; omega))) (fun h9 => ?_) (fun h9 => ?_)
      · first
        | (exfalso; omega)
        | (
          refine zr_iconst dX5_codeAt_21 (rfl : 21 + 1 = 22) ?_
          refine zr_iret dX5_codeAt_22 rfl rfl ?_ rfl rfl rfl
          unfold jca; first | rw [if_pos (by omega)] | rw [if_neg (by omega)])
      · first
        | (exfalso; omega)
        | (
          refine zr_aload_n dX5_codeAt_12 (rfl : 12 + 1 = 13) rfl ?_
          refine zr_getf dX5_codeAt_13 (rfl : 13 + 3 = 16) f_X5_9 (by first | assumption | exact mw_167 | exact mw_168 | exact mw_169 | exact mw_170 | exact bk_0 | exact bk_1 | exact bk_2 | exact bk_3 | exact bk_4 | exact bk_5 | exact bk_6 | exact bk_7 | exact bk_8 | exact bk_9 | exact bk_10 | exact bk_11 | exact bk_12 | exact bk_13 | exact bk_14 | exact bk_15 | exact bk_16 | exact zup_self | exact (zup_ne (by first | assumption | omega)).trans (by first | assumption | exact zup_self) | exact (zup_ne (by first | assumption | omega)).trans ((zup_ne (by first | assumption | omega)).trans (by first | assumption | exact zup_self)) | exact (bk_out (by first | omega | (simp only [bset, reduceIte, Nat.reduceEqDiff]; omega))).trans (by first | exact bk_0 | exact bk_1 | exact bk_2 | exact bk_3 | exact bk_4 | exact bk_5 | exact bk_6 | exact bk_7 | exact bk_8 | exact bk_9 | exact bk_10 | exact bk_11 | exact bk_12 | exact bk_13 | exact bk_14 | exact bk_15 | exact bk_16 | exact cr_5 | exact cr_23 | exact cr_24 | exact cr_25 | exact cr_26 | exact cr_27 | exact cr_28 | exact cr_29 | exact cr_30 | assumption)) rfl ?_
          refine zr_iload_n dX5_codeAt_16 (rfl : 16 + 1 = 17) rfl ?_
          refine zr_iald dX5_codeAt_17 (rfl : 17 + 1 = 18) (by first | assumption | exact mw_167 | exact mw_168 | exact mw_169 | exact mw_170 | exact bk_0 | exact bk_1 | exact bk_2 | exact bk_3 | exact bk_4 | exact bk_5 | exact bk_6 | exact bk_7 | exact bk_8 | exact bk_9 | exact bk_10 | exact bk_11 | exact bk_12 | exact bk_13 | exact bk_14 | exact bk_15 | exact bk_16 | exact zup_self | exact (zup_ne (by first | assumption | omega)).trans (by first | assumption | exact zup_self) | exact (zup_ne (by first | assumption | omega)).trans ((zup_ne (by first | assumption | omega)).trans (by first | assumption | exact zup_self)) | exact (bk_out (by first | omega | (simp only [bset, reduceIte, Nat.reduceEqDiff]; omega))).trans (by first | exact bk_0 | exact bk_1 | exact bk_2 | exact bk_3 | exact bk_4 | exact bk_5 | exact bk_6 | exact bk_7 | exact bk_8 | exact bk_9 | exact bk_10 | exact bk_11 | exact bk_12 | exact bk_13 | exact bk_14 | exact bk_15 | exact bk_16 | exact cr_5 | exact cr_23 | exact cr_24 | exact cr_25 | exact cr_26 | exact cr_27 | exact cr_28 | exact cr_29 | exact cr_30 | assumption)) (by decide) (by first | omega | (simp only [bset, reduceIte, Nat.reduceEqDiff]; omega)) (by first | omega | (simp only [bset, reduceIte, Nat.reduceEqDiff]; omega)) ?_
          refine zr_goto (tgt := 22) dX5_codeAt_18 (by decide) ?_
          refine zr_iret dX5_codeAt_22 rfl rfl ?_ rfl rfl rfl
          unfold jca; first | rw [if_pos (by omega)] | rw [if_neg (by omega)]))
theorem s_digitAt (i : Int) (hi : -2147483648 ≤ i ∧ i < 2147483648) (hL : 0 ≤ L ∧ L ≤ 60) (hT : ∀ z, 0 ≤ T z ∧ T z ≤ 126) (hx : w tx = some (.inr (5, [.ref ct, .int (jI L)]))) (hc : w ct = some (zia 60 T)) : zFn Γ md_X5_digitAt (d + 1) [.ref tx, .int (jI i)] w (some (.int (jI (jca T L i - 48)))) w := by
  have := jca_r (L := L) hT i
  refine zFn.of_run (lv := [some (.ref tx), some (.int (jI i))]) (by decide) rfl (Nat.le_of_ble_eq_true rfl) rfl (fun n9 g9 => ?_)
  refine zr_aload_n dX5_digitAt_0 (rfl : 0 + 1 = 1) rfl ?_
  refine zr_iload_n dX5_digitAt_1 (rfl : 1 + 1 = 2) rfl ?_
  refine zr_fnV dX5_digitAt_2 (rfl : 2 + 3 = 5) l_X5_19 (s_codeAt i hi hL hx hc) (by first | assumption | exact mw_167 | exact mw_168 | exact mw_169 | exact mw_170 | exact bk_0 | exact bk_1 | exact bk_2 | exact bk_3 | exact bk_4 | exact bk_5 | exact bk_6 | exact bk_7 | exact bk_8 | exact bk_9 | exact bk_10 | exact bk_11 | exact bk_12 | exact bk_13 | exact bk_14 | exact bk_15 | exact bk_16 | exact zup_self | exact (zup_ne (by first | assumption | omega)).trans (by first | assumption | exact zup_self) | exact (zup_ne (by first | assumption | omega)).trans ((zup_ne (by first | assumption | omega)).trans (by first | assumption | exact zup_self)) | exact (bk_out (by first | omega | (simp only [bset, reduceIte, Nat.reduceEqDiff]; omega))).trans (by first | exact bk_0 | exact bk_1 | exact bk_2 | exact bk_3 | exact bk_4 | exact bk_5 | exact bk_6 | exact bk_7 | exact bk_8 | exact bk_9 | exact bk_10 | exact bk_11 | exact bk_12 | exact bk_13 | exact bk_14 | exact bk_15 | exact bk_16 | exact cr_5 | exact cr_23 | exact cr_24 | exact cr_25 | exact cr_26 | exact cr_27 | exact cr_28 | exact cr_29 | exact cr_30 | assumption)) rfl rfl rfl (Nat.le_of_ble_eq_true rfl) ?_
  refine zr_bipush dX5_digitAt_5 (rfl : 5 + 2 = 7) (by decide) ?_
  refine zr_isub dX5_digitAt_7 (rfl : 7 + 1 = 8) (by first | exact jI_sub _ _ | rfl) ?_
  refine zr_iret dX5_digitAt_8 rfl rfl ?_ rfl rfl rfl
  first | rfl | rw [jb_pos (by first | assumption | omega)] | rw [jb_neg (by first | assumption | omega)] | rw [if_pos (by first | assumption | omega)] | rw [if_neg (by first | assumption | omega)]
theorem s_fits (s i : Int) (hs : 0 ≤ s ∧ s ≤ 60) (hi : s ≤ i ∧ i < L) (hL : 0 ≤ L ∧ L ≤ 60) (hT : ∀ z, 0 ≤ T z ∧ T z ≤ 126) (hx : w tx = some (.inr (5, [.ref ct, .int (jI L)]))) (hc : w ct = some (zia 60 T)) : zFn Γ md_X5_fits (d + 2) [.ref tx, .int (jI s), .int (jI i)] w (some (.int (jI (jfit T L s i)))) w := by
  have h1 := jca_r (L := L) hT s
  have h2 := jca_r (L := L) hT i
  have h3 := jca_r (L := L) hT (i - 1)
  have h4 := jol_r (jca T L s)
  refine zFn.of_run (lv := [some (.ref tx), some (.int (jI s)), some (.int (jI i)), none, none]) (by decide) rfl (Nat.le_of_ble_eq_true rfl) rfl (fun n9 g9 => ?_)
  refine zr_aload_n dX5_fits_0 (rfl : 0 + 1 = 1) rfl ?_
  refine zr_iload_n dX5_fits_1 (rfl : 1 + 1 = 2) rfl ?_
  refine zr_fnV dX5_fits_2 (rfl : 2 + 3 = 5) l_X5_19 (s_codeAt s (by first | omega | (simp only [bset, reduceIte, Nat.reduceEqDiff]; omega)) hL hx hc) (by first | assumption | exact mw_167 | exact mw_168 | exact mw_169 | exact mw_170 | exact bk_0 | exact bk_1 | exact bk_2 | exact bk_3 | exact bk_4 | exact bk_5 | exact bk_6 | exact bk_7 | exact bk_8 | exact bk_9 | exact bk_10 | exact bk_11 | exact bk_12 | exact bk_13 | exact bk_14 | exact bk_15 | exact bk_16 | exact zup_self | exact (zup_ne (by first | assumption | omega)).trans (by first | assumption | exact zup_self) | exact (zup_ne (by first | assumption | omega)).trans ((zup_ne (by first | assumption | omega)).trans (by first | assumption | exact zup_self)) | exact (bk_out (by first | omega | (simp only [bset, reduceIte, Nat.reduceEqDiff]; omega))).trans (by first | exact bk_0 | exact bk_1 | exact bk_2 | exact bk_3 | exact bk_4 | exact bk_5 | exact bk_6 | exact bk_7 | exact bk_8 | exact bk_9 | exact bk_10 | exact bk_11 | exact bk_12 | exact bk_13 | exact bk_14 | exact bk_15 | exact bk_16 | exact cr_5 | exact cr_23 | exact cr_24 | exact cr_25 | exact cr_26 | exact cr_27 | exact cr_28 | exact cr_29 | exact cr_30 | assumption)) rfl rfl rfl (Nat.le_of_ble_eq_true rfl) ?_
  refine zr_istore_n (lv' := [_, _, _, _, _]) dX5_fits_5 (rfl : 5 + 1 = 6) (Nat.le_of_ble_eq_true rfl) rfl ?_
  refine zr_iload_n dX5_fits_6 (rfl : 6 + 1 = 7) rfl ?_
  refine zr_iload_n dX5_fits_7 (rfl : 7 + 1 = 8) rfl ?_
  refine zr_icmp_ne (tgt := 24) dX5_fits_8 (by decide) (rfl : 8 + 3 = 11) (jI_eq (by first | omega | (simp only [bset, reduceIte, Nat.reduceEqDiff]; omega)) (by first | omega | (simp only [bset, reduceIte, Nat.reduceEqDiff]; omega)) (by first | omega | (simp only [bset, reduceIte, Nat.reduceEqDiff]; omega)) (by first | omega | (simp only [bset, reduceIte, Nat.reduceEqDiff]; omega))) (fun h8 => ?_) (fun h8 => ?_)
  · first
    | (exfalso; omega)
    | (
      refine zr_aload_n dX5_fits_24 (rfl : 24 + 1 = 25) rfl ?_
      refine zr_iload_n dX5_fits_25 (rfl : 25 + 1 = 26) rfl ?_
      refine zr_fnV dX5_fits_26 (rfl : 26 + 3 = 29) l_X5_34 (s_digitAt i (by first | omega | (simp only [bset, reduceIte, Nat.reduceEqDiff]; omega)) hL hT hx hc) (by first | assumption | exact mw_167 | exact mw_168 | exact mw_169 | exact mw_170 | exact bk_0 | exact bk_1 | exact bk_2 | exact bk_3 | exact bk_4 | exact bk_5 | exact bk_6 | exact bk_7 | exact bk_8 | exact bk_9 | exact bk_10 | exact bk_11 | exact bk_12 | exact bk_13 | exact bk_14 | exact bk_15 | exact bk_16 | exact zup_self | exact (zup_ne (by first | assumption | omega)).trans (by first | assumption | exact zup_self) | exact (zup_ne (by first | assumption | omega)).trans ((zup_ne (by first | assumption | omega)).trans (by first | assumption | exact zup_self)) | exact (bk_out (by first | omega | (simp only [bset, reduceIte, Nat.reduceEqDiff]; omega))).trans (by first | exact bk_0 | exact bk_1 | exact bk_2 | exact bk_3 | exact bk_4 | exact bk_5 | exact bk_6 | exact bk_7 | exact bk_8 | exact bk_9 | exact bk_10 | exact bk_11 | exact bk_12 | exact bk_13 | exact bk_14 | exact bk_15 | exact bk_16 | exact cr_5 | exact cr_23 | exact cr_24 | exact cr_25 | exact cr_26 | exact cr_27 | exact cr_28 | exact cr_29 | exact cr_30 | assumption)) rfl rfl rfl (Nat.le_of_ble_eq_true rfl) ?_
      refine zr_istore (lv' := [_, _, _, _, _]) dX5_fits_29 (rfl : 29 + 2 = 31) (Nat.le_of_ble_eq_true rfl) rfl ?_
      refine zr_iload dX5_fits_31 (rfl : 31 + 2 = 33) rfl ?_
      refine zr_if_lt (tgt := 43) dX5_fits_33 (by decide) (rfl : 33 + 3 = 36) (jI_ltz (by first | omega | (simp only [bset, reduceIte, Nat.reduceEqDiff]; omega)) (by first | omega | (simp only [bset, reduceIte, Nat.reduceEqDiff]; omega))) (fun h33 => ?_) (fun h33 => ?_)
      · first
        | (exfalso; omega)
        | (
          refine zr_iconst dX5_fits_43 (rfl : 43 + 1 = 44) ?_
          refine zr_iret dX5_fits_44 rfl (by first | exact jb_nar | rfl) ?_ rfl rfl rfl
          (unfold jfit; repeat (first | rw [if_pos (by omega)] | rw [if_neg (by omega)])); try (first | rfl | rw [jb_pos (by omega)] | rw [jb_neg (by omega)]))
      · first
        | (exfalso; omega)
        | (
          refine zr_iload dX5_fits_36 (rfl : 36 + 2 = 38) rfl ?_
          refine zr_bipush dX5_fits_38 (rfl : 38 + 2 = 40) (by decide) ?_
          refine zr_icmp_le (tgt := 45) dX5_fits_40 (by decide) (rfl : 40 + 3 = 43) (jI_le (by first | omega | (simp only [bset, reduceIte, Nat.reduceEqDiff]; omega)) (by first | omega | (simp only [bset, reduceIte, Nat.reduceEqDiff]; omega)) (by first | omega | (simp only [bset, reduceIte, Nat.reduceEqDiff]; omega)) (by first | omega | (simp only [bset, reduceIte, Nat.reduceEqDiff]; omega))) (fun h40 => ?_) (fun h40 => ?_)
          · first
            | (exfalso; omega)
            | (
              refine zr_iload_n dX5_fits_45 (rfl : 45 + 1 = 46) rfl ?_
              refine zr_bipush dX5_fits_46 (rfl : 46 + 2 = 48) (by decide) ?_
              refine zr_icmp_ne (tgt := 62) dX5_fits_48 (by decide) (rfl : 48 + 3 = 51) (jI_eq (by first | omega | (simp only [bset, reduceIte, Nat.reduceEqDiff]; omega)) (by first | omega | (simp only [bset, reduceIte, Nat.reduceEqDiff]; omega)) (by first | omega | (simp only [bset, reduceIte, Nat.reduceEqDiff]; omega)) (by first | omega | (simp only [bset, reduceIte, Nat.reduceEqDiff]; omega))) (fun h48 => ?_) (fun h48 => ?_)
              · first
                | (exfalso; omega)
                | (
                  refine zr_iload_n dX5_fits_62 (rfl : 62 + 1 = 63) rfl ?_
                  refine zr_iload_n dX5_fits_63 (rfl : 63 + 1 = 64) rfl ?_
                  refine zr_isub dX5_fits_64 (rfl : 64 + 1 = 65) (by first | exact jI_sub _ _ | rfl) ?_
                  by_cases hs1 : i - s = 1
                  · first
                    | (exfalso; omega)
                    | (
                      refine zr_tableIn (off := 27) (tgt := 92) dX5_fits_65 ⟨by omega, by omega⟩ (by first | omega | (simp only [bset, reduceIte, Nat.reduceEqDiff]; omega)) (by first | omega | (simp only [bset, reduceIte, Nat.reduceEqDiff]; omega)) (by rw [hs1]; rfl) (by decide) ?_
                      refine zr_iload dX5_fits_92 (rfl : 92 + 2 = 94) rfl ?_
                      refine zr_fnSN dX5_fits_94 (rfl : 94 + 3 = 97) l_X5_37 (s_isCard (jca T L i - 48) (by first | omega | (simp only [bset, reduceIte, Nat.reduceEqDiff]; omega))) rfl rfl (Nat.le_of_ble_eq_true rfl) ?_
                      refine zr_iret dX5_fits_97 rfl (by first | exact jb_nar | rfl) ?_ rfl rfl rfl
                      (unfold jfit; repeat (first | rw [if_pos (by omega)] | rw [if_neg (by omega)])); try (first | rfl | rw [jb_pos (by omega)] | rw [jb_neg (by omega)]))
                  by_cases hs2 : i - s = 2
                  · first
                    | (exfalso; omega)
                    | (
                      refine zr_tableIn (off := 33) (tgt := 98) dX5_fits_65 ⟨by omega, by omega⟩ (by first | omega | (simp only [bset, reduceIte, Nat.reduceEqDiff]; omega)) (by first | omega | (simp only [bset, reduceIte, Nat.reduceEqDiff]; omega)) (by rw [hs2]; rfl) (by decide) ?_
                      refine zr_iload_n dX5_fits_98 (rfl : 98 + 1 = 99) rfl ?_
                      refine zr_bipush dX5_fits_99 (rfl : 99 + 2 = 101) (by decide) ?_
                      refine zr_icmp_ne (tgt := 112) dX5_fits_101 (by decide) (rfl : 101 + 3 = 104) (jI_eq (by first | omega | (simp only [bset, reduceIte, Nat.reduceEqDiff]; omega)) (by first | omega | (simp only [bset, reduceIte, Nat.reduceEqDiff]; omega)) (by first | omega | (simp only [bset, reduceIte, Nat.reduceEqDiff]; omega)) (by first | omega | (simp only [bset, reduceIte, Nat.reduceEqDiff]; omega))) (fun h101 => ?_) (fun h101 => ?_)
                      · first
                        | (exfalso; omega)
                        | (
                          refine zr_iload dX5_fits_112 (rfl : 112 + 2 = 114) rfl ?_
                          refine zr_fnSN dX5_fits_114 (rfl : 114 + 3 = 117) l_X5_44 (s_isRow (jca T L i - 48) (by first | omega | (simp only [bset, reduceIte, Nat.reduceEqDiff]; omega))) rfl rfl (Nat.le_of_ble_eq_true rfl) ?_
                          refine zr_iret dX5_fits_117 rfl (by first | exact jb_nar | rfl) ?_ rfl rfl rfl
                          (unfold jfit; repeat (first | rw [if_pos (by omega)] | rw [if_neg (by omega)])); try (first | rfl | rw [jb_pos (by omega)] | rw [jb_neg (by omega)]))
                      · first
                        | (exfalso; omega)
                        | (
                          refine zr_iload dX5_fits_104 (rfl : 104 + 2 = 106) rfl ?_
                          refine zr_fnSN dX5_fits_106 (rfl : 106 + 3 = 109) l_X5_41 (s_isGame (jca T L i - 48) (by first | omega | (simp only [bset, reduceIte, Nat.reduceEqDiff]; omega))) rfl rfl (Nat.le_of_ble_eq_true rfl) ?_
                          refine zr_goto (tgt := 117) dX5_fits_109 (by decide) ?_
                          refine zr_iret dX5_fits_117 rfl (by first | exact jb_nar | rfl) ?_ rfl rfl rfl
                          (unfold jfit; repeat (first | rw [if_pos (by omega)] | rw [if_neg (by omega)])); try (first | rfl | rw [jb_pos (by omega)] | rw [jb_neg (by omega)])))
                  by_cases hs3 : i - s = 3
                  · first
                    | (exfalso; omega)
                    | (
                      refine zr_tableIn (off := 53) (tgt := 118) dX5_fits_65 ⟨by omega, by omega⟩ (by first | omega | (simp only [bset, reduceIte, Nat.reduceEqDiff]; omega)) (by first | omega | (simp only [bset, reduceIte, Nat.reduceEqDiff]; omega)) (by rw [hs3]; rfl) (by decide) ?_
                      refine zr_iconst dX5_fits_118 (rfl : 118 + 1 = 119) ?_
                      refine zr_iret dX5_fits_119 rfl (by first | exact jb_nar | rfl) ?_ rfl rfl rfl
                      (unfold jfit; repeat (first | rw [if_pos (by omega)] | rw [if_neg (by omega)])); try (first | rfl | rw [jb_pos (by omega)] | rw [jb_neg (by omega)]))
                  refine zr_tableOut (tgt := 120) dX5_fits_65 ⟨by omega, by omega⟩ (by first | omega | (simp only [bset, reduceIte, Nat.reduceEqDiff]; omega)) (by decide) ?_
                  refine zr_bipush dX5_fits_120 (rfl : 120 + 2 = 122) (by decide) ?_
                  refine zr_aload_n dX5_fits_122 (rfl : 122 + 1 = 123) rfl ?_
                  refine zr_iload_n dX5_fits_123 (rfl : 123 + 1 = 124) rfl ?_
                  refine zr_iconst dX5_fits_124 (rfl : 124 + 1 = 125) ?_
                  refine zr_isub dX5_fits_125 (rfl : 125 + 1 = 126) (by first | exact jI_sub _ _ | rfl) ?_
                  refine zr_fnV dX5_fits_126 (rfl : 126 + 3 = 129) l_X5_34 (s_digitAt (i - 1) (by first | omega | (simp only [bset, reduceIte, Nat.reduceEqDiff]; omega)) hL hT hx hc) (by first | assumption | exact mw_167 | exact mw_168 | exact mw_169 | exact mw_170 | exact bk_0 | exact bk_1 | exact bk_2 | exact bk_3 | exact bk_4 | exact bk_5 | exact bk_6 | exact bk_7 | exact bk_8 | exact bk_9 | exact bk_10 | exact bk_11 | exact bk_12 | exact bk_13 | exact bk_14 | exact bk_15 | exact bk_16 | exact zup_self | exact (zup_ne (by first | assumption | omega)).trans (by first | assumption | exact zup_self) | exact (zup_ne (by first | assumption | omega)).trans ((zup_ne (by first | assumption | omega)).trans (by first | assumption | exact zup_self)) | exact (bk_out (by first | omega | (simp only [bset, reduceIte, Nat.reduceEqDiff]; omega))).trans (by first | exact bk_0 | exact bk_1 | exact bk_2 | exact bk_3 | exact bk_4 | exact bk_5 | exact bk_6 | exact bk_7 | exact bk_8 | exact bk_9 | exact bk_10 | exact bk_11 | exact bk_12 | exact bk_13 | exact bk_14 | exact bk_15 | exact bk_16 | exact cr_5 | exact cr_23 | exact cr_24 | exact cr_25 | exact cr_26 | exact cr_27 | exact cr_28 | exact cr_29 | exact cr_30 | assumption)) rfl rfl rfl (Nat.le_of_ble_eq_true rfl) ?_
                  refine zr_imul dX5_fits_129 (rfl : 129 + 1 = 130) (by first | exact jI_mul _ _ | rfl) ?_
                  refine zr_iload dX5_fits_130 (rfl : 130 + 2 = 132) rfl ?_
                  refine zr_iadd dX5_fits_132 (rfl : 132 + 1 = 133) (by first | exact jI_add _ _ | rfl) ?_
                  refine zr_fnSN dX5_fits_133 (rfl : 133 + 3 = 136) l_X5_47 (s_isNumber (10 * (jca T L (i - 1) - 48) + (jca T L i - 48)) (by first | omega | (simp only [bset, reduceIte, Nat.reduceEqDiff]; omega))) rfl rfl (Nat.le_of_ble_eq_true rfl) ?_
                  refine zr_iret dX5_fits_136 rfl (by first | exact jb_nar | rfl) ?_ rfl rfl rfl
                  (unfold jfit; repeat (first | rw [if_pos (by omega)] | rw [if_neg (by omega)])); try (first | rfl | rw [jb_pos (by omega)] | rw [jb_neg (by omega)]))
              · first
                | (exfalso; omega)
                | (
                  refine zr_iload dX5_fits_51 (rfl : 51 + 2 = 53) rfl ?_
                  refine zr_if_le (tgt := 60) dX5_fits_53 (by decide) (rfl : 53 + 3 = 56) (jI_lez (by first | omega | (simp only [bset, reduceIte, Nat.reduceEqDiff]; omega)) (by first | omega | (simp only [bset, reduceIte, Nat.reduceEqDiff]; omega))) (fun h53 => ?_) (fun h53 => ?_)
                  · first
                    | (exfalso; omega)
                    | (
                      refine zr_iconst dX5_fits_60 (rfl : 60 + 1 = 61) ?_
                      refine zr_iret dX5_fits_61 rfl (by first | exact jb_nar | rfl) ?_ rfl rfl rfl
                      (unfold jfit; repeat (first | rw [if_pos (by omega)] | rw [if_neg (by omega)])); try (first | rfl | rw [jb_pos (by omega)] | rw [jb_neg (by omega)]))
                  · first
                    | (exfalso; omega)
                    | (
                      refine zr_iconst dX5_fits_56 (rfl : 56 + 1 = 57) ?_
                      refine zr_goto (tgt := 61) dX5_fits_57 (by decide) ?_
                      refine zr_iret dX5_fits_61 rfl (by first | exact jb_nar | rfl) ?_ rfl rfl rfl
                      (unfold jfit; repeat (first | rw [if_pos (by omega)] | rw [if_neg (by omega)])); try (first | rfl | rw [jb_pos (by omega)] | rw [jb_neg (by omega)]))))
          · first
            | (exfalso; omega)
            | (
              refine zr_iconst dX5_fits_43 (rfl : 43 + 1 = 44) ?_
              refine zr_iret dX5_fits_44 rfl (by first | exact jb_nar | rfl) ?_ rfl rfl rfl
              (unfold jfit; repeat (first | rw [if_pos (by omega)] | rw [if_neg (by omega)])); try (first | rfl | rw [jb_pos (by omega)] | rw [jb_neg (by omega)]))))
  · first
    | (exfalso; omega)
    | (
      refine zr_iload_n dX5_fits_11 (rfl : 11 + 1 = 12) rfl ?_
      refine zr_fnS dX5_fits_12 (rfl : 12 + 3 = 15) l_X5_23 (s_orderLength (jca T L s) (by first | omega | (simp only [bset, reduceIte, Nat.reduceEqDiff]; omega))) rfl rfl (Nat.le_of_ble_eq_true rfl) ?_
      refine zr_if_le (tgt := 22) dX5_fits_15 (by decide) (rfl : 15 + 3 = 18) (jI_lez (by first | omega | (simp only [bset, reduceIte, Nat.reduceEqDiff]; omega)) (by first | omega | (simp only [bset, reduceIte, Nat.reduceEqDiff]; omega))) (fun h15 => ?_) (fun h15 => ?_)
      · first
        | (exfalso; omega)
        | (
          refine zr_iconst dX5_fits_22 (rfl : 22 + 1 = 23) ?_
          refine zr_iret dX5_fits_23 rfl (by first | exact jb_nar | rfl) ?_ rfl rfl rfl
          (unfold jfit; repeat (first | rw [if_pos (by omega)] | rw [if_neg (by omega)])); try (first | rfl | rw [jb_pos (by omega)] | rw [jb_neg (by omega)]))
      · first
        | (exfalso; omega)
        | (
          refine zr_iconst dX5_fits_18 (rfl : 18 + 1 = 19) ?_
          refine zr_goto (tgt := 23) dX5_fits_19 (by decide) ?_
          refine zr_iret dX5_fits_23 rfl (by first | exact jb_nar | rfl) ?_ rfl rfl rfl
          (unfold jfit; repeat (first | rw [if_pos (by omega)] | rw [if_neg (by omega)])); try (first | rfl | rw [jb_pos (by omega)] | rw [jb_neg (by omega)])))
theorem s_firstWrong (hL : 0 ≤ L ∧ L ≤ 60) (hT : ∀ z, 0 ≤ T z ∧ T z ≤ 126) (hx : w tx = some (.inr (5, [.ref ct, .int (jI L)]))) (hc : w ct = some (zia 60 T)) : zFn Γ md_X5_firstWrong (d + 3) [.ref tx] w (some (.int (jI (jfw T L L.toNat 0 0)))) w := by
  refine zFn.of_run (lv := [some (.ref tx), none, none]) (by decide) rfl (Nat.le_of_ble_eq_true rfl) rfl (fun n9 g9 => ?_)
  refine zr_iconst dX5_firstWrong_0 (rfl : 0 + 1 = 1) ?_
  refine zr_istore_n (lv' := [_, _, _]) dX5_firstWrong_1 (rfl : 1 + 1 = 2) (Nat.le_of_ble_eq_true rfl) rfl ?_
  refine zr_iconst dX5_firstWrong_2 (rfl : 2 + 1 = 3) ?_
  refine zr_istore_n (lv' := [_, _, _]) dX5_firstWrong_3 (rfl : 3 + 1 = 4) (Nat.le_of_ble_eq_true rfl) rfl ?_
  refine zfor1 0 L.toNat (fun i s => 0 ≤ s ∧ s ≤ i ∧ jfw T L (L - i).toNat s i = jfw T L L.toNat 0 0) (fun i s => [some (.ref tx), some (.int (jI s)), some (.int (jI i))]) (fun _ _ => w) 0 ⟨Int.le_refl _, Int.le_refl _, by rw [Int.sub_zero]⟩ ?_ ?_
  · intro i s h0 h1 hI hk
    obtain ⟨hs0, hs1, hj⟩ := hI
    have h4 := jol_r (jca T L s)
    have h5 := jca_r (L := L) hT s
    rw [show (L - i).toNat = (L - (i + 1)).toNat + 1 by omega] at hj
    rw [jfw_succ] at hj
    have fin : ∀ s', 0 ≤ s' → s' ≤ i → jnx T L s i = s' → zRun Γ md_X5_firstWrong (d + 3) none 33 [some (.ref tx), some (.int (jI s')), some (.int (jI i))] [] (n9, g9, 0, 0) w (zDone md_X5_firstWrong (some (.int (jI (jfw T L L.toNat 0 0)))) w n9 g9) := by
      intro s' a1 a2 e
      rw [e] at hj
      have hf := jfit_r T L s' i
      refine zr_aload_n dX5_firstWrong_33 (rfl : 33 + 1 = 34) rfl ?_
      refine zr_iload_n dX5_firstWrong_34 (rfl : 34 + 1 = 35) rfl ?_
      refine zr_iload_n dX5_firstWrong_35 (rfl : 35 + 1 = 36) rfl ?_
      refine zr_fnV dX5_firstWrong_36 (rfl : 36 + 3 = 39) l_X5_26 (s_fits s' i (by first | omega | (simp only [bset, reduceIte, Nat.reduceEqDiff]; omega)) (by first | omega | (simp only [bset, reduceIte, Nat.reduceEqDiff]; omega)) hL hT hx hc) (by first | assumption | exact mw_167 | exact mw_168 | exact mw_169 | exact mw_170 | exact bk_0 | exact bk_1 | exact bk_2 | exact bk_3 | exact bk_4 | exact bk_5 | exact bk_6 | exact bk_7 | exact bk_8 | exact bk_9 | exact bk_10 | exact bk_11 | exact bk_12 | exact bk_13 | exact bk_14 | exact bk_15 | exact bk_16 | exact zup_self | exact (zup_ne (by first | assumption | omega)).trans (by first | assumption | exact zup_self) | exact (zup_ne (by first | assumption | omega)).trans ((zup_ne (by first | assumption | omega)).trans (by first | assumption | exact zup_self)) | exact (bk_out (by first | omega | (simp only [bset, reduceIte, Nat.reduceEqDiff]; omega))).trans (by first | exact bk_0 | exact bk_1 | exact bk_2 | exact bk_3 | exact bk_4 | exact bk_5 | exact bk_6 | exact bk_7 | exact bk_8 | exact bk_9 | exact bk_10 | exact bk_11 | exact bk_12 | exact bk_13 | exact bk_14 | exact bk_15 | exact bk_16 | exact cr_5 | exact cr_23 | exact cr_24 | exact cr_25 | exact cr_26 | exact cr_27 | exact cr_28 | exact cr_29 | exact cr_30 | assumption)) rfl rfl rfl (Nat.le_of_ble_eq_true rfl) ?_
      refine zr_if_ne (tgt := 44) dX5_firstWrong_39 (by decide) (rfl : 39 + 3 = 42) (by first | exact jb_iff | exact jI_z (by first | omega | (simp only [bset, reduceIte, Nat.reduceEqDiff]; omega)) (by first | omega | (simp only [bset, reduceIte, Nat.reduceEqDiff]; omega))) (fun h39 => ?_) (fun h39 => ?_)
      · rw [if_neg h39] at hj
        refine zr_iinc (lv' := [_, _, _]) dX5_firstWrong_44 (rfl : 44 + 3 = 47) (Nat.le_of_ble_eq_true rfl) rfl (by first | exact jI_add _ _ | rfl) rfl ?_
        refine zr_goto (tgt := 4) dX5_firstWrong_47 (by decide) ?_
        exact hk s' ⟨by omega, by omega, hj⟩
      · rw [if_pos (by omega)] at hj
        rw [← hj]
        refine zr_iload_n dX5_firstWrong_42 (rfl : 42 + 1 = 43) rfl ?_
        refine zr_iret dX5_firstWrong_43 rfl rfl ?_ rfl rfl rfl
        first | rfl | rw [jb_pos (by first | assumption | omega)] | rw [jb_neg (by first | assumption | omega)] | rw [if_pos (by first | assumption | omega)] | rw [if_neg (by first | assumption | omega)]
    refine zr_iload_n dX5_firstWrong_4 (rfl : 4 + 1 = 5) rfl ?_
    refine zr_aload_n dX5_firstWrong_5 (rfl : 5 + 1 = 6) rfl ?_
    refine zr_getf dX5_firstWrong_6 (rfl : 6 + 3 = 9) f_X5_15 (by first | assumption | exact mw_167 | exact mw_168 | exact mw_169 | exact mw_170 | exact bk_0 | exact bk_1 | exact bk_2 | exact bk_3 | exact bk_4 | exact bk_5 | exact bk_6 | exact bk_7 | exact bk_8 | exact bk_9 | exact bk_10 | exact bk_11 | exact bk_12 | exact bk_13 | exact bk_14 | exact bk_15 | exact bk_16 | exact zup_self | exact (zup_ne (by first | assumption | omega)).trans (by first | assumption | exact zup_self) | exact (zup_ne (by first | assumption | omega)).trans ((zup_ne (by first | assumption | omega)).trans (by first | assumption | exact zup_self)) | exact (bk_out (by first | omega | (simp only [bset, reduceIte, Nat.reduceEqDiff]; omega))).trans (by first | exact bk_0 | exact bk_1 | exact bk_2 | exact bk_3 | exact bk_4 | exact bk_5 | exact bk_6 | exact bk_7 | exact bk_8 | exact bk_9 | exact bk_10 | exact bk_11 | exact bk_12 | exact bk_13 | exact bk_14 | exact bk_15 | exact bk_16 | exact cr_5 | exact cr_23 | exact cr_24 | exact cr_25 | exact cr_26 | exact cr_27 | exact cr_28 | exact cr_29 | exact cr_30 | assumption)) rfl ?_
    refine zr_icmp_ge (tgt := 50) dX5_firstWrong_9 (by decide) (rfl : 9 + 3 = 12) (jI_le (by first | omega | (simp only [bset, reduceIte, Nat.reduceEqDiff]; omega)) (by first | omega | (simp only [bset, reduceIte, Nat.reduceEqDiff]; omega)) (by first | omega | (simp only [bset, reduceIte, Nat.reduceEqDiff]; omega)) (by first | omega | (simp only [bset, reduceIte, Nat.reduceEqDiff]; omega))) (fun h9 => ?_) (fun h9 => ?_)
    · first
      | (exfalso; omega)
      | (
        refine zr_aload_n dX5_firstWrong_50 (rfl : 50 + 1 = 51) rfl ?_
        refine zr_getf dX5_firstWrong_51 (rfl : 51 + 3 = 54) f_X5_15 (by first | assumption | exact mw_167 | exact mw_168 | exact mw_169 | exact mw_170 | exact bk_0 | exact bk_1 | exact bk_2 | exact bk_3 | exact bk_4 | exact bk_5 | exact bk_6 | exact bk_7 | exact bk_8 | exact bk_9 | exact bk_10 | exact bk_11 | exact bk_12 | exact bk_13 | exact bk_14 | exact bk_15 | exact bk_16 | exact zup_self | exact (zup_ne (by first | assumption | omega)).trans (by first | assumption | exact zup_self) | exact (zup_ne (by first | assumption | omega)).trans ((zup_ne (by first | assumption | omega)).trans (by first | assumption | exact zup_self)) | exact (bk_out (by first | omega | (simp only [bset, reduceIte, Nat.reduceEqDiff]; omega))).trans (by first | exact bk_0 | exact bk_1 | exact bk_2 | exact bk_3 | exact bk_4 | exact bk_5 | exact bk_6 | exact bk_7 | exact bk_8 | exact bk_9 | exact bk_10 | exact bk_11 | exact bk_12 | exact bk_13 | exact bk_14 | exact bk_15 | exact bk_16 | exact cr_5 | exact cr_23 | exact cr_24 | exact cr_25 | exact cr_26 | exact cr_27 | exact cr_28 | exact cr_29 | exact cr_30 | assumption)) rfl ?_
        refine zr_iret dX5_firstWrong_54 rfl rfl ?_ rfl rfl rfl
        first | rfl | rw [jb_pos (by first | assumption | omega)] | rw [jb_neg (by first | assumption | omega)] | rw [if_pos (by first | assumption | omega)] | rw [if_neg (by first | assumption | omega)])
    · first
      | (exfalso; omega)
      | (
        refine zr_iload_n dX5_firstWrong_12 (rfl : 12 + 1 = 13) rfl ?_
        refine zr_iload_n dX5_firstWrong_13 (rfl : 13 + 1 = 14) rfl ?_
        refine zr_icmp_le (tgt := 33) dX5_firstWrong_14 (by decide) (rfl : 14 + 3 = 17) (jI_le (by first | omega | (simp only [bset, reduceIte, Nat.reduceEqDiff]; omega)) (by first | omega | (simp only [bset, reduceIte, Nat.reduceEqDiff]; omega)) (by first | omega | (simp only [bset, reduceIte, Nat.reduceEqDiff]; omega)) (by first | omega | (simp only [bset, reduceIte, Nat.reduceEqDiff]; omega))) (fun h14 => ?_) (fun h14 => ?_)
        · first
          | (exfalso; omega)
          | (
            refine fin _ (by omega) (by omega) ?_
            unfold jnx
            first | rw [if_pos (by omega)] | rw [if_neg (by omega)])
        · first
          | (exfalso; omega)
          | (
            refine zr_iload_n dX5_firstWrong_17 (rfl : 17 + 1 = 18) rfl ?_
            refine zr_iload_n dX5_firstWrong_18 (rfl : 18 + 1 = 19) rfl ?_
            refine zr_isub dX5_firstWrong_19 (rfl : 19 + 1 = 20) (by first | exact jI_sub _ _ | rfl) ?_
            refine zr_aload_n dX5_firstWrong_20 (rfl : 20 + 1 = 21) rfl ?_
            refine zr_iload_n dX5_firstWrong_21 (rfl : 21 + 1 = 22) rfl ?_
            refine zr_fnV dX5_firstWrong_22 (rfl : 22 + 3 = 25) l_X5_19 (s_codeAt s (by first | omega | (simp only [bset, reduceIte, Nat.reduceEqDiff]; omega)) hL hx hc) (by first | assumption | exact mw_167 | exact mw_168 | exact mw_169 | exact mw_170 | exact bk_0 | exact bk_1 | exact bk_2 | exact bk_3 | exact bk_4 | exact bk_5 | exact bk_6 | exact bk_7 | exact bk_8 | exact bk_9 | exact bk_10 | exact bk_11 | exact bk_12 | exact bk_13 | exact bk_14 | exact bk_15 | exact bk_16 | exact zup_self | exact (zup_ne (by first | assumption | omega)).trans (by first | assumption | exact zup_self) | exact (zup_ne (by first | assumption | omega)).trans ((zup_ne (by first | assumption | omega)).trans (by first | assumption | exact zup_self)) | exact (bk_out (by first | omega | (simp only [bset, reduceIte, Nat.reduceEqDiff]; omega))).trans (by first | exact bk_0 | exact bk_1 | exact bk_2 | exact bk_3 | exact bk_4 | exact bk_5 | exact bk_6 | exact bk_7 | exact bk_8 | exact bk_9 | exact bk_10 | exact bk_11 | exact bk_12 | exact bk_13 | exact bk_14 | exact bk_15 | exact bk_16 | exact cr_5 | exact cr_23 | exact cr_24 | exact cr_25 | exact cr_26 | exact cr_27 | exact cr_28 | exact cr_29 | exact cr_30 | assumption)) rfl rfl rfl (Nat.le_of_ble_eq_true rfl) ?_
            refine zr_fnS dX5_firstWrong_25 (rfl : 25 + 3 = 28) l_X5_23 (s_orderLength (jca T L s) (by first | omega | (simp only [bset, reduceIte, Nat.reduceEqDiff]; omega))) rfl rfl (Nat.le_of_ble_eq_true rfl) ?_
            refine zr_icmp_ne (tgt := 33) dX5_firstWrong_28 (by decide) (rfl : 28 + 3 = 31) (jI_eq (by first | omega | (simp only [bset, reduceIte, Nat.reduceEqDiff]; omega)) (by first | omega | (simp only [bset, reduceIte, Nat.reduceEqDiff]; omega)) (by first | omega | (simp only [bset, reduceIte, Nat.reduceEqDiff]; omega)) (by first | omega | (simp only [bset, reduceIte, Nat.reduceEqDiff]; omega))) (fun h28 => ?_) (fun h28 => ?_)
            · first
              | (exfalso; omega)
              | (
                refine fin _ (by omega) (by omega) ?_
                unfold jnx
                first | rw [if_pos (by omega)] | rw [if_neg (by omega)])
            · first
              | (exfalso; omega)
              | (
                refine zr_iload_n dX5_firstWrong_31 (rfl : 31 + 1 = 32) rfl ?_
                refine zr_istore_n (lv' := [_, _, _]) dX5_firstWrong_32 (rfl : 32 + 1 = 33) (Nat.le_of_ble_eq_true rfl) rfl ?_
                refine fin _ (by omega) (by omega) ?_
                unfold jnx
                first | rw [if_pos (by omega)] | rw [if_neg (by omega)])))
  · intro s hI
    rw [show ((0 : Int) + (L.toNat : Int)) = L by omega] at hI ⊢
    rw [← hI.2.2, show (L - L).toNat = 0 by omega]
    refine zr_iload_n dX5_firstWrong_4 (rfl : 4 + 1 = 5) rfl ?_
    refine zr_aload_n dX5_firstWrong_5 (rfl : 5 + 1 = 6) rfl ?_
    refine zr_getf dX5_firstWrong_6 (rfl : 6 + 3 = 9) f_X5_15 (by first | assumption | exact mw_167 | exact mw_168 | exact mw_169 | exact mw_170 | exact bk_0 | exact bk_1 | exact bk_2 | exact bk_3 | exact bk_4 | exact bk_5 | exact bk_6 | exact bk_7 | exact bk_8 | exact bk_9 | exact bk_10 | exact bk_11 | exact bk_12 | exact bk_13 | exact bk_14 | exact bk_15 | exact bk_16 | exact zup_self | exact (zup_ne (by first | assumption | omega)).trans (by first | assumption | exact zup_self) | exact (zup_ne (by first | assumption | omega)).trans ((zup_ne (by first | assumption | omega)).trans (by first | assumption | exact zup_self)) | exact (bk_out (by first | omega | (simp only [bset, reduceIte, Nat.reduceEqDiff]; omega))).trans (by first | exact bk_0 | exact bk_1 | exact bk_2 | exact bk_3 | exact bk_4 | exact bk_5 | exact bk_6 | exact bk_7 | exact bk_8 | exact bk_9 | exact bk_10 | exact bk_11 | exact bk_12 | exact bk_13 | exact bk_14 | exact bk_15 | exact bk_16 | exact cr_5 | exact cr_23 | exact cr_24 | exact cr_25 | exact cr_26 | exact cr_27 | exact cr_28 | exact cr_29 | exact cr_30 | assumption)) rfl ?_
    refine zr_icmp_ge (tgt := 50) dX5_firstWrong_9 (by decide) (rfl : 9 + 3 = 12) (jI_le (by first | omega | (simp only [bset, reduceIte, Nat.reduceEqDiff]; omega)) (by first | omega | (simp only [bset, reduceIte, Nat.reduceEqDiff]; omega)) (by first | omega | (simp only [bset, reduceIte, Nat.reduceEqDiff]; omega)) (by first | omega | (simp only [bset, reduceIte, Nat.reduceEqDiff]; omega))) (fun h9 => ?_) (fun h9 => ?_)
    · first
      | (exfalso; omega)
      | (
        refine zr_aload_n dX5_firstWrong_50 (rfl : 50 + 1 = 51) rfl ?_
        refine zr_getf dX5_firstWrong_51 (rfl : 51 + 3 = 54) f_X5_15 (by first | assumption | exact mw_167 | exact mw_168 | exact mw_169 | exact mw_170 | exact bk_0 | exact bk_1 | exact bk_2 | exact bk_3 | exact bk_4 | exact bk_5 | exact bk_6 | exact bk_7 | exact bk_8 | exact bk_9 | exact bk_10 | exact bk_11 | exact bk_12 | exact bk_13 | exact bk_14 | exact bk_15 | exact bk_16 | exact zup_self | exact (zup_ne (by first | assumption | omega)).trans (by first | assumption | exact zup_self) | exact (zup_ne (by first | assumption | omega)).trans ((zup_ne (by first | assumption | omega)).trans (by first | assumption | exact zup_self)) | exact (bk_out (by first | omega | (simp only [bset, reduceIte, Nat.reduceEqDiff]; omega))).trans (by first | exact bk_0 | exact bk_1 | exact bk_2 | exact bk_3 | exact bk_4 | exact bk_5 | exact bk_6 | exact bk_7 | exact bk_8 | exact bk_9 | exact bk_10 | exact bk_11 | exact bk_12 | exact bk_13 | exact bk_14 | exact bk_15 | exact bk_16 | exact cr_5 | exact cr_23 | exact cr_24 | exact cr_25 | exact cr_26 | exact cr_27 | exact cr_28 | exact cr_29 | exact cr_30 | assumption)) rfl ?_
        refine zr_iret dX5_firstWrong_54 rfl rfl ?_ rfl rfl rfl
        first | rfl | rw [jb_pos (by first | assumption | omega)] | rw [jb_neg (by first | assumption | omega)] | rw [if_pos (by first | assumption | omega)] | rw [if_neg (by first | assumption | omega)])
    · first
      | (exfalso; omega)
      | (
        refine zr_iload_n dX5_firstWrong_12 (rfl : 12 + 1 = 13) rfl ?_
        refine zr_iload_n dX5_firstWrong_13 (rfl : 13 + 1 = 14) rfl ?_
        refine zr_icmp_le (tgt := 33) dX5_firstWrong_14 (by decide) (rfl : 14 + 3 = 17) (jI_le (by first | omega | (simp only [bset, reduceIte, Nat.reduceEqDiff]; omega)) (by first | omega | (simp only [bset, reduceIte, Nat.reduceEqDiff]; omega)) (by first | omega | (simp only [bset, reduceIte, Nat.reduceEqDiff]; omega)) (by first | omega | (simp only [bset, reduceIte, Nat.reduceEqDiff]; omega))) (fun h14 => ?_) (fun h14 => ?_)
        · first
          | (exfalso; omega)
          | (
            refine zr_aload_n dX5_firstWrong_33 (rfl : 33 + 1 = 34) rfl ?_
            refine zr_iload_n dX5_firstWrong_34 (rfl : 34 + 1 = 35) rfl ?_
            refine zr_iload_n dX5_firstWrong_35 (rfl : 35 + 1 = 36) rfl ?_
            exfalso; omega)
        · first
          | (exfalso; omega)
          | (
            refine zr_iload_n dX5_firstWrong_17 (rfl : 17 + 1 = 18) rfl ?_
            refine zr_iload_n dX5_firstWrong_18 (rfl : 18 + 1 = 19) rfl ?_
            refine zr_isub dX5_firstWrong_19 (rfl : 19 + 1 = 20) (by first | exact jI_sub _ _ | rfl) ?_
            refine zr_aload_n dX5_firstWrong_20 (rfl : 20 + 1 = 21) rfl ?_
            refine zr_iload_n dX5_firstWrong_21 (rfl : 21 + 1 = 22) rfl ?_
            exfalso; omega))
def jtev (T : Int → Int) (L : Int) : Int := jb (0 < L ∧ jad T L 60 = L ∧ jfw T L L.toNat 0 0 = L)
theorem s_tellsEvening (hL : 0 ≤ L ∧ L ≤ 60) (hT : ∀ z, 0 ≤ T z ∧ T z ≤ 126) (hx : w tx = some (.inr (5, [.ref ct, .int (jI L)]))) (hc : w ct = some (zia 60 T)) : zFn Γ md_X5_tellsEvening (d + 4) [.ref tx] w (some (.int (jI (jtev T L)))) w := by
  refine zFn.of_run (lv := [some (.ref tx), none, none]) (by decide) rfl (Nat.le_of_ble_eq_true rfl) rfl (fun n9 g9 => ?_)
  have fin : ∀ x i : Int, x = jad T L 60 → zRun Γ md_X5_tellsEvening (d + 4) none 35 [some (.ref tx), some (.int (jI x)), some (.int (jI i))] [] (n9, g9, 0, 0) w (zDone md_X5_tellsEvening (some (.int (jI (jtev T L)))) w n9 g9) := by
    intro x i hx'
    have h1 := jad_r (T := T) hL 60
    have h2 := jfw_r (T := T) (L := L) L.toNat 0 0 (by omega) (by omega) hL.1
    rw [← hx'] at h1
    unfold jtev
    rw [← hx']
    refine zr_aload_n dX5_tellsEvening_35 (rfl : 35 + 1 = 36) rfl ?_
    refine zr_getf dX5_tellsEvening_36 (rfl : 36 + 3 = 39) f_X5_15 (by first | assumption | exact mw_167 | exact mw_168 | exact mw_169 | exact mw_170 | exact bk_0 | exact bk_1 | exact bk_2 | exact bk_3 | exact bk_4 | exact bk_5 | exact bk_6 | exact bk_7 | exact bk_8 | exact bk_9 | exact bk_10 | exact bk_11 | exact bk_12 | exact bk_13 | exact bk_14 | exact bk_15 | exact bk_16 | exact zup_self | exact (zup_ne (by first | assumption | omega)).trans (by first | assumption | exact zup_self) | exact (zup_ne (by first | assumption | omega)).trans ((zup_ne (by first | assumption | omega)).trans (by first | assumption | exact zup_self)) | exact (bk_out (by first | omega | (simp only [bset, reduceIte, Nat.reduceEqDiff]; omega))).trans (by first | exact bk_0 | exact bk_1 | exact bk_2 | exact bk_3 | exact bk_4 | exact bk_5 | exact bk_6 | exact bk_7 | exact bk_8 | exact bk_9 | exact bk_10 | exact bk_11 | exact bk_12 | exact bk_13 | exact bk_14 | exact bk_15 | exact bk_16 | exact cr_5 | exact cr_23 | exact cr_24 | exact cr_25 | exact cr_26 | exact cr_27 | exact cr_28 | exact cr_29 | exact cr_30 | assumption)) rfl ?_
    refine zr_if_le (tgt := 65) dX5_tellsEvening_39 (by decide) (rfl : 39 + 3 = 42) (jI_lez (by first | omega | (simp only [bset, reduceIte, Nat.reduceEqDiff]; omega)) (by first | omega | (simp only [bset, reduceIte, Nat.reduceEqDiff]; omega))) (fun h39 => ?_) (fun h39 => ?_)
    · first
      | (exfalso; omega)
      | (
        refine zr_iconst dX5_tellsEvening_65 (rfl : 65 + 1 = 66) ?_
        refine zr_iret dX5_tellsEvening_66 rfl (by first | exact jb_nar | rfl) ?_ rfl rfl rfl
        first | rfl | rw [jb_pos (by first | assumption | omega)] | rw [jb_neg (by first | assumption | omega)] | rw [if_pos (by first | assumption | omega)] | rw [if_neg (by first | assumption | omega)])
    · first
      | (exfalso; omega)
      | (
        refine zr_iload_n dX5_tellsEvening_42 (rfl : 42 + 1 = 43) rfl ?_
        refine zr_aload_n dX5_tellsEvening_43 (rfl : 43 + 1 = 44) rfl ?_
        refine zr_getf dX5_tellsEvening_44 (rfl : 44 + 3 = 47) f_X5_15 (by first | assumption | exact mw_167 | exact mw_168 | exact mw_169 | exact mw_170 | exact bk_0 | exact bk_1 | exact bk_2 | exact bk_3 | exact bk_4 | exact bk_5 | exact bk_6 | exact bk_7 | exact bk_8 | exact bk_9 | exact bk_10 | exact bk_11 | exact bk_12 | exact bk_13 | exact bk_14 | exact bk_15 | exact bk_16 | exact zup_self | exact (zup_ne (by first | assumption | omega)).trans (by first | assumption | exact zup_self) | exact (zup_ne (by first | assumption | omega)).trans ((zup_ne (by first | assumption | omega)).trans (by first | assumption | exact zup_self)) | exact (bk_out (by first | omega | (simp only [bset, reduceIte, Nat.reduceEqDiff]; omega))).trans (by first | exact bk_0 | exact bk_1 | exact bk_2 | exact bk_3 | exact bk_4 | exact bk_5 | exact bk_6 | exact bk_7 | exact bk_8 | exact bk_9 | exact bk_10 | exact bk_11 | exact bk_12 | exact bk_13 | exact bk_14 | exact bk_15 | exact bk_16 | exact cr_5 | exact cr_23 | exact cr_24 | exact cr_25 | exact cr_26 | exact cr_27 | exact cr_28 | exact cr_29 | exact cr_30 | assumption)) rfl ?_
        refine zr_icmp_ne (tgt := 65) dX5_tellsEvening_47 (by decide) (rfl : 47 + 3 = 50) (jI_eq (by first | omega | (simp only [bset, reduceIte, Nat.reduceEqDiff]; omega)) (by first | omega | (simp only [bset, reduceIte, Nat.reduceEqDiff]; omega)) (by first | omega | (simp only [bset, reduceIte, Nat.reduceEqDiff]; omega)) (by first | omega | (simp only [bset, reduceIte, Nat.reduceEqDiff]; omega))) (fun h47 => ?_) (fun h47 => ?_)
        · first
          | (exfalso; omega)
          | (
            refine zr_iconst dX5_tellsEvening_65 (rfl : 65 + 1 = 66) ?_
            refine zr_iret dX5_tellsEvening_66 rfl (by first | exact jb_nar | rfl) ?_ rfl rfl rfl
            first | rfl | rw [jb_pos (by first | assumption | omega)] | rw [jb_neg (by first | assumption | omega)] | rw [if_pos (by first | assumption | omega)] | rw [if_neg (by first | assumption | omega)])
        · first
          | (exfalso; omega)
          | (
            refine zr_aload_n dX5_tellsEvening_50 (rfl : 50 + 1 = 51) rfl ?_
            refine zr_fnV dX5_tellsEvening_51 (rfl : 51 + 3 = 54) l_X5_30 (s_firstWrong hL hT hx hc) (by first | assumption | exact mw_167 | exact mw_168 | exact mw_169 | exact mw_170 | exact bk_0 | exact bk_1 | exact bk_2 | exact bk_3 | exact bk_4 | exact bk_5 | exact bk_6 | exact bk_7 | exact bk_8 | exact bk_9 | exact bk_10 | exact bk_11 | exact bk_12 | exact bk_13 | exact bk_14 | exact bk_15 | exact bk_16 | exact zup_self | exact (zup_ne (by first | assumption | omega)).trans (by first | assumption | exact zup_self) | exact (zup_ne (by first | assumption | omega)).trans ((zup_ne (by first | assumption | omega)).trans (by first | assumption | exact zup_self)) | exact (bk_out (by first | omega | (simp only [bset, reduceIte, Nat.reduceEqDiff]; omega))).trans (by first | exact bk_0 | exact bk_1 | exact bk_2 | exact bk_3 | exact bk_4 | exact bk_5 | exact bk_6 | exact bk_7 | exact bk_8 | exact bk_9 | exact bk_10 | exact bk_11 | exact bk_12 | exact bk_13 | exact bk_14 | exact bk_15 | exact bk_16 | exact cr_5 | exact cr_23 | exact cr_24 | exact cr_25 | exact cr_26 | exact cr_27 | exact cr_28 | exact cr_29 | exact cr_30 | assumption)) rfl rfl rfl (Nat.le_of_ble_eq_true rfl) ?_
            refine zr_aload_n dX5_tellsEvening_54 (rfl : 54 + 1 = 55) rfl ?_
            refine zr_getf dX5_tellsEvening_55 (rfl : 55 + 3 = 58) f_X5_15 (by first | assumption | exact mw_167 | exact mw_168 | exact mw_169 | exact mw_170 | exact bk_0 | exact bk_1 | exact bk_2 | exact bk_3 | exact bk_4 | exact bk_5 | exact bk_6 | exact bk_7 | exact bk_8 | exact bk_9 | exact bk_10 | exact bk_11 | exact bk_12 | exact bk_13 | exact bk_14 | exact bk_15 | exact bk_16 | exact zup_self | exact (zup_ne (by first | assumption | omega)).trans (by first | assumption | exact zup_self) | exact (zup_ne (by first | assumption | omega)).trans ((zup_ne (by first | assumption | omega)).trans (by first | assumption | exact zup_self)) | exact (bk_out (by first | omega | (simp only [bset, reduceIte, Nat.reduceEqDiff]; omega))).trans (by first | exact bk_0 | exact bk_1 | exact bk_2 | exact bk_3 | exact bk_4 | exact bk_5 | exact bk_6 | exact bk_7 | exact bk_8 | exact bk_9 | exact bk_10 | exact bk_11 | exact bk_12 | exact bk_13 | exact bk_14 | exact bk_15 | exact bk_16 | exact cr_5 | exact cr_23 | exact cr_24 | exact cr_25 | exact cr_26 | exact cr_27 | exact cr_28 | exact cr_29 | exact cr_30 | assumption)) rfl ?_
            refine zr_icmp_ne (tgt := 65) dX5_tellsEvening_58 (by decide) (rfl : 58 + 3 = 61) (jI_eq (by first | omega | (simp only [bset, reduceIte, Nat.reduceEqDiff]; omega)) (by first | omega | (simp only [bset, reduceIte, Nat.reduceEqDiff]; omega)) (by first | omega | (simp only [bset, reduceIte, Nat.reduceEqDiff]; omega)) (by first | omega | (simp only [bset, reduceIte, Nat.reduceEqDiff]; omega))) (fun h58 => ?_) (fun h58 => ?_)
            · first
              | (exfalso; omega)
              | (
                refine zr_iconst dX5_tellsEvening_65 (rfl : 65 + 1 = 66) ?_
                refine zr_iret dX5_tellsEvening_66 rfl (by first | exact jb_nar | rfl) ?_ rfl rfl rfl
                first | rfl | rw [jb_pos (by first | assumption | omega)] | rw [jb_neg (by first | assumption | omega)] | rw [if_pos (by first | assumption | omega)] | rw [if_neg (by first | assumption | omega)])
            · first
              | (exfalso; omega)
              | (
                refine zr_iconst dX5_tellsEvening_61 (rfl : 61 + 1 = 62) ?_
                refine zr_goto (tgt := 66) dX5_tellsEvening_62 (by decide) ?_
                refine zr_iret dX5_tellsEvening_66 rfl (by first | exact jb_nar | rfl) ?_ rfl rfl rfl
                first | rfl | rw [jb_pos (by first | assumption | omega)] | rw [jb_neg (by first | assumption | omega)] | rw [if_pos (by first | assumption | omega)] | rw [if_neg (by first | assumption | omega)])))
  refine zr_iconst dX5_tellsEvening_0 (rfl : 0 + 1 = 1) ?_
  refine zr_istore_n (lv' := [_, _, _]) dX5_tellsEvening_1 (rfl : 1 + 1 = 2) (Nat.le_of_ble_eq_true rfl) rfl ?_
  refine zr_iconst dX5_tellsEvening_2 (rfl : 2 + 1 = 3) ?_
  refine zr_istore_n (lv' := [_, _, _]) dX5_tellsEvening_3 (rfl : 3 + 1 = 4) (Nat.le_of_ble_eq_true rfl) rfl ?_
  refine zfor1 0 60 (fun i s => s = jad T L i.toNat) (fun i s => [some (.ref tx), some (.int (jI s)), some (.int (jI i))]) (fun _ _ => w) 0 rfl ?_ ?_
  · intro i s h0 h1 hI hk
    have hr := jad_r (T := T) hL i.toNat
    rw [← hI] at hr
    have hn : jad T L (i + 1).toNat = if s < L then s + jol (jca T L s) else s := by
      rw [show (i + 1).toNat = i.toNat + 1 by omega, hI]
      rfl
    have h4 := jol_r (jca T L s)
    have h5 := jca_r (L := L) hT s
    refine zr_iload_n dX5_tellsEvening_4 (rfl : 4 + 1 = 5) rfl ?_
    refine zr_bipush dX5_tellsEvening_5 (rfl : 5 + 2 = 7) (by decide) ?_
    refine zr_icmp_ge (tgt := 35) dX5_tellsEvening_7 (by decide) (rfl : 7 + 3 = 10) (jI_le (by first | omega | (simp only [bset, reduceIte, Nat.reduceEqDiff]; omega)) (by first | omega | (simp only [bset, reduceIte, Nat.reduceEqDiff]; omega)) (by first | omega | (simp only [bset, reduceIte, Nat.reduceEqDiff]; omega)) (by first | omega | (simp only [bset, reduceIte, Nat.reduceEqDiff]; omega))) (fun h7 => ?_) (fun h7 => ?_)
    · first
      | (exfalso; omega)
      | (
        refine fin _ _ ?_
        have hst := jad_stuck (T := T) (L := L) (n := i.toNat) (by omega) (60 - i.toNat)
        rw [show i.toNat + (60 - i.toNat) = 60 by omega] at hst
        rw [hst, hI])
    · first
      | (exfalso; omega)
      | (
        refine zr_iload_n dX5_tellsEvening_10 (rfl : 10 + 1 = 11) rfl ?_
        refine zr_aload_n dX5_tellsEvening_11 (rfl : 11 + 1 = 12) rfl ?_
        refine zr_getf dX5_tellsEvening_12 (rfl : 12 + 3 = 15) f_X5_15 (by first | assumption | exact mw_167 | exact mw_168 | exact mw_169 | exact mw_170 | exact bk_0 | exact bk_1 | exact bk_2 | exact bk_3 | exact bk_4 | exact bk_5 | exact bk_6 | exact bk_7 | exact bk_8 | exact bk_9 | exact bk_10 | exact bk_11 | exact bk_12 | exact bk_13 | exact bk_14 | exact bk_15 | exact bk_16 | exact zup_self | exact (zup_ne (by first | assumption | omega)).trans (by first | assumption | exact zup_self) | exact (zup_ne (by first | assumption | omega)).trans ((zup_ne (by first | assumption | omega)).trans (by first | assumption | exact zup_self)) | exact (bk_out (by first | omega | (simp only [bset, reduceIte, Nat.reduceEqDiff]; omega))).trans (by first | exact bk_0 | exact bk_1 | exact bk_2 | exact bk_3 | exact bk_4 | exact bk_5 | exact bk_6 | exact bk_7 | exact bk_8 | exact bk_9 | exact bk_10 | exact bk_11 | exact bk_12 | exact bk_13 | exact bk_14 | exact bk_15 | exact bk_16 | exact cr_5 | exact cr_23 | exact cr_24 | exact cr_25 | exact cr_26 | exact cr_27 | exact cr_28 | exact cr_29 | exact cr_30 | assumption)) rfl ?_
        refine zr_icmp_ge (tgt := 35) dX5_tellsEvening_15 (by decide) (rfl : 15 + 3 = 18) (jI_le (by first | omega | (simp only [bset, reduceIte, Nat.reduceEqDiff]; omega)) (by first | omega | (simp only [bset, reduceIte, Nat.reduceEqDiff]; omega)) (by first | omega | (simp only [bset, reduceIte, Nat.reduceEqDiff]; omega)) (by first | omega | (simp only [bset, reduceIte, Nat.reduceEqDiff]; omega))) (fun h15 => ?_) (fun h15 => ?_)
        · first
          | (exfalso; omega)
          | (
            refine fin _ _ ?_
            have hst := jad_stuck (T := T) (L := L) (n := i.toNat) (by omega) (60 - i.toNat)
            rw [show i.toNat + (60 - i.toNat) = 60 by omega] at hst
            rw [hst, hI])
        · first
          | (exfalso; omega)
          | (
            refine zr_iload_n dX5_tellsEvening_18 (rfl : 18 + 1 = 19) rfl ?_
            refine zr_aload_n dX5_tellsEvening_19 (rfl : 19 + 1 = 20) rfl ?_
            refine zr_iload_n dX5_tellsEvening_20 (rfl : 20 + 1 = 21) rfl ?_
            refine zr_fnV dX5_tellsEvening_21 (rfl : 21 + 3 = 24) l_X5_19 (s_codeAt s (by first | omega | (simp only [bset, reduceIte, Nat.reduceEqDiff]; omega)) hL hx hc) (by first | assumption | exact mw_167 | exact mw_168 | exact mw_169 | exact mw_170 | exact bk_0 | exact bk_1 | exact bk_2 | exact bk_3 | exact bk_4 | exact bk_5 | exact bk_6 | exact bk_7 | exact bk_8 | exact bk_9 | exact bk_10 | exact bk_11 | exact bk_12 | exact bk_13 | exact bk_14 | exact bk_15 | exact bk_16 | exact zup_self | exact (zup_ne (by first | assumption | omega)).trans (by first | assumption | exact zup_self) | exact (zup_ne (by first | assumption | omega)).trans ((zup_ne (by first | assumption | omega)).trans (by first | assumption | exact zup_self)) | exact (bk_out (by first | omega | (simp only [bset, reduceIte, Nat.reduceEqDiff]; omega))).trans (by first | exact bk_0 | exact bk_1 | exact bk_2 | exact bk_3 | exact bk_4 | exact bk_5 | exact bk_6 | exact bk_7 | exact bk_8 | exact bk_9 | exact bk_10 | exact bk_11 | exact bk_12 | exact bk_13 | exact bk_14 | exact bk_15 | exact bk_16 | exact cr_5 | exact cr_23 | exact cr_24 | exact cr_25 | exact cr_26 | exact cr_27 | exact cr_28 | exact cr_29 | exact cr_30 | assumption)) rfl rfl rfl (Nat.le_of_ble_eq_true rfl) ?_
            refine zr_fnS dX5_tellsEvening_24 (rfl : 24 + 3 = 27) l_X5_23 (s_orderLength (jca T L s) (by first | omega | (simp only [bset, reduceIte, Nat.reduceEqDiff]; omega))) rfl rfl (Nat.le_of_ble_eq_true rfl) ?_
            refine zr_iadd dX5_tellsEvening_27 (rfl : 27 + 1 = 28) (by first | exact jI_add _ _ | rfl) ?_
            refine zr_istore_n (lv' := [_, _, _]) dX5_tellsEvening_28 (rfl : 28 + 1 = 29) (Nat.le_of_ble_eq_true rfl) rfl ?_
            refine zr_iinc (lv' := [_, _, _]) dX5_tellsEvening_29 (rfl : 29 + 3 = 32) (Nat.le_of_ble_eq_true rfl) rfl (by first | exact jI_add _ _ | rfl) rfl ?_
            refine zr_goto (tgt := 4) dX5_tellsEvening_32 (by decide) ?_
            refine hk _ ?_
            rw [hn, if_pos (by omega)]))
  · intro s hI
    have hr := jad_r (T := T) hL 60
    rw [← show s = jad T L 60 from hI] at hr
    refine zr_iload_n dX5_tellsEvening_4 (rfl : 4 + 1 = 5) rfl ?_
    refine zr_bipush dX5_tellsEvening_5 (rfl : 5 + 2 = 7) (by decide) ?_
    refine zr_icmp_ge (tgt := 35) dX5_tellsEvening_7 (by decide) (rfl : 7 + 3 = 10) (jI_le (by first | omega | (simp only [bset, reduceIte, Nat.reduceEqDiff]; omega)) (by first | omega | (simp only [bset, reduceIte, Nat.reduceEqDiff]; omega)) (by first | omega | (simp only [bset, reduceIte, Nat.reduceEqDiff]; omega)) (by first | omega | (simp only [bset, reduceIte, Nat.reduceEqDiff]; omega))) (fun h7 => ?_) (fun h7 => ?_)
    · first
      | (exfalso; omega)
      | (
        exact fin _ _ hI)
    · first
      | (exfalso; omega)
      | (
        refine zr_iload_n dX5_tellsEvening_10 (rfl : 10 + 1 = 11) rfl ?_
        refine zr_aload_n dX5_tellsEvening_11 (rfl : 11 + 1 = 12) rfl ?_
        refine zr_getf dX5_tellsEvening_12 (rfl : 12 + 3 = 15) f_X5_15 (by first | assumption | exact mw_167 | exact mw_168 | exact mw_169 | exact mw_170 | exact bk_0 | exact bk_1 | exact bk_2 | exact bk_3 | exact bk_4 | exact bk_5 | exact bk_6 | exact bk_7 | exact bk_8 | exact bk_9 | exact bk_10 | exact bk_11 | exact bk_12 | exact bk_13 | exact bk_14 | exact bk_15 | exact bk_16 | exact zup_self | exact (zup_ne (by first | assumption | omega)).trans (by first | assumption | exact zup_self) | exact (zup_ne (by first | assumption | omega)).trans ((zup_ne (by first | assumption | omega)).trans (by first | assumption | exact zup_self)) | exact (bk_out (by first | omega | (simp only [bset, reduceIte, Nat.reduceEqDiff]; omega))).trans (by first | exact bk_0 | exact bk_1 | exact bk_2 | exact bk_3 | exact bk_4 | exact bk_5 | exact bk_6 | exact bk_7 | exact bk_8 | exact bk_9 | exact bk_10 | exact bk_11 | exact bk_12 | exact bk_13 | exact bk_14 | exact bk_15 | exact bk_16 | exact cr_5 | exact cr_23 | exact cr_24 | exact cr_25 | exact cr_26 | exact cr_27 | exact cr_28 | exact cr_29 | exact cr_30 | assumption)) rfl ?_
        refine zr_icmp_ge (tgt := 35) dX5_tellsEvening_15 (by decide) (rfl : 15 + 3 = 18) (jI_le (by first | omega | (simp only [bset, reduceIte, Nat.reduceEqDiff]; omega)) (by first | omega | (simp only [bset, reduceIte, Nat.reduceEqDiff]; omega)) (by first | omega | (simp only [bset, reduceIte, Nat.reduceEqDiff]; omega)) (by first | omega | (simp only [bset, reduceIte, Nat.reduceEqDiff]; omega))) (fun h15 => ?_) (fun h15 => ?_)
        · first
          | (exfalso; omega)
          | (
            exact fin _ _ hI)
        · first
          | (exfalso; omega)
          | (
            refine zr_iload_n dX5_tellsEvening_18 (rfl : 18 + 1 = 19) rfl ?_
            refine zr_aload_n dX5_tellsEvening_19 (rfl : 19 + 1 = 20) rfl ?_
            refine zr_iload_n dX5_tellsEvening_20 (rfl : 20 + 1 = 21) rfl ?_
            exfalso; omega))
end TX

