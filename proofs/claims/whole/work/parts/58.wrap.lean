/-! the law's wrappers -/
theorem lc_in : vp_in (jI 0) 1 := jI_in (by decide) (by decide) (by decide)
section WP
variable {Γ : zΓ} {d : Nat} {v : Int32} {w w2 : zW} {f : Nat → Int64} {fs : List Value}
theorem lo_put {c r n : Int32} (h5 : w 5 = some (.inr (6, fs))) (ho : w2 171 = some (zla f)) (hx : zFn Γ md_X6_put (d + 7) [.ref 5, .int c, .int r, .int n] w (some (.int v)) w2) (n9 : Nat) (g9 : Bool) : zTrH Γ md_L_put (d + 8) 1 6 [.ref 5, .int c, .int r, .int n, .ref 171] n9 g9 w (fun r n' g' w' => r = some (.int (jI 0)) ∧ n' = n9 ∧ g' = g9 ∧ w' = zup w2 171 (zla (vp_updL f (jI 0).toNatClampNeg v.toInt64))) zNo := by
  refine zTrH.of_run (lv := [some (.ref 5), some (.int c), some (.int r), some (.int n), some (.ref 171), none]) (by decide) (Nat.le_of_ble_eq_true rfl) rfl ?_
  refine zr_aload dL_put_0 (rfl : 0 + 2 = 2) rfl ?_
  refine zr_iconst dL_put_2 (rfl : 2 + 1 = 3) ?_
  refine zr_aload_n dL_put_3 (rfl : 3 + 1 = 4) rfl ?_
  refine zr_iload_n dL_put_4 (rfl : 4 + 1 = 5) rfl ?_
  refine zr_iload_n dL_put_5 (rfl : 5 + 1 = 6) rfl ?_
  refine zr_iload_n dL_put_6 (rfl : 6 + 1 = 7) rfl ?_
  refine zr_fnV dL_put_7 (rfl : 7 + 3 = 10) l_L_7 hx h5 rfl rfl rfl (Nat.le_of_ble_eq_true rfl) ?_
  refine zr_i2l dL_put_10 (rfl : 10 + 1 = 11) ?_
  refine zr_lastR dL_put_11 (rfl : 11 + 1 = 12) ho lc_in ?_
  refine zr_goto (tgt := 23) dL_put_12 (by decide) ?_
  refine zr_iconst dL_put_23 (rfl : 23 + 1 = 24) ?_
  exact zr_iretH dL_put_24 rfl ⟨rfl, rfl, rfl, rfl⟩
theorem lt_put1 {c r n : Int32} (h5 : w 5 = some (.inr (6, fs))) (hx : zThr Γ md_X6_put (d + 7) [.ref 5, .int c, .int r, .int n] w zIOB) (n9 : Nat) (g9 : Bool) : zTrH Γ md_L_put (d + 8) 1 6 [.ref 5, .int c, .int r, .int n, .ref 171] n9 g9 w (fun r n' g' w' => r = some (.int (jI 1)) ∧ n' = n9 ∧ g' = false ∧ w' = w) zNo := by
  refine zTrH.of_run (lv := [some (.ref 5), some (.int c), some (.int r), some (.int n), some (.ref 171), none]) (by decide) (Nat.le_of_ble_eq_true rfl) rfl ?_
  refine zr_aload dL_put_0 (rfl : 0 + 2 = 2) rfl ?_
  refine zr_iconst dL_put_2 (rfl : 2 + 1 = 3) ?_
  refine zr_aload_n dL_put_3 (rfl : 3 + 1 = 4) rfl ?_
  refine zr_iload_n dL_put_4 (rfl : 4 + 1 = 5) rfl ?_
  refine zr_iload_n dL_put_5 (rfl : 5 + 1 = 6) rfl ?_
  refine zr_iload_n dL_put_6 (rfl : 6 + 1 = 7) rfl ?_
  refine zr_thV dL_put_7 l_L_7 hx h5 rfl rfl rfl (Nat.le_of_ble_eq_true rfl) (Nat.le_of_ble_eq_true rfl) (Nat.le_of_ble_eq_true rfl) ?_
  refine zr_catch (i := 5) (len := 2) [] (0, 12, 15, 13) [(0, 12, 19, 15)] rfl (fun z hz => nomatch hz) (by decide) (by decide) k_L_13 cst_IOB rfl (Or.inl ⟨dL_put_15, rfl⟩) (by decide) (rfl : 15 + 2 = 17) rfl ?_
  refine zr_iconst dL_put_17 (rfl : 17 + 1 = 18) ?_
  exact zr_iretH dL_put_18 rfl ⟨rfl, rfl, rfl, rfl⟩
theorem lt_put2 {c r n : Int32} (h5 : w 5 = some (.inr (6, fs))) (hx : zThr Γ md_X6_put (d + 7) [.ref 5, .int c, .int r, .int n] w zIAE) (n9 : Nat) (g9 : Bool) : zTrH Γ md_L_put (d + 8) 1 6 [.ref 5, .int c, .int r, .int n, .ref 171] n9 g9 w (fun r n' g' w' => r = some (.int (jI 2)) ∧ n' = n9 ∧ g' = false ∧ w' = w) zNo := by
  refine zTrH.of_run (lv := [some (.ref 5), some (.int c), some (.int r), some (.int n), some (.ref 171), none]) (by decide) (Nat.le_of_ble_eq_true rfl) rfl ?_
  refine zr_aload dL_put_0 (rfl : 0 + 2 = 2) rfl ?_
  refine zr_iconst dL_put_2 (rfl : 2 + 1 = 3) ?_
  refine zr_aload_n dL_put_3 (rfl : 3 + 1 = 4) rfl ?_
  refine zr_iload_n dL_put_4 (rfl : 4 + 1 = 5) rfl ?_
  refine zr_iload_n dL_put_5 (rfl : 5 + 1 = 6) rfl ?_
  refine zr_iload_n dL_put_6 (rfl : 6 + 1 = 7) rfl ?_
  refine zr_thV dL_put_7 l_L_7 hx h5 rfl rfl rfl (Nat.le_of_ble_eq_true rfl) (Nat.le_of_ble_eq_true rfl) (Nat.le_of_ble_eq_true rfl) ?_
  refine zr_catch (i := 5) (len := 2) [(0, 12, 15, 13)] (0, 12, 19, 15) [] rfl (fun z hz => by
        rcases List.mem_cons.mp hz with e0 | hz
        · rw [e0]
          exact Or.inr ⟨by decide, _, k_L_13, Or.inl ⟨rfl, rfl⟩⟩
        exact nomatch hz) (by decide) (by decide) k_L_15 cst_IAE rfl (Or.inl ⟨dL_put_19, rfl⟩) (by decide) (rfl : 19 + 2 = 21) rfl ?_
  refine zr_iconst dL_put_21 (rfl : 21 + 1 = 22) ?_
  exact zr_iretH dL_put_22 rfl ⟨rfl, rfl, rfl, rfl⟩
theorem lo_take {n : Int32} (h5 : w 5 = some (.inr (6, fs))) (ho : w2 171 = some (zla f)) (hx : zFn Γ md_X6_take (d + 7) [.ref 5, .int n] w (some (.int v)) w2) (n9 : Nat) (g9 : Bool) : zTrH Γ md_L_take (d + 8) 1 6 [.ref 5, .int n, .ref 171] n9 g9 w (fun r n' g' w' => r = some (.int (jI 0)) ∧ n' = n9 ∧ g' = g9 ∧ w' = zup w2 171 (zla (vp_updL f (jI 0).toNatClampNeg v.toInt64))) zNo := by
  refine zTrH.of_run (lv := [some (.ref 5), some (.int n), some (.ref 171), none]) (by decide) (Nat.le_of_ble_eq_true rfl) rfl ?_
  refine zr_aload_n dL_take_0 (rfl : 0 + 1 = 1) rfl ?_
  refine zr_iconst dL_take_1 (rfl : 1 + 1 = 2) ?_
  refine zr_aload_n dL_take_2 (rfl : 2 + 1 = 3) rfl ?_
  refine zr_iload_n dL_take_3 (rfl : 3 + 1 = 4) rfl ?_
  refine zr_fnV dL_take_4 (rfl : 4 + 3 = 7) l_L_17 hx h5 rfl rfl rfl (Nat.le_of_ble_eq_true rfl) ?_
  refine zr_i2l dL_take_7 (rfl : 7 + 1 = 8) ?_
  refine zr_lastR dL_take_8 (rfl : 8 + 1 = 9) ho lc_in ?_
  refine zr_goto (tgt := 18) dL_take_9 (by decide) ?_
  refine zr_iconst dL_take_18 (rfl : 18 + 1 = 19) ?_
  exact zr_iretH dL_take_19 rfl ⟨rfl, rfl, rfl, rfl⟩
theorem lt_take1 {n : Int32} (h5 : w 5 = some (.inr (6, fs))) (hx : zThr Γ md_X6_take (d + 7) [.ref 5, .int n] w zIAE) (n9 : Nat) (g9 : Bool) : zTrH Γ md_L_take (d + 8) 1 6 [.ref 5, .int n, .ref 171] n9 g9 w (fun r n' g' w' => r = some (.int (jI 1)) ∧ n' = n9 ∧ g' = false ∧ w' = w) zNo := by
  refine zTrH.of_run (lv := [some (.ref 5), some (.int n), some (.ref 171), none]) (by decide) (Nat.le_of_ble_eq_true rfl) rfl ?_
  refine zr_aload_n dL_take_0 (rfl : 0 + 1 = 1) rfl ?_
  refine zr_iconst dL_take_1 (rfl : 1 + 1 = 2) ?_
  refine zr_aload_n dL_take_2 (rfl : 2 + 1 = 3) rfl ?_
  refine zr_iload_n dL_take_3 (rfl : 3 + 1 = 4) rfl ?_
  refine zr_thV dL_take_4 l_L_17 hx h5 rfl rfl rfl (Nat.le_of_ble_eq_true rfl) (Nat.le_of_ble_eq_true rfl) (Nat.le_of_ble_eq_true rfl) ?_
  refine zr_catch (i := 3) (len := 1) [] (0, 9, 12, 15) [(0, 9, 15, 21)] rfl (fun z hz => nomatch hz) (by decide) (by decide) k_L_15 cst_IAE rfl (Or.inr ⟨3, dL_take_12, rfl, rfl⟩) (by decide) (rfl : 12 + 1 = 13) rfl ?_
  refine zr_iconst dL_take_13 (rfl : 13 + 1 = 14) ?_
  exact zr_iretH dL_take_14 rfl ⟨rfl, rfl, rfl, rfl⟩
theorem lt_take2 {n : Int32} (h5 : w 5 = some (.inr (6, fs))) (hx : zThr Γ md_X6_take (d + 7) [.ref 5, .int n] w zISE) (n9 : Nat) (g9 : Bool) : zTrH Γ md_L_take (d + 8) 1 6 [.ref 5, .int n, .ref 171] n9 g9 w (fun r n' g' w' => r = some (.int (jI 2)) ∧ n' = n9 ∧ g' = false ∧ w' = w) zNo := by
  refine zTrH.of_run (lv := [some (.ref 5), some (.int n), some (.ref 171), none]) (by decide) (Nat.le_of_ble_eq_true rfl) rfl ?_
  refine zr_aload_n dL_take_0 (rfl : 0 + 1 = 1) rfl ?_
  refine zr_iconst dL_take_1 (rfl : 1 + 1 = 2) ?_
  refine zr_aload_n dL_take_2 (rfl : 2 + 1 = 3) rfl ?_
  refine zr_iload_n dL_take_3 (rfl : 3 + 1 = 4) rfl ?_
  refine zr_thV dL_take_4 l_L_17 hx h5 rfl rfl rfl (Nat.le_of_ble_eq_true rfl) (Nat.le_of_ble_eq_true rfl) (Nat.le_of_ble_eq_true rfl) ?_
  refine zr_catch (i := 3) (len := 1) [(0, 9, 12, 15)] (0, 9, 15, 21) [] rfl (fun z hz => by
        rcases List.mem_cons.mp hz with e0 | hz
        · rw [e0]
          exact Or.inr ⟨by decide, _, k_L_15, Or.inr (Or.inr ⟨rfl, rfl⟩)⟩
        exact nomatch hz) (by decide) (by decide) k_L_21 cst_ISE rfl (Or.inr ⟨3, dL_take_15, rfl, rfl⟩) (by decide) (rfl : 15 + 1 = 16) rfl ?_
  refine zr_iconst dL_take_16 (rfl : 16 + 1 = 17) ?_
  exact zr_iretH dL_take_17 rfl ⟨rfl, rfl, rfl, rfl⟩
theorem lo_fill {c m : Int32} (h5 : w 5 = some (.inr (6, fs))) (ho : w2 171 = some (zla f)) (hx : zFn Γ md_X6_fill (d + 7) [.ref 5, .int c, .int m] w (some (.int v)) w2) (n9 : Nat) (g9 : Bool) : zTrH Γ md_L_fill (d + 8) 1 6 [.ref 5, .int c, .int m, .ref 171] n9 g9 w (fun r n' g' w' => r = some (.int (jI 0)) ∧ n' = n9 ∧ g' = g9 ∧ w' = zup w2 171 (zla (vp_updL f (jI 0).toNatClampNeg v.toInt64))) zNo := by
  refine zTrH.of_run (lv := [some (.ref 5), some (.int c), some (.int m), some (.ref 171), none]) (by decide) (Nat.le_of_ble_eq_true rfl) rfl ?_
  refine zr_aload_n dL_fill_0 (rfl : 0 + 1 = 1) rfl ?_
  refine zr_iconst dL_fill_1 (rfl : 1 + 1 = 2) ?_
  refine zr_aload_n dL_fill_2 (rfl : 2 + 1 = 3) rfl ?_
  refine zr_iload_n dL_fill_3 (rfl : 3 + 1 = 4) rfl ?_
  refine zr_iload_n dL_fill_4 (rfl : 4 + 1 = 5) rfl ?_
  refine zr_fnV dL_fill_5 (rfl : 5 + 3 = 8) l_L_23 hx h5 rfl rfl rfl (Nat.le_of_ble_eq_true rfl) ?_
  refine zr_i2l dL_fill_8 (rfl : 8 + 1 = 9) ?_
  refine zr_lastR dL_fill_9 (rfl : 9 + 1 = 10) ho lc_in ?_
  refine zr_goto (tgt := 25) dL_fill_10 (by decide) ?_
  refine zr_iconst dL_fill_25 (rfl : 25 + 1 = 26) ?_
  exact zr_iretH dL_fill_26 rfl ⟨rfl, rfl, rfl, rfl⟩
theorem lt_fill1 {c m : Int32} (h5 : w 5 = some (.inr (6, fs))) (hx : zThr Γ md_X6_fill (d + 7) [.ref 5, .int c, .int m] w zIOB) (n9 : Nat) (g9 : Bool) : zTrH Γ md_L_fill (d + 8) 1 6 [.ref 5, .int c, .int m, .ref 171] n9 g9 w (fun r n' g' w' => r = some (.int (jI 1)) ∧ n' = n9 ∧ g' = false ∧ w' = w) zNo := by
  refine zTrH.of_run (lv := [some (.ref 5), some (.int c), some (.int m), some (.ref 171), none]) (by decide) (Nat.le_of_ble_eq_true rfl) rfl ?_
  refine zr_aload_n dL_fill_0 (rfl : 0 + 1 = 1) rfl ?_
  refine zr_iconst dL_fill_1 (rfl : 1 + 1 = 2) ?_
  refine zr_aload_n dL_fill_2 (rfl : 2 + 1 = 3) rfl ?_
  refine zr_iload_n dL_fill_3 (rfl : 3 + 1 = 4) rfl ?_
  refine zr_iload_n dL_fill_4 (rfl : 4 + 1 = 5) rfl ?_
  refine zr_thV dL_fill_5 l_L_23 hx h5 rfl rfl rfl (Nat.le_of_ble_eq_true rfl) (Nat.le_of_ble_eq_true rfl) (Nat.le_of_ble_eq_true rfl) ?_
  refine zr_catch (i := 4) (len := 2) [] (0, 10, 13, 13) [(0, 10, 17, 15), (0, 10, 21, 21)] rfl (fun z hz => nomatch hz) (by decide) (by decide) k_L_13 cst_IOB rfl (Or.inl ⟨dL_fill_13, rfl⟩) (by decide) (rfl : 13 + 2 = 15) rfl ?_
  refine zr_iconst dL_fill_15 (rfl : 15 + 1 = 16) ?_
  exact zr_iretH dL_fill_16 rfl ⟨rfl, rfl, rfl, rfl⟩
theorem lt_fill2 {c m : Int32} (h5 : w 5 = some (.inr (6, fs))) (hx : zThr Γ md_X6_fill (d + 7) [.ref 5, .int c, .int m] w zIAE) (n9 : Nat) (g9 : Bool) : zTrH Γ md_L_fill (d + 8) 1 6 [.ref 5, .int c, .int m, .ref 171] n9 g9 w (fun r n' g' w' => r = some (.int (jI 2)) ∧ n' = n9 ∧ g' = false ∧ w' = w) zNo := by
  refine zTrH.of_run (lv := [some (.ref 5), some (.int c), some (.int m), some (.ref 171), none]) (by decide) (Nat.le_of_ble_eq_true rfl) rfl ?_
  refine zr_aload_n dL_fill_0 (rfl : 0 + 1 = 1) rfl ?_
  refine zr_iconst dL_fill_1 (rfl : 1 + 1 = 2) ?_
  refine zr_aload_n dL_fill_2 (rfl : 2 + 1 = 3) rfl ?_
  refine zr_iload_n dL_fill_3 (rfl : 3 + 1 = 4) rfl ?_
  refine zr_iload_n dL_fill_4 (rfl : 4 + 1 = 5) rfl ?_
  refine zr_thV dL_fill_5 l_L_23 hx h5 rfl rfl rfl (Nat.le_of_ble_eq_true rfl) (Nat.le_of_ble_eq_true rfl) (Nat.le_of_ble_eq_true rfl) ?_
  refine zr_catch (i := 4) (len := 2) [(0, 10, 13, 13)] (0, 10, 17, 15) [(0, 10, 21, 21)] rfl (fun z hz => by
        rcases List.mem_cons.mp hz with e0 | hz
        · rw [e0]
          exact Or.inr ⟨by decide, _, k_L_13, Or.inl ⟨rfl, rfl⟩⟩
        exact nomatch hz) (by decide) (by decide) k_L_15 cst_IAE rfl (Or.inl ⟨dL_fill_17, rfl⟩) (by decide) (rfl : 17 + 2 = 19) rfl ?_
  refine zr_iconst dL_fill_19 (rfl : 19 + 1 = 20) ?_
  exact zr_iretH dL_fill_20 rfl ⟨rfl, rfl, rfl, rfl⟩
theorem lt_fill3 {c m : Int32} (h5 : w 5 = some (.inr (6, fs))) (hx : zThr Γ md_X6_fill (d + 7) [.ref 5, .int c, .int m] w zISE) (n9 : Nat) (g9 : Bool) : zTrH Γ md_L_fill (d + 8) 1 6 [.ref 5, .int c, .int m, .ref 171] n9 g9 w (fun r n' g' w' => r = some (.int (jI 3)) ∧ n' = n9 ∧ g' = false ∧ w' = w) zNo := by
  refine zTrH.of_run (lv := [some (.ref 5), some (.int c), some (.int m), some (.ref 171), none]) (by decide) (Nat.le_of_ble_eq_true rfl) rfl ?_
  refine zr_aload_n dL_fill_0 (rfl : 0 + 1 = 1) rfl ?_
  refine zr_iconst dL_fill_1 (rfl : 1 + 1 = 2) ?_
  refine zr_aload_n dL_fill_2 (rfl : 2 + 1 = 3) rfl ?_
  refine zr_iload_n dL_fill_3 (rfl : 3 + 1 = 4) rfl ?_
  refine zr_iload_n dL_fill_4 (rfl : 4 + 1 = 5) rfl ?_
  refine zr_thV dL_fill_5 l_L_23 hx h5 rfl rfl rfl (Nat.le_of_ble_eq_true rfl) (Nat.le_of_ble_eq_true rfl) (Nat.le_of_ble_eq_true rfl) ?_
  refine zr_catch (i := 4) (len := 2) [(0, 10, 13, 13), (0, 10, 17, 15)] (0, 10, 21, 21) [] rfl (fun z hz => by
        rcases List.mem_cons.mp hz with e0 | hz
        · rw [e0]
          exact Or.inr ⟨by decide, _, k_L_13, Or.inr (Or.inl ⟨rfl, rfl⟩)⟩
        rcases List.mem_cons.mp hz with e1 | hz
        · rw [e1]
          exact Or.inr ⟨by decide, _, k_L_15, Or.inr (Or.inr ⟨rfl, rfl⟩)⟩
        exact nomatch hz) (by decide) (by decide) k_L_21 cst_ISE rfl (Or.inl ⟨dL_fill_21, rfl⟩) (by decide) (rfl : 21 + 2 = 23) rfl ?_
  refine zr_iconst dL_fill_23 (rfl : 23 + 1 = 24) ?_
  exact zr_iretH dL_fill_24 rfl ⟨rfl, rfl, rfl, rfl⟩
theorem lo_buy {c : Int32} (h5 : w 5 = some (.inr (6, fs))) (ho : w2 171 = some (zla f)) (hx : zFn Γ md_X6_buy (d + 7) [.ref 5, .int c] w (some (.int v)) w2) (n9 : Nat) (g9 : Bool) : zTrH Γ md_L_buy (d + 8) 1 6 [.ref 5, .int c, .ref 171] n9 g9 w (fun r n' g' w' => r = some (.int (jI 0)) ∧ n' = n9 ∧ g' = g9 ∧ w' = zup w2 171 (zla (vp_updL f (jI 0).toNatClampNeg v.toInt64))) zNo := by
  refine zTrH.of_run (lv := [some (.ref 5), some (.int c), some (.ref 171), none]) (by decide) (Nat.le_of_ble_eq_true rfl) rfl ?_
  refine zr_aload_n dL_buy_0 (rfl : 0 + 1 = 1) rfl ?_
  refine zr_iconst dL_buy_1 (rfl : 1 + 1 = 2) ?_
  refine zr_aload_n dL_buy_2 (rfl : 2 + 1 = 3) rfl ?_
  refine zr_iload_n dL_buy_3 (rfl : 3 + 1 = 4) rfl ?_
  refine zr_fnV dL_buy_4 (rfl : 4 + 3 = 7) l_L_27 hx h5 rfl rfl rfl (Nat.le_of_ble_eq_true rfl) ?_
  refine zr_i2l dL_buy_7 (rfl : 7 + 1 = 8) ?_
  refine zr_lastR dL_buy_8 (rfl : 8 + 1 = 9) ho lc_in ?_
  refine zr_goto (tgt := 18) dL_buy_9 (by decide) ?_
  refine zr_iconst dL_buy_18 (rfl : 18 + 1 = 19) ?_
  exact zr_iretH dL_buy_19 rfl ⟨rfl, rfl, rfl, rfl⟩
theorem lt_buy1 {c : Int32} (h5 : w 5 = some (.inr (6, fs))) (hx : zThr Γ md_X6_buy (d + 7) [.ref 5, .int c] w zIOB) (n9 : Nat) (g9 : Bool) : zTrH Γ md_L_buy (d + 8) 1 6 [.ref 5, .int c, .ref 171] n9 g9 w (fun r n' g' w' => r = some (.int (jI 1)) ∧ n' = n9 ∧ g' = false ∧ w' = w) zNo := by
  refine zTrH.of_run (lv := [some (.ref 5), some (.int c), some (.ref 171), none]) (by decide) (Nat.le_of_ble_eq_true rfl) rfl ?_
  refine zr_aload_n dL_buy_0 (rfl : 0 + 1 = 1) rfl ?_
  refine zr_iconst dL_buy_1 (rfl : 1 + 1 = 2) ?_
  refine zr_aload_n dL_buy_2 (rfl : 2 + 1 = 3) rfl ?_
  refine zr_iload_n dL_buy_3 (rfl : 3 + 1 = 4) rfl ?_
  refine zr_thV dL_buy_4 l_L_27 hx h5 rfl rfl rfl (Nat.le_of_ble_eq_true rfl) (Nat.le_of_ble_eq_true rfl) (Nat.le_of_ble_eq_true rfl) ?_
  refine zr_catch (i := 3) (len := 1) [] (0, 9, 12, 13) [(0, 9, 15, 21)] rfl (fun z hz => nomatch hz) (by decide) (by decide) k_L_13 cst_IOB rfl (Or.inr ⟨3, dL_buy_12, rfl, rfl⟩) (by decide) (rfl : 12 + 1 = 13) rfl ?_
  refine zr_iconst dL_buy_13 (rfl : 13 + 1 = 14) ?_
  exact zr_iretH dL_buy_14 rfl ⟨rfl, rfl, rfl, rfl⟩
theorem lt_buy2 {c : Int32} (h5 : w 5 = some (.inr (6, fs))) (hx : zThr Γ md_X6_buy (d + 7) [.ref 5, .int c] w zISE) (n9 : Nat) (g9 : Bool) : zTrH Γ md_L_buy (d + 8) 1 6 [.ref 5, .int c, .ref 171] n9 g9 w (fun r n' g' w' => r = some (.int (jI 2)) ∧ n' = n9 ∧ g' = false ∧ w' = w) zNo := by
  refine zTrH.of_run (lv := [some (.ref 5), some (.int c), some (.ref 171), none]) (by decide) (Nat.le_of_ble_eq_true rfl) rfl ?_
  refine zr_aload_n dL_buy_0 (rfl : 0 + 1 = 1) rfl ?_
  refine zr_iconst dL_buy_1 (rfl : 1 + 1 = 2) ?_
  refine zr_aload_n dL_buy_2 (rfl : 2 + 1 = 3) rfl ?_
  refine zr_iload_n dL_buy_3 (rfl : 3 + 1 = 4) rfl ?_
  refine zr_thV dL_buy_4 l_L_27 hx h5 rfl rfl rfl (Nat.le_of_ble_eq_true rfl) (Nat.le_of_ble_eq_true rfl) (Nat.le_of_ble_eq_true rfl) ?_
  refine zr_catch (i := 3) (len := 1) [(0, 9, 12, 13)] (0, 9, 15, 21) [] rfl (fun z hz => by
        rcases List.mem_cons.mp hz with e0 | hz
        · rw [e0]
          exact Or.inr ⟨by decide, _, k_L_13, Or.inr (Or.inl ⟨rfl, rfl⟩)⟩
        exact nomatch hz) (by decide) (by decide) k_L_21 cst_ISE rfl (Or.inr ⟨3, dL_buy_15, rfl, rfl⟩) (by decide) (rfl : 15 + 1 = 16) rfl ?_
  refine zr_iconst dL_buy_16 (rfl : 16 + 1 = 17) ?_
  exact zr_iretH dL_buy_17 rfl ⟨rfl, rfl, rfl, rfl⟩
theorem lo_seed {x : Int32} (h5 : w 5 = some (.inr (6, fs))) (ho : w2 171 = some (zla f)) (hx : zFn Γ md_X6_seed (d + 7) [.ref 5, .int x] w (some (.int v)) w2) (n9 : Nat) (g9 : Bool) : zTrH Γ md_L_seed (d + 8) 1 6 [.ref 5, .int x, .ref 171] n9 g9 w (fun r n' g' w' => r = some (.int (jI 0)) ∧ n' = n9 ∧ g' = g9 ∧ w' = zup w2 171 (zla (vp_updL f (jI 0).toNatClampNeg v.toInt64))) zNo := by
  refine zTrH.of_run (lv := [some (.ref 5), some (.int x), some (.ref 171), none]) (by decide) (Nat.le_of_ble_eq_true rfl) rfl ?_
  refine zr_aload_n dL_seed_0 (rfl : 0 + 1 = 1) rfl ?_
  refine zr_iconst dL_seed_1 (rfl : 1 + 1 = 2) ?_
  refine zr_aload_n dL_seed_2 (rfl : 2 + 1 = 3) rfl ?_
  refine zr_iload_n dL_seed_3 (rfl : 3 + 1 = 4) rfl ?_
  refine zr_fnV dL_seed_4 (rfl : 4 + 3 = 7) l_L_30 hx h5 rfl rfl rfl (Nat.le_of_ble_eq_true rfl) ?_
  refine zr_i2l dL_seed_7 (rfl : 7 + 1 = 8) ?_
  refine zr_lastR dL_seed_8 (rfl : 8 + 1 = 9) ho lc_in ?_
  refine zr_goto (tgt := 15) dL_seed_9 (by decide) ?_
  refine zr_iconst dL_seed_15 (rfl : 15 + 1 = 16) ?_
  exact zr_iretH dL_seed_16 rfl ⟨rfl, rfl, rfl, rfl⟩
theorem lt_seed1 {x : Int32} (h5 : w 5 = some (.inr (6, fs))) (hx : zThr Γ md_X6_seed (d + 7) [.ref 5, .int x] w zIAE) (n9 : Nat) (g9 : Bool) : zTrH Γ md_L_seed (d + 8) 1 6 [.ref 5, .int x, .ref 171] n9 g9 w (fun r n' g' w' => r = some (.int (jI 1)) ∧ n' = n9 ∧ g' = false ∧ w' = w) zNo := by
  refine zTrH.of_run (lv := [some (.ref 5), some (.int x), some (.ref 171), none]) (by decide) (Nat.le_of_ble_eq_true rfl) rfl ?_
  refine zr_aload_n dL_seed_0 (rfl : 0 + 1 = 1) rfl ?_
  refine zr_iconst dL_seed_1 (rfl : 1 + 1 = 2) ?_
  refine zr_aload_n dL_seed_2 (rfl : 2 + 1 = 3) rfl ?_
  refine zr_iload_n dL_seed_3 (rfl : 3 + 1 = 4) rfl ?_
  refine zr_thV dL_seed_4 l_L_30 hx h5 rfl rfl rfl (Nat.le_of_ble_eq_true rfl) (Nat.le_of_ble_eq_true rfl) (Nat.le_of_ble_eq_true rfl) ?_
  refine zr_catch (i := 3) (len := 1) [] (0, 9, 12, 15) [] rfl (fun z hz => nomatch hz) (by decide) (by decide) k_L_15 cst_IAE rfl (Or.inr ⟨3, dL_seed_12, rfl, rfl⟩) (by decide) (rfl : 12 + 1 = 13) rfl ?_
  refine zr_iconst dL_seed_13 (rfl : 13 + 1 = 14) ?_
  exact zr_iretH dL_seed_14 rfl ⟨rfl, rfl, rfl, rfl⟩
theorem lo_set {s x : Int32} (h5 : w 5 = some (.inr (6, fs))) (ho : w2 171 = some (zla f)) (hx : zFn Γ md_X6_set (d + 7) [.ref 5, .int s, .int x] w (some (.int v)) w2) (n9 : Nat) (g9 : Bool) : zTrH Γ md_L_set (d + 8) 1 6 [.ref 5, .int s, .int x, .ref 171] n9 g9 w (fun r n' g' w' => r = some (.int (jI 0)) ∧ n' = n9 ∧ g' = g9 ∧ w' = zup w2 171 (zla (vp_updL f (jI 0).toNatClampNeg v.toInt64))) zNo := by
  refine zTrH.of_run (lv := [some (.ref 5), some (.int s), some (.int x), some (.ref 171), none]) (by decide) (Nat.le_of_ble_eq_true rfl) rfl ?_
  refine zr_aload_n dL_set_0 (rfl : 0 + 1 = 1) rfl ?_
  refine zr_iconst dL_set_1 (rfl : 1 + 1 = 2) ?_
  refine zr_aload_n dL_set_2 (rfl : 2 + 1 = 3) rfl ?_
  refine zr_iload_n dL_set_3 (rfl : 3 + 1 = 4) rfl ?_
  refine zr_iload_n dL_set_4 (rfl : 4 + 1 = 5) rfl ?_
  refine zr_fnV dL_set_5 (rfl : 5 + 3 = 8) l_L_33 hx h5 rfl rfl rfl (Nat.le_of_ble_eq_true rfl) ?_
  refine zr_i2l dL_set_8 (rfl : 8 + 1 = 9) ?_
  refine zr_lastR dL_set_9 (rfl : 9 + 1 = 10) ho lc_in ?_
  refine zr_goto (tgt := 21) dL_set_10 (by decide) ?_
  refine zr_iconst dL_set_21 (rfl : 21 + 1 = 22) ?_
  exact zr_iretH dL_set_22 rfl ⟨rfl, rfl, rfl, rfl⟩
theorem lt_set1 {s x : Int32} (h5 : w 5 = some (.inr (6, fs))) (hx : zThr Γ md_X6_set (d + 7) [.ref 5, .int s, .int x] w zIOB) (n9 : Nat) (g9 : Bool) : zTrH Γ md_L_set (d + 8) 1 6 [.ref 5, .int s, .int x, .ref 171] n9 g9 w (fun r n' g' w' => r = some (.int (jI 1)) ∧ n' = n9 ∧ g' = false ∧ w' = w) zNo := by
  refine zTrH.of_run (lv := [some (.ref 5), some (.int s), some (.int x), some (.ref 171), none]) (by decide) (Nat.le_of_ble_eq_true rfl) rfl ?_
  refine zr_aload_n dL_set_0 (rfl : 0 + 1 = 1) rfl ?_
  refine zr_iconst dL_set_1 (rfl : 1 + 1 = 2) ?_
  refine zr_aload_n dL_set_2 (rfl : 2 + 1 = 3) rfl ?_
  refine zr_iload_n dL_set_3 (rfl : 3 + 1 = 4) rfl ?_
  refine zr_iload_n dL_set_4 (rfl : 4 + 1 = 5) rfl ?_
  refine zr_thV dL_set_5 l_L_33 hx h5 rfl rfl rfl (Nat.le_of_ble_eq_true rfl) (Nat.le_of_ble_eq_true rfl) (Nat.le_of_ble_eq_true rfl) ?_
  refine zr_catch (i := 4) (len := 2) [] (0, 10, 13, 13) [(0, 10, 17, 15)] rfl (fun z hz => nomatch hz) (by decide) (by decide) k_L_13 cst_IOB rfl (Or.inl ⟨dL_set_13, rfl⟩) (by decide) (rfl : 13 + 2 = 15) rfl ?_
  refine zr_iconst dL_set_15 (rfl : 15 + 1 = 16) ?_
  exact zr_iretH dL_set_16 rfl ⟨rfl, rfl, rfl, rfl⟩
theorem lt_set2 {s x : Int32} (h5 : w 5 = some (.inr (6, fs))) (hx : zThr Γ md_X6_set (d + 7) [.ref 5, .int s, .int x] w zIAE) (n9 : Nat) (g9 : Bool) : zTrH Γ md_L_set (d + 8) 1 6 [.ref 5, .int s, .int x, .ref 171] n9 g9 w (fun r n' g' w' => r = some (.int (jI 2)) ∧ n' = n9 ∧ g' = false ∧ w' = w) zNo := by
  refine zTrH.of_run (lv := [some (.ref 5), some (.int s), some (.int x), some (.ref 171), none]) (by decide) (Nat.le_of_ble_eq_true rfl) rfl ?_
  refine zr_aload_n dL_set_0 (rfl : 0 + 1 = 1) rfl ?_
  refine zr_iconst dL_set_1 (rfl : 1 + 1 = 2) ?_
  refine zr_aload_n dL_set_2 (rfl : 2 + 1 = 3) rfl ?_
  refine zr_iload_n dL_set_3 (rfl : 3 + 1 = 4) rfl ?_
  refine zr_iload_n dL_set_4 (rfl : 4 + 1 = 5) rfl ?_
  refine zr_thV dL_set_5 l_L_33 hx h5 rfl rfl rfl (Nat.le_of_ble_eq_true rfl) (Nat.le_of_ble_eq_true rfl) (Nat.le_of_ble_eq_true rfl) ?_
  refine zr_catch (i := 4) (len := 2) [(0, 10, 13, 13)] (0, 10, 17, 15) [] rfl (fun z hz => by
        rcases List.mem_cons.mp hz with e0 | hz
        · rw [e0]
          exact Or.inr ⟨by decide, _, k_L_13, Or.inl ⟨rfl, rfl⟩⟩
        exact nomatch hz) (by decide) (by decide) k_L_15 cst_IAE rfl (Or.inl ⟨dL_set_17, rfl⟩) (by decide) (rfl : 17 + 2 = 19) rfl ?_
  refine zr_iconst dL_set_19 (rfl : 19 + 1 = 20) ?_
  exact zr_iretH dL_set_20 rfl ⟨rfl, rfl, rfl, rfl⟩
theorem lo_draw {m : Int32} (h5 : w 5 = some (.inr (6, fs))) (ho : w2 171 = some (zla f)) (hx : zFn Γ md_X6_draw (d + 7) [.ref 5, .int m] w (some (.int v)) w2) (n9 : Nat) (g9 : Bool) : zTrH Γ md_L_draw (d + 8) 1 6 [.ref 5, .int m, .ref 171] n9 g9 w (fun r n' g' w' => r = some (.int (jI 0)) ∧ n' = n9 ∧ g' = g9 ∧ w' = zup w2 171 (zla (vp_updL f (jI 0).toNatClampNeg v.toInt64))) zNo := by
  refine zTrH.of_run (lv := [some (.ref 5), some (.int m), some (.ref 171), none]) (by decide) (Nat.le_of_ble_eq_true rfl) rfl ?_
  refine zr_aload_n dL_draw_0 (rfl : 0 + 1 = 1) rfl ?_
  refine zr_iconst dL_draw_1 (rfl : 1 + 1 = 2) ?_
  refine zr_aload_n dL_draw_2 (rfl : 2 + 1 = 3) rfl ?_
  refine zr_iload_n dL_draw_3 (rfl : 3 + 1 = 4) rfl ?_
  refine zr_fnV dL_draw_4 (rfl : 4 + 3 = 7) l_L_36 hx h5 rfl rfl rfl (Nat.le_of_ble_eq_true rfl) ?_
  refine zr_i2l dL_draw_7 (rfl : 7 + 1 = 8) ?_
  refine zr_lastR dL_draw_8 (rfl : 8 + 1 = 9) ho lc_in ?_
  refine zr_goto (tgt := 18) dL_draw_9 (by decide) ?_
  refine zr_iconst dL_draw_18 (rfl : 18 + 1 = 19) ?_
  exact zr_iretH dL_draw_19 rfl ⟨rfl, rfl, rfl, rfl⟩
theorem lt_draw1 {m : Int32} (h5 : w 5 = some (.inr (6, fs))) (hx : zThr Γ md_X6_draw (d + 7) [.ref 5, .int m] w zIAE) (n9 : Nat) (g9 : Bool) : zTrH Γ md_L_draw (d + 8) 1 6 [.ref 5, .int m, .ref 171] n9 g9 w (fun r n' g' w' => r = some (.int (jI 1)) ∧ n' = n9 ∧ g' = false ∧ w' = w) zNo := by
  refine zTrH.of_run (lv := [some (.ref 5), some (.int m), some (.ref 171), none]) (by decide) (Nat.le_of_ble_eq_true rfl) rfl ?_
  refine zr_aload_n dL_draw_0 (rfl : 0 + 1 = 1) rfl ?_
  refine zr_iconst dL_draw_1 (rfl : 1 + 1 = 2) ?_
  refine zr_aload_n dL_draw_2 (rfl : 2 + 1 = 3) rfl ?_
  refine zr_iload_n dL_draw_3 (rfl : 3 + 1 = 4) rfl ?_
  refine zr_thV dL_draw_4 l_L_36 hx h5 rfl rfl rfl (Nat.le_of_ble_eq_true rfl) (Nat.le_of_ble_eq_true rfl) (Nat.le_of_ble_eq_true rfl) ?_
  refine zr_catch (i := 3) (len := 1) [] (0, 9, 12, 15) [(0, 9, 15, 21)] rfl (fun z hz => nomatch hz) (by decide) (by decide) k_L_15 cst_IAE rfl (Or.inr ⟨3, dL_draw_12, rfl, rfl⟩) (by decide) (rfl : 12 + 1 = 13) rfl ?_
  refine zr_iconst dL_draw_13 (rfl : 13 + 1 = 14) ?_
  exact zr_iretH dL_draw_14 rfl ⟨rfl, rfl, rfl, rfl⟩
theorem lt_draw2 {m : Int32} (h5 : w 5 = some (.inr (6, fs))) (hx : zThr Γ md_X6_draw (d + 7) [.ref 5, .int m] w zISE) (n9 : Nat) (g9 : Bool) : zTrH Γ md_L_draw (d + 8) 1 6 [.ref 5, .int m, .ref 171] n9 g9 w (fun r n' g' w' => r = some (.int (jI 2)) ∧ n' = n9 ∧ g' = false ∧ w' = w) zNo := by
  refine zTrH.of_run (lv := [some (.ref 5), some (.int m), some (.ref 171), none]) (by decide) (Nat.le_of_ble_eq_true rfl) rfl ?_
  refine zr_aload_n dL_draw_0 (rfl : 0 + 1 = 1) rfl ?_
  refine zr_iconst dL_draw_1 (rfl : 1 + 1 = 2) ?_
  refine zr_aload_n dL_draw_2 (rfl : 2 + 1 = 3) rfl ?_
  refine zr_iload_n dL_draw_3 (rfl : 3 + 1 = 4) rfl ?_
  refine zr_thV dL_draw_4 l_L_36 hx h5 rfl rfl rfl (Nat.le_of_ble_eq_true rfl) (Nat.le_of_ble_eq_true rfl) (Nat.le_of_ble_eq_true rfl) ?_
  refine zr_catch (i := 3) (len := 1) [(0, 9, 12, 15)] (0, 9, 15, 21) [] rfl (fun z hz => by
        rcases List.mem_cons.mp hz with e0 | hz
        · rw [e0]
          exact Or.inr ⟨by decide, _, k_L_15, Or.inr (Or.inr ⟨rfl, rfl⟩)⟩
        exact nomatch hz) (by decide) (by decide) k_L_21 cst_ISE rfl (Or.inr ⟨3, dL_draw_15, rfl, rfl⟩) (by decide) (rfl : 15 + 1 = 16) rfl ?_
  refine zr_iconst dL_draw_16 (rfl : 16 + 1 = 17) ?_
  exact zr_iretH dL_draw_17 rfl ⟨rfl, rfl, rfl, rfl⟩
theorem lo_claim {c g : Int32} (h5 : w 5 = some (.inr (6, fs))) (ho : w2 171 = some (zla f)) (hx : zFn Γ md_X6_claim (d + 7) [.ref 5, .int c, .int g] w (some (.int v)) w2) (n9 : Nat) (g9 : Bool) : zTrH Γ md_L_claim (d + 8) 1 6 [.ref 5, .int c, .int g, .ref 171] n9 g9 w (fun r n' g' w' => r = some (.int (jI 0)) ∧ n' = n9 ∧ g' = g9 ∧ w' = zup w2 171 (zla (vp_updL f (jI 0).toNatClampNeg v.toInt64))) zNo := by
  refine zTrH.of_run (lv := [some (.ref 5), some (.int c), some (.int g), some (.ref 171), none]) (by decide) (Nat.le_of_ble_eq_true rfl) rfl ?_
  refine zr_aload_n dL_claim_0 (rfl : 0 + 1 = 1) rfl ?_
  refine zr_iconst dL_claim_1 (rfl : 1 + 1 = 2) ?_
  refine zr_aload_n dL_claim_2 (rfl : 2 + 1 = 3) rfl ?_
  refine zr_iload_n dL_claim_3 (rfl : 3 + 1 = 4) rfl ?_
  refine zr_iload_n dL_claim_4 (rfl : 4 + 1 = 5) rfl ?_
  refine zr_fnV dL_claim_5 (rfl : 5 + 3 = 8) l_L_39 hx h5 rfl rfl rfl (Nat.le_of_ble_eq_true rfl) ?_
  refine zr_i2l dL_claim_8 (rfl : 8 + 1 = 9) ?_
  refine zr_lastR dL_claim_9 (rfl : 9 + 1 = 10) ho lc_in ?_
  refine zr_goto (tgt := 21) dL_claim_10 (by decide) ?_
  refine zr_iconst dL_claim_21 (rfl : 21 + 1 = 22) ?_
  exact zr_iretH dL_claim_22 rfl ⟨rfl, rfl, rfl, rfl⟩
theorem lt_claim1 {c g : Int32} (h5 : w 5 = some (.inr (6, fs))) (hx : zThr Γ md_X6_claim (d + 7) [.ref 5, .int c, .int g] w zIOB) (n9 : Nat) (g9 : Bool) : zTrH Γ md_L_claim (d + 8) 1 6 [.ref 5, .int c, .int g, .ref 171] n9 g9 w (fun r n' g' w' => r = some (.int (jI 1)) ∧ n' = n9 ∧ g' = false ∧ w' = w) zNo := by
  refine zTrH.of_run (lv := [some (.ref 5), some (.int c), some (.int g), some (.ref 171), none]) (by decide) (Nat.le_of_ble_eq_true rfl) rfl ?_
  refine zr_aload_n dL_claim_0 (rfl : 0 + 1 = 1) rfl ?_
  refine zr_iconst dL_claim_1 (rfl : 1 + 1 = 2) ?_
  refine zr_aload_n dL_claim_2 (rfl : 2 + 1 = 3) rfl ?_
  refine zr_iload_n dL_claim_3 (rfl : 3 + 1 = 4) rfl ?_
  refine zr_iload_n dL_claim_4 (rfl : 4 + 1 = 5) rfl ?_
  refine zr_thV dL_claim_5 l_L_39 hx h5 rfl rfl rfl (Nat.le_of_ble_eq_true rfl) (Nat.le_of_ble_eq_true rfl) (Nat.le_of_ble_eq_true rfl) ?_
  refine zr_catch (i := 4) (len := 2) [] (0, 10, 13, 13) [(0, 10, 17, 21)] rfl (fun z hz => nomatch hz) (by decide) (by decide) k_L_13 cst_IOB rfl (Or.inl ⟨dL_claim_13, rfl⟩) (by decide) (rfl : 13 + 2 = 15) rfl ?_
  refine zr_iconst dL_claim_15 (rfl : 15 + 1 = 16) ?_
  exact zr_iretH dL_claim_16 rfl ⟨rfl, rfl, rfl, rfl⟩
theorem lt_claim2 {c g : Int32} (h5 : w 5 = some (.inr (6, fs))) (hx : zThr Γ md_X6_claim (d + 7) [.ref 5, .int c, .int g] w zISE) (n9 : Nat) (g9 : Bool) : zTrH Γ md_L_claim (d + 8) 1 6 [.ref 5, .int c, .int g, .ref 171] n9 g9 w (fun r n' g' w' => r = some (.int (jI 2)) ∧ n' = n9 ∧ g' = false ∧ w' = w) zNo := by
  refine zTrH.of_run (lv := [some (.ref 5), some (.int c), some (.int g), some (.ref 171), none]) (by decide) (Nat.le_of_ble_eq_true rfl) rfl ?_
  refine zr_aload_n dL_claim_0 (rfl : 0 + 1 = 1) rfl ?_
  refine zr_iconst dL_claim_1 (rfl : 1 + 1 = 2) ?_
  refine zr_aload_n dL_claim_2 (rfl : 2 + 1 = 3) rfl ?_
  refine zr_iload_n dL_claim_3 (rfl : 3 + 1 = 4) rfl ?_
  refine zr_iload_n dL_claim_4 (rfl : 4 + 1 = 5) rfl ?_
  refine zr_thV dL_claim_5 l_L_39 hx h5 rfl rfl rfl (Nat.le_of_ble_eq_true rfl) (Nat.le_of_ble_eq_true rfl) (Nat.le_of_ble_eq_true rfl) ?_
  refine zr_catch (i := 4) (len := 2) [(0, 10, 13, 13)] (0, 10, 17, 21) [] rfl (fun z hz => by
        rcases List.mem_cons.mp hz with e0 | hz
        · rw [e0]
          exact Or.inr ⟨by decide, _, k_L_13, Or.inr (Or.inl ⟨rfl, rfl⟩)⟩
        exact nomatch hz) (by decide) (by decide) k_L_21 cst_ISE rfl (Or.inl ⟨dL_claim_17, rfl⟩) (by decide) (rfl : 17 + 2 = 19) rfl ?_
  refine zr_iconst dL_claim_19 (rfl : 19 + 1 = 20) ?_
  exact zr_iretH dL_claim_20 rfl ⟨rfl, rfl, rfl, rfl⟩
theorem lo_append {x : Int32} (h5 : w 5 = some (.inr (6, fs))) (ho : w2 171 = some (zla f)) (hx : zFn Γ md_X6_append (d + 7) [.ref 5, .int x] w (some (.int v)) w2) (n9 : Nat) (g9 : Bool) : zTrH Γ md_L_append (d + 8) 1 6 [.ref 5, .int x, .ref 171] n9 g9 w (fun r n' g' w' => r = some (.int (jI 0)) ∧ n' = n9 ∧ g' = g9 ∧ w' = zup w2 171 (zla (vp_updL f (jI 0).toNatClampNeg v.toInt64))) zNo := by
  refine zTrH.of_run (lv := [some (.ref 5), some (.int x), some (.ref 171), none]) (by decide) (Nat.le_of_ble_eq_true rfl) rfl ?_
  refine zr_aload_n dL_append_0 (rfl : 0 + 1 = 1) rfl ?_
  refine zr_iconst dL_append_1 (rfl : 1 + 1 = 2) ?_
  refine zr_aload_n dL_append_2 (rfl : 2 + 1 = 3) rfl ?_
  refine zr_iload_n dL_append_3 (rfl : 3 + 1 = 4) rfl ?_
  refine zr_fnV dL_append_4 (rfl : 4 + 3 = 7) l_L_42 hx h5 rfl rfl rfl (Nat.le_of_ble_eq_true rfl) ?_
  refine zr_i2l dL_append_7 (rfl : 7 + 1 = 8) ?_
  refine zr_lastR dL_append_8 (rfl : 8 + 1 = 9) ho lc_in ?_
  refine zr_goto (tgt := 18) dL_append_9 (by decide) ?_
  refine zr_iconst dL_append_18 (rfl : 18 + 1 = 19) ?_
  exact zr_iretH dL_append_19 rfl ⟨rfl, rfl, rfl, rfl⟩
theorem lt_append1 {x : Int32} (h5 : w 5 = some (.inr (6, fs))) (hx : zThr Γ md_X6_append (d + 7) [.ref 5, .int x] w zIAE) (n9 : Nat) (g9 : Bool) : zTrH Γ md_L_append (d + 8) 1 6 [.ref 5, .int x, .ref 171] n9 g9 w (fun r n' g' w' => r = some (.int (jI 1)) ∧ n' = n9 ∧ g' = false ∧ w' = w) zNo := by
  refine zTrH.of_run (lv := [some (.ref 5), some (.int x), some (.ref 171), none]) (by decide) (Nat.le_of_ble_eq_true rfl) rfl ?_
  refine zr_aload_n dL_append_0 (rfl : 0 + 1 = 1) rfl ?_
  refine zr_iconst dL_append_1 (rfl : 1 + 1 = 2) ?_
  refine zr_aload_n dL_append_2 (rfl : 2 + 1 = 3) rfl ?_
  refine zr_iload_n dL_append_3 (rfl : 3 + 1 = 4) rfl ?_
  refine zr_thV dL_append_4 l_L_42 hx h5 rfl rfl rfl (Nat.le_of_ble_eq_true rfl) (Nat.le_of_ble_eq_true rfl) (Nat.le_of_ble_eq_true rfl) ?_
  refine zr_catch (i := 3) (len := 1) [] (0, 9, 12, 15) [(0, 9, 15, 21)] rfl (fun z hz => nomatch hz) (by decide) (by decide) k_L_15 cst_IAE rfl (Or.inr ⟨3, dL_append_12, rfl, rfl⟩) (by decide) (rfl : 12 + 1 = 13) rfl ?_
  refine zr_iconst dL_append_13 (rfl : 13 + 1 = 14) ?_
  exact zr_iretH dL_append_14 rfl ⟨rfl, rfl, rfl, rfl⟩
theorem lt_append2 {x : Int32} (h5 : w 5 = some (.inr (6, fs))) (hx : zThr Γ md_X6_append (d + 7) [.ref 5, .int x] w zISE) (n9 : Nat) (g9 : Bool) : zTrH Γ md_L_append (d + 8) 1 6 [.ref 5, .int x, .ref 171] n9 g9 w (fun r n' g' w' => r = some (.int (jI 2)) ∧ n' = n9 ∧ g' = false ∧ w' = w) zNo := by
  refine zTrH.of_run (lv := [some (.ref 5), some (.int x), some (.ref 171), none]) (by decide) (Nat.le_of_ble_eq_true rfl) rfl ?_
  refine zr_aload_n dL_append_0 (rfl : 0 + 1 = 1) rfl ?_
  refine zr_iconst dL_append_1 (rfl : 1 + 1 = 2) ?_
  refine zr_aload_n dL_append_2 (rfl : 2 + 1 = 3) rfl ?_
  refine zr_iload_n dL_append_3 (rfl : 3 + 1 = 4) rfl ?_
  refine zr_thV dL_append_4 l_L_42 hx h5 rfl rfl rfl (Nat.le_of_ble_eq_true rfl) (Nat.le_of_ble_eq_true rfl) (Nat.le_of_ble_eq_true rfl) ?_
  refine zr_catch (i := 3) (len := 1) [(0, 9, 12, 15)] (0, 9, 15, 21) [] rfl (fun z hz => by
        rcases List.mem_cons.mp hz with e0 | hz
        · rw [e0]
          exact Or.inr ⟨by decide, _, k_L_15, Or.inr (Or.inr ⟨rfl, rfl⟩)⟩
        exact nomatch hz) (by decide) (by decide) k_L_21 cst_ISE rfl (Or.inr ⟨3, dL_append_15, rfl, rfl⟩) (by decide) (rfl : 15 + 1 = 16) rfl ?_
  refine zr_iconst dL_append_16 (rfl : 16 + 1 = 17) ?_
  exact zr_iretH dL_append_17 rfl ⟨rfl, rfl, rfl, rfl⟩
theorem lo_run (h5 : w 5 = some (.inr (6, fs))) (ho : w2 171 = some (zla f)) (hx : zFn Γ md_X6_run (d + 7) [.ref 5] w (some (.int v)) w2) (n9 : Nat) (g9 : Bool) : zTrH Γ md_L_run (d + 8) 1 6 [.ref 5, .ref 171] n9 g9 w (fun r n' g' w' => r = some (.int (jI 0)) ∧ n' = n9 ∧ g' = g9 ∧ w' = zup w2 171 (zla (vp_updL f (jI 0).toNatClampNeg v.toInt64))) zNo := by
  refine zTrH.of_run (lv := [some (.ref 5), some (.ref 171), none]) (by decide) (Nat.le_of_ble_eq_true rfl) rfl ?_
  refine zr_aload_n dL_run_0 (rfl : 0 + 1 = 1) rfl ?_
  refine zr_iconst dL_run_1 (rfl : 1 + 1 = 2) ?_
  refine zr_aload_n dL_run_2 (rfl : 2 + 1 = 3) rfl ?_
  refine zr_fnV dL_run_3 (rfl : 3 + 3 = 6) l_L_45 hx h5 rfl rfl rfl (Nat.le_of_ble_eq_true rfl) ?_
  refine zr_i2l dL_run_6 (rfl : 6 + 1 = 7) ?_
  refine zr_lastR dL_run_7 (rfl : 7 + 1 = 8) ho lc_in ?_
  refine zr_goto (tgt := 14) dL_run_8 (by decide) ?_
  refine zr_iconst dL_run_14 (rfl : 14 + 1 = 15) ?_
  exact zr_iretH dL_run_15 rfl ⟨rfl, rfl, rfl, rfl⟩
theorem lt_run1 (h5 : w 5 = some (.inr (6, fs))) (hx : zThr Γ md_X6_run (d + 7) [.ref 5] w zIAE) (n9 : Nat) (g9 : Bool) : zTrH Γ md_L_run (d + 8) 1 6 [.ref 5, .ref 171] n9 g9 w (fun r n' g' w' => r = some (.int (jI 1)) ∧ n' = n9 ∧ g' = false ∧ w' = w) zNo := by
  refine zTrH.of_run (lv := [some (.ref 5), some (.ref 171), none]) (by decide) (Nat.le_of_ble_eq_true rfl) rfl ?_
  refine zr_aload_n dL_run_0 (rfl : 0 + 1 = 1) rfl ?_
  refine zr_iconst dL_run_1 (rfl : 1 + 1 = 2) ?_
  refine zr_aload_n dL_run_2 (rfl : 2 + 1 = 3) rfl ?_
  refine zr_thV dL_run_3 l_L_45 hx h5 rfl rfl rfl (Nat.le_of_ble_eq_true rfl) (Nat.le_of_ble_eq_true rfl) (Nat.le_of_ble_eq_true rfl) ?_
  refine zr_catch (i := 2) (len := 1) [] (0, 8, 11, 15) [] rfl (fun z hz => nomatch hz) (by decide) (by decide) k_L_15 cst_IAE rfl (Or.inr ⟨2, dL_run_11, rfl, rfl⟩) (by decide) (rfl : 11 + 1 = 12) rfl ?_
  refine zr_iconst dL_run_12 (rfl : 12 + 1 = 13) ?_
  exact zr_iretH dL_run_13 rfl ⟨rfl, rfl, rfl, rfl⟩
theorem lo_keep {s : Int32} (h5 : w 5 = some (.inr (6, fs))) (ho : w2 171 = some (zla f)) (hx : zFn Γ md_X6_keep (d + 7) [.ref 5, .int s] w (some (.int v)) w2) (n9 : Nat) (g9 : Bool) : zTrH Γ md_L_keep (d + 8) 1 6 [.ref 5, .int s, .ref 171] n9 g9 w (fun r n' g' w' => r = some (.int (jI 0)) ∧ n' = n9 ∧ g' = g9 ∧ w' = zup w2 171 (zla (vp_updL f (jI 0).toNatClampNeg v.toInt64))) zNo := by
  refine zTrH.of_run (lv := [some (.ref 5), some (.int s), some (.ref 171), none]) (by decide) (Nat.le_of_ble_eq_true rfl) rfl ?_
  refine zr_aload_n dL_keep_0 (rfl : 0 + 1 = 1) rfl ?_
  refine zr_iconst dL_keep_1 (rfl : 1 + 1 = 2) ?_
  refine zr_aload_n dL_keep_2 (rfl : 2 + 1 = 3) rfl ?_
  refine zr_iload_n dL_keep_3 (rfl : 3 + 1 = 4) rfl ?_
  refine zr_fnV dL_keep_4 (rfl : 4 + 3 = 7) l_L_49 hx h5 rfl rfl rfl (Nat.le_of_ble_eq_true rfl) ?_
  refine zr_i2l dL_keep_7 (rfl : 7 + 1 = 8) ?_
  refine zr_lastR dL_keep_8 (rfl : 8 + 1 = 9) ho lc_in ?_
  refine zr_goto (tgt := 15) dL_keep_9 (by decide) ?_
  refine zr_iconst dL_keep_15 (rfl : 15 + 1 = 16) ?_
  exact zr_iretH dL_keep_16 rfl ⟨rfl, rfl, rfl, rfl⟩
theorem lt_keep1 {s : Int32} (h5 : w 5 = some (.inr (6, fs))) (hx : zThr Γ md_X6_keep (d + 7) [.ref 5, .int s] w zIAE) (n9 : Nat) (g9 : Bool) : zTrH Γ md_L_keep (d + 8) 1 6 [.ref 5, .int s, .ref 171] n9 g9 w (fun r n' g' w' => r = some (.int (jI 1)) ∧ n' = n9 ∧ g' = false ∧ w' = w) zNo := by
  refine zTrH.of_run (lv := [some (.ref 5), some (.int s), some (.ref 171), none]) (by decide) (Nat.le_of_ble_eq_true rfl) rfl ?_
  refine zr_aload_n dL_keep_0 (rfl : 0 + 1 = 1) rfl ?_
  refine zr_iconst dL_keep_1 (rfl : 1 + 1 = 2) ?_
  refine zr_aload_n dL_keep_2 (rfl : 2 + 1 = 3) rfl ?_
  refine zr_iload_n dL_keep_3 (rfl : 3 + 1 = 4) rfl ?_
  refine zr_thV dL_keep_4 l_L_49 hx h5 rfl rfl rfl (Nat.le_of_ble_eq_true rfl) (Nat.le_of_ble_eq_true rfl) (Nat.le_of_ble_eq_true rfl) ?_
  refine zr_catch (i := 3) (len := 1) [] (0, 9, 12, 15) [] rfl (fun z hz => nomatch hz) (by decide) (by decide) k_L_15 cst_IAE rfl (Or.inr ⟨3, dL_keep_12, rfl, rfl⟩) (by decide) (rfl : 12 + 1 = 13) rfl ?_
  refine zr_iconst dL_keep_13 (rfl : 13 + 1 = 14) ?_
  exact zr_iretH dL_keep_14 rfl ⟨rfl, rfl, rfl, rfl⟩
theorem lo_goBack {s : Int32} (h5 : w 5 = some (.inr (6, fs))) (ho : w2 171 = some (zla f)) (hx : zFn Γ md_X6_goBack (d + 7) [.ref 5, .int s] w (some (.int v)) w2) (n9 : Nat) (g9 : Bool) : zTrH Γ md_L_goBack (d + 8) 1 6 [.ref 5, .int s, .ref 171] n9 g9 w (fun r n' g' w' => r = some (.int (jI 0)) ∧ n' = n9 ∧ g' = g9 ∧ w' = zup w2 171 (zla (vp_updL f (jI 0).toNatClampNeg v.toInt64))) zNo := by
  refine zTrH.of_run (lv := [some (.ref 5), some (.int s), some (.ref 171), none]) (by decide) (Nat.le_of_ble_eq_true rfl) rfl ?_
  refine zr_aload_n dL_goBack_0 (rfl : 0 + 1 = 1) rfl ?_
  refine zr_iconst dL_goBack_1 (rfl : 1 + 1 = 2) ?_
  refine zr_aload_n dL_goBack_2 (rfl : 2 + 1 = 3) rfl ?_
  refine zr_iload_n dL_goBack_3 (rfl : 3 + 1 = 4) rfl ?_
  refine zr_fnV dL_goBack_4 (rfl : 4 + 3 = 7) l_L_52 hx h5 rfl rfl rfl (Nat.le_of_ble_eq_true rfl) ?_
  refine zr_i2l dL_goBack_7 (rfl : 7 + 1 = 8) ?_
  refine zr_lastR dL_goBack_8 (rfl : 8 + 1 = 9) ho lc_in ?_
  refine zr_goto (tgt := 18) dL_goBack_9 (by decide) ?_
  refine zr_iconst dL_goBack_18 (rfl : 18 + 1 = 19) ?_
  exact zr_iretH dL_goBack_19 rfl ⟨rfl, rfl, rfl, rfl⟩
theorem lt_goBack1 {s : Int32} (h5 : w 5 = some (.inr (6, fs))) (hx : zThr Γ md_X6_goBack (d + 7) [.ref 5, .int s] w zIAE) (n9 : Nat) (g9 : Bool) : zTrH Γ md_L_goBack (d + 8) 1 6 [.ref 5, .int s, .ref 171] n9 g9 w (fun r n' g' w' => r = some (.int (jI 1)) ∧ n' = n9 ∧ g' = false ∧ w' = w) zNo := by
  refine zTrH.of_run (lv := [some (.ref 5), some (.int s), some (.ref 171), none]) (by decide) (Nat.le_of_ble_eq_true rfl) rfl ?_
  refine zr_aload_n dL_goBack_0 (rfl : 0 + 1 = 1) rfl ?_
  refine zr_iconst dL_goBack_1 (rfl : 1 + 1 = 2) ?_
  refine zr_aload_n dL_goBack_2 (rfl : 2 + 1 = 3) rfl ?_
  refine zr_iload_n dL_goBack_3 (rfl : 3 + 1 = 4) rfl ?_
  refine zr_thV dL_goBack_4 l_L_52 hx h5 rfl rfl rfl (Nat.le_of_ble_eq_true rfl) (Nat.le_of_ble_eq_true rfl) (Nat.le_of_ble_eq_true rfl) ?_
  refine zr_catch (i := 3) (len := 1) [] (0, 9, 12, 15) [(0, 9, 15, 21)] rfl (fun z hz => nomatch hz) (by decide) (by decide) k_L_15 cst_IAE rfl (Or.inr ⟨3, dL_goBack_12, rfl, rfl⟩) (by decide) (rfl : 12 + 1 = 13) rfl ?_
  refine zr_iconst dL_goBack_13 (rfl : 13 + 1 = 14) ?_
  exact zr_iretH dL_goBack_14 rfl ⟨rfl, rfl, rfl, rfl⟩
theorem lt_goBack2 {s : Int32} (h5 : w 5 = some (.inr (6, fs))) (hx : zThr Γ md_X6_goBack (d + 7) [.ref 5, .int s] w zISE) (n9 : Nat) (g9 : Bool) : zTrH Γ md_L_goBack (d + 8) 1 6 [.ref 5, .int s, .ref 171] n9 g9 w (fun r n' g' w' => r = some (.int (jI 2)) ∧ n' = n9 ∧ g' = false ∧ w' = w) zNo := by
  refine zTrH.of_run (lv := [some (.ref 5), some (.int s), some (.ref 171), none]) (by decide) (Nat.le_of_ble_eq_true rfl) rfl ?_
  refine zr_aload_n dL_goBack_0 (rfl : 0 + 1 = 1) rfl ?_
  refine zr_iconst dL_goBack_1 (rfl : 1 + 1 = 2) ?_
  refine zr_aload_n dL_goBack_2 (rfl : 2 + 1 = 3) rfl ?_
  refine zr_iload_n dL_goBack_3 (rfl : 3 + 1 = 4) rfl ?_
  refine zr_thV dL_goBack_4 l_L_52 hx h5 rfl rfl rfl (Nat.le_of_ble_eq_true rfl) (Nat.le_of_ble_eq_true rfl) (Nat.le_of_ble_eq_true rfl) ?_
  refine zr_catch (i := 3) (len := 1) [(0, 9, 12, 15)] (0, 9, 15, 21) [] rfl (fun z hz => by
        rcases List.mem_cons.mp hz with e0 | hz
        · rw [e0]
          exact Or.inr ⟨by decide, _, k_L_15, Or.inr (Or.inr ⟨rfl, rfl⟩)⟩
        exact nomatch hz) (by decide) (by decide) k_L_21 cst_ISE rfl (Or.inr ⟨3, dL_goBack_15, rfl, rfl⟩) (by decide) (rfl : 15 + 1 = 16) rfl ?_
  refine zr_iconst dL_goBack_16 (rfl : 16 + 1 = 17) ?_
  exact zr_iretH dL_goBack_17 rfl ⟨rfl, rfl, rfl, rfl⟩
theorem lo_undo (h5 : w 5 = some (.inr (6, fs))) (ho : w2 171 = some (zla f)) (hx : zFn Γ md_X6_undo (d + 7) [.ref 5] w (some (.int v)) w2) (n9 : Nat) (g9 : Bool) : zTrH Γ md_L_undo (d + 8) 1 6 [.ref 5, .ref 171] n9 g9 w (fun r n' g' w' => r = some (.int (jI 0)) ∧ n' = n9 ∧ g' = g9 ∧ w' = zup w2 171 (zla (vp_updL f (jI 0).toNatClampNeg v.toInt64))) zNo := by
  refine zTrH.of_run (lv := [some (.ref 5), some (.ref 171), none]) (by decide) (Nat.le_of_ble_eq_true rfl) rfl ?_
  refine zr_aload_n dL_undo_0 (rfl : 0 + 1 = 1) rfl ?_
  refine zr_iconst dL_undo_1 (rfl : 1 + 1 = 2) ?_
  refine zr_aload_n dL_undo_2 (rfl : 2 + 1 = 3) rfl ?_
  refine zr_fnV dL_undo_3 (rfl : 3 + 3 = 6) l_L_55 hx h5 rfl rfl rfl (Nat.le_of_ble_eq_true rfl) ?_
  refine zr_i2l dL_undo_6 (rfl : 6 + 1 = 7) ?_
  refine zr_lastR dL_undo_7 (rfl : 7 + 1 = 8) ho lc_in ?_
  refine zr_goto (tgt := 14) dL_undo_8 (by decide) ?_
  refine zr_iconst dL_undo_14 (rfl : 14 + 1 = 15) ?_
  exact zr_iretH dL_undo_15 rfl ⟨rfl, rfl, rfl, rfl⟩
theorem lt_undo1 (h5 : w 5 = some (.inr (6, fs))) (hx : zThr Γ md_X6_undo (d + 7) [.ref 5] w zISE) (n9 : Nat) (g9 : Bool) : zTrH Γ md_L_undo (d + 8) 1 6 [.ref 5, .ref 171] n9 g9 w (fun r n' g' w' => r = some (.int (jI 1)) ∧ n' = n9 ∧ g' = false ∧ w' = w) zNo := by
  refine zTrH.of_run (lv := [some (.ref 5), some (.ref 171), none]) (by decide) (Nat.le_of_ble_eq_true rfl) rfl ?_
  refine zr_aload_n dL_undo_0 (rfl : 0 + 1 = 1) rfl ?_
  refine zr_iconst dL_undo_1 (rfl : 1 + 1 = 2) ?_
  refine zr_aload_n dL_undo_2 (rfl : 2 + 1 = 3) rfl ?_
  refine zr_thV dL_undo_3 l_L_55 hx h5 rfl rfl rfl (Nat.le_of_ble_eq_true rfl) (Nat.le_of_ble_eq_true rfl) (Nat.le_of_ble_eq_true rfl) ?_
  refine zr_catch (i := 2) (len := 1) [] (0, 8, 11, 21) [] rfl (fun z hz => nomatch hz) (by decide) (by decide) k_L_21 cst_ISE rfl (Or.inr ⟨2, dL_undo_11, rfl, rfl⟩) (by decide) (rfl : 11 + 1 = 12) rfl ?_
  refine zr_iconst dL_undo_12 (rfl : 12 + 1 = 13) ?_
  exact zr_iretH dL_undo_13 rfl ⟨rfl, rfl, rfl, rfl⟩
theorem lo_at {c r k : Int32} (h5 : w 5 = some (.inr (6, fs))) (ho : w2 171 = some (zla f)) (hx : zFn Γ md_X6_at (d + 7) [.ref 5, .int c, .int r, .int k] w (some (.int v)) w2) (n9 : Nat) (g9 : Bool) : zTrH Γ md_L_at (d + 8) 1 6 [.ref 5, .int c, .int r, .int k, .ref 171] n9 g9 w (fun r n' g' w' => r = some (.int (jI 0)) ∧ n' = n9 ∧ g' = g9 ∧ w' = zup w2 171 (zla (vp_updL f (jI 0).toNatClampNeg v.toInt64))) zNo := by
  refine zTrH.of_run (lv := [some (.ref 5), some (.int c), some (.int r), some (.int k), some (.ref 171), none]) (by decide) (Nat.le_of_ble_eq_true rfl) rfl ?_
  refine zr_aload dL_at_0 (rfl : 0 + 2 = 2) rfl ?_
  refine zr_iconst dL_at_2 (rfl : 2 + 1 = 3) ?_
  refine zr_aload_n dL_at_3 (rfl : 3 + 1 = 4) rfl ?_
  refine zr_iload_n dL_at_4 (rfl : 4 + 1 = 5) rfl ?_
  refine zr_iload_n dL_at_5 (rfl : 5 + 1 = 6) rfl ?_
  refine zr_iload_n dL_at_6 (rfl : 6 + 1 = 7) rfl ?_
  refine zr_fnV dL_at_7 (rfl : 7 + 3 = 10) l_L_58 hx h5 rfl rfl rfl (Nat.le_of_ble_eq_true rfl) ?_
  refine zr_i2l dL_at_10 (rfl : 10 + 1 = 11) ?_
  refine zr_lastR dL_at_11 (rfl : 11 + 1 = 12) ho lc_in ?_
  refine zr_goto (tgt := 19) dL_at_12 (by decide) ?_
  refine zr_iconst dL_at_19 (rfl : 19 + 1 = 20) ?_
  exact zr_iretH dL_at_20 rfl ⟨rfl, rfl, rfl, rfl⟩
theorem lt_at1 {c r k : Int32} (h5 : w 5 = some (.inr (6, fs))) (hx : zThr Γ md_X6_at (d + 7) [.ref 5, .int c, .int r, .int k] w zIOB) (n9 : Nat) (g9 : Bool) : zTrH Γ md_L_at (d + 8) 1 6 [.ref 5, .int c, .int r, .int k, .ref 171] n9 g9 w (fun r n' g' w' => r = some (.int (jI 1)) ∧ n' = n9 ∧ g' = false ∧ w' = w) zNo := by
  refine zTrH.of_run (lv := [some (.ref 5), some (.int c), some (.int r), some (.int k), some (.ref 171), none]) (by decide) (Nat.le_of_ble_eq_true rfl) rfl ?_
  refine zr_aload dL_at_0 (rfl : 0 + 2 = 2) rfl ?_
  refine zr_iconst dL_at_2 (rfl : 2 + 1 = 3) ?_
  refine zr_aload_n dL_at_3 (rfl : 3 + 1 = 4) rfl ?_
  refine zr_iload_n dL_at_4 (rfl : 4 + 1 = 5) rfl ?_
  refine zr_iload_n dL_at_5 (rfl : 5 + 1 = 6) rfl ?_
  refine zr_iload_n dL_at_6 (rfl : 6 + 1 = 7) rfl ?_
  refine zr_thV dL_at_7 l_L_58 hx h5 rfl rfl rfl (Nat.le_of_ble_eq_true rfl) (Nat.le_of_ble_eq_true rfl) (Nat.le_of_ble_eq_true rfl) ?_
  refine zr_catch (i := 5) (len := 2) [] (0, 12, 15, 13) [] rfl (fun z hz => nomatch hz) (by decide) (by decide) k_L_13 cst_IOB rfl (Or.inl ⟨dL_at_15, rfl⟩) (by decide) (rfl : 15 + 2 = 17) rfl ?_
  refine zr_iconst dL_at_17 (rfl : 17 + 1 = 18) ?_
  exact zr_iretH dL_at_18 rfl ⟨rfl, rfl, rfl, rfl⟩
theorem lo_cardOf {c k : Int32} (h5 : w 5 = some (.inr (6, fs))) (ho : w2 171 = some (zla f)) (hx : zFn Γ md_X6_cardOf (d + 7) [.ref 5, .int c, .int k] w (some (.int v)) w2) (n9 : Nat) (g9 : Bool) : zTrH Γ md_L_cardOf (d + 8) 1 6 [.ref 5, .int c, .int k, .ref 171] n9 g9 w (fun r n' g' w' => r = some (.int (jI 0)) ∧ n' = n9 ∧ g' = g9 ∧ w' = zup w2 171 (zla (vp_updL f (jI 0).toNatClampNeg v.toInt64))) zNo := by
  refine zTrH.of_run (lv := [some (.ref 5), some (.int c), some (.int k), some (.ref 171), none]) (by decide) (Nat.le_of_ble_eq_true rfl) rfl ?_
  refine zr_aload_n dL_cardOf_0 (rfl : 0 + 1 = 1) rfl ?_
  refine zr_iconst dL_cardOf_1 (rfl : 1 + 1 = 2) ?_
  refine zr_aload_n dL_cardOf_2 (rfl : 2 + 1 = 3) rfl ?_
  refine zr_iload_n dL_cardOf_3 (rfl : 3 + 1 = 4) rfl ?_
  refine zr_iload_n dL_cardOf_4 (rfl : 4 + 1 = 5) rfl ?_
  refine zr_fnV dL_cardOf_5 (rfl : 5 + 3 = 8) l_L_61 hx h5 rfl rfl rfl (Nat.le_of_ble_eq_true rfl) ?_
  refine zr_i2l dL_cardOf_8 (rfl : 8 + 1 = 9) ?_
  refine zr_lastR dL_cardOf_9 (rfl : 9 + 1 = 10) ho lc_in ?_
  refine zr_goto (tgt := 21) dL_cardOf_10 (by decide) ?_
  refine zr_iconst dL_cardOf_21 (rfl : 21 + 1 = 22) ?_
  exact zr_iretH dL_cardOf_22 rfl ⟨rfl, rfl, rfl, rfl⟩
theorem lt_cardOf1 {c k : Int32} (h5 : w 5 = some (.inr (6, fs))) (hx : zThr Γ md_X6_cardOf (d + 7) [.ref 5, .int c, .int k] w zIOB) (n9 : Nat) (g9 : Bool) : zTrH Γ md_L_cardOf (d + 8) 1 6 [.ref 5, .int c, .int k, .ref 171] n9 g9 w (fun r n' g' w' => r = some (.int (jI 1)) ∧ n' = n9 ∧ g' = false ∧ w' = w) zNo := by
  refine zTrH.of_run (lv := [some (.ref 5), some (.int c), some (.int k), some (.ref 171), none]) (by decide) (Nat.le_of_ble_eq_true rfl) rfl ?_
  refine zr_aload_n dL_cardOf_0 (rfl : 0 + 1 = 1) rfl ?_
  refine zr_iconst dL_cardOf_1 (rfl : 1 + 1 = 2) ?_
  refine zr_aload_n dL_cardOf_2 (rfl : 2 + 1 = 3) rfl ?_
  refine zr_iload_n dL_cardOf_3 (rfl : 3 + 1 = 4) rfl ?_
  refine zr_iload_n dL_cardOf_4 (rfl : 4 + 1 = 5) rfl ?_
  refine zr_thV dL_cardOf_5 l_L_61 hx h5 rfl rfl rfl (Nat.le_of_ble_eq_true rfl) (Nat.le_of_ble_eq_true rfl) (Nat.le_of_ble_eq_true rfl) ?_
  refine zr_catch (i := 4) (len := 2) [] (0, 10, 13, 13) [(0, 10, 17, 15)] rfl (fun z hz => nomatch hz) (by decide) (by decide) k_L_13 cst_IOB rfl (Or.inl ⟨dL_cardOf_13, rfl⟩) (by decide) (rfl : 13 + 2 = 15) rfl ?_
  refine zr_iconst dL_cardOf_15 (rfl : 15 + 1 = 16) ?_
  exact zr_iretH dL_cardOf_16 rfl ⟨rfl, rfl, rfl, rfl⟩
theorem lt_cardOf2 {c k : Int32} (h5 : w 5 = some (.inr (6, fs))) (hx : zThr Γ md_X6_cardOf (d + 7) [.ref 5, .int c, .int k] w zIAE) (n9 : Nat) (g9 : Bool) : zTrH Γ md_L_cardOf (d + 8) 1 6 [.ref 5, .int c, .int k, .ref 171] n9 g9 w (fun r n' g' w' => r = some (.int (jI 2)) ∧ n' = n9 ∧ g' = false ∧ w' = w) zNo := by
  refine zTrH.of_run (lv := [some (.ref 5), some (.int c), some (.int k), some (.ref 171), none]) (by decide) (Nat.le_of_ble_eq_true rfl) rfl ?_
  refine zr_aload_n dL_cardOf_0 (rfl : 0 + 1 = 1) rfl ?_
  refine zr_iconst dL_cardOf_1 (rfl : 1 + 1 = 2) ?_
  refine zr_aload_n dL_cardOf_2 (rfl : 2 + 1 = 3) rfl ?_
  refine zr_iload_n dL_cardOf_3 (rfl : 3 + 1 = 4) rfl ?_
  refine zr_iload_n dL_cardOf_4 (rfl : 4 + 1 = 5) rfl ?_
  refine zr_thV dL_cardOf_5 l_L_61 hx h5 rfl rfl rfl (Nat.le_of_ble_eq_true rfl) (Nat.le_of_ble_eq_true rfl) (Nat.le_of_ble_eq_true rfl) ?_
  refine zr_catch (i := 4) (len := 2) [(0, 10, 13, 13)] (0, 10, 17, 15) [] rfl (fun z hz => by
        rcases List.mem_cons.mp hz with e0 | hz
        · rw [e0]
          exact Or.inr ⟨by decide, _, k_L_13, Or.inl ⟨rfl, rfl⟩⟩
        exact nomatch hz) (by decide) (by decide) k_L_15 cst_IAE rfl (Or.inl ⟨dL_cardOf_17, rfl⟩) (by decide) (rfl : 17 + 2 = 19) rfl ?_
  refine zr_iconst dL_cardOf_19 (rfl : 19 + 1 = 20) ?_
  exact zr_iretH dL_cardOf_20 rfl ⟨rfl, rfl, rfl, rfl⟩
theorem lo_numberOf {n k : Int32} (h5 : w 5 = some (.inr (6, fs))) (ho : w2 171 = some (zla f)) (hx : zFn Γ md_X6_numberOf (d + 7) [.ref 5, .int n, .int k] w (some (.int v)) w2) (n9 : Nat) (g9 : Bool) : zTrH Γ md_L_numberOf (d + 8) 1 6 [.ref 5, .int n, .int k, .ref 171] n9 g9 w (fun r n' g' w' => r = some (.int (jI 0)) ∧ n' = n9 ∧ g' = g9 ∧ w' = zup w2 171 (zla (vp_updL f (jI 0).toNatClampNeg v.toInt64))) zNo := by
  refine zTrH.of_run (lv := [some (.ref 5), some (.int n), some (.int k), some (.ref 171), none]) (by decide) (Nat.le_of_ble_eq_true rfl) rfl ?_
  refine zr_aload_n dL_numberOf_0 (rfl : 0 + 1 = 1) rfl ?_
  refine zr_iconst dL_numberOf_1 (rfl : 1 + 1 = 2) ?_
  refine zr_aload_n dL_numberOf_2 (rfl : 2 + 1 = 3) rfl ?_
  refine zr_iload_n dL_numberOf_3 (rfl : 3 + 1 = 4) rfl ?_
  refine zr_iload_n dL_numberOf_4 (rfl : 4 + 1 = 5) rfl ?_
  refine zr_fnV dL_numberOf_5 (rfl : 5 + 3 = 8) l_L_64 hx h5 rfl rfl rfl (Nat.le_of_ble_eq_true rfl) ?_
  refine zr_i2l dL_numberOf_8 (rfl : 8 + 1 = 9) ?_
  refine zr_lastR dL_numberOf_9 (rfl : 9 + 1 = 10) ho lc_in ?_
  refine zr_goto (tgt := 17) dL_numberOf_10 (by decide) ?_
  refine zr_iconst dL_numberOf_17 (rfl : 17 + 1 = 18) ?_
  exact zr_iretH dL_numberOf_18 rfl ⟨rfl, rfl, rfl, rfl⟩
theorem lt_numberOf1 {n k : Int32} (h5 : w 5 = some (.inr (6, fs))) (hx : zThr Γ md_X6_numberOf (d + 7) [.ref 5, .int n, .int k] w zIAE) (n9 : Nat) (g9 : Bool) : zTrH Γ md_L_numberOf (d + 8) 1 6 [.ref 5, .int n, .int k, .ref 171] n9 g9 w (fun r n' g' w' => r = some (.int (jI 1)) ∧ n' = n9 ∧ g' = false ∧ w' = w) zNo := by
  refine zTrH.of_run (lv := [some (.ref 5), some (.int n), some (.int k), some (.ref 171), none]) (by decide) (Nat.le_of_ble_eq_true rfl) rfl ?_
  refine zr_aload_n dL_numberOf_0 (rfl : 0 + 1 = 1) rfl ?_
  refine zr_iconst dL_numberOf_1 (rfl : 1 + 1 = 2) ?_
  refine zr_aload_n dL_numberOf_2 (rfl : 2 + 1 = 3) rfl ?_
  refine zr_iload_n dL_numberOf_3 (rfl : 3 + 1 = 4) rfl ?_
  refine zr_iload_n dL_numberOf_4 (rfl : 4 + 1 = 5) rfl ?_
  refine zr_thV dL_numberOf_5 l_L_64 hx h5 rfl rfl rfl (Nat.le_of_ble_eq_true rfl) (Nat.le_of_ble_eq_true rfl) (Nat.le_of_ble_eq_true rfl) ?_
  refine zr_catch (i := 4) (len := 2) [] (0, 10, 13, 15) [] rfl (fun z hz => nomatch hz) (by decide) (by decide) k_L_15 cst_IAE rfl (Or.inl ⟨dL_numberOf_13, rfl⟩) (by decide) (rfl : 13 + 2 = 15) rfl ?_
  refine zr_iconst dL_numberOf_15 (rfl : 15 + 1 = 16) ?_
  exact zr_iretH dL_numberOf_16 rfl ⟨rfl, rfl, rfl, rfl⟩
theorem lo_call {a k : Int32} (h5 : w 5 = some (.inr (6, fs))) (ho : w2 171 = some (zla f)) (hx : zFn Γ md_X6_call (d + 7) [.ref 5, .int a, .int k] w (some (.int v)) w2) (n9 : Nat) (g9 : Bool) : zTrH Γ md_L_call (d + 8) 1 6 [.ref 5, .int a, .int k, .ref 171] n9 g9 w (fun r n' g' w' => r = some (.int (jI 0)) ∧ n' = n9 ∧ g' = g9 ∧ w' = zup w2 171 (zla (vp_updL f (jI 0).toNatClampNeg v.toInt64))) zNo := by
  refine zTrH.of_run (lv := [some (.ref 5), some (.int a), some (.int k), some (.ref 171), none]) (by decide) (Nat.le_of_ble_eq_true rfl) rfl ?_
  refine zr_aload_n dL_call_0 (rfl : 0 + 1 = 1) rfl ?_
  refine zr_iconst dL_call_1 (rfl : 1 + 1 = 2) ?_
  refine zr_aload_n dL_call_2 (rfl : 2 + 1 = 3) rfl ?_
  refine zr_iload_n dL_call_3 (rfl : 3 + 1 = 4) rfl ?_
  refine zr_iload_n dL_call_4 (rfl : 4 + 1 = 5) rfl ?_
  refine zr_fnV dL_call_5 (rfl : 5 + 3 = 8) l_L_67 hx h5 rfl rfl rfl (Nat.le_of_ble_eq_true rfl) ?_
  refine zr_i2l dL_call_8 (rfl : 8 + 1 = 9) ?_
  refine zr_lastR dL_call_9 (rfl : 9 + 1 = 10) ho lc_in ?_
  refine zr_goto (tgt := 17) dL_call_10 (by decide) ?_
  refine zr_iconst dL_call_17 (rfl : 17 + 1 = 18) ?_
  exact zr_iretH dL_call_18 rfl ⟨rfl, rfl, rfl, rfl⟩
theorem lt_call1 {a k : Int32} (h5 : w 5 = some (.inr (6, fs))) (hx : zThr Γ md_X6_call (d + 7) [.ref 5, .int a, .int k] w zIAE) (n9 : Nat) (g9 : Bool) : zTrH Γ md_L_call (d + 8) 1 6 [.ref 5, .int a, .int k, .ref 171] n9 g9 w (fun r n' g' w' => r = some (.int (jI 1)) ∧ n' = n9 ∧ g' = false ∧ w' = w) zNo := by
  refine zTrH.of_run (lv := [some (.ref 5), some (.int a), some (.int k), some (.ref 171), none]) (by decide) (Nat.le_of_ble_eq_true rfl) rfl ?_
  refine zr_aload_n dL_call_0 (rfl : 0 + 1 = 1) rfl ?_
  refine zr_iconst dL_call_1 (rfl : 1 + 1 = 2) ?_
  refine zr_aload_n dL_call_2 (rfl : 2 + 1 = 3) rfl ?_
  refine zr_iload_n dL_call_3 (rfl : 3 + 1 = 4) rfl ?_
  refine zr_iload_n dL_call_4 (rfl : 4 + 1 = 5) rfl ?_
  refine zr_thV dL_call_5 l_L_67 hx h5 rfl rfl rfl (Nat.le_of_ble_eq_true rfl) (Nat.le_of_ble_eq_true rfl) (Nat.le_of_ble_eq_true rfl) ?_
  refine zr_catch (i := 4) (len := 2) [] (0, 10, 13, 15) [] rfl (fun z hz => nomatch hz) (by decide) (by decide) k_L_15 cst_IAE rfl (Or.inl ⟨dL_call_13, rfl⟩) (by decide) (rfl : 13 + 2 = 15) rfl ?_
  refine zr_iconst dL_call_15 (rfl : 15 + 1 = 16) ?_
  exact zr_iretH dL_call_16 rfl ⟨rfl, rfl, rfl, rfl⟩
theorem lo_gameOf {g k : Int32} (h5 : w 5 = some (.inr (6, fs))) (ho : w2 171 = some (zla f)) (hx : zFn Γ md_X6_gameOf (d + 7) [.ref 5, .int g, .int k] w (some (.int v)) w2) (n9 : Nat) (g9 : Bool) : zTrH Γ md_L_gameOf (d + 8) 1 6 [.ref 5, .int g, .int k, .ref 171] n9 g9 w (fun r n' g' w' => r = some (.int (jI 0)) ∧ n' = n9 ∧ g' = g9 ∧ w' = zup w2 171 (zla (vp_updL f (jI 0).toNatClampNeg v.toInt64))) zNo := by
  refine zTrH.of_run (lv := [some (.ref 5), some (.int g), some (.int k), some (.ref 171), none]) (by decide) (Nat.le_of_ble_eq_true rfl) rfl ?_
  refine zr_aload_n dL_gameOf_0 (rfl : 0 + 1 = 1) rfl ?_
  refine zr_iconst dL_gameOf_1 (rfl : 1 + 1 = 2) ?_
  refine zr_aload_n dL_gameOf_2 (rfl : 2 + 1 = 3) rfl ?_
  refine zr_iload_n dL_gameOf_3 (rfl : 3 + 1 = 4) rfl ?_
  refine zr_iload_n dL_gameOf_4 (rfl : 4 + 1 = 5) rfl ?_
  refine zr_fnV dL_gameOf_5 (rfl : 5 + 3 = 8) l_L_70 hx h5 rfl rfl rfl (Nat.le_of_ble_eq_true rfl) ?_
  refine zr_i2l dL_gameOf_8 (rfl : 8 + 1 = 9) ?_
  refine zr_lastR dL_gameOf_9 (rfl : 9 + 1 = 10) ho lc_in ?_
  refine zr_goto (tgt := 21) dL_gameOf_10 (by decide) ?_
  refine zr_iconst dL_gameOf_21 (rfl : 21 + 1 = 22) ?_
  exact zr_iretH dL_gameOf_22 rfl ⟨rfl, rfl, rfl, rfl⟩
theorem lt_gameOf1 {g k : Int32} (h5 : w 5 = some (.inr (6, fs))) (hx : zThr Γ md_X6_gameOf (d + 7) [.ref 5, .int g, .int k] w zIOB) (n9 : Nat) (g9 : Bool) : zTrH Γ md_L_gameOf (d + 8) 1 6 [.ref 5, .int g, .int k, .ref 171] n9 g9 w (fun r n' g' w' => r = some (.int (jI 1)) ∧ n' = n9 ∧ g' = false ∧ w' = w) zNo := by
  refine zTrH.of_run (lv := [some (.ref 5), some (.int g), some (.int k), some (.ref 171), none]) (by decide) (Nat.le_of_ble_eq_true rfl) rfl ?_
  refine zr_aload_n dL_gameOf_0 (rfl : 0 + 1 = 1) rfl ?_
  refine zr_iconst dL_gameOf_1 (rfl : 1 + 1 = 2) ?_
  refine zr_aload_n dL_gameOf_2 (rfl : 2 + 1 = 3) rfl ?_
  refine zr_iload_n dL_gameOf_3 (rfl : 3 + 1 = 4) rfl ?_
  refine zr_iload_n dL_gameOf_4 (rfl : 4 + 1 = 5) rfl ?_
  refine zr_thV dL_gameOf_5 l_L_70 hx h5 rfl rfl rfl (Nat.le_of_ble_eq_true rfl) (Nat.le_of_ble_eq_true rfl) (Nat.le_of_ble_eq_true rfl) ?_
  refine zr_catch (i := 4) (len := 2) [] (0, 10, 13, 13) [(0, 10, 17, 15)] rfl (fun z hz => nomatch hz) (by decide) (by decide) k_L_13 cst_IOB rfl (Or.inl ⟨dL_gameOf_13, rfl⟩) (by decide) (rfl : 13 + 2 = 15) rfl ?_
  refine zr_iconst dL_gameOf_15 (rfl : 15 + 1 = 16) ?_
  exact zr_iretH dL_gameOf_16 rfl ⟨rfl, rfl, rfl, rfl⟩
theorem lt_gameOf2 {g k : Int32} (h5 : w 5 = some (.inr (6, fs))) (hx : zThr Γ md_X6_gameOf (d + 7) [.ref 5, .int g, .int k] w zIAE) (n9 : Nat) (g9 : Bool) : zTrH Γ md_L_gameOf (d + 8) 1 6 [.ref 5, .int g, .int k, .ref 171] n9 g9 w (fun r n' g' w' => r = some (.int (jI 2)) ∧ n' = n9 ∧ g' = false ∧ w' = w) zNo := by
  refine zTrH.of_run (lv := [some (.ref 5), some (.int g), some (.int k), some (.ref 171), none]) (by decide) (Nat.le_of_ble_eq_true rfl) rfl ?_
  refine zr_aload_n dL_gameOf_0 (rfl : 0 + 1 = 1) rfl ?_
  refine zr_iconst dL_gameOf_1 (rfl : 1 + 1 = 2) ?_
  refine zr_aload_n dL_gameOf_2 (rfl : 2 + 1 = 3) rfl ?_
  refine zr_iload_n dL_gameOf_3 (rfl : 3 + 1 = 4) rfl ?_
  refine zr_iload_n dL_gameOf_4 (rfl : 4 + 1 = 5) rfl ?_
  refine zr_thV dL_gameOf_5 l_L_70 hx h5 rfl rfl rfl (Nat.le_of_ble_eq_true rfl) (Nat.le_of_ble_eq_true rfl) (Nat.le_of_ble_eq_true rfl) ?_
  refine zr_catch (i := 4) (len := 2) [(0, 10, 13, 13)] (0, 10, 17, 15) [] rfl (fun z hz => by
        rcases List.mem_cons.mp hz with e0 | hz
        · rw [e0]
          exact Or.inr ⟨by decide, _, k_L_13, Or.inl ⟨rfl, rfl⟩⟩
        exact nomatch hz) (by decide) (by decide) k_L_15 cst_IAE rfl (Or.inl ⟨dL_gameOf_17, rfl⟩) (by decide) (rfl : 17 + 2 = 19) rfl ?_
  refine zr_iconst dL_gameOf_19 (rfl : 19 + 1 = 20) ?_
  exact zr_iretH dL_gameOf_20 rfl ⟨rfl, rfl, rfl, rfl⟩
theorem lo_count {k : Int32} (h5 : w 5 = some (.inr (6, fs))) (ho : w2 171 = some (zla f)) (hx : zFn Γ md_X6_count (d + 7) [.ref 5, .int k] w (some (.int v)) w2) (n9 : Nat) (g9 : Bool) : zTrH Γ md_L_count (d + 8) 1 6 [.ref 5, .int k, .ref 171] n9 g9 w (fun r n' g' w' => r = some (.int (jI 0)) ∧ n' = n9 ∧ g' = g9 ∧ w' = zup w2 171 (zla (vp_updL f (jI 0).toNatClampNeg v.toInt64))) zNo := by
  refine zTrH.of_run (lv := [some (.ref 5), some (.int k), some (.ref 171), none]) (by decide) (Nat.le_of_ble_eq_true rfl) rfl ?_
  refine zr_aload_n dL_count_0 (rfl : 0 + 1 = 1) rfl ?_
  refine zr_iconst dL_count_1 (rfl : 1 + 1 = 2) ?_
  refine zr_aload_n dL_count_2 (rfl : 2 + 1 = 3) rfl ?_
  refine zr_iload_n dL_count_3 (rfl : 3 + 1 = 4) rfl ?_
  refine zr_fnV dL_count_4 (rfl : 4 + 3 = 7) l_L_73 hx h5 rfl rfl rfl (Nat.le_of_ble_eq_true rfl) ?_
  refine zr_i2l dL_count_7 (rfl : 7 + 1 = 8) ?_
  refine zr_lastR dL_count_8 (rfl : 8 + 1 = 9) ho lc_in ?_
  refine zr_goto (tgt := 15) dL_count_9 (by decide) ?_
  refine zr_iconst dL_count_15 (rfl : 15 + 1 = 16) ?_
  exact zr_iretH dL_count_16 rfl ⟨rfl, rfl, rfl, rfl⟩
theorem lt_count1 {k : Int32} (h5 : w 5 = some (.inr (6, fs))) (hx : zThr Γ md_X6_count (d + 7) [.ref 5, .int k] w zIAE) (n9 : Nat) (g9 : Bool) : zTrH Γ md_L_count (d + 8) 1 6 [.ref 5, .int k, .ref 171] n9 g9 w (fun r n' g' w' => r = some (.int (jI 1)) ∧ n' = n9 ∧ g' = false ∧ w' = w) zNo := by
  refine zTrH.of_run (lv := [some (.ref 5), some (.int k), some (.ref 171), none]) (by decide) (Nat.le_of_ble_eq_true rfl) rfl ?_
  refine zr_aload_n dL_count_0 (rfl : 0 + 1 = 1) rfl ?_
  refine zr_iconst dL_count_1 (rfl : 1 + 1 = 2) ?_
  refine zr_aload_n dL_count_2 (rfl : 2 + 1 = 3) rfl ?_
  refine zr_iload_n dL_count_3 (rfl : 3 + 1 = 4) rfl ?_
  refine zr_thV dL_count_4 l_L_73 hx h5 rfl rfl rfl (Nat.le_of_ble_eq_true rfl) (Nat.le_of_ble_eq_true rfl) (Nat.le_of_ble_eq_true rfl) ?_
  refine zr_catch (i := 3) (len := 1) [] (0, 9, 12, 15) [] rfl (fun z hz => nomatch hz) (by decide) (by decide) k_L_15 cst_IAE rfl (Or.inr ⟨3, dL_count_12, rfl, rfl⟩) (by decide) (rfl : 12 + 1 = 13) rfl ?_
  refine zr_iconst dL_count_13 (rfl : 13 + 1 = 14) ?_
  exact zr_iretH dL_count_14 rfl ⟨rfl, rfl, rfl, rfl⟩
theorem lo_setting {s : Int32} (h5 : w 5 = some (.inr (6, fs))) (ho : w2 171 = some (zla f)) (hx : zFn Γ md_X6_setting (d + 7) [.ref 5, .int s] w (some (.int v)) w2) (n9 : Nat) (g9 : Bool) : zTrH Γ md_L_setting (d + 8) 1 6 [.ref 5, .int s, .ref 171] n9 g9 w (fun r n' g' w' => r = some (.int (jI 0)) ∧ n' = n9 ∧ g' = g9 ∧ w' = zup w2 171 (zla (vp_updL f (jI 0).toNatClampNeg v.toInt64))) zNo := by
  refine zTrH.of_run (lv := [some (.ref 5), some (.int s), some (.ref 171), none]) (by decide) (Nat.le_of_ble_eq_true rfl) rfl ?_
  refine zr_aload_n dL_setting_0 (rfl : 0 + 1 = 1) rfl ?_
  refine zr_iconst dL_setting_1 (rfl : 1 + 1 = 2) ?_
  refine zr_aload_n dL_setting_2 (rfl : 2 + 1 = 3) rfl ?_
  refine zr_iload_n dL_setting_3 (rfl : 3 + 1 = 4) rfl ?_
  refine zr_fnV dL_setting_4 (rfl : 4 + 3 = 7) l_L_76 hx h5 rfl rfl rfl (Nat.le_of_ble_eq_true rfl) ?_
  refine zr_i2l dL_setting_7 (rfl : 7 + 1 = 8) ?_
  refine zr_lastR dL_setting_8 (rfl : 8 + 1 = 9) ho lc_in ?_
  refine zr_goto (tgt := 15) dL_setting_9 (by decide) ?_
  refine zr_iconst dL_setting_15 (rfl : 15 + 1 = 16) ?_
  exact zr_iretH dL_setting_16 rfl ⟨rfl, rfl, rfl, rfl⟩
theorem lt_setting1 {s : Int32} (h5 : w 5 = some (.inr (6, fs))) (hx : zThr Γ md_X6_setting (d + 7) [.ref 5, .int s] w zIOB) (n9 : Nat) (g9 : Bool) : zTrH Γ md_L_setting (d + 8) 1 6 [.ref 5, .int s, .ref 171] n9 g9 w (fun r n' g' w' => r = some (.int (jI 1)) ∧ n' = n9 ∧ g' = false ∧ w' = w) zNo := by
  refine zTrH.of_run (lv := [some (.ref 5), some (.int s), some (.ref 171), none]) (by decide) (Nat.le_of_ble_eq_true rfl) rfl ?_
  refine zr_aload_n dL_setting_0 (rfl : 0 + 1 = 1) rfl ?_
  refine zr_iconst dL_setting_1 (rfl : 1 + 1 = 2) ?_
  refine zr_aload_n dL_setting_2 (rfl : 2 + 1 = 3) rfl ?_
  refine zr_iload_n dL_setting_3 (rfl : 3 + 1 = 4) rfl ?_
  refine zr_thV dL_setting_4 l_L_76 hx h5 rfl rfl rfl (Nat.le_of_ble_eq_true rfl) (Nat.le_of_ble_eq_true rfl) (Nat.le_of_ble_eq_true rfl) ?_
  refine zr_catch (i := 3) (len := 1) [] (0, 9, 12, 13) [] rfl (fun z hz => nomatch hz) (by decide) (by decide) k_L_13 cst_IOB rfl (Or.inr ⟨3, dL_setting_12, rfl, rfl⟩) (by decide) (rfl : 12 + 1 = 13) rfl ?_
  refine zr_iconst dL_setting_13 (rfl : 13 + 1 = 14) ?_
  exact zr_iretH dL_setting_14 rfl ⟨rfl, rfl, rfl, rfl⟩
theorem lo_whyNot {c r n : Int32} (h5 : w 5 = some (.inr (6, fs))) (ho : w2 171 = some (zla f)) (hx : zFn Γ md_X6_whyNot (d + 7) [.ref 5, .int c, .int r, .int n] w (some (.int v)) w2) (n9 : Nat) (g9 : Bool) : zTrH Γ md_L_whyNot (d + 8) 1 6 [.ref 5, .int c, .int r, .int n, .ref 171] n9 g9 w (fun r n' g' w' => r = some (.int (jI 0)) ∧ n' = n9 ∧ g' = g9 ∧ w' = zup w2 171 (zla (vp_updL f (jI 0).toNatClampNeg v.toInt64))) zNo := by
  refine zTrH.of_run (lv := [some (.ref 5), some (.int c), some (.int r), some (.int n), some (.ref 171), none]) (by decide) (Nat.le_of_ble_eq_true rfl) rfl ?_
  refine zr_aload dL_whyNot_0 (rfl : 0 + 2 = 2) rfl ?_
  refine zr_iconst dL_whyNot_2 (rfl : 2 + 1 = 3) ?_
  refine zr_aload_n dL_whyNot_3 (rfl : 3 + 1 = 4) rfl ?_
  refine zr_iload_n dL_whyNot_4 (rfl : 4 + 1 = 5) rfl ?_
  refine zr_iload_n dL_whyNot_5 (rfl : 5 + 1 = 6) rfl ?_
  refine zr_iload_n dL_whyNot_6 (rfl : 6 + 1 = 7) rfl ?_
  refine zr_fnV dL_whyNot_7 (rfl : 7 + 3 = 10) l_L_79 hx h5 rfl rfl rfl (Nat.le_of_ble_eq_true rfl) ?_
  refine zr_i2l dL_whyNot_10 (rfl : 10 + 1 = 11) ?_
  refine zr_lastR dL_whyNot_11 (rfl : 11 + 1 = 12) ho lc_in ?_
  refine zr_goto (tgt := 23) dL_whyNot_12 (by decide) ?_
  refine zr_iconst dL_whyNot_23 (rfl : 23 + 1 = 24) ?_
  exact zr_iretH dL_whyNot_24 rfl ⟨rfl, rfl, rfl, rfl⟩
theorem lt_whyNot1 {c r n : Int32} (h5 : w 5 = some (.inr (6, fs))) (hx : zThr Γ md_X6_whyNot (d + 7) [.ref 5, .int c, .int r, .int n] w zIOB) (n9 : Nat) (g9 : Bool) : zTrH Γ md_L_whyNot (d + 8) 1 6 [.ref 5, .int c, .int r, .int n, .ref 171] n9 g9 w (fun r n' g' w' => r = some (.int (jI 1)) ∧ n' = n9 ∧ g' = false ∧ w' = w) zNo := by
  refine zTrH.of_run (lv := [some (.ref 5), some (.int c), some (.int r), some (.int n), some (.ref 171), none]) (by decide) (Nat.le_of_ble_eq_true rfl) rfl ?_
  refine zr_aload dL_whyNot_0 (rfl : 0 + 2 = 2) rfl ?_
  refine zr_iconst dL_whyNot_2 (rfl : 2 + 1 = 3) ?_
  refine zr_aload_n dL_whyNot_3 (rfl : 3 + 1 = 4) rfl ?_
  refine zr_iload_n dL_whyNot_4 (rfl : 4 + 1 = 5) rfl ?_
  refine zr_iload_n dL_whyNot_5 (rfl : 5 + 1 = 6) rfl ?_
  refine zr_iload_n dL_whyNot_6 (rfl : 6 + 1 = 7) rfl ?_
  refine zr_thV dL_whyNot_7 l_L_79 hx h5 rfl rfl rfl (Nat.le_of_ble_eq_true rfl) (Nat.le_of_ble_eq_true rfl) (Nat.le_of_ble_eq_true rfl) ?_
  refine zr_catch (i := 5) (len := 2) [] (0, 12, 15, 13) [(0, 12, 19, 15)] rfl (fun z hz => nomatch hz) (by decide) (by decide) k_L_13 cst_IOB rfl (Or.inl ⟨dL_whyNot_15, rfl⟩) (by decide) (rfl : 15 + 2 = 17) rfl ?_
  refine zr_iconst dL_whyNot_17 (rfl : 17 + 1 = 18) ?_
  exact zr_iretH dL_whyNot_18 rfl ⟨rfl, rfl, rfl, rfl⟩
theorem lt_whyNot2 {c r n : Int32} (h5 : w 5 = some (.inr (6, fs))) (hx : zThr Γ md_X6_whyNot (d + 7) [.ref 5, .int c, .int r, .int n] w zIAE) (n9 : Nat) (g9 : Bool) : zTrH Γ md_L_whyNot (d + 8) 1 6 [.ref 5, .int c, .int r, .int n, .ref 171] n9 g9 w (fun r n' g' w' => r = some (.int (jI 2)) ∧ n' = n9 ∧ g' = false ∧ w' = w) zNo := by
  refine zTrH.of_run (lv := [some (.ref 5), some (.int c), some (.int r), some (.int n), some (.ref 171), none]) (by decide) (Nat.le_of_ble_eq_true rfl) rfl ?_
  refine zr_aload dL_whyNot_0 (rfl : 0 + 2 = 2) rfl ?_
  refine zr_iconst dL_whyNot_2 (rfl : 2 + 1 = 3) ?_
  refine zr_aload_n dL_whyNot_3 (rfl : 3 + 1 = 4) rfl ?_
  refine zr_iload_n dL_whyNot_4 (rfl : 4 + 1 = 5) rfl ?_
  refine zr_iload_n dL_whyNot_5 (rfl : 5 + 1 = 6) rfl ?_
  refine zr_iload_n dL_whyNot_6 (rfl : 6 + 1 = 7) rfl ?_
  refine zr_thV dL_whyNot_7 l_L_79 hx h5 rfl rfl rfl (Nat.le_of_ble_eq_true rfl) (Nat.le_of_ble_eq_true rfl) (Nat.le_of_ble_eq_true rfl) ?_
  refine zr_catch (i := 5) (len := 2) [(0, 12, 15, 13)] (0, 12, 19, 15) [] rfl (fun z hz => by
        rcases List.mem_cons.mp hz with e0 | hz
        · rw [e0]
          exact Or.inr ⟨by decide, _, k_L_13, Or.inl ⟨rfl, rfl⟩⟩
        exact nomatch hz) (by decide) (by decide) k_L_15 cst_IAE rfl (Or.inl ⟨dL_whyNot_19, rfl⟩) (by decide) (rfl : 19 + 2 = 21) rfl ?_
  refine zr_iconst dL_whyNot_21 (rfl : 21 + 1 = 22) ?_
  exact zr_iretH dL_whyNot_22 rfl ⟨rfl, rfl, rfl, rfl⟩
theorem lo_ifClaimed {c g : Int32} (h5 : w 5 = some (.inr (6, fs))) (ho : w2 171 = some (zla f)) (hx : zFn Γ md_X6_ifClaimed (d + 7) [.ref 5, .int c, .int g] w (some (.int v)) w2) (n9 : Nat) (g9 : Bool) : zTrH Γ md_L_ifClaimed (d + 8) 1 6 [.ref 5, .int c, .int g, .ref 171] n9 g9 w (fun r n' g' w' => r = some (.int (jI 0)) ∧ n' = n9 ∧ g' = g9 ∧ w' = zup w2 171 (zla (vp_updL f (jI 0).toNatClampNeg v.toInt64))) zNo := by
  refine zTrH.of_run (lv := [some (.ref 5), some (.int c), some (.int g), some (.ref 171), none]) (by decide) (Nat.le_of_ble_eq_true rfl) rfl ?_
  refine zr_aload_n dL_ifClaimed_0 (rfl : 0 + 1 = 1) rfl ?_
  refine zr_iconst dL_ifClaimed_1 (rfl : 1 + 1 = 2) ?_
  refine zr_aload_n dL_ifClaimed_2 (rfl : 2 + 1 = 3) rfl ?_
  refine zr_iload_n dL_ifClaimed_3 (rfl : 3 + 1 = 4) rfl ?_
  refine zr_iload_n dL_ifClaimed_4 (rfl : 4 + 1 = 5) rfl ?_
  refine zr_fnV dL_ifClaimed_5 (rfl : 5 + 3 = 8) l_L_82 hx h5 rfl rfl rfl (Nat.le_of_ble_eq_true rfl) ?_
  refine zr_i2l dL_ifClaimed_8 (rfl : 8 + 1 = 9) ?_
  refine zr_lastR dL_ifClaimed_9 (rfl : 9 + 1 = 10) ho lc_in ?_
  refine zr_goto (tgt := 17) dL_ifClaimed_10 (by decide) ?_
  refine zr_iconst dL_ifClaimed_17 (rfl : 17 + 1 = 18) ?_
  exact zr_iretH dL_ifClaimed_18 rfl ⟨rfl, rfl, rfl, rfl⟩
theorem lt_ifClaimed1 {c g : Int32} (h5 : w 5 = some (.inr (6, fs))) (hx : zThr Γ md_X6_ifClaimed (d + 7) [.ref 5, .int c, .int g] w zIOB) (n9 : Nat) (g9 : Bool) : zTrH Γ md_L_ifClaimed (d + 8) 1 6 [.ref 5, .int c, .int g, .ref 171] n9 g9 w (fun r n' g' w' => r = some (.int (jI 1)) ∧ n' = n9 ∧ g' = false ∧ w' = w) zNo := by
  refine zTrH.of_run (lv := [some (.ref 5), some (.int c), some (.int g), some (.ref 171), none]) (by decide) (Nat.le_of_ble_eq_true rfl) rfl ?_
  refine zr_aload_n dL_ifClaimed_0 (rfl : 0 + 1 = 1) rfl ?_
  refine zr_iconst dL_ifClaimed_1 (rfl : 1 + 1 = 2) ?_
  refine zr_aload_n dL_ifClaimed_2 (rfl : 2 + 1 = 3) rfl ?_
  refine zr_iload_n dL_ifClaimed_3 (rfl : 3 + 1 = 4) rfl ?_
  refine zr_iload_n dL_ifClaimed_4 (rfl : 4 + 1 = 5) rfl ?_
  refine zr_thV dL_ifClaimed_5 l_L_82 hx h5 rfl rfl rfl (Nat.le_of_ble_eq_true rfl) (Nat.le_of_ble_eq_true rfl) (Nat.le_of_ble_eq_true rfl) ?_
  refine zr_catch (i := 4) (len := 2) [] (0, 10, 13, 13) [] rfl (fun z hz => nomatch hz) (by decide) (by decide) k_L_13 cst_IOB rfl (Or.inl ⟨dL_ifClaimed_13, rfl⟩) (by decide) (rfl : 13 + 2 = 15) rfl ?_
  refine zr_iconst dL_ifClaimed_15 (rfl : 15 + 1 = 16) ?_
  exact zr_iretH dL_ifClaimed_16 rfl ⟨rfl, rfl, rfl, rfl⟩
theorem lo_missing {c g k : Int32} (h5 : w 5 = some (.inr (6, fs))) (ho : w2 171 = some (zla f)) (hx : zFn Γ md_X6_missing (d + 7) [.ref 5, .int c, .int g, .int k] w (some (.int v)) w2) (n9 : Nat) (g9 : Bool) : zTrH Γ md_L_missing (d + 8) 1 6 [.ref 5, .int c, .int g, .int k, .ref 171] n9 g9 w (fun r n' g' w' => r = some (.int (jI 0)) ∧ n' = n9 ∧ g' = g9 ∧ w' = zup w2 171 (zla (vp_updL f (jI 0).toNatClampNeg v.toInt64))) zNo := by
  refine zTrH.of_run (lv := [some (.ref 5), some (.int c), some (.int g), some (.int k), some (.ref 171), none]) (by decide) (Nat.le_of_ble_eq_true rfl) rfl ?_
  refine zr_aload dL_missing_0 (rfl : 0 + 2 = 2) rfl ?_
  refine zr_iconst dL_missing_2 (rfl : 2 + 1 = 3) ?_
  refine zr_aload_n dL_missing_3 (rfl : 3 + 1 = 4) rfl ?_
  refine zr_iload_n dL_missing_4 (rfl : 4 + 1 = 5) rfl ?_
  refine zr_iload_n dL_missing_5 (rfl : 5 + 1 = 6) rfl ?_
  refine zr_iload_n dL_missing_6 (rfl : 6 + 1 = 7) rfl ?_
  refine zr_fnV dL_missing_7 (rfl : 7 + 3 = 10) l_L_85 hx h5 rfl rfl rfl (Nat.le_of_ble_eq_true rfl) ?_
  refine zr_i2l dL_missing_10 (rfl : 10 + 1 = 11) ?_
  refine zr_lastR dL_missing_11 (rfl : 11 + 1 = 12) ho lc_in ?_
  refine zr_goto (tgt := 23) dL_missing_12 (by decide) ?_
  refine zr_iconst dL_missing_23 (rfl : 23 + 1 = 24) ?_
  exact zr_iretH dL_missing_24 rfl ⟨rfl, rfl, rfl, rfl⟩
theorem lt_missing1 {c g k : Int32} (h5 : w 5 = some (.inr (6, fs))) (hx : zThr Γ md_X6_missing (d + 7) [.ref 5, .int c, .int g, .int k] w zIOB) (n9 : Nat) (g9 : Bool) : zTrH Γ md_L_missing (d + 8) 1 6 [.ref 5, .int c, .int g, .int k, .ref 171] n9 g9 w (fun r n' g' w' => r = some (.int (jI 1)) ∧ n' = n9 ∧ g' = false ∧ w' = w) zNo := by
  refine zTrH.of_run (lv := [some (.ref 5), some (.int c), some (.int g), some (.int k), some (.ref 171), none]) (by decide) (Nat.le_of_ble_eq_true rfl) rfl ?_
  refine zr_aload dL_missing_0 (rfl : 0 + 2 = 2) rfl ?_
  refine zr_iconst dL_missing_2 (rfl : 2 + 1 = 3) ?_
  refine zr_aload_n dL_missing_3 (rfl : 3 + 1 = 4) rfl ?_
  refine zr_iload_n dL_missing_4 (rfl : 4 + 1 = 5) rfl ?_
  refine zr_iload_n dL_missing_5 (rfl : 5 + 1 = 6) rfl ?_
  refine zr_iload_n dL_missing_6 (rfl : 6 + 1 = 7) rfl ?_
  refine zr_thV dL_missing_7 l_L_85 hx h5 rfl rfl rfl (Nat.le_of_ble_eq_true rfl) (Nat.le_of_ble_eq_true rfl) (Nat.le_of_ble_eq_true rfl) ?_
  refine zr_catch (i := 5) (len := 2) [] (0, 12, 15, 13) [(0, 12, 19, 15)] rfl (fun z hz => nomatch hz) (by decide) (by decide) k_L_13 cst_IOB rfl (Or.inl ⟨dL_missing_15, rfl⟩) (by decide) (rfl : 15 + 2 = 17) rfl ?_
  refine zr_iconst dL_missing_17 (rfl : 17 + 1 = 18) ?_
  exact zr_iretH dL_missing_18 rfl ⟨rfl, rfl, rfl, rfl⟩
theorem lt_missing2 {c g k : Int32} (h5 : w 5 = some (.inr (6, fs))) (hx : zThr Γ md_X6_missing (d + 7) [.ref 5, .int c, .int g, .int k] w zIAE) (n9 : Nat) (g9 : Bool) : zTrH Γ md_L_missing (d + 8) 1 6 [.ref 5, .int c, .int g, .int k, .ref 171] n9 g9 w (fun r n' g' w' => r = some (.int (jI 2)) ∧ n' = n9 ∧ g' = false ∧ w' = w) zNo := by
  refine zTrH.of_run (lv := [some (.ref 5), some (.int c), some (.int g), some (.int k), some (.ref 171), none]) (by decide) (Nat.le_of_ble_eq_true rfl) rfl ?_
  refine zr_aload dL_missing_0 (rfl : 0 + 2 = 2) rfl ?_
  refine zr_iconst dL_missing_2 (rfl : 2 + 1 = 3) ?_
  refine zr_aload_n dL_missing_3 (rfl : 3 + 1 = 4) rfl ?_
  refine zr_iload_n dL_missing_4 (rfl : 4 + 1 = 5) rfl ?_
  refine zr_iload_n dL_missing_5 (rfl : 5 + 1 = 6) rfl ?_
  refine zr_iload_n dL_missing_6 (rfl : 6 + 1 = 7) rfl ?_
  refine zr_thV dL_missing_7 l_L_85 hx h5 rfl rfl rfl (Nat.le_of_ble_eq_true rfl) (Nat.le_of_ble_eq_true rfl) (Nat.le_of_ble_eq_true rfl) ?_
  refine zr_catch (i := 5) (len := 2) [(0, 12, 15, 13)] (0, 12, 19, 15) [] rfl (fun z hz => by
        rcases List.mem_cons.mp hz with e0 | hz
        · rw [e0]
          exact Or.inr ⟨by decide, _, k_L_13, Or.inl ⟨rfl, rfl⟩⟩
        exact nomatch hz) (by decide) (by decide) k_L_15 cst_IAE rfl (Or.inl ⟨dL_missing_19, rfl⟩) (by decide) (rfl : 19 + 2 = 21) rfl ?_
  refine zr_iconst dL_missing_21 (rfl : 21 + 1 = 22) ?_
  exact zr_iretH dL_missing_22 rfl ⟨rfl, rfl, rfl, rfl⟩
theorem lo_fullAt {c k : Int32} (h5 : w 5 = some (.inr (6, fs))) (ho : w2 171 = some (zla f)) (hx : zFn Γ md_X6_fullAt (d + 7) [.ref 5, .int c, .int k] w (some (.int v)) w2) (n9 : Nat) (g9 : Bool) : zTrH Γ md_L_fullAt (d + 8) 1 6 [.ref 5, .int c, .int k, .ref 171] n9 g9 w (fun r n' g' w' => r = some (.int (jI 0)) ∧ n' = n9 ∧ g' = g9 ∧ w' = zup w2 171 (zla (vp_updL f (jI 0).toNatClampNeg v.toInt64))) zNo := by
  refine zTrH.of_run (lv := [some (.ref 5), some (.int c), some (.int k), some (.ref 171), none]) (by decide) (Nat.le_of_ble_eq_true rfl) rfl ?_
  refine zr_aload_n dL_fullAt_0 (rfl : 0 + 1 = 1) rfl ?_
  refine zr_iconst dL_fullAt_1 (rfl : 1 + 1 = 2) ?_
  refine zr_aload_n dL_fullAt_2 (rfl : 2 + 1 = 3) rfl ?_
  refine zr_iload_n dL_fullAt_3 (rfl : 3 + 1 = 4) rfl ?_
  refine zr_iload_n dL_fullAt_4 (rfl : 4 + 1 = 5) rfl ?_
  refine zr_fnV dL_fullAt_5 (rfl : 5 + 3 = 8) l_L_88 hx h5 rfl rfl rfl (Nat.le_of_ble_eq_true rfl) ?_
  refine zr_i2l dL_fullAt_8 (rfl : 8 + 1 = 9) ?_
  refine zr_lastR dL_fullAt_9 (rfl : 9 + 1 = 10) ho lc_in ?_
  refine zr_goto (tgt := 21) dL_fullAt_10 (by decide) ?_
  refine zr_iconst dL_fullAt_21 (rfl : 21 + 1 = 22) ?_
  exact zr_iretH dL_fullAt_22 rfl ⟨rfl, rfl, rfl, rfl⟩
theorem lt_fullAt1 {c k : Int32} (h5 : w 5 = some (.inr (6, fs))) (hx : zThr Γ md_X6_fullAt (d + 7) [.ref 5, .int c, .int k] w zIOB) (n9 : Nat) (g9 : Bool) : zTrH Γ md_L_fullAt (d + 8) 1 6 [.ref 5, .int c, .int k, .ref 171] n9 g9 w (fun r n' g' w' => r = some (.int (jI 1)) ∧ n' = n9 ∧ g' = false ∧ w' = w) zNo := by
  refine zTrH.of_run (lv := [some (.ref 5), some (.int c), some (.int k), some (.ref 171), none]) (by decide) (Nat.le_of_ble_eq_true rfl) rfl ?_
  refine zr_aload_n dL_fullAt_0 (rfl : 0 + 1 = 1) rfl ?_
  refine zr_iconst dL_fullAt_1 (rfl : 1 + 1 = 2) ?_
  refine zr_aload_n dL_fullAt_2 (rfl : 2 + 1 = 3) rfl ?_
  refine zr_iload_n dL_fullAt_3 (rfl : 3 + 1 = 4) rfl ?_
  refine zr_iload_n dL_fullAt_4 (rfl : 4 + 1 = 5) rfl ?_
  refine zr_thV dL_fullAt_5 l_L_88 hx h5 rfl rfl rfl (Nat.le_of_ble_eq_true rfl) (Nat.le_of_ble_eq_true rfl) (Nat.le_of_ble_eq_true rfl) ?_
  refine zr_catch (i := 4) (len := 2) [] (0, 10, 13, 13) [(0, 10, 17, 15)] rfl (fun z hz => nomatch hz) (by decide) (by decide) k_L_13 cst_IOB rfl (Or.inl ⟨dL_fullAt_13, rfl⟩) (by decide) (rfl : 13 + 2 = 15) rfl ?_
  refine zr_iconst dL_fullAt_15 (rfl : 15 + 1 = 16) ?_
  exact zr_iretH dL_fullAt_16 rfl ⟨rfl, rfl, rfl, rfl⟩
theorem lt_fullAt2 {c k : Int32} (h5 : w 5 = some (.inr (6, fs))) (hx : zThr Γ md_X6_fullAt (d + 7) [.ref 5, .int c, .int k] w zIAE) (n9 : Nat) (g9 : Bool) : zTrH Γ md_L_fullAt (d + 8) 1 6 [.ref 5, .int c, .int k, .ref 171] n9 g9 w (fun r n' g' w' => r = some (.int (jI 2)) ∧ n' = n9 ∧ g' = false ∧ w' = w) zNo := by
  refine zTrH.of_run (lv := [some (.ref 5), some (.int c), some (.int k), some (.ref 171), none]) (by decide) (Nat.le_of_ble_eq_true rfl) rfl ?_
  refine zr_aload_n dL_fullAt_0 (rfl : 0 + 1 = 1) rfl ?_
  refine zr_iconst dL_fullAt_1 (rfl : 1 + 1 = 2) ?_
  refine zr_aload_n dL_fullAt_2 (rfl : 2 + 1 = 3) rfl ?_
  refine zr_iload_n dL_fullAt_3 (rfl : 3 + 1 = 4) rfl ?_
  refine zr_iload_n dL_fullAt_4 (rfl : 4 + 1 = 5) rfl ?_
  refine zr_thV dL_fullAt_5 l_L_88 hx h5 rfl rfl rfl (Nat.le_of_ble_eq_true rfl) (Nat.le_of_ble_eq_true rfl) (Nat.le_of_ble_eq_true rfl) ?_
  refine zr_catch (i := 4) (len := 2) [(0, 10, 13, 13)] (0, 10, 17, 15) [] rfl (fun z hz => by
        rcases List.mem_cons.mp hz with e0 | hz
        · rw [e0]
          exact Or.inr ⟨by decide, _, k_L_13, Or.inl ⟨rfl, rfl⟩⟩
        exact nomatch hz) (by decide) (by decide) k_L_15 cst_IAE rfl (Or.inl ⟨dL_fullAt_17, rfl⟩) (by decide) (rfl : 17 + 2 = 19) rfl ?_
  refine zr_iconst dL_fullAt_19 (rfl : 19 + 1 = 20) ?_
  exact zr_iretH dL_fullAt_20 rfl ⟨rfl, rfl, rfl, rfl⟩
theorem lo_next {m : Int32} (h5 : w 5 = some (.inr (6, fs))) (ho : w2 171 = some (zla f)) (hx : zFn Γ md_X6_next (d + 7) [.ref 5, .int m] w (some (.int v)) w2) (n9 : Nat) (g9 : Bool) : zTrH Γ md_L_next (d + 8) 1 6 [.ref 5, .int m, .ref 171] n9 g9 w (fun r n' g' w' => r = some (.int (jI 0)) ∧ n' = n9 ∧ g' = g9 ∧ w' = zup w2 171 (zla (vp_updL f (jI 0).toNatClampNeg v.toInt64))) zNo := by
  refine zTrH.of_run (lv := [some (.ref 5), some (.int m), some (.ref 171), none]) (by decide) (Nat.le_of_ble_eq_true rfl) rfl ?_
  refine zr_aload_n dL_next_0 (rfl : 0 + 1 = 1) rfl ?_
  refine zr_iconst dL_next_1 (rfl : 1 + 1 = 2) ?_
  refine zr_aload_n dL_next_2 (rfl : 2 + 1 = 3) rfl ?_
  refine zr_iload_n dL_next_3 (rfl : 3 + 1 = 4) rfl ?_
  refine zr_fnV dL_next_4 (rfl : 4 + 3 = 7) l_L_91 hx h5 rfl rfl rfl (Nat.le_of_ble_eq_true rfl) ?_
  refine zr_i2l dL_next_7 (rfl : 7 + 1 = 8) ?_
  refine zr_lastR dL_next_8 (rfl : 8 + 1 = 9) ho lc_in ?_
  refine zr_goto (tgt := 15) dL_next_9 (by decide) ?_
  refine zr_iconst dL_next_15 (rfl : 15 + 1 = 16) ?_
  exact zr_iretH dL_next_16 rfl ⟨rfl, rfl, rfl, rfl⟩
theorem lt_next1 {m : Int32} (h5 : w 5 = some (.inr (6, fs))) (hx : zThr Γ md_X6_next (d + 7) [.ref 5, .int m] w zIAE) (n9 : Nat) (g9 : Bool) : zTrH Γ md_L_next (d + 8) 1 6 [.ref 5, .int m, .ref 171] n9 g9 w (fun r n' g' w' => r = some (.int (jI 1)) ∧ n' = n9 ∧ g' = false ∧ w' = w) zNo := by
  refine zTrH.of_run (lv := [some (.ref 5), some (.int m), some (.ref 171), none]) (by decide) (Nat.le_of_ble_eq_true rfl) rfl ?_
  refine zr_aload_n dL_next_0 (rfl : 0 + 1 = 1) rfl ?_
  refine zr_iconst dL_next_1 (rfl : 1 + 1 = 2) ?_
  refine zr_aload_n dL_next_2 (rfl : 2 + 1 = 3) rfl ?_
  refine zr_iload_n dL_next_3 (rfl : 3 + 1 = 4) rfl ?_
  refine zr_thV dL_next_4 l_L_91 hx h5 rfl rfl rfl (Nat.le_of_ble_eq_true rfl) (Nat.le_of_ble_eq_true rfl) (Nat.le_of_ble_eq_true rfl) ?_
  refine zr_catch (i := 3) (len := 1) [] (0, 9, 12, 15) [] rfl (fun z hz => nomatch hz) (by decide) (by decide) k_L_15 cst_IAE rfl (Or.inr ⟨3, dL_next_12, rfl, rfl⟩) (by decide) (rfl : 12 + 1 = 13) rfl ?_
  refine zr_iconst dL_next_13 (rfl : 13 + 1 = 14) ?_
  exact zr_iretH dL_next_14 rfl ⟨rfl, rfl, rfl, rfl⟩
end WP
