/-! the law's wrappers -/
section WP
variable {Γ : zΓ} {d mc ms : Nat} {v : Int32} {w w2 : zW} {fs : List Value}
theorem lo_put {c r n : Int32} (h5 : w 5 = some (.inr (6, fs))) (hx : zFn Γ md_X6_put (d + 7) [.ref 5, .int c, .int r, .int n] w (some (.int v)) w2) (n9 : Nat) (g9 : Bool) : zTrH Γ md_L_put (d + 8) mc ms [.ref 5, .int c, .int r, .int n] n9 g9 w (fun r n' g' w' => r = some (.int v) ∧ n' = n9 ∧ g' = g9 ∧ w' = w2) zNo := by
  refine zTrH.of_run (lv := [some (.ref 5), some (.int c), some (.int r), some (.int n), none]) (by decide) (Nat.le_of_ble_eq_true rfl) rfl ?_
  refine zr_aload_n dL_put_0 (rfl : 0 + 1 = 1) rfl ?_
  refine zr_iload_n dL_put_1 (rfl : 1 + 1 = 2) rfl ?_
  refine zr_iload_n dL_put_2 (rfl : 2 + 1 = 3) rfl ?_
  refine zr_iload_n dL_put_3 (rfl : 3 + 1 = 4) rfl ?_
  refine zr_fnV dL_put_4 (rfl : 4 + 3 = 7) l_L_9 hx h5 rfl rfl rfl (Nat.le_of_ble_eq_true rfl) ?_
  exact zr_iretH dL_put_7 rfl ⟨rfl, rfl, rfl, rfl⟩
theorem lt_put1 {c r n : Int32} (h5 : w 5 = some (.inr (6, fs))) (hx : zThr Γ md_X6_put (d + 7) [.ref 5, .int c, .int r, .int n] w zIOB) : zOtH Γ md_L_put (d + 8) [.ref 5, .int c, .int r, .int n] w (some (.int (jI (-2000001)))) w := by
  intro n9 g9
  refine zTrH.of_run (lv := [some (.ref 5), some (.int c), some (.int r), some (.int n), none]) (by decide) (Nat.le_of_ble_eq_true rfl) rfl ?_
  refine zr_aload_n dL_put_0 (rfl : 0 + 1 = 1) rfl ?_
  refine zr_iload_n dL_put_1 (rfl : 1 + 1 = 2) rfl ?_
  refine zr_iload_n dL_put_2 (rfl : 2 + 1 = 3) rfl ?_
  refine zr_iload_n dL_put_3 (rfl : 3 + 1 = 4) rfl ?_
  refine zr_thV dL_put_4 l_L_9 hx h5 rfl rfl rfl (Nat.le_of_ble_eq_true rfl) (Nat.le_of_ble_eq_true rfl) (Nat.le_of_ble_eq_true rfl) ?_
  refine zr_catch (i := 4) (len := 2) [] (0, 7, 8, 15) [(0, 7, 13, 18)] rfl (fun z hz => nomatch hz) (by decide) (by decide) k_L_15 cst_IOB rfl (Or.inl ⟨dL_put_8, rfl⟩) (by decide) (rfl : 8 + 2 = 10) rfl ?_
  refine zr_ldc dL_put_10 (rfl : 10 + 2 = 12) kj_L_17 ?_
  exact zr_iretH dL_put_12 rfl ⟨rfl, rfl, rfl⟩
theorem lt_put2 {c r n : Int32} (h5 : w 5 = some (.inr (6, fs))) (hx : zThr Γ md_X6_put (d + 7) [.ref 5, .int c, .int r, .int n] w zIAE) : zOtH Γ md_L_put (d + 8) [.ref 5, .int c, .int r, .int n] w (some (.int (jI (-2000002)))) w := by
  intro n9 g9
  refine zTrH.of_run (lv := [some (.ref 5), some (.int c), some (.int r), some (.int n), none]) (by decide) (Nat.le_of_ble_eq_true rfl) rfl ?_
  refine zr_aload_n dL_put_0 (rfl : 0 + 1 = 1) rfl ?_
  refine zr_iload_n dL_put_1 (rfl : 1 + 1 = 2) rfl ?_
  refine zr_iload_n dL_put_2 (rfl : 2 + 1 = 3) rfl ?_
  refine zr_iload_n dL_put_3 (rfl : 3 + 1 = 4) rfl ?_
  refine zr_thV dL_put_4 l_L_9 hx h5 rfl rfl rfl (Nat.le_of_ble_eq_true rfl) (Nat.le_of_ble_eq_true rfl) (Nat.le_of_ble_eq_true rfl) ?_
  refine zr_catch (i := 4) (len := 2) [(0, 7, 8, 15)] (0, 7, 13, 18) [] rfl (fun z hz => by
        rcases List.mem_cons.mp hz with e0 | hz
        · rw [e0]
          exact Or.inr ⟨by decide, _, k_L_15, Or.inl ⟨rfl, rfl⟩⟩
        exact nomatch hz) (by decide) (by decide) k_L_18 cst_IAE rfl (Or.inl ⟨dL_put_13, rfl⟩) (by decide) (rfl : 13 + 2 = 15) rfl ?_
  refine zr_ldc dL_put_15 (rfl : 15 + 2 = 17) kj_L_20 ?_
  exact zr_iretH dL_put_17 rfl ⟨rfl, rfl, rfl⟩
theorem lo_take {n : Int32} (h5 : w 5 = some (.inr (6, fs))) (hx : zFn Γ md_X6_take (d + 7) [.ref 5, .int n] w (some (.int v)) w2) (n9 : Nat) (g9 : Bool) : zTrH Γ md_L_take (d + 8) mc ms [.ref 5, .int n] n9 g9 w (fun r n' g' w' => r = some (.int v) ∧ n' = n9 ∧ g' = g9 ∧ w' = w2) zNo := by
  refine zTrH.of_run (lv := [some (.ref 5), some (.int n), none]) (by decide) (Nat.le_of_ble_eq_true rfl) rfl ?_
  refine zr_aload_n dL_take_0 (rfl : 0 + 1 = 1) rfl ?_
  refine zr_iload_n dL_take_1 (rfl : 1 + 1 = 2) rfl ?_
  refine zr_fnV dL_take_2 (rfl : 2 + 3 = 5) l_L_21 hx h5 rfl rfl rfl (Nat.le_of_ble_eq_true rfl) ?_
  exact zr_iretH dL_take_5 rfl ⟨rfl, rfl, rfl, rfl⟩
theorem lt_take1 {n : Int32} (h5 : w 5 = some (.inr (6, fs))) (hx : zThr Γ md_X6_take (d + 7) [.ref 5, .int n] w zIAE) : zOtH Γ md_L_take (d + 8) [.ref 5, .int n] w (some (.int (jI (-2000001)))) w := by
  intro n9 g9
  refine zTrH.of_run (lv := [some (.ref 5), some (.int n), none]) (by decide) (Nat.le_of_ble_eq_true rfl) rfl ?_
  refine zr_aload_n dL_take_0 (rfl : 0 + 1 = 1) rfl ?_
  refine zr_iload_n dL_take_1 (rfl : 1 + 1 = 2) rfl ?_
  refine zr_thV dL_take_2 l_L_21 hx h5 rfl rfl rfl (Nat.le_of_ble_eq_true rfl) (Nat.le_of_ble_eq_true rfl) (Nat.le_of_ble_eq_true rfl) ?_
  refine zr_catch (i := 2) (len := 1) [] (0, 5, 6, 18) [(0, 5, 10, 25)] rfl (fun z hz => nomatch hz) (by decide) (by decide) k_L_18 cst_IAE rfl (Or.inr ⟨2, dL_take_6, rfl, rfl⟩) (by decide) (rfl : 6 + 1 = 7) rfl ?_
  refine zr_ldc dL_take_7 (rfl : 7 + 2 = 9) kj_L_17 ?_
  exact zr_iretH dL_take_9 rfl ⟨rfl, rfl, rfl⟩
theorem lt_take2 {n : Int32} (h5 : w 5 = some (.inr (6, fs))) (hx : zThr Γ md_X6_take (d + 7) [.ref 5, .int n] w zISE) : zOtH Γ md_L_take (d + 8) [.ref 5, .int n] w (some (.int (jI (-2000002)))) w := by
  intro n9 g9
  refine zTrH.of_run (lv := [some (.ref 5), some (.int n), none]) (by decide) (Nat.le_of_ble_eq_true rfl) rfl ?_
  refine zr_aload_n dL_take_0 (rfl : 0 + 1 = 1) rfl ?_
  refine zr_iload_n dL_take_1 (rfl : 1 + 1 = 2) rfl ?_
  refine zr_thV dL_take_2 l_L_21 hx h5 rfl rfl rfl (Nat.le_of_ble_eq_true rfl) (Nat.le_of_ble_eq_true rfl) (Nat.le_of_ble_eq_true rfl) ?_
  refine zr_catch (i := 2) (len := 1) [(0, 5, 6, 18)] (0, 5, 10, 25) [] rfl (fun z hz => by
        rcases List.mem_cons.mp hz with e0 | hz
        · rw [e0]
          exact Or.inr ⟨by decide, _, k_L_18, Or.inr (Or.inr ⟨rfl, rfl⟩)⟩
        exact nomatch hz) (by decide) (by decide) k_L_25 cst_ISE rfl (Or.inr ⟨2, dL_take_10, rfl, rfl⟩) (by decide) (rfl : 10 + 1 = 11) rfl ?_
  refine zr_ldc dL_take_11 (rfl : 11 + 2 = 13) kj_L_20 ?_
  exact zr_iretH dL_take_13 rfl ⟨rfl, rfl, rfl⟩
theorem lo_fill {c m : Int32} (h5 : w 5 = some (.inr (6, fs))) (hx : zFn Γ md_X6_fill (d + 7) [.ref 5, .int c, .int m] w (some (.int v)) w2) (n9 : Nat) (g9 : Bool) : zTrH Γ md_L_fill (d + 8) mc ms [.ref 5, .int c, .int m] n9 g9 w (fun r n' g' w' => r = some (.int v) ∧ n' = n9 ∧ g' = g9 ∧ w' = w2) zNo := by
  refine zTrH.of_run (lv := [some (.ref 5), some (.int c), some (.int m), none]) (by decide) (Nat.le_of_ble_eq_true rfl) rfl ?_
  refine zr_aload_n dL_fill_0 (rfl : 0 + 1 = 1) rfl ?_
  refine zr_iload_n dL_fill_1 (rfl : 1 + 1 = 2) rfl ?_
  refine zr_iload_n dL_fill_2 (rfl : 2 + 1 = 3) rfl ?_
  refine zr_fnV dL_fill_3 (rfl : 3 + 3 = 6) l_L_27 hx h5 rfl rfl rfl (Nat.le_of_ble_eq_true rfl) ?_
  exact zr_iretH dL_fill_6 rfl ⟨rfl, rfl, rfl, rfl⟩
theorem lt_fill1 {c m : Int32} (h5 : w 5 = some (.inr (6, fs))) (hx : zThr Γ md_X6_fill (d + 7) [.ref 5, .int c, .int m] w zIOB) : zOtH Γ md_L_fill (d + 8) [.ref 5, .int c, .int m] w (some (.int (jI (-2000001)))) w := by
  intro n9 g9
  refine zTrH.of_run (lv := [some (.ref 5), some (.int c), some (.int m), none]) (by decide) (Nat.le_of_ble_eq_true rfl) rfl ?_
  refine zr_aload_n dL_fill_0 (rfl : 0 + 1 = 1) rfl ?_
  refine zr_iload_n dL_fill_1 (rfl : 1 + 1 = 2) rfl ?_
  refine zr_iload_n dL_fill_2 (rfl : 2 + 1 = 3) rfl ?_
  refine zr_thV dL_fill_3 l_L_27 hx h5 rfl rfl rfl (Nat.le_of_ble_eq_true rfl) (Nat.le_of_ble_eq_true rfl) (Nat.le_of_ble_eq_true rfl) ?_
  refine zr_catch (i := 3) (len := 1) [] (0, 6, 7, 15) [(0, 6, 11, 18), (0, 6, 15, 25)] rfl (fun z hz => nomatch hz) (by decide) (by decide) k_L_15 cst_IOB rfl (Or.inr ⟨3, dL_fill_7, rfl, rfl⟩) (by decide) (rfl : 7 + 1 = 8) rfl ?_
  refine zr_ldc dL_fill_8 (rfl : 8 + 2 = 10) kj_L_17 ?_
  exact zr_iretH dL_fill_10 rfl ⟨rfl, rfl, rfl⟩
theorem lt_fill2 {c m : Int32} (h5 : w 5 = some (.inr (6, fs))) (hx : zThr Γ md_X6_fill (d + 7) [.ref 5, .int c, .int m] w zIAE) : zOtH Γ md_L_fill (d + 8) [.ref 5, .int c, .int m] w (some (.int (jI (-2000002)))) w := by
  intro n9 g9
  refine zTrH.of_run (lv := [some (.ref 5), some (.int c), some (.int m), none]) (by decide) (Nat.le_of_ble_eq_true rfl) rfl ?_
  refine zr_aload_n dL_fill_0 (rfl : 0 + 1 = 1) rfl ?_
  refine zr_iload_n dL_fill_1 (rfl : 1 + 1 = 2) rfl ?_
  refine zr_iload_n dL_fill_2 (rfl : 2 + 1 = 3) rfl ?_
  refine zr_thV dL_fill_3 l_L_27 hx h5 rfl rfl rfl (Nat.le_of_ble_eq_true rfl) (Nat.le_of_ble_eq_true rfl) (Nat.le_of_ble_eq_true rfl) ?_
  refine zr_catch (i := 3) (len := 1) [(0, 6, 7, 15)] (0, 6, 11, 18) [(0, 6, 15, 25)] rfl (fun z hz => by
        rcases List.mem_cons.mp hz with e0 | hz
        · rw [e0]
          exact Or.inr ⟨by decide, _, k_L_15, Or.inl ⟨rfl, rfl⟩⟩
        exact nomatch hz) (by decide) (by decide) k_L_18 cst_IAE rfl (Or.inr ⟨3, dL_fill_11, rfl, rfl⟩) (by decide) (rfl : 11 + 1 = 12) rfl ?_
  refine zr_ldc dL_fill_12 (rfl : 12 + 2 = 14) kj_L_20 ?_
  exact zr_iretH dL_fill_14 rfl ⟨rfl, rfl, rfl⟩
theorem lt_fill3 {c m : Int32} (h5 : w 5 = some (.inr (6, fs))) (hx : zThr Γ md_X6_fill (d + 7) [.ref 5, .int c, .int m] w zISE) : zOtH Γ md_L_fill (d + 8) [.ref 5, .int c, .int m] w (some (.int (jI (-2000003)))) w := by
  intro n9 g9
  refine zTrH.of_run (lv := [some (.ref 5), some (.int c), some (.int m), none]) (by decide) (Nat.le_of_ble_eq_true rfl) rfl ?_
  refine zr_aload_n dL_fill_0 (rfl : 0 + 1 = 1) rfl ?_
  refine zr_iload_n dL_fill_1 (rfl : 1 + 1 = 2) rfl ?_
  refine zr_iload_n dL_fill_2 (rfl : 2 + 1 = 3) rfl ?_
  refine zr_thV dL_fill_3 l_L_27 hx h5 rfl rfl rfl (Nat.le_of_ble_eq_true rfl) (Nat.le_of_ble_eq_true rfl) (Nat.le_of_ble_eq_true rfl) ?_
  refine zr_catch (i := 3) (len := 1) [(0, 6, 7, 15), (0, 6, 11, 18)] (0, 6, 15, 25) [] rfl (fun z hz => by
        rcases List.mem_cons.mp hz with e0 | hz
        · rw [e0]
          exact Or.inr ⟨by decide, _, k_L_15, Or.inr (Or.inl ⟨rfl, rfl⟩)⟩
        rcases List.mem_cons.mp hz with e1 | hz
        · rw [e1]
          exact Or.inr ⟨by decide, _, k_L_18, Or.inr (Or.inr ⟨rfl, rfl⟩)⟩
        exact nomatch hz) (by decide) (by decide) k_L_25 cst_ISE rfl (Or.inr ⟨3, dL_fill_15, rfl, rfl⟩) (by decide) (rfl : 15 + 1 = 16) rfl ?_
  refine zr_ldc dL_fill_16 (rfl : 16 + 2 = 18) kj_L_31 ?_
  exact zr_iretH dL_fill_18 rfl ⟨rfl, rfl, rfl⟩
theorem lo_buy {c : Int32} (h5 : w 5 = some (.inr (6, fs))) (hx : zFn Γ md_X6_buy (d + 7) [.ref 5, .int c] w (some (.int v)) w2) (n9 : Nat) (g9 : Bool) : zTrH Γ md_L_buy (d + 8) mc ms [.ref 5, .int c] n9 g9 w (fun r n' g' w' => r = some (.int v) ∧ n' = n9 ∧ g' = g9 ∧ w' = w2) zNo := by
  refine zTrH.of_run (lv := [some (.ref 5), some (.int c), none]) (by decide) (Nat.le_of_ble_eq_true rfl) rfl ?_
  refine zr_aload_n dL_buy_0 (rfl : 0 + 1 = 1) rfl ?_
  refine zr_iload_n dL_buy_1 (rfl : 1 + 1 = 2) rfl ?_
  refine zr_fnV dL_buy_2 (rfl : 2 + 3 = 5) l_L_32 hx h5 rfl rfl rfl (Nat.le_of_ble_eq_true rfl) ?_
  exact zr_iretH dL_buy_5 rfl ⟨rfl, rfl, rfl, rfl⟩
theorem lt_buy1 {c : Int32} (h5 : w 5 = some (.inr (6, fs))) (hx : zThr Γ md_X6_buy (d + 7) [.ref 5, .int c] w zIOB) : zOtH Γ md_L_buy (d + 8) [.ref 5, .int c] w (some (.int (jI (-2000001)))) w := by
  intro n9 g9
  refine zTrH.of_run (lv := [some (.ref 5), some (.int c), none]) (by decide) (Nat.le_of_ble_eq_true rfl) rfl ?_
  refine zr_aload_n dL_buy_0 (rfl : 0 + 1 = 1) rfl ?_
  refine zr_iload_n dL_buy_1 (rfl : 1 + 1 = 2) rfl ?_
  refine zr_thV dL_buy_2 l_L_32 hx h5 rfl rfl rfl (Nat.le_of_ble_eq_true rfl) (Nat.le_of_ble_eq_true rfl) (Nat.le_of_ble_eq_true rfl) ?_
  refine zr_catch (i := 2) (len := 1) [] (0, 5, 6, 15) [(0, 5, 10, 25)] rfl (fun z hz => nomatch hz) (by decide) (by decide) k_L_15 cst_IOB rfl (Or.inr ⟨2, dL_buy_6, rfl, rfl⟩) (by decide) (rfl : 6 + 1 = 7) rfl ?_
  refine zr_ldc dL_buy_7 (rfl : 7 + 2 = 9) kj_L_17 ?_
  exact zr_iretH dL_buy_9 rfl ⟨rfl, rfl, rfl⟩
theorem lt_buy2 {c : Int32} (h5 : w 5 = some (.inr (6, fs))) (hx : zThr Γ md_X6_buy (d + 7) [.ref 5, .int c] w zISE) : zOtH Γ md_L_buy (d + 8) [.ref 5, .int c] w (some (.int (jI (-2000002)))) w := by
  intro n9 g9
  refine zTrH.of_run (lv := [some (.ref 5), some (.int c), none]) (by decide) (Nat.le_of_ble_eq_true rfl) rfl ?_
  refine zr_aload_n dL_buy_0 (rfl : 0 + 1 = 1) rfl ?_
  refine zr_iload_n dL_buy_1 (rfl : 1 + 1 = 2) rfl ?_
  refine zr_thV dL_buy_2 l_L_32 hx h5 rfl rfl rfl (Nat.le_of_ble_eq_true rfl) (Nat.le_of_ble_eq_true rfl) (Nat.le_of_ble_eq_true rfl) ?_
  refine zr_catch (i := 2) (len := 1) [(0, 5, 6, 15)] (0, 5, 10, 25) [] rfl (fun z hz => by
        rcases List.mem_cons.mp hz with e0 | hz
        · rw [e0]
          exact Or.inr ⟨by decide, _, k_L_15, Or.inr (Or.inl ⟨rfl, rfl⟩)⟩
        exact nomatch hz) (by decide) (by decide) k_L_25 cst_ISE rfl (Or.inr ⟨2, dL_buy_10, rfl, rfl⟩) (by decide) (rfl : 10 + 1 = 11) rfl ?_
  refine zr_ldc dL_buy_11 (rfl : 11 + 2 = 13) kj_L_20 ?_
  exact zr_iretH dL_buy_13 rfl ⟨rfl, rfl, rfl⟩
theorem lo_seed {x : Int32} (h5 : w 5 = some (.inr (6, fs))) (hx : zFn Γ md_X6_seed (d + 7) [.ref 5, .int x] w (some (.int v)) w2) (n9 : Nat) (g9 : Bool) : zTrH Γ md_L_seed (d + 8) mc ms [.ref 5, .int x] n9 g9 w (fun r n' g' w' => r = some (.int v) ∧ n' = n9 ∧ g' = g9 ∧ w' = w2) zNo := by
  refine zTrH.of_run (lv := [some (.ref 5), some (.int x), none]) (by decide) (Nat.le_of_ble_eq_true rfl) rfl ?_
  refine zr_aload_n dL_seed_0 (rfl : 0 + 1 = 1) rfl ?_
  refine zr_iload_n dL_seed_1 (rfl : 1 + 1 = 2) rfl ?_
  refine zr_fnV dL_seed_2 (rfl : 2 + 3 = 5) l_L_35 hx h5 rfl rfl rfl (Nat.le_of_ble_eq_true rfl) ?_
  exact zr_iretH dL_seed_5 rfl ⟨rfl, rfl, rfl, rfl⟩
theorem lt_seed1 {x : Int32} (h5 : w 5 = some (.inr (6, fs))) (hx : zThr Γ md_X6_seed (d + 7) [.ref 5, .int x] w zIAE) : zOtH Γ md_L_seed (d + 8) [.ref 5, .int x] w (some (.int (jI (-2000001)))) w := by
  intro n9 g9
  refine zTrH.of_run (lv := [some (.ref 5), some (.int x), none]) (by decide) (Nat.le_of_ble_eq_true rfl) rfl ?_
  refine zr_aload_n dL_seed_0 (rfl : 0 + 1 = 1) rfl ?_
  refine zr_iload_n dL_seed_1 (rfl : 1 + 1 = 2) rfl ?_
  refine zr_thV dL_seed_2 l_L_35 hx h5 rfl rfl rfl (Nat.le_of_ble_eq_true rfl) (Nat.le_of_ble_eq_true rfl) (Nat.le_of_ble_eq_true rfl) ?_
  refine zr_catch (i := 2) (len := 1) [] (0, 5, 6, 18) [] rfl (fun z hz => nomatch hz) (by decide) (by decide) k_L_18 cst_IAE rfl (Or.inr ⟨2, dL_seed_6, rfl, rfl⟩) (by decide) (rfl : 6 + 1 = 7) rfl ?_
  refine zr_ldc dL_seed_7 (rfl : 7 + 2 = 9) kj_L_17 ?_
  exact zr_iretH dL_seed_9 rfl ⟨rfl, rfl, rfl⟩
theorem lo_set {s x : Int32} (h5 : w 5 = some (.inr (6, fs))) (hx : zFn Γ md_X6_set (d + 7) [.ref 5, .int s, .int x] w (some (.int v)) w2) (n9 : Nat) (g9 : Bool) : zTrH Γ md_L_set (d + 8) mc ms [.ref 5, .int s, .int x] n9 g9 w (fun r n' g' w' => r = some (.int v) ∧ n' = n9 ∧ g' = g9 ∧ w' = w2) zNo := by
  refine zTrH.of_run (lv := [some (.ref 5), some (.int s), some (.int x), none]) (by decide) (Nat.le_of_ble_eq_true rfl) rfl ?_
  refine zr_aload_n dL_set_0 (rfl : 0 + 1 = 1) rfl ?_
  refine zr_iload_n dL_set_1 (rfl : 1 + 1 = 2) rfl ?_
  refine zr_iload_n dL_set_2 (rfl : 2 + 1 = 3) rfl ?_
  refine zr_fnV dL_set_3 (rfl : 3 + 3 = 6) l_L_38 hx h5 rfl rfl rfl (Nat.le_of_ble_eq_true rfl) ?_
  exact zr_iretH dL_set_6 rfl ⟨rfl, rfl, rfl, rfl⟩
theorem lt_set1 {s x : Int32} (h5 : w 5 = some (.inr (6, fs))) (hx : zThr Γ md_X6_set (d + 7) [.ref 5, .int s, .int x] w zIOB) : zOtH Γ md_L_set (d + 8) [.ref 5, .int s, .int x] w (some (.int (jI (-2000001)))) w := by
  intro n9 g9
  refine zTrH.of_run (lv := [some (.ref 5), some (.int s), some (.int x), none]) (by decide) (Nat.le_of_ble_eq_true rfl) rfl ?_
  refine zr_aload_n dL_set_0 (rfl : 0 + 1 = 1) rfl ?_
  refine zr_iload_n dL_set_1 (rfl : 1 + 1 = 2) rfl ?_
  refine zr_iload_n dL_set_2 (rfl : 2 + 1 = 3) rfl ?_
  refine zr_thV dL_set_3 l_L_38 hx h5 rfl rfl rfl (Nat.le_of_ble_eq_true rfl) (Nat.le_of_ble_eq_true rfl) (Nat.le_of_ble_eq_true rfl) ?_
  refine zr_catch (i := 3) (len := 1) [] (0, 6, 7, 15) [(0, 6, 11, 18)] rfl (fun z hz => nomatch hz) (by decide) (by decide) k_L_15 cst_IOB rfl (Or.inr ⟨3, dL_set_7, rfl, rfl⟩) (by decide) (rfl : 7 + 1 = 8) rfl ?_
  refine zr_ldc dL_set_8 (rfl : 8 + 2 = 10) kj_L_17 ?_
  exact zr_iretH dL_set_10 rfl ⟨rfl, rfl, rfl⟩
theorem lt_set2 {s x : Int32} (h5 : w 5 = some (.inr (6, fs))) (hx : zThr Γ md_X6_set (d + 7) [.ref 5, .int s, .int x] w zIAE) : zOtH Γ md_L_set (d + 8) [.ref 5, .int s, .int x] w (some (.int (jI (-2000002)))) w := by
  intro n9 g9
  refine zTrH.of_run (lv := [some (.ref 5), some (.int s), some (.int x), none]) (by decide) (Nat.le_of_ble_eq_true rfl) rfl ?_
  refine zr_aload_n dL_set_0 (rfl : 0 + 1 = 1) rfl ?_
  refine zr_iload_n dL_set_1 (rfl : 1 + 1 = 2) rfl ?_
  refine zr_iload_n dL_set_2 (rfl : 2 + 1 = 3) rfl ?_
  refine zr_thV dL_set_3 l_L_38 hx h5 rfl rfl rfl (Nat.le_of_ble_eq_true rfl) (Nat.le_of_ble_eq_true rfl) (Nat.le_of_ble_eq_true rfl) ?_
  refine zr_catch (i := 3) (len := 1) [(0, 6, 7, 15)] (0, 6, 11, 18) [] rfl (fun z hz => by
        rcases List.mem_cons.mp hz with e0 | hz
        · rw [e0]
          exact Or.inr ⟨by decide, _, k_L_15, Or.inl ⟨rfl, rfl⟩⟩
        exact nomatch hz) (by decide) (by decide) k_L_18 cst_IAE rfl (Or.inr ⟨3, dL_set_11, rfl, rfl⟩) (by decide) (rfl : 11 + 1 = 12) rfl ?_
  refine zr_ldc dL_set_12 (rfl : 12 + 2 = 14) kj_L_20 ?_
  exact zr_iretH dL_set_14 rfl ⟨rfl, rfl, rfl⟩
theorem lo_draw {m : Int32} (h5 : w 5 = some (.inr (6, fs))) (hx : zFn Γ md_X6_draw (d + 7) [.ref 5, .int m] w (some (.int v)) w2) (n9 : Nat) (g9 : Bool) : zTrH Γ md_L_draw (d + 8) mc ms [.ref 5, .int m] n9 g9 w (fun r n' g' w' => r = some (.int v) ∧ n' = n9 ∧ g' = g9 ∧ w' = w2) zNo := by
  refine zTrH.of_run (lv := [some (.ref 5), some (.int m), none]) (by decide) (Nat.le_of_ble_eq_true rfl) rfl ?_
  refine zr_aload_n dL_draw_0 (rfl : 0 + 1 = 1) rfl ?_
  refine zr_iload_n dL_draw_1 (rfl : 1 + 1 = 2) rfl ?_
  refine zr_fnV dL_draw_2 (rfl : 2 + 3 = 5) l_L_41 hx h5 rfl rfl rfl (Nat.le_of_ble_eq_true rfl) ?_
  exact zr_iretH dL_draw_5 rfl ⟨rfl, rfl, rfl, rfl⟩
theorem lt_draw1 {m : Int32} (h5 : w 5 = some (.inr (6, fs))) (hx : zThr Γ md_X6_draw (d + 7) [.ref 5, .int m] w zIAE) : zOtH Γ md_L_draw (d + 8) [.ref 5, .int m] w (some (.int (jI (-2000001)))) w := by
  intro n9 g9
  refine zTrH.of_run (lv := [some (.ref 5), some (.int m), none]) (by decide) (Nat.le_of_ble_eq_true rfl) rfl ?_
  refine zr_aload_n dL_draw_0 (rfl : 0 + 1 = 1) rfl ?_
  refine zr_iload_n dL_draw_1 (rfl : 1 + 1 = 2) rfl ?_
  refine zr_thV dL_draw_2 l_L_41 hx h5 rfl rfl rfl (Nat.le_of_ble_eq_true rfl) (Nat.le_of_ble_eq_true rfl) (Nat.le_of_ble_eq_true rfl) ?_
  refine zr_catch (i := 2) (len := 1) [] (0, 5, 6, 18) [(0, 5, 10, 25)] rfl (fun z hz => nomatch hz) (by decide) (by decide) k_L_18 cst_IAE rfl (Or.inr ⟨2, dL_draw_6, rfl, rfl⟩) (by decide) (rfl : 6 + 1 = 7) rfl ?_
  refine zr_ldc dL_draw_7 (rfl : 7 + 2 = 9) kj_L_17 ?_
  exact zr_iretH dL_draw_9 rfl ⟨rfl, rfl, rfl⟩
theorem lt_draw2 {m : Int32} (h5 : w 5 = some (.inr (6, fs))) (hx : zThr Γ md_X6_draw (d + 7) [.ref 5, .int m] w zISE) : zOtH Γ md_L_draw (d + 8) [.ref 5, .int m] w (some (.int (jI (-2000002)))) w := by
  intro n9 g9
  refine zTrH.of_run (lv := [some (.ref 5), some (.int m), none]) (by decide) (Nat.le_of_ble_eq_true rfl) rfl ?_
  refine zr_aload_n dL_draw_0 (rfl : 0 + 1 = 1) rfl ?_
  refine zr_iload_n dL_draw_1 (rfl : 1 + 1 = 2) rfl ?_
  refine zr_thV dL_draw_2 l_L_41 hx h5 rfl rfl rfl (Nat.le_of_ble_eq_true rfl) (Nat.le_of_ble_eq_true rfl) (Nat.le_of_ble_eq_true rfl) ?_
  refine zr_catch (i := 2) (len := 1) [(0, 5, 6, 18)] (0, 5, 10, 25) [] rfl (fun z hz => by
        rcases List.mem_cons.mp hz with e0 | hz
        · rw [e0]
          exact Or.inr ⟨by decide, _, k_L_18, Or.inr (Or.inr ⟨rfl, rfl⟩)⟩
        exact nomatch hz) (by decide) (by decide) k_L_25 cst_ISE rfl (Or.inr ⟨2, dL_draw_10, rfl, rfl⟩) (by decide) (rfl : 10 + 1 = 11) rfl ?_
  refine zr_ldc dL_draw_11 (rfl : 11 + 2 = 13) kj_L_20 ?_
  exact zr_iretH dL_draw_13 rfl ⟨rfl, rfl, rfl⟩
theorem lo_claim {c g : Int32} (h5 : w 5 = some (.inr (6, fs))) (hx : zFn Γ md_X6_claim (d + 7) [.ref 5, .int c, .int g] w (some (.int v)) w2) (n9 : Nat) (g9 : Bool) : zTrH Γ md_L_claim (d + 8) mc ms [.ref 5, .int c, .int g] n9 g9 w (fun r n' g' w' => r = some (.int v) ∧ n' = n9 ∧ g' = g9 ∧ w' = w2) zNo := by
  refine zTrH.of_run (lv := [some (.ref 5), some (.int c), some (.int g), none]) (by decide) (Nat.le_of_ble_eq_true rfl) rfl ?_
  refine zr_aload_n dL_claim_0 (rfl : 0 + 1 = 1) rfl ?_
  refine zr_iload_n dL_claim_1 (rfl : 1 + 1 = 2) rfl ?_
  refine zr_iload_n dL_claim_2 (rfl : 2 + 1 = 3) rfl ?_
  refine zr_fnV dL_claim_3 (rfl : 3 + 3 = 6) l_L_44 hx h5 rfl rfl rfl (Nat.le_of_ble_eq_true rfl) ?_
  exact zr_iretH dL_claim_6 rfl ⟨rfl, rfl, rfl, rfl⟩
theorem lt_claim1 {c g : Int32} (h5 : w 5 = some (.inr (6, fs))) (hx : zThr Γ md_X6_claim (d + 7) [.ref 5, .int c, .int g] w zIOB) : zOtH Γ md_L_claim (d + 8) [.ref 5, .int c, .int g] w (some (.int (jI (-2000001)))) w := by
  intro n9 g9
  refine zTrH.of_run (lv := [some (.ref 5), some (.int c), some (.int g), none]) (by decide) (Nat.le_of_ble_eq_true rfl) rfl ?_
  refine zr_aload_n dL_claim_0 (rfl : 0 + 1 = 1) rfl ?_
  refine zr_iload_n dL_claim_1 (rfl : 1 + 1 = 2) rfl ?_
  refine zr_iload_n dL_claim_2 (rfl : 2 + 1 = 3) rfl ?_
  refine zr_thV dL_claim_3 l_L_44 hx h5 rfl rfl rfl (Nat.le_of_ble_eq_true rfl) (Nat.le_of_ble_eq_true rfl) (Nat.le_of_ble_eq_true rfl) ?_
  refine zr_catch (i := 3) (len := 1) [] (0, 6, 7, 15) [(0, 6, 11, 25)] rfl (fun z hz => nomatch hz) (by decide) (by decide) k_L_15 cst_IOB rfl (Or.inr ⟨3, dL_claim_7, rfl, rfl⟩) (by decide) (rfl : 7 + 1 = 8) rfl ?_
  refine zr_ldc dL_claim_8 (rfl : 8 + 2 = 10) kj_L_17 ?_
  exact zr_iretH dL_claim_10 rfl ⟨rfl, rfl, rfl⟩
theorem lt_claim2 {c g : Int32} (h5 : w 5 = some (.inr (6, fs))) (hx : zThr Γ md_X6_claim (d + 7) [.ref 5, .int c, .int g] w zISE) : zOtH Γ md_L_claim (d + 8) [.ref 5, .int c, .int g] w (some (.int (jI (-2000002)))) w := by
  intro n9 g9
  refine zTrH.of_run (lv := [some (.ref 5), some (.int c), some (.int g), none]) (by decide) (Nat.le_of_ble_eq_true rfl) rfl ?_
  refine zr_aload_n dL_claim_0 (rfl : 0 + 1 = 1) rfl ?_
  refine zr_iload_n dL_claim_1 (rfl : 1 + 1 = 2) rfl ?_
  refine zr_iload_n dL_claim_2 (rfl : 2 + 1 = 3) rfl ?_
  refine zr_thV dL_claim_3 l_L_44 hx h5 rfl rfl rfl (Nat.le_of_ble_eq_true rfl) (Nat.le_of_ble_eq_true rfl) (Nat.le_of_ble_eq_true rfl) ?_
  refine zr_catch (i := 3) (len := 1) [(0, 6, 7, 15)] (0, 6, 11, 25) [] rfl (fun z hz => by
        rcases List.mem_cons.mp hz with e0 | hz
        · rw [e0]
          exact Or.inr ⟨by decide, _, k_L_15, Or.inr (Or.inl ⟨rfl, rfl⟩)⟩
        exact nomatch hz) (by decide) (by decide) k_L_25 cst_ISE rfl (Or.inr ⟨3, dL_claim_11, rfl, rfl⟩) (by decide) (rfl : 11 + 1 = 12) rfl ?_
  refine zr_ldc dL_claim_12 (rfl : 12 + 2 = 14) kj_L_20 ?_
  exact zr_iretH dL_claim_14 rfl ⟨rfl, rfl, rfl⟩
theorem lo_append {x : Int32} (h5 : w 5 = some (.inr (6, fs))) (hx : zFn Γ md_X6_append (d + 7) [.ref 5, .int x] w (some (.int v)) w2) (n9 : Nat) (g9 : Bool) : zTrH Γ md_L_append (d + 8) mc ms [.ref 5, .int x] n9 g9 w (fun r n' g' w' => r = some (.int v) ∧ n' = n9 ∧ g' = g9 ∧ w' = w2) zNo := by
  refine zTrH.of_run (lv := [some (.ref 5), some (.int x), none]) (by decide) (Nat.le_of_ble_eq_true rfl) rfl ?_
  refine zr_aload_n dL_append_0 (rfl : 0 + 1 = 1) rfl ?_
  refine zr_iload_n dL_append_1 (rfl : 1 + 1 = 2) rfl ?_
  refine zr_fnV dL_append_2 (rfl : 2 + 3 = 5) l_L_47 hx h5 rfl rfl rfl (Nat.le_of_ble_eq_true rfl) ?_
  exact zr_iretH dL_append_5 rfl ⟨rfl, rfl, rfl, rfl⟩
theorem lt_append1 {x : Int32} (h5 : w 5 = some (.inr (6, fs))) (hx : zThr Γ md_X6_append (d + 7) [.ref 5, .int x] w zIAE) : zOtH Γ md_L_append (d + 8) [.ref 5, .int x] w (some (.int (jI (-2000001)))) w := by
  intro n9 g9
  refine zTrH.of_run (lv := [some (.ref 5), some (.int x), none]) (by decide) (Nat.le_of_ble_eq_true rfl) rfl ?_
  refine zr_aload_n dL_append_0 (rfl : 0 + 1 = 1) rfl ?_
  refine zr_iload_n dL_append_1 (rfl : 1 + 1 = 2) rfl ?_
  refine zr_thV dL_append_2 l_L_47 hx h5 rfl rfl rfl (Nat.le_of_ble_eq_true rfl) (Nat.le_of_ble_eq_true rfl) (Nat.le_of_ble_eq_true rfl) ?_
  refine zr_catch (i := 2) (len := 1) [] (0, 5, 6, 18) [(0, 5, 10, 25)] rfl (fun z hz => nomatch hz) (by decide) (by decide) k_L_18 cst_IAE rfl (Or.inr ⟨2, dL_append_6, rfl, rfl⟩) (by decide) (rfl : 6 + 1 = 7) rfl ?_
  refine zr_ldc dL_append_7 (rfl : 7 + 2 = 9) kj_L_17 ?_
  exact zr_iretH dL_append_9 rfl ⟨rfl, rfl, rfl⟩
theorem lt_append2 {x : Int32} (h5 : w 5 = some (.inr (6, fs))) (hx : zThr Γ md_X6_append (d + 7) [.ref 5, .int x] w zISE) : zOtH Γ md_L_append (d + 8) [.ref 5, .int x] w (some (.int (jI (-2000002)))) w := by
  intro n9 g9
  refine zTrH.of_run (lv := [some (.ref 5), some (.int x), none]) (by decide) (Nat.le_of_ble_eq_true rfl) rfl ?_
  refine zr_aload_n dL_append_0 (rfl : 0 + 1 = 1) rfl ?_
  refine zr_iload_n dL_append_1 (rfl : 1 + 1 = 2) rfl ?_
  refine zr_thV dL_append_2 l_L_47 hx h5 rfl rfl rfl (Nat.le_of_ble_eq_true rfl) (Nat.le_of_ble_eq_true rfl) (Nat.le_of_ble_eq_true rfl) ?_
  refine zr_catch (i := 2) (len := 1) [(0, 5, 6, 18)] (0, 5, 10, 25) [] rfl (fun z hz => by
        rcases List.mem_cons.mp hz with e0 | hz
        · rw [e0]
          exact Or.inr ⟨by decide, _, k_L_18, Or.inr (Or.inr ⟨rfl, rfl⟩)⟩
        exact nomatch hz) (by decide) (by decide) k_L_25 cst_ISE rfl (Or.inr ⟨2, dL_append_10, rfl, rfl⟩) (by decide) (rfl : 10 + 1 = 11) rfl ?_
  refine zr_ldc dL_append_11 (rfl : 11 + 2 = 13) kj_L_20 ?_
  exact zr_iretH dL_append_13 rfl ⟨rfl, rfl, rfl⟩
theorem lo_run (h5 : w 5 = some (.inr (6, fs))) (hx : zFn Γ md_X6_run (d + 7) [.ref 5] w (some (.int v)) w2) (n9 : Nat) (g9 : Bool) : zTrH Γ md_L_run (d + 8) mc ms [.ref 5] n9 g9 w (fun r n' g' w' => r = some (.int v) ∧ n' = n9 ∧ g' = g9 ∧ w' = w2) zNo := by
  refine zTrH.of_run (lv := [some (.ref 5), none]) (by decide) (Nat.le_of_ble_eq_true rfl) rfl ?_
  refine zr_aload_n dL_run_0 (rfl : 0 + 1 = 1) rfl ?_
  refine zr_fnV dL_run_1 (rfl : 1 + 3 = 4) l_L_50 hx h5 rfl rfl rfl (Nat.le_of_ble_eq_true rfl) ?_
  exact zr_iretH dL_run_4 rfl ⟨rfl, rfl, rfl, rfl⟩
theorem lt_run1 (h5 : w 5 = some (.inr (6, fs))) (hx : zThr Γ md_X6_run (d + 7) [.ref 5] w zIAE) : zOtH Γ md_L_run (d + 8) [.ref 5] w (some (.int (jI (-2000001)))) w := by
  intro n9 g9
  refine zTrH.of_run (lv := [some (.ref 5), none]) (by decide) (Nat.le_of_ble_eq_true rfl) rfl ?_
  refine zr_aload_n dL_run_0 (rfl : 0 + 1 = 1) rfl ?_
  refine zr_thV dL_run_1 l_L_50 hx h5 rfl rfl rfl (Nat.le_of_ble_eq_true rfl) (Nat.le_of_ble_eq_true rfl) (Nat.le_of_ble_eq_true rfl) ?_
  refine zr_catch (i := 1) (len := 1) [] (0, 4, 5, 18) [] rfl (fun z hz => nomatch hz) (by decide) (by decide) k_L_18 cst_IAE rfl (Or.inr ⟨1, dL_run_5, rfl, rfl⟩) (by decide) (rfl : 5 + 1 = 6) rfl ?_
  refine zr_ldc dL_run_6 (rfl : 6 + 2 = 8) kj_L_17 ?_
  exact zr_iretH dL_run_8 rfl ⟨rfl, rfl, rfl⟩
theorem lo_keep {s : Int32} (h5 : w 5 = some (.inr (6, fs))) (hx : zFn Γ md_X6_keep (d + 7) [.ref 5, .int s] w (some (.int v)) w2) (n9 : Nat) (g9 : Bool) : zTrH Γ md_L_keep (d + 8) mc ms [.ref 5, .int s] n9 g9 w (fun r n' g' w' => r = some (.int v) ∧ n' = n9 ∧ g' = g9 ∧ w' = w2) zNo := by
  refine zTrH.of_run (lv := [some (.ref 5), some (.int s), none]) (by decide) (Nat.le_of_ble_eq_true rfl) rfl ?_
  refine zr_aload_n dL_keep_0 (rfl : 0 + 1 = 1) rfl ?_
  refine zr_iload_n dL_keep_1 (rfl : 1 + 1 = 2) rfl ?_
  refine zr_fnV dL_keep_2 (rfl : 2 + 3 = 5) l_L_54 hx h5 rfl rfl rfl (Nat.le_of_ble_eq_true rfl) ?_
  exact zr_iretH dL_keep_5 rfl ⟨rfl, rfl, rfl, rfl⟩
theorem lt_keep1 {s : Int32} (h5 : w 5 = some (.inr (6, fs))) (hx : zThr Γ md_X6_keep (d + 7) [.ref 5, .int s] w zIAE) : zOtH Γ md_L_keep (d + 8) [.ref 5, .int s] w (some (.int (jI (-2000001)))) w := by
  intro n9 g9
  refine zTrH.of_run (lv := [some (.ref 5), some (.int s), none]) (by decide) (Nat.le_of_ble_eq_true rfl) rfl ?_
  refine zr_aload_n dL_keep_0 (rfl : 0 + 1 = 1) rfl ?_
  refine zr_iload_n dL_keep_1 (rfl : 1 + 1 = 2) rfl ?_
  refine zr_thV dL_keep_2 l_L_54 hx h5 rfl rfl rfl (Nat.le_of_ble_eq_true rfl) (Nat.le_of_ble_eq_true rfl) (Nat.le_of_ble_eq_true rfl) ?_
  refine zr_catch (i := 2) (len := 1) [] (0, 5, 6, 18) [] rfl (fun z hz => nomatch hz) (by decide) (by decide) k_L_18 cst_IAE rfl (Or.inr ⟨2, dL_keep_6, rfl, rfl⟩) (by decide) (rfl : 6 + 1 = 7) rfl ?_
  refine zr_ldc dL_keep_7 (rfl : 7 + 2 = 9) kj_L_17 ?_
  exact zr_iretH dL_keep_9 rfl ⟨rfl, rfl, rfl⟩
theorem lo_goBack {s : Int32} (h5 : w 5 = some (.inr (6, fs))) (hx : zFn Γ md_X6_goBack (d + 7) [.ref 5, .int s] w (some (.int v)) w2) (n9 : Nat) (g9 : Bool) : zTrH Γ md_L_goBack (d + 8) mc ms [.ref 5, .int s] n9 g9 w (fun r n' g' w' => r = some (.int v) ∧ n' = n9 ∧ g' = g9 ∧ w' = w2) zNo := by
  refine zTrH.of_run (lv := [some (.ref 5), some (.int s), none]) (by decide) (Nat.le_of_ble_eq_true rfl) rfl ?_
  refine zr_aload_n dL_goBack_0 (rfl : 0 + 1 = 1) rfl ?_
  refine zr_iload_n dL_goBack_1 (rfl : 1 + 1 = 2) rfl ?_
  refine zr_fnV dL_goBack_2 (rfl : 2 + 3 = 5) l_L_57 hx h5 rfl rfl rfl (Nat.le_of_ble_eq_true rfl) ?_
  exact zr_iretH dL_goBack_5 rfl ⟨rfl, rfl, rfl, rfl⟩
theorem lt_goBack1 {s : Int32} (h5 : w 5 = some (.inr (6, fs))) (hx : zThr Γ md_X6_goBack (d + 7) [.ref 5, .int s] w zIAE) : zOtH Γ md_L_goBack (d + 8) [.ref 5, .int s] w (some (.int (jI (-2000001)))) w := by
  intro n9 g9
  refine zTrH.of_run (lv := [some (.ref 5), some (.int s), none]) (by decide) (Nat.le_of_ble_eq_true rfl) rfl ?_
  refine zr_aload_n dL_goBack_0 (rfl : 0 + 1 = 1) rfl ?_
  refine zr_iload_n dL_goBack_1 (rfl : 1 + 1 = 2) rfl ?_
  refine zr_thV dL_goBack_2 l_L_57 hx h5 rfl rfl rfl (Nat.le_of_ble_eq_true rfl) (Nat.le_of_ble_eq_true rfl) (Nat.le_of_ble_eq_true rfl) ?_
  refine zr_catch (i := 2) (len := 1) [] (0, 5, 6, 18) [(0, 5, 10, 25)] rfl (fun z hz => nomatch hz) (by decide) (by decide) k_L_18 cst_IAE rfl (Or.inr ⟨2, dL_goBack_6, rfl, rfl⟩) (by decide) (rfl : 6 + 1 = 7) rfl ?_
  refine zr_ldc dL_goBack_7 (rfl : 7 + 2 = 9) kj_L_17 ?_
  exact zr_iretH dL_goBack_9 rfl ⟨rfl, rfl, rfl⟩
theorem lt_goBack2 {s : Int32} (h5 : w 5 = some (.inr (6, fs))) (hx : zThr Γ md_X6_goBack (d + 7) [.ref 5, .int s] w zISE) : zOtH Γ md_L_goBack (d + 8) [.ref 5, .int s] w (some (.int (jI (-2000002)))) w := by
  intro n9 g9
  refine zTrH.of_run (lv := [some (.ref 5), some (.int s), none]) (by decide) (Nat.le_of_ble_eq_true rfl) rfl ?_
  refine zr_aload_n dL_goBack_0 (rfl : 0 + 1 = 1) rfl ?_
  refine zr_iload_n dL_goBack_1 (rfl : 1 + 1 = 2) rfl ?_
  refine zr_thV dL_goBack_2 l_L_57 hx h5 rfl rfl rfl (Nat.le_of_ble_eq_true rfl) (Nat.le_of_ble_eq_true rfl) (Nat.le_of_ble_eq_true rfl) ?_
  refine zr_catch (i := 2) (len := 1) [(0, 5, 6, 18)] (0, 5, 10, 25) [] rfl (fun z hz => by
        rcases List.mem_cons.mp hz with e0 | hz
        · rw [e0]
          exact Or.inr ⟨by decide, _, k_L_18, Or.inr (Or.inr ⟨rfl, rfl⟩)⟩
        exact nomatch hz) (by decide) (by decide) k_L_25 cst_ISE rfl (Or.inr ⟨2, dL_goBack_10, rfl, rfl⟩) (by decide) (rfl : 10 + 1 = 11) rfl ?_
  refine zr_ldc dL_goBack_11 (rfl : 11 + 2 = 13) kj_L_20 ?_
  exact zr_iretH dL_goBack_13 rfl ⟨rfl, rfl, rfl⟩
theorem lo_undo (h5 : w 5 = some (.inr (6, fs))) (hx : zFn Γ md_X6_undo (d + 7) [.ref 5] w (some (.int v)) w2) (n9 : Nat) (g9 : Bool) : zTrH Γ md_L_undo (d + 8) mc ms [.ref 5] n9 g9 w (fun r n' g' w' => r = some (.int v) ∧ n' = n9 ∧ g' = g9 ∧ w' = w2) zNo := by
  refine zTrH.of_run (lv := [some (.ref 5), none]) (by decide) (Nat.le_of_ble_eq_true rfl) rfl ?_
  refine zr_aload_n dL_undo_0 (rfl : 0 + 1 = 1) rfl ?_
  refine zr_fnV dL_undo_1 (rfl : 1 + 3 = 4) l_L_60 hx h5 rfl rfl rfl (Nat.le_of_ble_eq_true rfl) ?_
  exact zr_iretH dL_undo_4 rfl ⟨rfl, rfl, rfl, rfl⟩
theorem lt_undo1 (h5 : w 5 = some (.inr (6, fs))) (hx : zThr Γ md_X6_undo (d + 7) [.ref 5] w zISE) : zOtH Γ md_L_undo (d + 8) [.ref 5] w (some (.int (jI (-2000001)))) w := by
  intro n9 g9
  refine zTrH.of_run (lv := [some (.ref 5), none]) (by decide) (Nat.le_of_ble_eq_true rfl) rfl ?_
  refine zr_aload_n dL_undo_0 (rfl : 0 + 1 = 1) rfl ?_
  refine zr_thV dL_undo_1 l_L_60 hx h5 rfl rfl rfl (Nat.le_of_ble_eq_true rfl) (Nat.le_of_ble_eq_true rfl) (Nat.le_of_ble_eq_true rfl) ?_
  refine zr_catch (i := 1) (len := 1) [] (0, 4, 5, 25) [] rfl (fun z hz => nomatch hz) (by decide) (by decide) k_L_25 cst_ISE rfl (Or.inr ⟨1, dL_undo_5, rfl, rfl⟩) (by decide) (rfl : 5 + 1 = 6) rfl ?_
  refine zr_ldc dL_undo_6 (rfl : 6 + 2 = 8) kj_L_17 ?_
  exact zr_iretH dL_undo_8 rfl ⟨rfl, rfl, rfl⟩
theorem lo_at {c r k : Int32} (h5 : w 5 = some (.inr (6, fs))) (hx : zFn Γ md_X6_at (d + 7) [.ref 5, .int c, .int r, .int k] w (some (.int v)) w2) (n9 : Nat) (g9 : Bool) : zTrH Γ md_L_at (d + 8) mc ms [.ref 5, .int c, .int r, .int k] n9 g9 w (fun r n' g' w' => r = some (.int v) ∧ n' = n9 ∧ g' = g9 ∧ w' = w2) zNo := by
  refine zTrH.of_run (lv := [some (.ref 5), some (.int c), some (.int r), some (.int k), none]) (by decide) (Nat.le_of_ble_eq_true rfl) rfl ?_
  refine zr_aload_n dL_at_0 (rfl : 0 + 1 = 1) rfl ?_
  refine zr_iload_n dL_at_1 (rfl : 1 + 1 = 2) rfl ?_
  refine zr_iload_n dL_at_2 (rfl : 2 + 1 = 3) rfl ?_
  refine zr_iload_n dL_at_3 (rfl : 3 + 1 = 4) rfl ?_
  refine zr_fnV dL_at_4 (rfl : 4 + 3 = 7) l_L_63 hx h5 rfl rfl rfl (Nat.le_of_ble_eq_true rfl) ?_
  exact zr_iretH dL_at_7 rfl ⟨rfl, rfl, rfl, rfl⟩
theorem lt_at1 {c r k : Int32} (h5 : w 5 = some (.inr (6, fs))) (hx : zThr Γ md_X6_at (d + 7) [.ref 5, .int c, .int r, .int k] w zIOB) : zOtH Γ md_L_at (d + 8) [.ref 5, .int c, .int r, .int k] w (some (.int (jI (-2000001)))) w := by
  intro n9 g9
  refine zTrH.of_run (lv := [some (.ref 5), some (.int c), some (.int r), some (.int k), none]) (by decide) (Nat.le_of_ble_eq_true rfl) rfl ?_
  refine zr_aload_n dL_at_0 (rfl : 0 + 1 = 1) rfl ?_
  refine zr_iload_n dL_at_1 (rfl : 1 + 1 = 2) rfl ?_
  refine zr_iload_n dL_at_2 (rfl : 2 + 1 = 3) rfl ?_
  refine zr_iload_n dL_at_3 (rfl : 3 + 1 = 4) rfl ?_
  refine zr_thV dL_at_4 l_L_63 hx h5 rfl rfl rfl (Nat.le_of_ble_eq_true rfl) (Nat.le_of_ble_eq_true rfl) (Nat.le_of_ble_eq_true rfl) ?_
  refine zr_catch (i := 4) (len := 2) [] (0, 7, 8, 15) [] rfl (fun z hz => nomatch hz) (by decide) (by decide) k_L_15 cst_IOB rfl (Or.inl ⟨dL_at_8, rfl⟩) (by decide) (rfl : 8 + 2 = 10) rfl ?_
  refine zr_ldc dL_at_10 (rfl : 10 + 2 = 12) kj_L_17 ?_
  exact zr_iretH dL_at_12 rfl ⟨rfl, rfl, rfl⟩
theorem lo_cardOf {c k : Int32} (h5 : w 5 = some (.inr (6, fs))) (hx : zFn Γ md_X6_cardOf (d + 7) [.ref 5, .int c, .int k] w (some (.int v)) w2) (n9 : Nat) (g9 : Bool) : zTrH Γ md_L_cardOf (d + 8) mc ms [.ref 5, .int c, .int k] n9 g9 w (fun r n' g' w' => r = some (.int v) ∧ n' = n9 ∧ g' = g9 ∧ w' = w2) zNo := by
  refine zTrH.of_run (lv := [some (.ref 5), some (.int c), some (.int k), none]) (by decide) (Nat.le_of_ble_eq_true rfl) rfl ?_
  refine zr_aload_n dL_cardOf_0 (rfl : 0 + 1 = 1) rfl ?_
  refine zr_iload_n dL_cardOf_1 (rfl : 1 + 1 = 2) rfl ?_
  refine zr_iload_n dL_cardOf_2 (rfl : 2 + 1 = 3) rfl ?_
  refine zr_fnV dL_cardOf_3 (rfl : 3 + 3 = 6) l_L_66 hx h5 rfl rfl rfl (Nat.le_of_ble_eq_true rfl) ?_
  exact zr_iretH dL_cardOf_6 rfl ⟨rfl, rfl, rfl, rfl⟩
theorem lt_cardOf1 {c k : Int32} (h5 : w 5 = some (.inr (6, fs))) (hx : zThr Γ md_X6_cardOf (d + 7) [.ref 5, .int c, .int k] w zIOB) : zOtH Γ md_L_cardOf (d + 8) [.ref 5, .int c, .int k] w (some (.int (jI (-2000001)))) w := by
  intro n9 g9
  refine zTrH.of_run (lv := [some (.ref 5), some (.int c), some (.int k), none]) (by decide) (Nat.le_of_ble_eq_true rfl) rfl ?_
  refine zr_aload_n dL_cardOf_0 (rfl : 0 + 1 = 1) rfl ?_
  refine zr_iload_n dL_cardOf_1 (rfl : 1 + 1 = 2) rfl ?_
  refine zr_iload_n dL_cardOf_2 (rfl : 2 + 1 = 3) rfl ?_
  refine zr_thV dL_cardOf_3 l_L_66 hx h5 rfl rfl rfl (Nat.le_of_ble_eq_true rfl) (Nat.le_of_ble_eq_true rfl) (Nat.le_of_ble_eq_true rfl) ?_
  refine zr_catch (i := 3) (len := 1) [] (0, 6, 7, 15) [(0, 6, 11, 18)] rfl (fun z hz => nomatch hz) (by decide) (by decide) k_L_15 cst_IOB rfl (Or.inr ⟨3, dL_cardOf_7, rfl, rfl⟩) (by decide) (rfl : 7 + 1 = 8) rfl ?_
  refine zr_ldc dL_cardOf_8 (rfl : 8 + 2 = 10) kj_L_17 ?_
  exact zr_iretH dL_cardOf_10 rfl ⟨rfl, rfl, rfl⟩
theorem lt_cardOf2 {c k : Int32} (h5 : w 5 = some (.inr (6, fs))) (hx : zThr Γ md_X6_cardOf (d + 7) [.ref 5, .int c, .int k] w zIAE) : zOtH Γ md_L_cardOf (d + 8) [.ref 5, .int c, .int k] w (some (.int (jI (-2000002)))) w := by
  intro n9 g9
  refine zTrH.of_run (lv := [some (.ref 5), some (.int c), some (.int k), none]) (by decide) (Nat.le_of_ble_eq_true rfl) rfl ?_
  refine zr_aload_n dL_cardOf_0 (rfl : 0 + 1 = 1) rfl ?_
  refine zr_iload_n dL_cardOf_1 (rfl : 1 + 1 = 2) rfl ?_
  refine zr_iload_n dL_cardOf_2 (rfl : 2 + 1 = 3) rfl ?_
  refine zr_thV dL_cardOf_3 l_L_66 hx h5 rfl rfl rfl (Nat.le_of_ble_eq_true rfl) (Nat.le_of_ble_eq_true rfl) (Nat.le_of_ble_eq_true rfl) ?_
  refine zr_catch (i := 3) (len := 1) [(0, 6, 7, 15)] (0, 6, 11, 18) [] rfl (fun z hz => by
        rcases List.mem_cons.mp hz with e0 | hz
        · rw [e0]
          exact Or.inr ⟨by decide, _, k_L_15, Or.inl ⟨rfl, rfl⟩⟩
        exact nomatch hz) (by decide) (by decide) k_L_18 cst_IAE rfl (Or.inr ⟨3, dL_cardOf_11, rfl, rfl⟩) (by decide) (rfl : 11 + 1 = 12) rfl ?_
  refine zr_ldc dL_cardOf_12 (rfl : 12 + 2 = 14) kj_L_20 ?_
  exact zr_iretH dL_cardOf_14 rfl ⟨rfl, rfl, rfl⟩
theorem lo_numberOf {n k : Int32} (h5 : w 5 = some (.inr (6, fs))) (hx : zFn Γ md_X6_numberOf (d + 7) [.ref 5, .int n, .int k] w (some (.int v)) w2) (n9 : Nat) (g9 : Bool) : zTrH Γ md_L_numberOf (d + 8) mc ms [.ref 5, .int n, .int k] n9 g9 w (fun r n' g' w' => r = some (.int v) ∧ n' = n9 ∧ g' = g9 ∧ w' = w2) zNo := by
  refine zTrH.of_run (lv := [some (.ref 5), some (.int n), some (.int k), none]) (by decide) (Nat.le_of_ble_eq_true rfl) rfl ?_
  refine zr_aload_n dL_numberOf_0 (rfl : 0 + 1 = 1) rfl ?_
  refine zr_iload_n dL_numberOf_1 (rfl : 1 + 1 = 2) rfl ?_
  refine zr_iload_n dL_numberOf_2 (rfl : 2 + 1 = 3) rfl ?_
  refine zr_fnV dL_numberOf_3 (rfl : 3 + 3 = 6) l_L_69 hx h5 rfl rfl rfl (Nat.le_of_ble_eq_true rfl) ?_
  exact zr_iretH dL_numberOf_6 rfl ⟨rfl, rfl, rfl, rfl⟩
theorem lt_numberOf1 {n k : Int32} (h5 : w 5 = some (.inr (6, fs))) (hx : zThr Γ md_X6_numberOf (d + 7) [.ref 5, .int n, .int k] w zIAE) : zOtH Γ md_L_numberOf (d + 8) [.ref 5, .int n, .int k] w (some (.int (jI (-2000001)))) w := by
  intro n9 g9
  refine zTrH.of_run (lv := [some (.ref 5), some (.int n), some (.int k), none]) (by decide) (Nat.le_of_ble_eq_true rfl) rfl ?_
  refine zr_aload_n dL_numberOf_0 (rfl : 0 + 1 = 1) rfl ?_
  refine zr_iload_n dL_numberOf_1 (rfl : 1 + 1 = 2) rfl ?_
  refine zr_iload_n dL_numberOf_2 (rfl : 2 + 1 = 3) rfl ?_
  refine zr_thV dL_numberOf_3 l_L_69 hx h5 rfl rfl rfl (Nat.le_of_ble_eq_true rfl) (Nat.le_of_ble_eq_true rfl) (Nat.le_of_ble_eq_true rfl) ?_
  refine zr_catch (i := 3) (len := 1) [] (0, 6, 7, 18) [] rfl (fun z hz => nomatch hz) (by decide) (by decide) k_L_18 cst_IAE rfl (Or.inr ⟨3, dL_numberOf_7, rfl, rfl⟩) (by decide) (rfl : 7 + 1 = 8) rfl ?_
  refine zr_ldc dL_numberOf_8 (rfl : 8 + 2 = 10) kj_L_17 ?_
  exact zr_iretH dL_numberOf_10 rfl ⟨rfl, rfl, rfl⟩
theorem lo_called {a k : Int32} (h5 : w 5 = some (.inr (6, fs))) (hx : zFn Γ md_X6_call (d + 7) [.ref 5, .int a, .int k] w (some (.int v)) w2) (n9 : Nat) (g9 : Bool) : zTrH Γ md_L_called (d + 8) mc ms [.ref 5, .int a, .int k] n9 g9 w (fun r n' g' w' => r = some (.int v) ∧ n' = n9 ∧ g' = g9 ∧ w' = w2) zNo := by
  refine zTrH.of_run (lv := [some (.ref 5), some (.int a), some (.int k), none]) (by decide) (Nat.le_of_ble_eq_true rfl) rfl ?_
  refine zr_aload_n dL_called_0 (rfl : 0 + 1 = 1) rfl ?_
  refine zr_iload_n dL_called_1 (rfl : 1 + 1 = 2) rfl ?_
  refine zr_iload_n dL_called_2 (rfl : 2 + 1 = 3) rfl ?_
  refine zr_fnV dL_called_3 (rfl : 3 + 3 = 6) l_L_72 hx h5 rfl rfl rfl (Nat.le_of_ble_eq_true rfl) ?_
  exact zr_iretH dL_called_6 rfl ⟨rfl, rfl, rfl, rfl⟩
theorem lt_called1 {a k : Int32} (h5 : w 5 = some (.inr (6, fs))) (hx : zThr Γ md_X6_call (d + 7) [.ref 5, .int a, .int k] w zIAE) : zOtH Γ md_L_called (d + 8) [.ref 5, .int a, .int k] w (some (.int (jI (-2000001)))) w := by
  intro n9 g9
  refine zTrH.of_run (lv := [some (.ref 5), some (.int a), some (.int k), none]) (by decide) (Nat.le_of_ble_eq_true rfl) rfl ?_
  refine zr_aload_n dL_called_0 (rfl : 0 + 1 = 1) rfl ?_
  refine zr_iload_n dL_called_1 (rfl : 1 + 1 = 2) rfl ?_
  refine zr_iload_n dL_called_2 (rfl : 2 + 1 = 3) rfl ?_
  refine zr_thV dL_called_3 l_L_72 hx h5 rfl rfl rfl (Nat.le_of_ble_eq_true rfl) (Nat.le_of_ble_eq_true rfl) (Nat.le_of_ble_eq_true rfl) ?_
  refine zr_catch (i := 3) (len := 1) [] (0, 6, 7, 18) [] rfl (fun z hz => nomatch hz) (by decide) (by decide) k_L_18 cst_IAE rfl (Or.inr ⟨3, dL_called_7, rfl, rfl⟩) (by decide) (rfl : 7 + 1 = 8) rfl ?_
  refine zr_ldc dL_called_8 (rfl : 8 + 2 = 10) kj_L_17 ?_
  exact zr_iretH dL_called_10 rfl ⟨rfl, rfl, rfl⟩
theorem lo_gameOf {g k : Int32} (h5 : w 5 = some (.inr (6, fs))) (hx : zFn Γ md_X6_gameOf (d + 7) [.ref 5, .int g, .int k] w (some (.int v)) w2) (n9 : Nat) (g9 : Bool) : zTrH Γ md_L_gameOf (d + 8) mc ms [.ref 5, .int g, .int k] n9 g9 w (fun r n' g' w' => r = some (.int v) ∧ n' = n9 ∧ g' = g9 ∧ w' = w2) zNo := by
  refine zTrH.of_run (lv := [some (.ref 5), some (.int g), some (.int k), none]) (by decide) (Nat.le_of_ble_eq_true rfl) rfl ?_
  refine zr_aload_n dL_gameOf_0 (rfl : 0 + 1 = 1) rfl ?_
  refine zr_iload_n dL_gameOf_1 (rfl : 1 + 1 = 2) rfl ?_
  refine zr_iload_n dL_gameOf_2 (rfl : 2 + 1 = 3) rfl ?_
  refine zr_fnV dL_gameOf_3 (rfl : 3 + 3 = 6) l_L_75 hx h5 rfl rfl rfl (Nat.le_of_ble_eq_true rfl) ?_
  exact zr_iretH dL_gameOf_6 rfl ⟨rfl, rfl, rfl, rfl⟩
theorem lt_gameOf1 {g k : Int32} (h5 : w 5 = some (.inr (6, fs))) (hx : zThr Γ md_X6_gameOf (d + 7) [.ref 5, .int g, .int k] w zIOB) : zOtH Γ md_L_gameOf (d + 8) [.ref 5, .int g, .int k] w (some (.int (jI (-2000001)))) w := by
  intro n9 g9
  refine zTrH.of_run (lv := [some (.ref 5), some (.int g), some (.int k), none]) (by decide) (Nat.le_of_ble_eq_true rfl) rfl ?_
  refine zr_aload_n dL_gameOf_0 (rfl : 0 + 1 = 1) rfl ?_
  refine zr_iload_n dL_gameOf_1 (rfl : 1 + 1 = 2) rfl ?_
  refine zr_iload_n dL_gameOf_2 (rfl : 2 + 1 = 3) rfl ?_
  refine zr_thV dL_gameOf_3 l_L_75 hx h5 rfl rfl rfl (Nat.le_of_ble_eq_true rfl) (Nat.le_of_ble_eq_true rfl) (Nat.le_of_ble_eq_true rfl) ?_
  refine zr_catch (i := 3) (len := 1) [] (0, 6, 7, 15) [(0, 6, 11, 18)] rfl (fun z hz => nomatch hz) (by decide) (by decide) k_L_15 cst_IOB rfl (Or.inr ⟨3, dL_gameOf_7, rfl, rfl⟩) (by decide) (rfl : 7 + 1 = 8) rfl ?_
  refine zr_ldc dL_gameOf_8 (rfl : 8 + 2 = 10) kj_L_17 ?_
  exact zr_iretH dL_gameOf_10 rfl ⟨rfl, rfl, rfl⟩
theorem lt_gameOf2 {g k : Int32} (h5 : w 5 = some (.inr (6, fs))) (hx : zThr Γ md_X6_gameOf (d + 7) [.ref 5, .int g, .int k] w zIAE) : zOtH Γ md_L_gameOf (d + 8) [.ref 5, .int g, .int k] w (some (.int (jI (-2000002)))) w := by
  intro n9 g9
  refine zTrH.of_run (lv := [some (.ref 5), some (.int g), some (.int k), none]) (by decide) (Nat.le_of_ble_eq_true rfl) rfl ?_
  refine zr_aload_n dL_gameOf_0 (rfl : 0 + 1 = 1) rfl ?_
  refine zr_iload_n dL_gameOf_1 (rfl : 1 + 1 = 2) rfl ?_
  refine zr_iload_n dL_gameOf_2 (rfl : 2 + 1 = 3) rfl ?_
  refine zr_thV dL_gameOf_3 l_L_75 hx h5 rfl rfl rfl (Nat.le_of_ble_eq_true rfl) (Nat.le_of_ble_eq_true rfl) (Nat.le_of_ble_eq_true rfl) ?_
  refine zr_catch (i := 3) (len := 1) [(0, 6, 7, 15)] (0, 6, 11, 18) [] rfl (fun z hz => by
        rcases List.mem_cons.mp hz with e0 | hz
        · rw [e0]
          exact Or.inr ⟨by decide, _, k_L_15, Or.inl ⟨rfl, rfl⟩⟩
        exact nomatch hz) (by decide) (by decide) k_L_18 cst_IAE rfl (Or.inr ⟨3, dL_gameOf_11, rfl, rfl⟩) (by decide) (rfl : 11 + 1 = 12) rfl ?_
  refine zr_ldc dL_gameOf_12 (rfl : 12 + 2 = 14) kj_L_20 ?_
  exact zr_iretH dL_gameOf_14 rfl ⟨rfl, rfl, rfl⟩
theorem lo_count {k : Int32} (h5 : w 5 = some (.inr (6, fs))) (hx : zFn Γ md_X6_count (d + 7) [.ref 5, .int k] w (some (.int v)) w2) (n9 : Nat) (g9 : Bool) : zTrH Γ md_L_count (d + 8) mc ms [.ref 5, .int k] n9 g9 w (fun r n' g' w' => r = some (.int v) ∧ n' = n9 ∧ g' = g9 ∧ w' = w2) zNo := by
  refine zTrH.of_run (lv := [some (.ref 5), some (.int k), none]) (by decide) (Nat.le_of_ble_eq_true rfl) rfl ?_
  refine zr_aload_n dL_count_0 (rfl : 0 + 1 = 1) rfl ?_
  refine zr_iload_n dL_count_1 (rfl : 1 + 1 = 2) rfl ?_
  refine zr_fnV dL_count_2 (rfl : 2 + 3 = 5) l_L_78 hx h5 rfl rfl rfl (Nat.le_of_ble_eq_true rfl) ?_
  exact zr_iretH dL_count_5 rfl ⟨rfl, rfl, rfl, rfl⟩
theorem lt_count1 {k : Int32} (h5 : w 5 = some (.inr (6, fs))) (hx : zThr Γ md_X6_count (d + 7) [.ref 5, .int k] w zIAE) : zOtH Γ md_L_count (d + 8) [.ref 5, .int k] w (some (.int (jI (-2000001)))) w := by
  intro n9 g9
  refine zTrH.of_run (lv := [some (.ref 5), some (.int k), none]) (by decide) (Nat.le_of_ble_eq_true rfl) rfl ?_
  refine zr_aload_n dL_count_0 (rfl : 0 + 1 = 1) rfl ?_
  refine zr_iload_n dL_count_1 (rfl : 1 + 1 = 2) rfl ?_
  refine zr_thV dL_count_2 l_L_78 hx h5 rfl rfl rfl (Nat.le_of_ble_eq_true rfl) (Nat.le_of_ble_eq_true rfl) (Nat.le_of_ble_eq_true rfl) ?_
  refine zr_catch (i := 2) (len := 1) [] (0, 5, 6, 18) [] rfl (fun z hz => nomatch hz) (by decide) (by decide) k_L_18 cst_IAE rfl (Or.inr ⟨2, dL_count_6, rfl, rfl⟩) (by decide) (rfl : 6 + 1 = 7) rfl ?_
  refine zr_ldc dL_count_7 (rfl : 7 + 2 = 9) kj_L_17 ?_
  exact zr_iretH dL_count_9 rfl ⟨rfl, rfl, rfl⟩
theorem lo_setting {s : Int32} (h5 : w 5 = some (.inr (6, fs))) (hx : zFn Γ md_X6_setting (d + 7) [.ref 5, .int s] w (some (.int v)) w2) (n9 : Nat) (g9 : Bool) : zTrH Γ md_L_setting (d + 8) mc ms [.ref 5, .int s] n9 g9 w (fun r n' g' w' => r = some (.int v) ∧ n' = n9 ∧ g' = g9 ∧ w' = w2) zNo := by
  refine zTrH.of_run (lv := [some (.ref 5), some (.int s), none]) (by decide) (Nat.le_of_ble_eq_true rfl) rfl ?_
  refine zr_aload_n dL_setting_0 (rfl : 0 + 1 = 1) rfl ?_
  refine zr_iload_n dL_setting_1 (rfl : 1 + 1 = 2) rfl ?_
  refine zr_fnV dL_setting_2 (rfl : 2 + 3 = 5) l_L_81 hx h5 rfl rfl rfl (Nat.le_of_ble_eq_true rfl) ?_
  exact zr_iretH dL_setting_5 rfl ⟨rfl, rfl, rfl, rfl⟩
theorem lt_setting1 {s : Int32} (h5 : w 5 = some (.inr (6, fs))) (hx : zThr Γ md_X6_setting (d + 7) [.ref 5, .int s] w zIOB) : zOtH Γ md_L_setting (d + 8) [.ref 5, .int s] w (some (.int (jI (-2000001)))) w := by
  intro n9 g9
  refine zTrH.of_run (lv := [some (.ref 5), some (.int s), none]) (by decide) (Nat.le_of_ble_eq_true rfl) rfl ?_
  refine zr_aload_n dL_setting_0 (rfl : 0 + 1 = 1) rfl ?_
  refine zr_iload_n dL_setting_1 (rfl : 1 + 1 = 2) rfl ?_
  refine zr_thV dL_setting_2 l_L_81 hx h5 rfl rfl rfl (Nat.le_of_ble_eq_true rfl) (Nat.le_of_ble_eq_true rfl) (Nat.le_of_ble_eq_true rfl) ?_
  refine zr_catch (i := 2) (len := 1) [] (0, 5, 6, 15) [] rfl (fun z hz => nomatch hz) (by decide) (by decide) k_L_15 cst_IOB rfl (Or.inr ⟨2, dL_setting_6, rfl, rfl⟩) (by decide) (rfl : 6 + 1 = 7) rfl ?_
  refine zr_ldc dL_setting_7 (rfl : 7 + 2 = 9) kj_L_17 ?_
  exact zr_iretH dL_setting_9 rfl ⟨rfl, rfl, rfl⟩
theorem lo_whyNot {c r n : Int32} (h5 : w 5 = some (.inr (6, fs))) (hx : zFn Γ md_X6_whyNot (d + 7) [.ref 5, .int c, .int r, .int n] w (some (.int v)) w2) (n9 : Nat) (g9 : Bool) : zTrH Γ md_L_whyNot (d + 8) mc ms [.ref 5, .int c, .int r, .int n] n9 g9 w (fun r n' g' w' => r = some (.int v) ∧ n' = n9 ∧ g' = g9 ∧ w' = w2) zNo := by
  refine zTrH.of_run (lv := [some (.ref 5), some (.int c), some (.int r), some (.int n), none]) (by decide) (Nat.le_of_ble_eq_true rfl) rfl ?_
  refine zr_aload_n dL_whyNot_0 (rfl : 0 + 1 = 1) rfl ?_
  refine zr_iload_n dL_whyNot_1 (rfl : 1 + 1 = 2) rfl ?_
  refine zr_iload_n dL_whyNot_2 (rfl : 2 + 1 = 3) rfl ?_
  refine zr_iload_n dL_whyNot_3 (rfl : 3 + 1 = 4) rfl ?_
  refine zr_fnV dL_whyNot_4 (rfl : 4 + 3 = 7) l_L_84 hx h5 rfl rfl rfl (Nat.le_of_ble_eq_true rfl) ?_
  exact zr_iretH dL_whyNot_7 rfl ⟨rfl, rfl, rfl, rfl⟩
theorem lt_whyNot1 {c r n : Int32} (h5 : w 5 = some (.inr (6, fs))) (hx : zThr Γ md_X6_whyNot (d + 7) [.ref 5, .int c, .int r, .int n] w zIOB) : zOtH Γ md_L_whyNot (d + 8) [.ref 5, .int c, .int r, .int n] w (some (.int (jI (-2000001)))) w := by
  intro n9 g9
  refine zTrH.of_run (lv := [some (.ref 5), some (.int c), some (.int r), some (.int n), none]) (by decide) (Nat.le_of_ble_eq_true rfl) rfl ?_
  refine zr_aload_n dL_whyNot_0 (rfl : 0 + 1 = 1) rfl ?_
  refine zr_iload_n dL_whyNot_1 (rfl : 1 + 1 = 2) rfl ?_
  refine zr_iload_n dL_whyNot_2 (rfl : 2 + 1 = 3) rfl ?_
  refine zr_iload_n dL_whyNot_3 (rfl : 3 + 1 = 4) rfl ?_
  refine zr_thV dL_whyNot_4 l_L_84 hx h5 rfl rfl rfl (Nat.le_of_ble_eq_true rfl) (Nat.le_of_ble_eq_true rfl) (Nat.le_of_ble_eq_true rfl) ?_
  refine zr_catch (i := 4) (len := 2) [] (0, 7, 8, 15) [(0, 7, 13, 18)] rfl (fun z hz => nomatch hz) (by decide) (by decide) k_L_15 cst_IOB rfl (Or.inl ⟨dL_whyNot_8, rfl⟩) (by decide) (rfl : 8 + 2 = 10) rfl ?_
  refine zr_ldc dL_whyNot_10 (rfl : 10 + 2 = 12) kj_L_17 ?_
  exact zr_iretH dL_whyNot_12 rfl ⟨rfl, rfl, rfl⟩
theorem lt_whyNot2 {c r n : Int32} (h5 : w 5 = some (.inr (6, fs))) (hx : zThr Γ md_X6_whyNot (d + 7) [.ref 5, .int c, .int r, .int n] w zIAE) : zOtH Γ md_L_whyNot (d + 8) [.ref 5, .int c, .int r, .int n] w (some (.int (jI (-2000002)))) w := by
  intro n9 g9
  refine zTrH.of_run (lv := [some (.ref 5), some (.int c), some (.int r), some (.int n), none]) (by decide) (Nat.le_of_ble_eq_true rfl) rfl ?_
  refine zr_aload_n dL_whyNot_0 (rfl : 0 + 1 = 1) rfl ?_
  refine zr_iload_n dL_whyNot_1 (rfl : 1 + 1 = 2) rfl ?_
  refine zr_iload_n dL_whyNot_2 (rfl : 2 + 1 = 3) rfl ?_
  refine zr_iload_n dL_whyNot_3 (rfl : 3 + 1 = 4) rfl ?_
  refine zr_thV dL_whyNot_4 l_L_84 hx h5 rfl rfl rfl (Nat.le_of_ble_eq_true rfl) (Nat.le_of_ble_eq_true rfl) (Nat.le_of_ble_eq_true rfl) ?_
  refine zr_catch (i := 4) (len := 2) [(0, 7, 8, 15)] (0, 7, 13, 18) [] rfl (fun z hz => by
        rcases List.mem_cons.mp hz with e0 | hz
        · rw [e0]
          exact Or.inr ⟨by decide, _, k_L_15, Or.inl ⟨rfl, rfl⟩⟩
        exact nomatch hz) (by decide) (by decide) k_L_18 cst_IAE rfl (Or.inl ⟨dL_whyNot_13, rfl⟩) (by decide) (rfl : 13 + 2 = 15) rfl ?_
  refine zr_ldc dL_whyNot_15 (rfl : 15 + 2 = 17) kj_L_20 ?_
  exact zr_iretH dL_whyNot_17 rfl ⟨rfl, rfl, rfl⟩
theorem lo_ifClaimed {c g : Int32} (h5 : w 5 = some (.inr (6, fs))) (hx : zFn Γ md_X6_ifClaimed (d + 7) [.ref 5, .int c, .int g] w (some (.int v)) w2) (n9 : Nat) (g9 : Bool) : zTrH Γ md_L_ifClaimed (d + 8) mc ms [.ref 5, .int c, .int g] n9 g9 w (fun r n' g' w' => r = some (.int v) ∧ n' = n9 ∧ g' = g9 ∧ w' = w2) zNo := by
  refine zTrH.of_run (lv := [some (.ref 5), some (.int c), some (.int g), none]) (by decide) (Nat.le_of_ble_eq_true rfl) rfl ?_
  refine zr_aload_n dL_ifClaimed_0 (rfl : 0 + 1 = 1) rfl ?_
  refine zr_iload_n dL_ifClaimed_1 (rfl : 1 + 1 = 2) rfl ?_
  refine zr_iload_n dL_ifClaimed_2 (rfl : 2 + 1 = 3) rfl ?_
  refine zr_fnV dL_ifClaimed_3 (rfl : 3 + 3 = 6) l_L_87 hx h5 rfl rfl rfl (Nat.le_of_ble_eq_true rfl) ?_
  exact zr_iretH dL_ifClaimed_6 rfl ⟨rfl, rfl, rfl, rfl⟩
theorem lt_ifClaimed1 {c g : Int32} (h5 : w 5 = some (.inr (6, fs))) (hx : zThr Γ md_X6_ifClaimed (d + 7) [.ref 5, .int c, .int g] w zIOB) : zOtH Γ md_L_ifClaimed (d + 8) [.ref 5, .int c, .int g] w (some (.int (jI (-2000001)))) w := by
  intro n9 g9
  refine zTrH.of_run (lv := [some (.ref 5), some (.int c), some (.int g), none]) (by decide) (Nat.le_of_ble_eq_true rfl) rfl ?_
  refine zr_aload_n dL_ifClaimed_0 (rfl : 0 + 1 = 1) rfl ?_
  refine zr_iload_n dL_ifClaimed_1 (rfl : 1 + 1 = 2) rfl ?_
  refine zr_iload_n dL_ifClaimed_2 (rfl : 2 + 1 = 3) rfl ?_
  refine zr_thV dL_ifClaimed_3 l_L_87 hx h5 rfl rfl rfl (Nat.le_of_ble_eq_true rfl) (Nat.le_of_ble_eq_true rfl) (Nat.le_of_ble_eq_true rfl) ?_
  refine zr_catch (i := 3) (len := 1) [] (0, 6, 7, 15) [] rfl (fun z hz => nomatch hz) (by decide) (by decide) k_L_15 cst_IOB rfl (Or.inr ⟨3, dL_ifClaimed_7, rfl, rfl⟩) (by decide) (rfl : 7 + 1 = 8) rfl ?_
  refine zr_ldc dL_ifClaimed_8 (rfl : 8 + 2 = 10) kj_L_17 ?_
  exact zr_iretH dL_ifClaimed_10 rfl ⟨rfl, rfl, rfl⟩
theorem lo_missing {c g k : Int32} (h5 : w 5 = some (.inr (6, fs))) (hx : zFn Γ md_X6_missing (d + 7) [.ref 5, .int c, .int g, .int k] w (some (.int v)) w2) (n9 : Nat) (g9 : Bool) : zTrH Γ md_L_missing (d + 8) mc ms [.ref 5, .int c, .int g, .int k] n9 g9 w (fun r n' g' w' => r = some (.int v) ∧ n' = n9 ∧ g' = g9 ∧ w' = w2) zNo := by
  refine zTrH.of_run (lv := [some (.ref 5), some (.int c), some (.int g), some (.int k), none]) (by decide) (Nat.le_of_ble_eq_true rfl) rfl ?_
  refine zr_aload_n dL_missing_0 (rfl : 0 + 1 = 1) rfl ?_
  refine zr_iload_n dL_missing_1 (rfl : 1 + 1 = 2) rfl ?_
  refine zr_iload_n dL_missing_2 (rfl : 2 + 1 = 3) rfl ?_
  refine zr_iload_n dL_missing_3 (rfl : 3 + 1 = 4) rfl ?_
  refine zr_fnV dL_missing_4 (rfl : 4 + 3 = 7) l_L_90 hx h5 rfl rfl rfl (Nat.le_of_ble_eq_true rfl) ?_
  exact zr_iretH dL_missing_7 rfl ⟨rfl, rfl, rfl, rfl⟩
theorem lt_missing1 {c g k : Int32} (h5 : w 5 = some (.inr (6, fs))) (hx : zThr Γ md_X6_missing (d + 7) [.ref 5, .int c, .int g, .int k] w zIOB) : zOtH Γ md_L_missing (d + 8) [.ref 5, .int c, .int g, .int k] w (some (.int (jI (-2000001)))) w := by
  intro n9 g9
  refine zTrH.of_run (lv := [some (.ref 5), some (.int c), some (.int g), some (.int k), none]) (by decide) (Nat.le_of_ble_eq_true rfl) rfl ?_
  refine zr_aload_n dL_missing_0 (rfl : 0 + 1 = 1) rfl ?_
  refine zr_iload_n dL_missing_1 (rfl : 1 + 1 = 2) rfl ?_
  refine zr_iload_n dL_missing_2 (rfl : 2 + 1 = 3) rfl ?_
  refine zr_iload_n dL_missing_3 (rfl : 3 + 1 = 4) rfl ?_
  refine zr_thV dL_missing_4 l_L_90 hx h5 rfl rfl rfl (Nat.le_of_ble_eq_true rfl) (Nat.le_of_ble_eq_true rfl) (Nat.le_of_ble_eq_true rfl) ?_
  refine zr_catch (i := 4) (len := 2) [] (0, 7, 8, 15) [(0, 7, 13, 18)] rfl (fun z hz => nomatch hz) (by decide) (by decide) k_L_15 cst_IOB rfl (Or.inl ⟨dL_missing_8, rfl⟩) (by decide) (rfl : 8 + 2 = 10) rfl ?_
  refine zr_ldc dL_missing_10 (rfl : 10 + 2 = 12) kj_L_17 ?_
  exact zr_iretH dL_missing_12 rfl ⟨rfl, rfl, rfl⟩
theorem lt_missing2 {c g k : Int32} (h5 : w 5 = some (.inr (6, fs))) (hx : zThr Γ md_X6_missing (d + 7) [.ref 5, .int c, .int g, .int k] w zIAE) : zOtH Γ md_L_missing (d + 8) [.ref 5, .int c, .int g, .int k] w (some (.int (jI (-2000002)))) w := by
  intro n9 g9
  refine zTrH.of_run (lv := [some (.ref 5), some (.int c), some (.int g), some (.int k), none]) (by decide) (Nat.le_of_ble_eq_true rfl) rfl ?_
  refine zr_aload_n dL_missing_0 (rfl : 0 + 1 = 1) rfl ?_
  refine zr_iload_n dL_missing_1 (rfl : 1 + 1 = 2) rfl ?_
  refine zr_iload_n dL_missing_2 (rfl : 2 + 1 = 3) rfl ?_
  refine zr_iload_n dL_missing_3 (rfl : 3 + 1 = 4) rfl ?_
  refine zr_thV dL_missing_4 l_L_90 hx h5 rfl rfl rfl (Nat.le_of_ble_eq_true rfl) (Nat.le_of_ble_eq_true rfl) (Nat.le_of_ble_eq_true rfl) ?_
  refine zr_catch (i := 4) (len := 2) [(0, 7, 8, 15)] (0, 7, 13, 18) [] rfl (fun z hz => by
        rcases List.mem_cons.mp hz with e0 | hz
        · rw [e0]
          exact Or.inr ⟨by decide, _, k_L_15, Or.inl ⟨rfl, rfl⟩⟩
        exact nomatch hz) (by decide) (by decide) k_L_18 cst_IAE rfl (Or.inl ⟨dL_missing_13, rfl⟩) (by decide) (rfl : 13 + 2 = 15) rfl ?_
  refine zr_ldc dL_missing_15 (rfl : 15 + 2 = 17) kj_L_20 ?_
  exact zr_iretH dL_missing_17 rfl ⟨rfl, rfl, rfl⟩
theorem lo_fullAt {c k : Int32} (h5 : w 5 = some (.inr (6, fs))) (hx : zFn Γ md_X6_fullAt (d + 7) [.ref 5, .int c, .int k] w (some (.int v)) w2) (n9 : Nat) (g9 : Bool) : zTrH Γ md_L_fullAt (d + 8) mc ms [.ref 5, .int c, .int k] n9 g9 w (fun r n' g' w' => r = some (.int v) ∧ n' = n9 ∧ g' = g9 ∧ w' = w2) zNo := by
  refine zTrH.of_run (lv := [some (.ref 5), some (.int c), some (.int k), none]) (by decide) (Nat.le_of_ble_eq_true rfl) rfl ?_
  refine zr_aload_n dL_fullAt_0 (rfl : 0 + 1 = 1) rfl ?_
  refine zr_iload_n dL_fullAt_1 (rfl : 1 + 1 = 2) rfl ?_
  refine zr_iload_n dL_fullAt_2 (rfl : 2 + 1 = 3) rfl ?_
  refine zr_fnV dL_fullAt_3 (rfl : 3 + 3 = 6) l_L_93 hx h5 rfl rfl rfl (Nat.le_of_ble_eq_true rfl) ?_
  exact zr_iretH dL_fullAt_6 rfl ⟨rfl, rfl, rfl, rfl⟩
theorem lt_fullAt1 {c k : Int32} (h5 : w 5 = some (.inr (6, fs))) (hx : zThr Γ md_X6_fullAt (d + 7) [.ref 5, .int c, .int k] w zIOB) : zOtH Γ md_L_fullAt (d + 8) [.ref 5, .int c, .int k] w (some (.int (jI (-2000001)))) w := by
  intro n9 g9
  refine zTrH.of_run (lv := [some (.ref 5), some (.int c), some (.int k), none]) (by decide) (Nat.le_of_ble_eq_true rfl) rfl ?_
  refine zr_aload_n dL_fullAt_0 (rfl : 0 + 1 = 1) rfl ?_
  refine zr_iload_n dL_fullAt_1 (rfl : 1 + 1 = 2) rfl ?_
  refine zr_iload_n dL_fullAt_2 (rfl : 2 + 1 = 3) rfl ?_
  refine zr_thV dL_fullAt_3 l_L_93 hx h5 rfl rfl rfl (Nat.le_of_ble_eq_true rfl) (Nat.le_of_ble_eq_true rfl) (Nat.le_of_ble_eq_true rfl) ?_
  refine zr_catch (i := 3) (len := 1) [] (0, 6, 7, 15) [(0, 6, 11, 18)] rfl (fun z hz => nomatch hz) (by decide) (by decide) k_L_15 cst_IOB rfl (Or.inr ⟨3, dL_fullAt_7, rfl, rfl⟩) (by decide) (rfl : 7 + 1 = 8) rfl ?_
  refine zr_ldc dL_fullAt_8 (rfl : 8 + 2 = 10) kj_L_17 ?_
  exact zr_iretH dL_fullAt_10 rfl ⟨rfl, rfl, rfl⟩
theorem lt_fullAt2 {c k : Int32} (h5 : w 5 = some (.inr (6, fs))) (hx : zThr Γ md_X6_fullAt (d + 7) [.ref 5, .int c, .int k] w zIAE) : zOtH Γ md_L_fullAt (d + 8) [.ref 5, .int c, .int k] w (some (.int (jI (-2000002)))) w := by
  intro n9 g9
  refine zTrH.of_run (lv := [some (.ref 5), some (.int c), some (.int k), none]) (by decide) (Nat.le_of_ble_eq_true rfl) rfl ?_
  refine zr_aload_n dL_fullAt_0 (rfl : 0 + 1 = 1) rfl ?_
  refine zr_iload_n dL_fullAt_1 (rfl : 1 + 1 = 2) rfl ?_
  refine zr_iload_n dL_fullAt_2 (rfl : 2 + 1 = 3) rfl ?_
  refine zr_thV dL_fullAt_3 l_L_93 hx h5 rfl rfl rfl (Nat.le_of_ble_eq_true rfl) (Nat.le_of_ble_eq_true rfl) (Nat.le_of_ble_eq_true rfl) ?_
  refine zr_catch (i := 3) (len := 1) [(0, 6, 7, 15)] (0, 6, 11, 18) [] rfl (fun z hz => by
        rcases List.mem_cons.mp hz with e0 | hz
        · rw [e0]
          exact Or.inr ⟨by decide, _, k_L_15, Or.inl ⟨rfl, rfl⟩⟩
        exact nomatch hz) (by decide) (by decide) k_L_18 cst_IAE rfl (Or.inr ⟨3, dL_fullAt_11, rfl, rfl⟩) (by decide) (rfl : 11 + 1 = 12) rfl ?_
  refine zr_ldc dL_fullAt_12 (rfl : 12 + 2 = 14) kj_L_20 ?_
  exact zr_iretH dL_fullAt_14 rfl ⟨rfl, rfl, rfl⟩
theorem lo_next {m : Int32} (h5 : w 5 = some (.inr (6, fs))) (hx : zFn Γ md_X6_next (d + 7) [.ref 5, .int m] w (some (.int v)) w2) (n9 : Nat) (g9 : Bool) : zTrH Γ md_L_next (d + 8) mc ms [.ref 5, .int m] n9 g9 w (fun r n' g' w' => r = some (.int v) ∧ n' = n9 ∧ g' = g9 ∧ w' = w2) zNo := by
  refine zTrH.of_run (lv := [some (.ref 5), some (.int m), none]) (by decide) (Nat.le_of_ble_eq_true rfl) rfl ?_
  refine zr_aload_n dL_next_0 (rfl : 0 + 1 = 1) rfl ?_
  refine zr_iload_n dL_next_1 (rfl : 1 + 1 = 2) rfl ?_
  refine zr_fnV dL_next_2 (rfl : 2 + 3 = 5) l_L_96 hx h5 rfl rfl rfl (Nat.le_of_ble_eq_true rfl) ?_
  exact zr_iretH dL_next_5 rfl ⟨rfl, rfl, rfl, rfl⟩
theorem lt_next1 {m : Int32} (h5 : w 5 = some (.inr (6, fs))) (hx : zThr Γ md_X6_next (d + 7) [.ref 5, .int m] w zIAE) : zOtH Γ md_L_next (d + 8) [.ref 5, .int m] w (some (.int (jI (-2000001)))) w := by
  intro n9 g9
  refine zTrH.of_run (lv := [some (.ref 5), some (.int m), none]) (by decide) (Nat.le_of_ble_eq_true rfl) rfl ?_
  refine zr_aload_n dL_next_0 (rfl : 0 + 1 = 1) rfl ?_
  refine zr_iload_n dL_next_1 (rfl : 1 + 1 = 2) rfl ?_
  refine zr_thV dL_next_2 l_L_96 hx h5 rfl rfl rfl (Nat.le_of_ble_eq_true rfl) (Nat.le_of_ble_eq_true rfl) (Nat.le_of_ble_eq_true rfl) ?_
  refine zr_catch (i := 2) (len := 1) [] (0, 5, 6, 18) [] rfl (fun z hz => nomatch hz) (by decide) (by decide) k_L_18 cst_IAE rfl (Or.inr ⟨2, dL_next_6, rfl, rfl⟩) (by decide) (rfl : 6 + 1 = 7) rfl ?_
  refine zr_ldc dL_next_7 (rfl : 7 + 2 = 9) kj_L_17 ?_
  exact zr_iretH dL_next_9 rfl ⟨rfl, rfl, rfl⟩
end WP
