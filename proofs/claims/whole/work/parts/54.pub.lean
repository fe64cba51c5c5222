/-! the reference's public methods, by their outcomes -/
section PU
variable {Γ : zΓ} {d : Nat} {S : Int → Int} {ik : Int → Int} {th : Int} {w : zW} {B : zB} {σ : zC}
theorem p_put1 (c r n : Int) (hc : j32 c) (hr : j32 r) (hn : j32 n) (hp : ¬ ((0 ≤ c ∧ c < 6) ∧ 0 ≤ r ∧ r < 3))  (hR : zRel B σ S ik) : zFe Γ md_X7_put (d + 8) [.ref 167, .int (jI c), .int (jI r), .int (jI n)] (mw S σ.sc ik th σ.T σ.L w) (zMQ (some (.int (jI 0))) 1 (B) (σ) w) := by
  obtain ⟨ok, lk, pk, ck, lx, h, hsv, hkp⟩ := hR
  have hR : zRel B σ S ik := ⟨ok, lk, pk, ck, lx, h, hsv, hkp⟩
  refine zFe.of_run (lv := [some (.ref 167), some (.int (jI c)), some (.int (jI r)), some (.int (jI n))]) (by decide) rfl (Nat.le_of_ble_eq_true rfl) rfl (fun n9 g9 => ?_)
  refine zr_aload_n dX7_put_0 (rfl : 0 + 1 = 1) rfl ?_
  refine zr_iload_n dX7_put_1 (rfl : 1 + 1 = 2) rfl ?_
  refine zr_fnS dX7_put_2 (rfl : 2 + 3 = 5) l_X7_50 (m_isCard c hc) rfl rfl (Nat.le_of_ble_eq_true rfl) ?_
  refine zr_if_eq (tgt := 19) dX7_put_5 (by decide) (rfl : 5 + 3 = 8) (by first | exact jb_iff | exact jI_z (by first | omega | (simp only [bset, reduceIte, Nat.reduceEqDiff]; omega)) (by first | omega | (simp only [bset, reduceIte, Nat.reduceEqDiff]; omega))) (fun h5 => ?_) (fun h5 => ?_)
  · first
    | (exfalso; omega)
    | (
      refine zr_iconst dX7_put_19 (rfl : 19 + 1 = 20) ?_
      refine zr_iload_n dX7_put_20 (rfl : 20 + 1 = 21) rfl ?_
      refine zr_fnS dX7_put_21 (rfl : 21 + 3 = 24) l_X7_57 (m_isNumber n hn) rfl rfl (Nat.le_of_ble_eq_true rfl) ?_
      refine zr_iconst dX7_put_24 (rfl : 24 + 1 = 25) ?_
      refine zr_fnV dX7_put_25 (rfl : 25 + 3 = 28) l_X7_60 (m_go1 _ _) (by first | assumption | exact mw_167 | exact mw_168 | exact mw_169 | exact mw_170 | exact bk_0 | exact bk_1 | exact bk_2 | exact bk_3 | exact bk_4 | exact bk_5 | exact bk_6 | exact bk_7 | exact bk_8 | exact bk_9 | exact bk_10 | exact bk_11 | exact bk_12 | exact bk_13 | exact bk_14 | exact bk_15 | exact bk_16 | exact zup_self | exact (zup_ne (by first | assumption | omega)).trans (by first | assumption | exact zup_self) | exact (zup_ne (by first | assumption | omega)).trans ((zup_ne (by first | assumption | omega)).trans (by first | assumption | exact zup_self)) | exact (bk_out (by first | omega | (simp only [bset, reduceIte, Nat.reduceEqDiff]; omega))).trans (by first | exact bk_0 | exact bk_1 | exact bk_2 | exact bk_3 | exact bk_4 | exact bk_5 | exact bk_6 | exact bk_7 | exact bk_8 | exact bk_9 | exact bk_10 | exact bk_11 | exact bk_12 | exact bk_13 | exact bk_14 | exact bk_15 | exact bk_16 | exact cr_5 | exact cr_23 | exact cr_24 | exact cr_25 | exact cr_26 | exact cr_27 | exact cr_28 | exact cr_29 | exact cr_30 | assumption)) rfl rfl rfl (Nat.le_of_ble_eq_true rfl) ?_
      refine zr_if_ne (tgt := 33) dX7_put_28 (by decide) (rfl : 28 + 3 = 31) (by first | exact jb_iff | exact jI_z (by first | omega | (simp only [bset, reduceIte, Nat.reduceEqDiff]; omega)) (by first | omega | (simp only [bset, reduceIte, Nat.reduceEqDiff]; omega))) (fun h28 => ?_) (fun h28 => ?_)
      · first
        | (exfalso; omega)
        | (
          exfalso
          omega)
      · first
        | (exfalso; omega)
        | (
          refine zr_iconst dX7_put_31 (rfl : 31 + 1 = 32) ?_
          refine zr_ireE dX7_put_32 rfl rfl ?_
          exact ⟨rfl, S, ik, hR, rfl⟩))
  · first
    | (exfalso; omega)
    | (
      refine zr_iload_n dX7_put_8 (rfl : 8 + 1 = 9) rfl ?_
      refine zr_fnS dX7_put_9 (rfl : 9 + 3 = 12) l_X7_54 (m_isRow r hr) rfl rfl (Nat.le_of_ble_eq_true rfl) ?_
      refine zr_if_eq (tgt := 19) dX7_put_12 (by decide) (rfl : 12 + 3 = 15) (by first | exact jb_iff | exact jI_z (by first | omega | (simp only [bset, reduceIte, Nat.reduceEqDiff]; omega)) (by first | omega | (simp only [bset, reduceIte, Nat.reduceEqDiff]; omega))) (fun h12 => ?_) (fun h12 => ?_)
      · first
        | (exfalso; omega)
        | (
          refine zr_iconst dX7_put_19 (rfl : 19 + 1 = 20) ?_
          refine zr_iload_n dX7_put_20 (rfl : 20 + 1 = 21) rfl ?_
          refine zr_fnS dX7_put_21 (rfl : 21 + 3 = 24) l_X7_57 (m_isNumber n hn) rfl rfl (Nat.le_of_ble_eq_true rfl) ?_
          refine zr_iconst dX7_put_24 (rfl : 24 + 1 = 25) ?_
          refine zr_fnV dX7_put_25 (rfl : 25 + 3 = 28) l_X7_60 (m_go1 _ _) (by first | assumption | exact mw_167 | exact mw_168 | exact mw_169 | exact mw_170 | exact bk_0 | exact bk_1 | exact bk_2 | exact bk_3 | exact bk_4 | exact bk_5 | exact bk_6 | exact bk_7 | exact bk_8 | exact bk_9 | exact bk_10 | exact bk_11 | exact bk_12 | exact bk_13 | exact bk_14 | exact bk_15 | exact bk_16 | exact zup_self | exact (zup_ne (by first | assumption | omega)).trans (by first | assumption | exact zup_self) | exact (zup_ne (by first | assumption | omega)).trans ((zup_ne (by first | assumption | omega)).trans (by first | assumption | exact zup_self)) | exact (bk_out (by first | omega | (simp only [bset, reduceIte, Nat.reduceEqDiff]; omega))).trans (by first | exact bk_0 | exact bk_1 | exact bk_2 | exact bk_3 | exact bk_4 | exact bk_5 | exact bk_6 | exact bk_7 | exact bk_8 | exact bk_9 | exact bk_10 | exact bk_11 | exact bk_12 | exact bk_13 | exact bk_14 | exact bk_15 | exact bk_16 | exact cr_5 | exact cr_23 | exact cr_24 | exact cr_25 | exact cr_26 | exact cr_27 | exact cr_28 | exact cr_29 | exact cr_30 | assumption)) rfl rfl rfl (Nat.le_of_ble_eq_true rfl) ?_
          refine zr_if_ne (tgt := 33) dX7_put_28 (by decide) (rfl : 28 + 3 = 31) (by first | exact jb_iff | exact jI_z (by first | omega | (simp only [bset, reduceIte, Nat.reduceEqDiff]; omega)) (by first | omega | (simp only [bset, reduceIte, Nat.reduceEqDiff]; omega))) (fun h28 => ?_) (fun h28 => ?_)
          · first
            | (exfalso; omega)
            | (
              exfalso
              omega)
          · first
            | (exfalso; omega)
            | (
              refine zr_iconst dX7_put_31 (rfl : 31 + 1 = 32) ?_
              refine zr_ireE dX7_put_32 rfl rfl ?_
              exact ⟨rfl, S, ik, hR, rfl⟩))
      · first
        | (exfalso; omega)
        | (
          refine zr_iconst dX7_put_15 (rfl : 15 + 1 = 16) ?_
          refine zr_goto (tgt := 20) dX7_put_16 (by decide) ?_
          refine zr_iload_n dX7_put_20 (rfl : 20 + 1 = 21) rfl ?_
          refine zr_fnS dX7_put_21 (rfl : 21 + 3 = 24) l_X7_57 (m_isNumber n hn) rfl rfl (Nat.le_of_ble_eq_true rfl) ?_
          refine zr_iconst dX7_put_24 (rfl : 24 + 1 = 25) ?_
          refine zr_fnV dX7_put_25 (rfl : 25 + 3 = 28) l_X7_60 (m_go1 _ _) (by first | assumption | exact mw_167 | exact mw_168 | exact mw_169 | exact mw_170 | exact bk_0 | exact bk_1 | exact bk_2 | exact bk_3 | exact bk_4 | exact bk_5 | exact bk_6 | exact bk_7 | exact bk_8 | exact bk_9 | exact bk_10 | exact bk_11 | exact bk_12 | exact bk_13 | exact bk_14 | exact bk_15 | exact bk_16 | exact zup_self | exact (zup_ne (by first | assumption | omega)).trans (by first | assumption | exact zup_self) | exact (zup_ne (by first | assumption | omega)).trans ((zup_ne (by first | assumption | omega)).trans (by first | assumption | exact zup_self)) | exact (bk_out (by first | omega | (simp only [bset, reduceIte, Nat.reduceEqDiff]; omega))).trans (by first | exact bk_0 | exact bk_1 | exact bk_2 | exact bk_3 | exact bk_4 | exact bk_5 | exact bk_6 | exact bk_7 | exact bk_8 | exact bk_9 | exact bk_10 | exact bk_11 | exact bk_12 | exact bk_13 | exact bk_14 | exact bk_15 | exact bk_16 | exact cr_5 | exact cr_23 | exact cr_24 | exact cr_25 | exact cr_26 | exact cr_27 | exact cr_28 | exact cr_29 | exact cr_30 | assumption)) rfl rfl rfl (Nat.le_of_ble_eq_true rfl) ?_
          refine zr_if_ne (tgt := 33) dX7_put_28 (by decide) (rfl : 28 + 3 = 31) (by first | exact jb_iff | exact jI_z (by first | omega | (simp only [bset, reduceIte, Nat.reduceEqDiff]; omega)) (by first | omega | (simp only [bset, reduceIte, Nat.reduceEqDiff]; omega))) (fun h28 => ?_) (fun h28 => ?_)
          · first
            | (exfalso; omega)
            | (
              exfalso
              omega)
          · first
            | (exfalso; omega)
            | (
              refine zr_iconst dX7_put_31 (rfl : 31 + 1 = 32) ?_
              refine zr_ireE dX7_put_32 rfl rfl ?_
              exact ⟨rfl, S, ik, hR, rfl⟩)))
theorem p_put2 (c r n : Int) (hc : j32 c) (hr : j32 r) (hn : j32 n) (hp : (0 ≤ c ∧ c < 6) ∧ 0 ≤ r ∧ r < 3) (h2 : ¬ (1 ≤ n ∧ n ≤ 90))  (hR : zRel B σ S ik) : zFe Γ md_X7_put (d + 8) [.ref 167, .int (jI c), .int (jI r), .int (jI n)] (mw S σ.sc ik th σ.T σ.L w) (zMQ (some (.int (jI 0))) 2 (B) (σ) w) := by
  obtain ⟨ok, lk, pk, ck, lx, h, hsv, hkp⟩ := hR
  have hR : zRel B σ S ik := ⟨ok, lk, pk, ck, lx, h, hsv, hkp⟩
  refine zFe.of_run (lv := [some (.ref 167), some (.int (jI c)), some (.int (jI r)), some (.int (jI n))]) (by decide) rfl (Nat.le_of_ble_eq_true rfl) rfl (fun n9 g9 => ?_)
  refine zr_aload_n dX7_put_0 (rfl : 0 + 1 = 1) rfl ?_
  refine zr_iload_n dX7_put_1 (rfl : 1 + 1 = 2) rfl ?_
  refine zr_fnS dX7_put_2 (rfl : 2 + 3 = 5) l_X7_50 (m_isCard c hc) rfl rfl (Nat.le_of_ble_eq_true rfl) ?_
  refine zr_if_eq (tgt := 19) dX7_put_5 (by decide) (rfl : 5 + 3 = 8) (by first | exact jb_iff | exact jI_z (by first | omega | (simp only [bset, reduceIte, Nat.reduceEqDiff]; omega)) (by first | omega | (simp only [bset, reduceIte, Nat.reduceEqDiff]; omega))) (fun h5 => ?_) (fun h5 => ?_)
  · first
    | (exfalso; omega)
    | (
      refine zr_iconst dX7_put_19 (rfl : 19 + 1 = 20) ?_
      refine zr_iload_n dX7_put_20 (rfl : 20 + 1 = 21) rfl ?_
      refine zr_fnS dX7_put_21 (rfl : 21 + 3 = 24) l_X7_57 (m_isNumber n hn) rfl rfl (Nat.le_of_ble_eq_true rfl) ?_
      rw [jb_neg (by omega)]
      refine zr_iconst dX7_put_24 (rfl : 24 + 1 = 25) ?_
      refine zr_fnV dX7_put_25 (rfl : 25 + 3 = 28) l_X7_60 (m_go2 _) (by first | assumption | exact mw_167 | exact mw_168 | exact mw_169 | exact mw_170 | exact bk_0 | exact bk_1 | exact bk_2 | exact bk_3 | exact bk_4 | exact bk_5 | exact bk_6 | exact bk_7 | exact bk_8 | exact bk_9 | exact bk_10 | exact bk_11 | exact bk_12 | exact bk_13 | exact bk_14 | exact bk_15 | exact bk_16 | exact zup_self | exact (zup_ne (by first | assumption | omega)).trans (by first | assumption | exact zup_self) | exact (zup_ne (by first | assumption | omega)).trans ((zup_ne (by first | assumption | omega)).trans (by first | assumption | exact zup_self)) | exact (bk_out (by first | omega | (simp only [bset, reduceIte, Nat.reduceEqDiff]; omega))).trans (by first | exact bk_0 | exact bk_1 | exact bk_2 | exact bk_3 | exact bk_4 | exact bk_5 | exact bk_6 | exact bk_7 | exact bk_8 | exact bk_9 | exact bk_10 | exact bk_11 | exact bk_12 | exact bk_13 | exact bk_14 | exact bk_15 | exact bk_16 | exact cr_5 | exact cr_23 | exact cr_24 | exact cr_25 | exact cr_26 | exact cr_27 | exact cr_28 | exact cr_29 | exact cr_30 | assumption)) rfl rfl rfl (Nat.le_of_ble_eq_true rfl) ?_
      refine zr_if_ne (tgt := 33) dX7_put_28 (by decide) (rfl : 28 + 3 = 31) (by first | exact jb_iff | exact jI_z (by first | omega | (simp only [bset, reduceIte, Nat.reduceEqDiff]; omega)) (by first | omega | (simp only [bset, reduceIte, Nat.reduceEqDiff]; omega))) (fun h28 => ?_) (fun h28 => ?_)
      · first
        | (exfalso; omega)
        | (
          exfalso
          omega)
      · first
        | (exfalso; omega)
        | (
          refine zr_iconst dX7_put_31 (rfl : 31 + 1 = 32) ?_
          refine zr_ireE dX7_put_32 rfl rfl ?_
          exact ⟨rfl, S, ik, hR, rfl⟩))
  · first
    | (exfalso; omega)
    | (
      refine zr_iload_n dX7_put_8 (rfl : 8 + 1 = 9) rfl ?_
      refine zr_fnS dX7_put_9 (rfl : 9 + 3 = 12) l_X7_54 (m_isRow r hr) rfl rfl (Nat.le_of_ble_eq_true rfl) ?_
      refine zr_if_eq (tgt := 19) dX7_put_12 (by decide) (rfl : 12 + 3 = 15) (by first | exact jb_iff | exact jI_z (by first | omega | (simp only [bset, reduceIte, Nat.reduceEqDiff]; omega)) (by first | omega | (simp only [bset, reduceIte, Nat.reduceEqDiff]; omega))) (fun h12 => ?_) (fun h12 => ?_)
      · first
        | (exfalso; omega)
        | (
          refine zr_iconst dX7_put_19 (rfl : 19 + 1 = 20) ?_
          refine zr_iload_n dX7_put_20 (rfl : 20 + 1 = 21) rfl ?_
          refine zr_fnS dX7_put_21 (rfl : 21 + 3 = 24) l_X7_57 (m_isNumber n hn) rfl rfl (Nat.le_of_ble_eq_true rfl) ?_
          rw [jb_neg (by omega)]
          refine zr_iconst dX7_put_24 (rfl : 24 + 1 = 25) ?_
          refine zr_fnV dX7_put_25 (rfl : 25 + 3 = 28) l_X7_60 (m_go2 _) (by first | assumption | exact mw_167 | exact mw_168 | exact mw_169 | exact mw_170 | exact bk_0 | exact bk_1 | exact bk_2 | exact bk_3 | exact bk_4 | exact bk_5 | exact bk_6 | exact bk_7 | exact bk_8 | exact bk_9 | exact bk_10 | exact bk_11 | exact bk_12 | exact bk_13 | exact bk_14 | exact bk_15 | exact bk_16 | exact zup_self | exact (zup_ne (by first | assumption | omega)).trans (by first | assumption | exact zup_self) | exact (zup_ne (by first | assumption | omega)).trans ((zup_ne (by first | assumption | omega)).trans (by first | assumption | exact zup_self)) | exact (bk_out (by first | omega | (simp only [bset, reduceIte, Nat.reduceEqDiff]; omega))).trans (by first | exact bk_0 | exact bk_1 | exact bk_2 | exact bk_3 | exact bk_4 | exact bk_5 | exact bk_6 | exact bk_7 | exact bk_8 | exact bk_9 | exact bk_10 | exact bk_11 | exact bk_12 | exact bk_13 | exact bk_14 | exact bk_15 | exact bk_16 | exact cr_5 | exact cr_23 | exact cr_24 | exact cr_25 | exact cr_26 | exact cr_27 | exact cr_28 | exact cr_29 | exact cr_30 | assumption)) rfl rfl rfl (Nat.le_of_ble_eq_true rfl) ?_
          refine zr_if_ne (tgt := 33) dX7_put_28 (by decide) (rfl : 28 + 3 = 31) (by first | exact jb_iff | exact jI_z (by first | omega | (simp only [bset, reduceIte, Nat.reduceEqDiff]; omega)) (by first | omega | (simp only [bset, reduceIte, Nat.reduceEqDiff]; omega))) (fun h28 => ?_) (fun h28 => ?_)
          · first
            | (exfalso; omega)
            | (
              exfalso
              omega)
          · first
            | (exfalso; omega)
            | (
              refine zr_iconst dX7_put_31 (rfl : 31 + 1 = 32) ?_
              refine zr_ireE dX7_put_32 rfl rfl ?_
              exact ⟨rfl, S, ik, hR, rfl⟩))
      · first
        | (exfalso; omega)
        | (
          refine zr_iconst dX7_put_15 (rfl : 15 + 1 = 16) ?_
          refine zr_goto (tgt := 20) dX7_put_16 (by decide) ?_
          refine zr_iload_n dX7_put_20 (rfl : 20 + 1 = 21) rfl ?_
          refine zr_fnS dX7_put_21 (rfl : 21 + 3 = 24) l_X7_57 (m_isNumber n hn) rfl rfl (Nat.le_of_ble_eq_true rfl) ?_
          rw [jb_neg (by omega)]
          refine zr_iconst dX7_put_24 (rfl : 24 + 1 = 25) ?_
          refine zr_fnV dX7_put_25 (rfl : 25 + 3 = 28) l_X7_60 (m_go2 _) (by first | assumption | exact mw_167 | exact mw_168 | exact mw_169 | exact mw_170 | exact bk_0 | exact bk_1 | exact bk_2 | exact bk_3 | exact bk_4 | exact bk_5 | exact bk_6 | exact bk_7 | exact bk_8 | exact bk_9 | exact bk_10 | exact bk_11 | exact bk_12 | exact bk_13 | exact bk_14 | exact bk_15 | exact bk_16 | exact zup_self | exact (zup_ne (by first | assumption | omega)).trans (by first | assumption | exact zup_self) | exact (zup_ne (by first | assumption | omega)).trans ((zup_ne (by first | assumption | omega)).trans (by first | assumption | exact zup_self)) | exact (bk_out (by first | omega | (simp only [bset, reduceIte, Nat.reduceEqDiff]; omega))).trans (by first | exact bk_0 | exact bk_1 | exact bk_2 | exact bk_3 | exact bk_4 | exact bk_5 | exact bk_6 | exact bk_7 | exact bk_8 | exact bk_9 | exact bk_10 | exact bk_11 | exact bk_12 | exact bk_13 | exact bk_14 | exact bk_15 | exact bk_16 | exact cr_5 | exact cr_23 | exact cr_24 | exact cr_25 | exact cr_26 | exact cr_27 | exact cr_28 | exact cr_29 | exact cr_30 | assumption)) rfl rfl rfl (Nat.le_of_ble_eq_true rfl) ?_
          refine zr_if_ne (tgt := 33) dX7_put_28 (by decide) (rfl : 28 + 3 = 31) (by first | exact jb_iff | exact jI_z (by first | omega | (simp only [bset, reduceIte, Nat.reduceEqDiff]; omega)) (by first | omega | (simp only [bset, reduceIte, Nat.reduceEqDiff]; omega))) (fun h28 => ?_) (fun h28 => ?_)
          · first
            | (exfalso; omega)
            | (
              exfalso
              omega)
          · first
            | (exfalso; omega)
            | (
              refine zr_iconst dX7_put_31 (rfl : 31 + 1 = 32) ?_
              refine zr_ireE dX7_put_32 rfl rfl ?_
              exact ⟨rfl, S, ik, hR, rfl⟩)))
theorem p_put (c r n : Int) (hc : j32 c) (hr : j32 r) (hn : j32 n) (hp : (0 ≤ c ∧ c < 6) ∧ 0 ≤ r ∧ r < 3) (h2 : 1 ≤ n ∧ n ≤ 90)  (hR : zRel B σ S ik) : zFe Γ md_X7_put (d + 8) [.ref 167, .int (jI c), .int (jI r), .int (jI n)] (mw S σ.sc ik th σ.T σ.L w) (zMQ (some (.int (jI (jrap B (c * 3 + r) n)))) 0 (jpl B (c * 3 + r) n) (jsv σ B) w) := by
  obtain ⟨ok, lk, pk, ck, lx, h, hsv, hkp⟩ := hR
  have hR : zRel B σ S ik := ⟨ok, lk, pk, ck, lx, h, hsv, hkp⟩
  have hm2 : mr (jsv2 S σ.sc) 0 B := (zRel_save hR).2.2.2.2.2.1
  refine zFe.of_run (lv := [some (.ref 167), some (.int (jI c)), some (.int (jI r)), some (.int (jI n))]) (by decide) rfl (Nat.le_of_ble_eq_true rfl) rfl (fun n9 g9 => ?_)
  refine zr_aload_n dX7_put_0 (rfl : 0 + 1 = 1) rfl ?_
  refine zr_iload_n dX7_put_1 (rfl : 1 + 1 = 2) rfl ?_
  refine zr_fnS dX7_put_2 (rfl : 2 + 3 = 5) l_X7_50 (m_isCard c hc) rfl rfl (Nat.le_of_ble_eq_true rfl) ?_
  refine zr_if_eq (tgt := 19) dX7_put_5 (by decide) (rfl : 5 + 3 = 8) (by first | exact jb_iff | exact jI_z (by first | omega | (simp only [bset, reduceIte, Nat.reduceEqDiff]; omega)) (by first | omega | (simp only [bset, reduceIte, Nat.reduceEqDiff]; omega))) (fun h5 => ?_) (fun h5 => ?_)
  · first
    | (exfalso; omega)
    | (
      refine zr_iconst dX7_put_19 (rfl : 19 + 1 = 20) ?_
      refine zr_iload_n dX7_put_20 (rfl : 20 + 1 = 21) rfl ?_
      refine zr_fnS dX7_put_21 (rfl : 21 + 3 = 24) l_X7_57 (m_isNumber n hn) rfl rfl (Nat.le_of_ble_eq_true rfl) ?_
      rw [jb_pos (by omega)]
      refine zr_iconst dX7_put_24 (rfl : 24 + 1 = 25) ?_
      refine zr_fnV dX7_put_25 (rfl : 25 + 3 = 28) l_X7_60 (m_go) (by first | assumption | exact mw_167 | exact mw_168 | exact mw_169 | exact mw_170 | exact bk_0 | exact bk_1 | exact bk_2 | exact bk_3 | exact bk_4 | exact bk_5 | exact bk_6 | exact bk_7 | exact bk_8 | exact bk_9 | exact bk_10 | exact bk_11 | exact bk_12 | exact bk_13 | exact bk_14 | exact bk_15 | exact bk_16 | exact zup_self | exact (zup_ne (by first | assumption | omega)).trans (by first | assumption | exact zup_self) | exact (zup_ne (by first | assumption | omega)).trans ((zup_ne (by first | assumption | omega)).trans (by first | assumption | exact zup_self)) | exact (bk_out (by first | omega | (simp only [bset, reduceIte, Nat.reduceEqDiff]; omega))).trans (by first | exact bk_0 | exact bk_1 | exact bk_2 | exact bk_3 | exact bk_4 | exact bk_5 | exact bk_6 | exact bk_7 | exact bk_8 | exact bk_9 | exact bk_10 | exact bk_11 | exact bk_12 | exact bk_13 | exact bk_14 | exact bk_15 | exact bk_16 | exact cr_5 | exact cr_23 | exact cr_24 | exact cr_25 | exact cr_26 | exact cr_27 | exact cr_28 | exact cr_29 | exact cr_30 | assumption)) rfl rfl rfl (Nat.le_of_ble_eq_true rfl) ?_
      refine zr_if_ne (tgt := 33) dX7_put_28 (by decide) (rfl : 28 + 3 = 31) (by first | exact jb_iff | exact jI_z (by first | omega | (simp only [bset, reduceIte, Nat.reduceEqDiff]; omega)) (by first | omega | (simp only [bset, reduceIte, Nat.reduceEqDiff]; omega))) (fun h28 => ?_) (fun h28 => ?_)
      · first
        | (exfalso; omega)
        | (
          refine zr_aload_n dX7_put_33 (rfl : 33 + 1 = 34) rfl ?_
          refine zr_fnV dX7_put_34 (rfl : 34 + 3 = 37) l_X7_64 (m_saves ck.sc) (by first | assumption | exact mw_167 | exact mw_168 | exact mw_169 | exact mw_170 | exact bk_0 | exact bk_1 | exact bk_2 | exact bk_3 | exact bk_4 | exact bk_5 | exact bk_6 | exact bk_7 | exact bk_8 | exact bk_9 | exact bk_10 | exact bk_11 | exact bk_12 | exact bk_13 | exact bk_14 | exact bk_15 | exact bk_16 | exact zup_self | exact (zup_ne (by first | assumption | omega)).trans (by first | assumption | exact zup_self) | exact (zup_ne (by first | assumption | omega)).trans ((zup_ne (by first | assumption | omega)).trans (by first | assumption | exact zup_self)) | exact (bk_out (by first | omega | (simp only [bset, reduceIte, Nat.reduceEqDiff]; omega))).trans (by first | exact bk_0 | exact bk_1 | exact bk_2 | exact bk_3 | exact bk_4 | exact bk_5 | exact bk_6 | exact bk_7 | exact bk_8 | exact bk_9 | exact bk_10 | exact bk_11 | exact bk_12 | exact bk_13 | exact bk_14 | exact bk_15 | exact bk_16 | exact cr_5 | exact cr_23 | exact cr_24 | exact cr_25 | exact cr_26 | exact cr_27 | exact cr_28 | exact cr_29 | exact cr_30 | assumption)) rfl rfl rfl (Nat.le_of_ble_eq_true rfl) ?_
          refine zr_aload_n dX7_put_37 (rfl : 37 + 1 = 38) rfl ?_
          refine zr_iload_n dX7_put_38 (rfl : 38 + 1 = 39) rfl ?_
          refine zr_iload_n dX7_put_39 (rfl : 39 + 1 = 40) rfl ?_
          refine zr_iload_n dX7_put_40 (rfl : 40 + 1 = 41) rfl ?_
          refine zr_feV dX7_put_41 (rfl : 41 + 3 = 44) l_X7_67 (m_puts c r n hp.1 hp.2 h2 hm2 ok lk) (by first | assumption | exact mw_167 | exact mw_168 | exact mw_169 | exact mw_170 | exact bk_0 | exact bk_1 | exact bk_2 | exact bk_3 | exact bk_4 | exact bk_5 | exact bk_6 | exact bk_7 | exact bk_8 | exact bk_9 | exact bk_10 | exact bk_11 | exact bk_12 | exact bk_13 | exact bk_14 | exact bk_15 | exact bk_16 | exact zup_self | exact (zup_ne (by first | assumption | omega)).trans (by first | assumption | exact zup_self) | exact (zup_ne (by first | assumption | omega)).trans ((zup_ne (by first | assumption | omega)).trans (by first | assumption | exact zup_self)) | exact (bk_out (by first | omega | (simp only [bset, reduceIte, Nat.reduceEqDiff]; omega))).trans (by first | exact bk_0 | exact bk_1 | exact bk_2 | exact bk_3 | exact bk_4 | exact bk_5 | exact bk_6 | exact bk_7 | exact bk_8 | exact bk_9 | exact bk_10 | exact bk_11 | exact bk_12 | exact bk_13 | exact bk_14 | exact bk_15 | exact bk_16 | exact cr_5 | exact cr_23 | exact cr_24 | exact cr_25 | exact cr_26 | exact cr_27 | exact cr_28 | exact cr_29 | exact cr_30 | assumption)) rfl rfl rfl (Nat.le_of_ble_eq_true rfl) ?_
          rintro _ _ ⟨rfl, S41, hS41, rfl⟩
          refine zr_ireE dX7_put_44 rfl rfl ?_
          exact ⟨rfl, _, _, zRel_upd (zRel_save hR) (jok_pl ok (by omega) h2) (jlk_pl ok lk (by omega) h2) (jpk_pl pk) hS41.1 hS41.2, rfl⟩)
      · first
        | (exfalso; omega)
        | (
          exfalso
          omega))
  · first
    | (exfalso; omega)
    | (
      refine zr_iload_n dX7_put_8 (rfl : 8 + 1 = 9) rfl ?_
      refine zr_fnS dX7_put_9 (rfl : 9 + 3 = 12) l_X7_54 (m_isRow r hr) rfl rfl (Nat.le_of_ble_eq_true rfl) ?_
      refine zr_if_eq (tgt := 19) dX7_put_12 (by decide) (rfl : 12 + 3 = 15) (by first | exact jb_iff | exact jI_z (by first | omega | (simp only [bset, reduceIte, Nat.reduceEqDiff]; omega)) (by first | omega | (simp only [bset, reduceIte, Nat.reduceEqDiff]; omega))) (fun h12 => ?_) (fun h12 => ?_)
      · first
        | (exfalso; omega)
        | (
          refine zr_iconst dX7_put_19 (rfl : 19 + 1 = 20) ?_
          refine zr_iload_n dX7_put_20 (rfl : 20 + 1 = 21) rfl ?_
          refine zr_fnS dX7_put_21 (rfl : 21 + 3 = 24) l_X7_57 (m_isNumber n hn) rfl rfl (Nat.le_of_ble_eq_true rfl) ?_
          rw [jb_pos (by omega)]
          refine zr_iconst dX7_put_24 (rfl : 24 + 1 = 25) ?_
          refine zr_fnV dX7_put_25 (rfl : 25 + 3 = 28) l_X7_60 (m_go) (by first | assumption | exact mw_167 | exact mw_168 | exact mw_169 | exact mw_170 | exact bk_0 | exact bk_1 | exact bk_2 | exact bk_3 | exact bk_4 | exact bk_5 | exact bk_6 | exact bk_7 | exact bk_8 | exact bk_9 | exact bk_10 | exact bk_11 | exact bk_12 | exact bk_13 | exact bk_14 | exact bk_15 | exact bk_16 | exact zup_self | exact (zup_ne (by first | assumption | omega)).trans (by first | assumption | exact zup_self) | exact (zup_ne (by first | assumption | omega)).trans ((zup_ne (by first | assumption | omega)).trans (by first | assumption | exact zup_self)) | exact (bk_out (by first | omega | (simp only [bset, reduceIte, Nat.reduceEqDiff]; omega))).trans (by first | exact bk_0 | exact bk_1 | exact bk_2 | exact bk_3 | exact bk_4 | exact bk_5 | exact bk_6 | exact bk_7 | exact bk_8 | exact bk_9 | exact bk_10 | exact bk_11 | exact bk_12 | exact bk_13 | exact bk_14 | exact bk_15 | exact bk_16 | exact cr_5 | exact cr_23 | exact cr_24 | exact cr_25 | exact cr_26 | exact cr_27 | exact cr_28 | exact cr_29 | exact cr_30 | assumption)) rfl rfl rfl (Nat.le_of_ble_eq_true rfl) ?_
          refine zr_if_ne (tgt := 33) dX7_put_28 (by decide) (rfl : 28 + 3 = 31) (by first | exact jb_iff | exact jI_z (by first | omega | (simp only [bset, reduceIte, Nat.reduceEqDiff]; omega)) (by first | omega | (simp only [bset, reduceIte, Nat.reduceEqDiff]; omega))) (fun h28 => ?_) (fun h28 => ?_)
          · first
            | (exfalso; omega)
            | (
              refine zr_aload_n dX7_put_33 (rfl : 33 + 1 = 34) rfl ?_
              refine zr_fnV dX7_put_34 (rfl : 34 + 3 = 37) l_X7_64 (m_saves ck.sc) (by first | assumption | exact mw_167 | exact mw_168 | exact mw_169 | exact mw_170 | exact bk_0 | exact bk_1 | exact bk_2 | exact bk_3 | exact bk_4 | exact bk_5 | exact bk_6 | exact bk_7 | exact bk_8 | exact bk_9 | exact bk_10 | exact bk_11 | exact bk_12 | exact bk_13 | exact bk_14 | exact bk_15 | exact bk_16 | exact zup_self | exact (zup_ne (by first | assumption | omega)).trans (by first | assumption | exact zup_self) | exact (zup_ne (by first | assumption | omega)).trans ((zup_ne (by first | assumption | omega)).trans (by first | assumption | exact zup_self)) | exact (bk_out (by first | omega | (simp only [bset, reduceIte, Nat.reduceEqDiff]; omega))).trans (by first | exact bk_0 | exact bk_1 | exact bk_2 | exact bk_3 | exact bk_4 | exact bk_5 | exact bk_6 | exact bk_7 | exact bk_8 | exact bk_9 | exact bk_10 | exact bk_11 | exact bk_12 | exact bk_13 | exact bk_14 | exact bk_15 | exact bk_16 | exact cr_5 | exact cr_23 | exact cr_24 | exact cr_25 | exact cr_26 | exact cr_27 | exact cr_28 | exact cr_29 | exact cr_30 | assumption)) rfl rfl rfl (Nat.le_of_ble_eq_true rfl) ?_
              refine zr_aload_n dX7_put_37 (rfl : 37 + 1 = 38) rfl ?_
              refine zr_iload_n dX7_put_38 (rfl : 38 + 1 = 39) rfl ?_
              refine zr_iload_n dX7_put_39 (rfl : 39 + 1 = 40) rfl ?_
              refine zr_iload_n dX7_put_40 (rfl : 40 + 1 = 41) rfl ?_
              refine zr_feV dX7_put_41 (rfl : 41 + 3 = 44) l_X7_67 (m_puts c r n hp.1 hp.2 h2 hm2 ok lk) (by first | assumption | exact mw_167 | exact mw_168 | exact mw_169 | exact mw_170 | exact bk_0 | exact bk_1 | exact bk_2 | exact bk_3 | exact bk_4 | exact bk_5 | exact bk_6 | exact bk_7 | exact bk_8 | exact bk_9 | exact bk_10 | exact bk_11 | exact bk_12 | exact bk_13 | exact bk_14 | exact bk_15 | exact bk_16 | exact zup_self | exact (zup_ne (by first | assumption | omega)).trans (by first | assumption | exact zup_self) | exact (zup_ne (by first | assumption | omega)).trans ((zup_ne (by first | assumption | omega)).trans (by first | assumption | exact zup_self)) | exact (bk_out (by first | omega | (simp only [bset, reduceIte, Nat.reduceEqDiff]; omega))).trans (by first | exact bk_0 | exact bk_1 | exact bk_2 | exact bk_3 | exact bk_4 | exact bk_5 | exact bk_6 | exact bk_7 | exact bk_8 | exact bk_9 | exact bk_10 | exact bk_11 | exact bk_12 | exact bk_13 | exact bk_14 | exact bk_15 | exact bk_16 | exact cr_5 | exact cr_23 | exact cr_24 | exact cr_25 | exact cr_26 | exact cr_27 | exact cr_28 | exact cr_29 | exact cr_30 | assumption)) rfl rfl rfl (Nat.le_of_ble_eq_true rfl) ?_
              rintro _ _ ⟨rfl, S41, hS41, rfl⟩
              refine zr_ireE dX7_put_44 rfl rfl ?_
              exact ⟨rfl, _, _, zRel_upd (zRel_save hR) (jok_pl ok (by omega) h2) (jlk_pl ok lk (by omega) h2) (jpk_pl pk) hS41.1 hS41.2, rfl⟩)
          · first
            | (exfalso; omega)
            | (
              exfalso
              omega))
      · first
        | (exfalso; omega)
        | (
          refine zr_iconst dX7_put_15 (rfl : 15 + 1 = 16) ?_
          refine zr_goto (tgt := 20) dX7_put_16 (by decide) ?_
          refine zr_iload_n dX7_put_20 (rfl : 20 + 1 = 21) rfl ?_
          refine zr_fnS dX7_put_21 (rfl : 21 + 3 = 24) l_X7_57 (m_isNumber n hn) rfl rfl (Nat.le_of_ble_eq_true rfl) ?_
          rw [jb_pos (by omega)]
          refine zr_iconst dX7_put_24 (rfl : 24 + 1 = 25) ?_
          refine zr_fnV dX7_put_25 (rfl : 25 + 3 = 28) l_X7_60 (m_go) (by first | assumption | exact mw_167 | exact mw_168 | exact mw_169 | exact mw_170 | exact bk_0 | exact bk_1 | exact bk_2 | exact bk_3 | exact bk_4 | exact bk_5 | exact bk_6 | exact bk_7 | exact bk_8 | exact bk_9 | exact bk_10 | exact bk_11 | exact bk_12 | exact bk_13 | exact bk_14 | exact bk_15 | exact bk_16 | exact zup_self | exact (zup_ne (by first | assumption | omega)).trans (by first | assumption | exact zup_self) | exact (zup_ne (by first | assumption | omega)).trans ((zup_ne (by first | assumption | omega)).trans (by first | assumption | exact zup_self)) | exact (bk_out (by first | omega | (simp only [bset, reduceIte, Nat.reduceEqDiff]; omega))).trans (by first | exact bk_0 | exact bk_1 | exact bk_2 | exact bk_3 | exact bk_4 | exact bk_5 | exact bk_6 | exact bk_7 | exact bk_8 | exact bk_9 | exact bk_10 | exact bk_11 | exact bk_12 | exact bk_13 | exact bk_14 | exact bk_15 | exact bk_16 | exact cr_5 | exact cr_23 | exact cr_24 | exact cr_25 | exact cr_26 | exact cr_27 | exact cr_28 | exact cr_29 | exact cr_30 | assumption)) rfl rfl rfl (Nat.le_of_ble_eq_true rfl) ?_
          refine zr_if_ne (tgt := 33) dX7_put_28 (by decide) (rfl : 28 + 3 = 31) (by first | exact jb_iff | exact jI_z (by first | omega | (simp only [bset, reduceIte, Nat.reduceEqDiff]; omega)) (by first | omega | (simp only [bset, reduceIte, Nat.reduceEqDiff]; omega))) (fun h28 => ?_) (fun h28 => ?_)
          · first
            | (exfalso; omega)
            | (
              refine zr_aload_n dX7_put_33 (rfl : 33 + 1 = 34) rfl ?_
              refine zr_fnV dX7_put_34 (rfl : 34 + 3 = 37) l_X7_64 (m_saves ck.sc) (by first | assumption | exact mw_167 | exact mw_168 | exact mw_169 | exact mw_170 | exact bk_0 | exact bk_1 | exact bk_2 | exact bk_3 | exact bk_4 | exact bk_5 | exact bk_6 | exact bk_7 | exact bk_8 | exact bk_9 | exact bk_10 | exact bk_11 | exact bk_12 | exact bk_13 | exact bk_14 | exact bk_15 | exact bk_16 | exact zup_self | exact (zup_ne (by first | assumption | omega)).trans (by first | assumption | exact zup_self) | exact (zup_ne (by first | assumption | omega)).trans ((zup_ne (by first | assumption | omega)).trans (by first | assumption | exact zup_self)) | exact (bk_out (by first | omega | (simp only [bset, reduceIte, Nat.reduceEqDiff]; omega))).trans (by first | exact bk_0 | exact bk_1 | exact bk_2 | exact bk_3 | exact bk_4 | exact bk_5 | exact bk_6 | exact bk_7 | exact bk_8 | exact bk_9 | exact bk_10 | exact bk_11 | exact bk_12 | exact bk_13 | exact bk_14 | exact bk_15 | exact bk_16 | exact cr_5 | exact cr_23 | exact cr_24 | exact cr_25 | exact cr_26 | exact cr_27 | exact cr_28 | exact cr_29 | exact cr_30 | assumption)) rfl rfl rfl (Nat.le_of_ble_eq_true rfl) ?_
              refine zr_aload_n dX7_put_37 (rfl : 37 + 1 = 38) rfl ?_
              refine zr_iload_n dX7_put_38 (rfl : 38 + 1 = 39) rfl ?_
              refine zr_iload_n dX7_put_39 (rfl : 39 + 1 = 40) rfl ?_
              refine zr_iload_n dX7_put_40 (rfl : 40 + 1 = 41) rfl ?_
              refine zr_feV dX7_put_41 (rfl : 41 + 3 = 44) l_X7_67 (m_puts c r n hp.1 hp.2 h2 hm2 ok lk) (by first | assumption | exact mw_167 | exact mw_168 | exact mw_169 | exact mw_170 | exact bk_0 | exact bk_1 | exact bk_2 | exact bk_3 | exact bk_4 | exact bk_5 | exact bk_6 | exact bk_7 | exact bk_8 | exact bk_9 | exact bk_10 | exact bk_11 | exact bk_12 | exact bk_13 | exact bk_14 | exact bk_15 | exact bk_16 | exact zup_self | exact (zup_ne (by first | assumption | omega)).trans (by first | assumption | exact zup_self) | exact (zup_ne (by first | assumption | omega)).trans ((zup_ne (by first | assumption | omega)).trans (by first | assumption | exact zup_self)) | exact (bk_out (by first | omega | (simp only [bset, reduceIte, Nat.reduceEqDiff]; omega))).trans (by first | exact bk_0 | exact bk_1 | exact bk_2 | exact bk_3 | exact bk_4 | exact bk_5 | exact bk_6 | exact bk_7 | exact bk_8 | exact bk_9 | exact bk_10 | exact bk_11 | exact bk_12 | exact bk_13 | exact bk_14 | exact bk_15 | exact bk_16 | exact cr_5 | exact cr_23 | exact cr_24 | exact cr_25 | exact cr_26 | exact cr_27 | exact cr_28 | exact cr_29 | exact cr_30 | assumption)) rfl rfl rfl (Nat.le_of_ble_eq_true rfl) ?_
              rintro _ _ ⟨rfl, S41, hS41, rfl⟩
              refine zr_ireE dX7_put_44 rfl rfl ?_
              exact ⟨rfl, _, _, zRel_upd (zRel_save hR) (jok_pl ok (by omega) h2) (jlk_pl ok lk (by omega) h2) (jpk_pl pk) hS41.1 hS41.2, rfl⟩)
          · first
            | (exfalso; omega)
            | (
              exfalso
              omega)))
theorem p_take1 (n : Int) (hn : j32 n) (hp : ¬ (1 ≤ n ∧ n ≤ 90))  (hR : zRel B σ S ik) : zFe Γ md_X7_take (d + 8) [.ref 167, .int (jI n)] (mw S σ.sc ik th σ.T σ.L w) (zMQ (some (.int (jI 0))) 1 (B) (σ) w) := by
  obtain ⟨ok, lk, pk, ck, lx, h, hsv, hkp⟩ := hR
  have hR : zRel B σ S ik := ⟨ok, lk, pk, ck, lx, h, hsv, hkp⟩
  refine zFe.of_run (lv := [some (.ref 167), some (.int (jI n)), none, none]) (by decide) rfl (Nat.le_of_ble_eq_true rfl) rfl (fun n9 g9 => ?_)
  refine zr_iload_n dX7_take_0 (rfl : 0 + 1 = 1) rfl ?_
  refine zr_fnS dX7_take_1 (rfl : 1 + 3 = 4) l_X7_57 (m_isNumber n hn) rfl rfl (Nat.le_of_ble_eq_true rfl) ?_
  rw [jb_neg (by omega)]
  refine zr_istore_n (lv' := [_, _, _, _]) dX7_take_4 (rfl : 4 + 1 = 5) (Nat.le_of_ble_eq_true rfl) rfl ?_
  refine zr_iload_n dX7_take_5 (rfl : 5 + 1 = 6) rfl ?_
  refine zr_if_eq (tgt := 20) dX7_take_6 (by decide) (rfl : 6 + 3 = 9) (by first | exact jb_iff | exact jI_z (by first | omega | (simp only [bset, reduceIte, Nat.reduceEqDiff]; omega)) (by first | omega | (simp only [bset, reduceIte, Nat.reduceEqDiff]; omega))) (fun h6 => ?_) (fun h6 => ?_)
  · first
    | (exfalso; omega)
    | (
      refine zr_iconst dX7_take_20 (rfl : 20 + 1 = 21) ?_
      refine zr_istore_n (lv' := [_, _, _, _]) dX7_take_21 (rfl : 21 + 1 = 22) (Nat.le_of_ble_eq_true rfl) rfl ?_
      refine zr_aload_n dX7_take_22 (rfl : 22 + 1 = 23) rfl ?_
      refine zr_iload_n dX7_take_23 (rfl : 23 + 1 = 24) rfl ?_
      refine zr_iload_n dX7_take_24 (rfl : 24 + 1 = 25) rfl ?_
      refine zr_if_le (tgt := 49) dX7_take_25 (by decide) (rfl : 25 + 3 = 28) (jI_lez (by first | omega | (simp only [bset, reduceIte, Nat.reduceEqDiff]; omega)) (by first | omega | (simp only [bset, reduceIte, Nat.reduceEqDiff]; omega))) (fun h25 => ?_) (fun h25 => ?_)
      · first
        | (exfalso; omega)
        | (
          refine zr_iconst dX7_take_49 (rfl : 49 + 1 = 50) ?_
          refine zr_iconst dX7_take_50 (rfl : 50 + 1 = 51) ?_
          refine zr_fnV dX7_take_51 (rfl : 51 + 3 = 54) l_X7_60 (m_go1 _ _) (by first | assumption | exact mw_167 | exact mw_168 | exact mw_169 | exact mw_170 | exact bk_0 | exact bk_1 | exact bk_2 | exact bk_3 | exact bk_4 | exact bk_5 | exact bk_6 | exact bk_7 | exact bk_8 | exact bk_9 | exact bk_10 | exact bk_11 | exact bk_12 | exact bk_13 | exact bk_14 | exact bk_15 | exact bk_16 | exact zup_self | exact (zup_ne (by first | assumption | omega)).trans (by first | assumption | exact zup_self) | exact (zup_ne (by first | assumption | omega)).trans ((zup_ne (by first | assumption | omega)).trans (by first | assumption | exact zup_self)) | exact (bk_out (by first | omega | (simp only [bset, reduceIte, Nat.reduceEqDiff]; omega))).trans (by first | exact bk_0 | exact bk_1 | exact bk_2 | exact bk_3 | exact bk_4 | exact bk_5 | exact bk_6 | exact bk_7 | exact bk_8 | exact bk_9 | exact bk_10 | exact bk_11 | exact bk_12 | exact bk_13 | exact bk_14 | exact bk_15 | exact bk_16 | exact cr_5 | exact cr_23 | exact cr_24 | exact cr_25 | exact cr_26 | exact cr_27 | exact cr_28 | exact cr_29 | exact cr_30 | assumption)) rfl rfl rfl (Nat.le_of_ble_eq_true rfl) ?_
          refine zr_if_ne (tgt := 59) dX7_take_54 (by decide) (rfl : 54 + 3 = 57) (by first | exact jb_iff | exact jI_z (by first | omega | (simp only [bset, reduceIte, Nat.reduceEqDiff]; omega)) (by first | omega | (simp only [bset, reduceIte, Nat.reduceEqDiff]; omega))) (fun h54 => ?_) (fun h54 => ?_)
          · first
            | (exfalso; omega)
            | (
              exfalso
              omega)
          · first
            | (exfalso; omega)
            | (
              refine zr_iconst dX7_take_57 (rfl : 57 + 1 = 58) ?_
              refine zr_ireE dX7_take_58 rfl rfl ?_
              exact ⟨rfl, S, ik, hR, rfl⟩))
      · first
        | (exfalso; omega)
        | (
          exfalso
          omega))
  · first
    | (exfalso; omega)
    | (
      exfalso
      omega)
theorem p_take2 (n : Int) (hp : 1 ≤ n ∧ n ≤ 90) (h2 : ¬ (B 1 n ≠ -1 ∧ jbit (B 11 0) (B 1 n / 3) ≠ 1))  (hR : zRel B σ S ik) : zFe Γ md_X7_take (d + 8) [.ref 167, .int (jI n)] (mw S σ.sc ik th σ.T σ.L w) (zMQ (some (.int (jI 0))) 2 (B) (σ) w) := by
  obtain ⟨ok, lk, pk, ck, lx, h, hsv, hkp⟩ := hR
  have hR : zRel B σ S ik := ⟨ok, lk, pk, ck, lx, h, hsv, hkp⟩
  have hpl := fun q : 1 ≤ n ∧ n ≤ 90 => h.pl0 n q.1 q.2
  have hRn := ok.R n
  refine zFe.of_run (lv := [some (.ref 167), some (.int (jI n)), none, none]) (by decide) rfl (Nat.le_of_ble_eq_true rfl) rfl (fun n9 g9 => ?_)
  refine zr_iload_n dX7_take_0 (rfl : 0 + 1 = 1) rfl ?_
  refine zr_fnS dX7_take_1 (rfl : 1 + 3 = 4) l_X7_57 (m_isNumber n (by first | omega | (simp only [bset, reduceIte, Nat.reduceEqDiff]; omega))) rfl rfl (Nat.le_of_ble_eq_true rfl) ?_
  rw [jb_pos (by omega)]
  refine zr_istore_n (lv' := [_, _, _, _]) dX7_take_4 (rfl : 4 + 1 = 5) (Nat.le_of_ble_eq_true rfl) rfl ?_
  refine zr_iload_n dX7_take_5 (rfl : 5 + 1 = 6) rfl ?_
  refine zr_if_eq (tgt := 20) dX7_take_6 (by decide) (rfl : 6 + 3 = 9) (by first | exact jb_iff | exact jI_z (by first | omega | (simp only [bset, reduceIte, Nat.reduceEqDiff]; omega)) (by first | omega | (simp only [bset, reduceIte, Nat.reduceEqDiff]; omega))) (fun h6 => ?_) (fun h6 => ?_)
  · first
    | (exfalso; omega)
    | (
      exfalso
      omega)
  · first
    | (exfalso; omega)
    | (
      refine zr_aload_n dX7_take_9 (rfl : 9 + 1 = 10) rfl ?_
      refine zr_getf dX7_take_10 (rfl : 10 + 3 = 13) f_X7_7 (by first | assumption | exact mw_167 | exact mw_168 | exact mw_169 | exact mw_170 | exact bk_0 | exact bk_1 | exact bk_2 | exact bk_3 | exact bk_4 | exact bk_5 | exact bk_6 | exact bk_7 | exact bk_8 | exact bk_9 | exact bk_10 | exact bk_11 | exact bk_12 | exact bk_13 | exact bk_14 | exact bk_15 | exact bk_16 | exact zup_self | exact (zup_ne (by first | assumption | omega)).trans (by first | assumption | exact zup_self) | exact (zup_ne (by first | assumption | omega)).trans ((zup_ne (by first | assumption | omega)).trans (by first | assumption | exact zup_self)) | exact (bk_out (by first | omega | (simp only [bset, reduceIte, Nat.reduceEqDiff]; omega))).trans (by first | exact bk_0 | exact bk_1 | exact bk_2 | exact bk_3 | exact bk_4 | exact bk_5 | exact bk_6 | exact bk_7 | exact bk_8 | exact bk_9 | exact bk_10 | exact bk_11 | exact bk_12 | exact bk_13 | exact bk_14 | exact bk_15 | exact bk_16 | exact cr_5 | exact cr_23 | exact cr_24 | exact cr_25 | exact cr_26 | exact cr_27 | exact cr_28 | exact cr_29 | exact cr_30 | assumption)) rfl ?_
      refine zr_iconst dX7_take_13 (rfl : 13 + 1 = 14) ?_
      refine zr_iload_n dX7_take_14 (rfl : 14 + 1 = 15) rfl ?_
      refine zr_iadd dX7_take_15 (rfl : 15 + 1 = 16) (by first | exact jI_add _ _ | rfl) ?_
      refine zr_iald dX7_take_16 (rfl : 16 + 1 = 17) (by first | assumption | exact mw_167 | exact mw_168 | exact mw_169 | exact mw_170 | exact bk_0 | exact bk_1 | exact bk_2 | exact bk_3 | exact bk_4 | exact bk_5 | exact bk_6 | exact bk_7 | exact bk_8 | exact bk_9 | exact bk_10 | exact bk_11 | exact bk_12 | exact bk_13 | exact bk_14 | exact bk_15 | exact bk_16 | exact zup_self | exact (zup_ne (by first | assumption | omega)).trans (by first | assumption | exact zup_self) | exact (zup_ne (by first | assumption | omega)).trans ((zup_ne (by first | assumption | omega)).trans (by first | assumption | exact zup_self)) | exact (bk_out (by first | omega | (simp only [bset, reduceIte, Nat.reduceEqDiff]; omega))).trans (by first | exact bk_0 | exact bk_1 | exact bk_2 | exact bk_3 | exact bk_4 | exact bk_5 | exact bk_6 | exact bk_7 | exact bk_8 | exact bk_9 | exact bk_10 | exact bk_11 | exact bk_12 | exact bk_13 | exact bk_14 | exact bk_15 | exact bk_16 | exact cr_5 | exact cr_23 | exact cr_24 | exact cr_25 | exact cr_26 | exact cr_27 | exact cr_28 | exact cr_29 | exact cr_30 | assumption)) (by decide) (by first | omega | (simp only [bset, reduceIte, Nat.reduceEqDiff]; omega)) (by first | omega | (simp only [bset, reduceIte, Nat.reduceEqDiff]; omega)) ?_
      rw [hpl hp]
      refine zr_goto (tgt := 21) dX7_take_17 (by decide) ?_
      refine zr_istore_n (lv' := [_, _, _, _]) dX7_take_21 (rfl : 21 + 1 = 22) (Nat.le_of_ble_eq_true rfl) rfl ?_
      refine zr_aload_n dX7_take_22 (rfl : 22 + 1 = 23) rfl ?_
      refine zr_iload_n dX7_take_23 (rfl : 23 + 1 = 24) rfl ?_
      refine zr_iload_n dX7_take_24 (rfl : 24 + 1 = 25) rfl ?_
      refine zr_if_le (tgt := 49) dX7_take_25 (by decide) (rfl : 25 + 3 = 28) (jI_lez (by first | omega | (simp only [bset, reduceIte, Nat.reduceEqDiff]; omega)) (by first | omega | (simp only [bset, reduceIte, Nat.reduceEqDiff]; omega))) (fun h25 => ?_) (fun h25 => ?_)
      · first
        | (exfalso; omega)
        | (
          refine zr_iconst dX7_take_49 (rfl : 49 + 1 = 50) ?_
          refine zr_iconst dX7_take_50 (rfl : 50 + 1 = 51) ?_
          refine zr_fnV dX7_take_51 (rfl : 51 + 3 = 54) l_X7_60 (m_go2 _) (by first | assumption | exact mw_167 | exact mw_168 | exact mw_169 | exact mw_170 | exact bk_0 | exact bk_1 | exact bk_2 | exact bk_3 | exact bk_4 | exact bk_5 | exact bk_6 | exact bk_7 | exact bk_8 | exact bk_9 | exact bk_10 | exact bk_11 | exact bk_12 | exact bk_13 | exact bk_14 | exact bk_15 | exact bk_16 | exact zup_self | exact (zup_ne (by first | assumption | omega)).trans (by first | assumption | exact zup_self) | exact (zup_ne (by first | assumption | omega)).trans ((zup_ne (by first | assumption | omega)).trans (by first | assumption | exact zup_self)) | exact (bk_out (by first | omega | (simp only [bset, reduceIte, Nat.reduceEqDiff]; omega))).trans (by first | exact bk_0 | exact bk_1 | exact bk_2 | exact bk_3 | exact bk_4 | exact bk_5 | exact bk_6 | exact bk_7 | exact bk_8 | exact bk_9 | exact bk_10 | exact bk_11 | exact bk_12 | exact bk_13 | exact bk_14 | exact bk_15 | exact bk_16 | exact cr_5 | exact cr_23 | exact cr_24 | exact cr_25 | exact cr_26 | exact cr_27 | exact cr_28 | exact cr_29 | exact cr_30 | assumption)) rfl rfl rfl (Nat.le_of_ble_eq_true rfl) ?_
          refine zr_if_ne (tgt := 59) dX7_take_54 (by decide) (rfl : 54 + 3 = 57) (by first | exact jb_iff | exact jI_z (by first | omega | (simp only [bset, reduceIte, Nat.reduceEqDiff]; omega)) (by first | omega | (simp only [bset, reduceIte, Nat.reduceEqDiff]; omega))) (fun h54 => ?_) (fun h54 => ?_)
          · first
            | (exfalso; omega)
            | (
              exfalso
              omega)
          · first
            | (exfalso; omega)
            | (
              refine zr_iconst dX7_take_57 (rfl : 57 + 1 = 58) ?_
              refine zr_ireE dX7_take_58 rfl rfl ?_
              exact ⟨rfl, S, ik, hR, rfl⟩))
      · first
        | (exfalso; omega)
        | (
          refine zr_aload_n dX7_take_28 (rfl : 28 + 1 = 29) rfl ?_
          refine zr_getf dX7_take_29 (rfl : 29 + 3 = 32) f_X7_7 (by first | assumption | exact mw_167 | exact mw_168 | exact mw_169 | exact mw_170 | exact bk_0 | exact bk_1 | exact bk_2 | exact bk_3 | exact bk_4 | exact bk_5 | exact bk_6 | exact bk_7 | exact bk_8 | exact bk_9 | exact bk_10 | exact bk_11 | exact bk_12 | exact bk_13 | exact bk_14 | exact bk_15 | exact bk_16 | exact zup_self | exact (zup_ne (by first | assumption | omega)).trans (by first | assumption | exact zup_self) | exact (zup_ne (by first | assumption | omega)).trans ((zup_ne (by first | assumption | omega)).trans (by first | assumption | exact zup_self)) | exact (bk_out (by first | omega | (simp only [bset, reduceIte, Nat.reduceEqDiff]; omega))).trans (by first | exact bk_0 | exact bk_1 | exact bk_2 | exact bk_3 | exact bk_4 | exact bk_5 | exact bk_6 | exact bk_7 | exact bk_8 | exact bk_9 | exact bk_10 | exact bk_11 | exact bk_12 | exact bk_13 | exact bk_14 | exact bk_15 | exact bk_16 | exact cr_5 | exact cr_23 | exact cr_24 | exact cr_25 | exact cr_26 | exact cr_27 | exact cr_28 | exact cr_29 | exact cr_30 | assumption)) rfl ?_
          refine zr_sipush dX7_take_32 (rfl : 32 + 3 = 35) (by decide) ?_
          refine zr_iload_n dX7_take_35 (rfl : 35 + 1 = 36) rfl ?_
          refine zr_iconst dX7_take_36 (rfl : 36 + 1 = 37) ?_
          refine zr_isub dX7_take_37 (rfl : 37 + 1 = 38) (by first | exact jI_sub _ _ | rfl) ?_
          refine zr_iconst dX7_take_38 (rfl : 38 + 1 = 39) ?_
          refine zr_idiv dX7_take_39 (rfl : 39 + 1 = 40) (fun q => absurd ((jI_z (by first | omega | (simp only [bset, reduceIte, Nat.reduceEqDiff]; omega)) (by first | omega | (simp only [bset, reduceIte, Nat.reduceEqDiff]; omega))).mp q) (by first | omega | (simp only [bset, reduceIte, Nat.reduceEqDiff]; omega))) (jI_div (by first | omega | (simp only [bset, reduceIte, Nat.reduceEqDiff]; omega)) (by first | omega | (simp only [bset, reduceIte, Nat.reduceEqDiff]; omega)) (by first | omega | (simp only [bset, reduceIte, Nat.reduceEqDiff]; omega)) (by first | omega | (simp only [bset, reduceIte, Nat.reduceEqDiff]; omega))) ?_
          refine zr_iadd dX7_take_40 (rfl : 40 + 1 = 41) (by first | exact jI_add _ _ | rfl) ?_
          refine zr_iald dX7_take_41 (rfl : 41 + 1 = 42) (by first | assumption | exact mw_167 | exact mw_168 | exact mw_169 | exact mw_170 | exact bk_0 | exact bk_1 | exact bk_2 | exact bk_3 | exact bk_4 | exact bk_5 | exact bk_6 | exact bk_7 | exact bk_8 | exact bk_9 | exact bk_10 | exact bk_11 | exact bk_12 | exact bk_13 | exact bk_14 | exact bk_15 | exact bk_16 | exact zup_self | exact (zup_ne (by first | assumption | omega)).trans (by first | assumption | exact zup_self) | exact (zup_ne (by first | assumption | omega)).trans ((zup_ne (by first | assumption | omega)).trans (by first | assumption | exact zup_self)) | exact (bk_out (by first | omega | (simp only [bset, reduceIte, Nat.reduceEqDiff]; omega))).trans (by first | exact bk_0 | exact bk_1 | exact bk_2 | exact bk_3 | exact bk_4 | exact bk_5 | exact bk_6 | exact bk_7 | exact bk_8 | exact bk_9 | exact bk_10 | exact bk_11 | exact bk_12 | exact bk_13 | exact bk_14 | exact bk_15 | exact bk_16 | exact cr_5 | exact cr_23 | exact cr_24 | exact cr_25 | exact cr_26 | exact cr_27 | exact cr_28 | exact cr_29 | exact cr_30 | assumption)) (by decide) (by first | omega | (simp only [bset, reduceIte, Nat.reduceEqDiff]; omega)) (by first | omega | (simp only [bset, reduceIte, Nat.reduceEqDiff]; omega)) ?_
          rw [show 458 + (B 1 n + 1 - 1) / 3 = 458 + B 1 n / 3 by omega, h.bo0 (B 1 n / 3) (by omega) (by omega)]
          have hbr := jbit_r (B 11 0) (B 1 n / 3)
          refine zr_if_ne (tgt := 49) dX7_take_42 (by decide) (rfl : 42 + 3 = 45) (by first | exact jb_iff | exact jI_z (by first | omega | (simp only [bset, reduceIte, Nat.reduceEqDiff]; omega)) (by first | omega | (simp only [bset, reduceIte, Nat.reduceEqDiff]; omega))) (fun h42 => ?_) (fun h42 => ?_)
          · first
            | (exfalso; omega)
            | (
              refine zr_iconst dX7_take_49 (rfl : 49 + 1 = 50) ?_
              refine zr_iconst dX7_take_50 (rfl : 50 + 1 = 51) ?_
              refine zr_fnV dX7_take_51 (rfl : 51 + 3 = 54) l_X7_60 (m_go2 _) (by first | assumption | exact mw_167 | exact mw_168 | exact mw_169 | exact mw_170 | exact bk_0 | exact bk_1 | exact bk_2 | exact bk_3 | exact bk_4 | exact bk_5 | exact bk_6 | exact bk_7 | exact bk_8 | exact bk_9 | exact bk_10 | exact bk_11 | exact bk_12 | exact bk_13 | exact bk_14 | exact bk_15 | exact bk_16 | exact zup_self | exact (zup_ne (by first | assumption | omega)).trans (by first | assumption | exact zup_self) | exact (zup_ne (by first | assumption | omega)).trans ((zup_ne (by first | assumption | omega)).trans (by first | assumption | exact zup_self)) | exact (bk_out (by first | omega | (simp only [bset, reduceIte, Nat.reduceEqDiff]; omega))).trans (by first | exact bk_0 | exact bk_1 | exact bk_2 | exact bk_3 | exact bk_4 | exact bk_5 | exact bk_6 | exact bk_7 | exact bk_8 | exact bk_9 | exact bk_10 | exact bk_11 | exact bk_12 | exact bk_13 | exact bk_14 | exact bk_15 | exact bk_16 | exact cr_5 | exact cr_23 | exact cr_24 | exact cr_25 | exact cr_26 | exact cr_27 | exact cr_28 | exact cr_29 | exact cr_30 | assumption)) rfl rfl rfl (Nat.le_of_ble_eq_true rfl) ?_
              refine zr_if_ne (tgt := 59) dX7_take_54 (by decide) (rfl : 54 + 3 = 57) (by first | exact jb_iff | exact jI_z (by first | omega | (simp only [bset, reduceIte, Nat.reduceEqDiff]; omega)) (by first | omega | (simp only [bset, reduceIte, Nat.reduceEqDiff]; omega))) (fun h54 => ?_) (fun h54 => ?_)
              · first
                | (exfalso; omega)
                | (
                  exfalso
                  omega)
              · first
                | (exfalso; omega)
                | (
                  refine zr_iconst dX7_take_57 (rfl : 57 + 1 = 58) ?_
                  refine zr_ireE dX7_take_58 rfl rfl ?_
                  exact ⟨rfl, S, ik, hR, rfl⟩))
          · first
            | (exfalso; omega)
            | (
              refine zr_iconst dX7_take_45 (rfl : 45 + 1 = 46) ?_
              refine zr_goto (tgt := 50) dX7_take_46 (by decide) ?_
              refine zr_iconst dX7_take_50 (rfl : 50 + 1 = 51) ?_
              refine zr_fnV dX7_take_51 (rfl : 51 + 3 = 54) l_X7_60 (m_go2 _) (by first | assumption | exact mw_167 | exact mw_168 | exact mw_169 | exact mw_170 | exact bk_0 | exact bk_1 | exact bk_2 | exact bk_3 | exact bk_4 | exact bk_5 | exact bk_6 | exact bk_7 | exact bk_8 | exact bk_9 | exact bk_10 | exact bk_11 | exact bk_12 | exact bk_13 | exact bk_14 | exact bk_15 | exact bk_16 | exact zup_self | exact (zup_ne (by first | assumption | omega)).trans (by first | assumption | exact zup_self) | exact (zup_ne (by first | assumption | omega)).trans ((zup_ne (by first | assumption | omega)).trans (by first | assumption | exact zup_self)) | exact (bk_out (by first | omega | (simp only [bset, reduceIte, Nat.reduceEqDiff]; omega))).trans (by first | exact bk_0 | exact bk_1 | exact bk_2 | exact bk_3 | exact bk_4 | exact bk_5 | exact bk_6 | exact bk_7 | exact bk_8 | exact bk_9 | exact bk_10 | exact bk_11 | exact bk_12 | exact bk_13 | exact bk_14 | exact bk_15 | exact bk_16 | exact cr_5 | exact cr_23 | exact cr_24 | exact cr_25 | exact cr_26 | exact cr_27 | exact cr_28 | exact cr_29 | exact cr_30 | assumption)) rfl rfl rfl (Nat.le_of_ble_eq_true rfl) ?_
              refine zr_if_ne (tgt := 59) dX7_take_54 (by decide) (rfl : 54 + 3 = 57) (by first | exact jb_iff | exact jI_z (by first | omega | (simp only [bset, reduceIte, Nat.reduceEqDiff]; omega)) (by first | omega | (simp only [bset, reduceIte, Nat.reduceEqDiff]; omega))) (fun h54 => ?_) (fun h54 => ?_)
              · first
                | (exfalso; omega)
                | (
                  exfalso
                  omega)
              · first
                | (exfalso; omega)
                | (
                  refine zr_iconst dX7_take_57 (rfl : 57 + 1 = 58) ?_
                  refine zr_ireE dX7_take_58 rfl rfl ?_
                  exact ⟨rfl, S, ik, hR, rfl⟩))))
theorem p_take (n : Int) (hp : 1 ≤ n ∧ n ≤ 90) (h2 : B 1 n ≠ -1) (h3 : jbit (B 11 0) (B 1 n / 3) ≠ 1)  (hR : zRel B σ S ik) : zFe Γ md_X7_take (d + 8) [.ref 167, .int (jI n)] (mw S σ.sc ik th σ.T σ.L w) (zMQ (some (.int (jI (10 * (B 1 n / 3) + B 1 n % 3)))) 0 (jlift B n) (jsv σ B) w) := by
  obtain ⟨ok, lk, pk, ck, lx, h, hsv, hkp⟩ := hR
  have hR : zRel B σ S ik := ⟨ok, lk, pk, ck, lx, h, hsv, hkp⟩
  have hpl := fun q : 1 ≤ n ∧ n ≤ 90 => h.pl0 n q.1 q.2
  have hRn := ok.R n
  have hm2 : mr (jsv2 S σ.sc) 0 B := (zRel_save hR).2.2.2.2.2.1
  refine zFe.of_run (lv := [some (.ref 167), some (.int (jI n)), none, none]) (by decide) rfl (Nat.le_of_ble_eq_true rfl) rfl (fun n9 g9 => ?_)
  refine zr_iload_n dX7_take_0 (rfl : 0 + 1 = 1) rfl ?_
  refine zr_fnS dX7_take_1 (rfl : 1 + 3 = 4) l_X7_57 (m_isNumber n (by first | omega | (simp only [bset, reduceIte, Nat.reduceEqDiff]; omega))) rfl rfl (Nat.le_of_ble_eq_true rfl) ?_
  rw [jb_pos (by omega)]
  refine zr_istore_n (lv' := [_, _, _, _]) dX7_take_4 (rfl : 4 + 1 = 5) (Nat.le_of_ble_eq_true rfl) rfl ?_
  refine zr_iload_n dX7_take_5 (rfl : 5 + 1 = 6) rfl ?_
  refine zr_if_eq (tgt := 20) dX7_take_6 (by decide) (rfl : 6 + 3 = 9) (by first | exact jb_iff | exact jI_z (by first | omega | (simp only [bset, reduceIte, Nat.reduceEqDiff]; omega)) (by first | omega | (simp only [bset, reduceIte, Nat.reduceEqDiff]; omega))) (fun h6 => ?_) (fun h6 => ?_)
  · first
    | (exfalso; omega)
    | (
      exfalso
      omega)
  · first
    | (exfalso; omega)
    | (
      refine zr_aload_n dX7_take_9 (rfl : 9 + 1 = 10) rfl ?_
      refine zr_getf dX7_take_10 (rfl : 10 + 3 = 13) f_X7_7 (by first | assumption | exact mw_167 | exact mw_168 | exact mw_169 | exact mw_170 | exact bk_0 | exact bk_1 | exact bk_2 | exact bk_3 | exact bk_4 | exact bk_5 | exact bk_6 | exact bk_7 | exact bk_8 | exact bk_9 | exact bk_10 | exact bk_11 | exact bk_12 | exact bk_13 | exact bk_14 | exact bk_15 | exact bk_16 | exact zup_self | exact (zup_ne (by first | assumption | omega)).trans (by first | assumption | exact zup_self) | exact (zup_ne (by first | assumption | omega)).trans ((zup_ne (by first | assumption | omega)).trans (by first | assumption | exact zup_self)) | exact (bk_out (by first | omega | (simp only [bset, reduceIte, Nat.reduceEqDiff]; omega))).trans (by first | exact bk_0 | exact bk_1 | exact bk_2 | exact bk_3 | exact bk_4 | exact bk_5 | exact bk_6 | exact bk_7 | exact bk_8 | exact bk_9 | exact bk_10 | exact bk_11 | exact bk_12 | exact bk_13 | exact bk_14 | exact bk_15 | exact bk_16 | exact cr_5 | exact cr_23 | exact cr_24 | exact cr_25 | exact cr_26 | exact cr_27 | exact cr_28 | exact cr_29 | exact cr_30 | assumption)) rfl ?_
      refine zr_iconst dX7_take_13 (rfl : 13 + 1 = 14) ?_
      refine zr_iload_n dX7_take_14 (rfl : 14 + 1 = 15) rfl ?_
      refine zr_iadd dX7_take_15 (rfl : 15 + 1 = 16) (by first | exact jI_add _ _ | rfl) ?_
      refine zr_iald dX7_take_16 (rfl : 16 + 1 = 17) (by first | assumption | exact mw_167 | exact mw_168 | exact mw_169 | exact mw_170 | exact bk_0 | exact bk_1 | exact bk_2 | exact bk_3 | exact bk_4 | exact bk_5 | exact bk_6 | exact bk_7 | exact bk_8 | exact bk_9 | exact bk_10 | exact bk_11 | exact bk_12 | exact bk_13 | exact bk_14 | exact bk_15 | exact bk_16 | exact zup_self | exact (zup_ne (by first | assumption | omega)).trans (by first | assumption | exact zup_self) | exact (zup_ne (by first | assumption | omega)).trans ((zup_ne (by first | assumption | omega)).trans (by first | assumption | exact zup_self)) | exact (bk_out (by first | omega | (simp only [bset, reduceIte, Nat.reduceEqDiff]; omega))).trans (by first | exact bk_0 | exact bk_1 | exact bk_2 | exact bk_3 | exact bk_4 | exact bk_5 | exact bk_6 | exact bk_7 | exact bk_8 | exact bk_9 | exact bk_10 | exact bk_11 | exact bk_12 | exact bk_13 | exact bk_14 | exact bk_15 | exact bk_16 | exact cr_5 | exact cr_23 | exact cr_24 | exact cr_25 | exact cr_26 | exact cr_27 | exact cr_28 | exact cr_29 | exact cr_30 | assumption)) (by decide) (by first | omega | (simp only [bset, reduceIte, Nat.reduceEqDiff]; omega)) (by first | omega | (simp only [bset, reduceIte, Nat.reduceEqDiff]; omega)) ?_
      rw [hpl hp]
      refine zr_goto (tgt := 21) dX7_take_17 (by decide) ?_
      refine zr_istore_n (lv' := [_, _, _, _]) dX7_take_21 (rfl : 21 + 1 = 22) (Nat.le_of_ble_eq_true rfl) rfl ?_
      refine zr_aload_n dX7_take_22 (rfl : 22 + 1 = 23) rfl ?_
      refine zr_iload_n dX7_take_23 (rfl : 23 + 1 = 24) rfl ?_
      refine zr_iload_n dX7_take_24 (rfl : 24 + 1 = 25) rfl ?_
      refine zr_if_le (tgt := 49) dX7_take_25 (by decide) (rfl : 25 + 3 = 28) (jI_lez (by first | omega | (simp only [bset, reduceIte, Nat.reduceEqDiff]; omega)) (by first | omega | (simp only [bset, reduceIte, Nat.reduceEqDiff]; omega))) (fun h25 => ?_) (fun h25 => ?_)
      · first
        | (exfalso; omega)
        | (
          exfalso
          omega)
      · first
        | (exfalso; omega)
        | (
          refine zr_aload_n dX7_take_28 (rfl : 28 + 1 = 29) rfl ?_
          refine zr_getf dX7_take_29 (rfl : 29 + 3 = 32) f_X7_7 (by first | assumption | exact mw_167 | exact mw_168 | exact mw_169 | exact mw_170 | exact bk_0 | exact bk_1 | exact bk_2 | exact bk_3 | exact bk_4 | exact bk_5 | exact bk_6 | exact bk_7 | exact bk_8 | exact bk_9 | exact bk_10 | exact bk_11 | exact bk_12 | exact bk_13 | exact bk_14 | exact bk_15 | exact bk_16 | exact zup_self | exact (zup_ne (by first | assumption | omega)).trans (by first | assumption | exact zup_self) | exact (zup_ne (by first | assumption | omega)).trans ((zup_ne (by first | assumption | omega)).trans (by first | assumption | exact zup_self)) | exact (bk_out (by first | omega | (simp only [bset, reduceIte, Nat.reduceEqDiff]; omega))).trans (by first | exact bk_0 | exact bk_1 | exact bk_2 | exact bk_3 | exact bk_4 | exact bk_5 | exact bk_6 | exact bk_7 | exact bk_8 | exact bk_9 | exact bk_10 | exact bk_11 | exact bk_12 | exact bk_13 | exact bk_14 | exact bk_15 | exact bk_16 | exact cr_5 | exact cr_23 | exact cr_24 | exact cr_25 | exact cr_26 | exact cr_27 | exact cr_28 | exact cr_29 | exact cr_30 | assumption)) rfl ?_
          refine zr_sipush dX7_take_32 (rfl : 32 + 3 = 35) (by decide) ?_
          refine zr_iload_n dX7_take_35 (rfl : 35 + 1 = 36) rfl ?_
          refine zr_iconst dX7_take_36 (rfl : 36 + 1 = 37) ?_
          refine zr_isub dX7_take_37 (rfl : 37 + 1 = 38) (by first | exact jI_sub _ _ | rfl) ?_
          refine zr_iconst dX7_take_38 (rfl : 38 + 1 = 39) ?_
          refine zr_idiv dX7_take_39 (rfl : 39 + 1 = 40) (fun q => absurd ((jI_z (by first | omega | (simp only [bset, reduceIte, Nat.reduceEqDiff]; omega)) (by first | omega | (simp only [bset, reduceIte, Nat.reduceEqDiff]; omega))).mp q) (by first | omega | (simp only [bset, reduceIte, Nat.reduceEqDiff]; omega))) (jI_div (by first | omega | (simp only [bset, reduceIte, Nat.reduceEqDiff]; omega)) (by first | omega | (simp only [bset, reduceIte, Nat.reduceEqDiff]; omega)) (by first | omega | (simp only [bset, reduceIte, Nat.reduceEqDiff]; omega)) (by first | omega | (simp only [bset, reduceIte, Nat.reduceEqDiff]; omega))) ?_
          refine zr_iadd dX7_take_40 (rfl : 40 + 1 = 41) (by first | exact jI_add _ _ | rfl) ?_
          refine zr_iald dX7_take_41 (rfl : 41 + 1 = 42) (by first | assumption | exact mw_167 | exact mw_168 | exact mw_169 | exact mw_170 | exact bk_0 | exact bk_1 | exact bk_2 | exact bk_3 | exact bk_4 | exact bk_5 | exact bk_6 | exact bk_7 | exact bk_8 | exact bk_9 | exact bk_10 | exact bk_11 | exact bk_12 | exact bk_13 | exact bk_14 | exact bk_15 | exact bk_16 | exact zup_self | exact (zup_ne (by first | assumption | omega)).trans (by first | assumption | exact zup_self) | exact (zup_ne (by first | assumption | omega)).trans ((zup_ne (by first | assumption | omega)).trans (by first | assumption | exact zup_self)) | exact (bk_out (by first | omega | (simp only [bset, reduceIte, Nat.reduceEqDiff]; omega))).trans (by first | exact bk_0 | exact bk_1 | exact bk_2 | exact bk_3 | exact bk_4 | exact bk_5 | exact bk_6 | exact bk_7 | exact bk_8 | exact bk_9 | exact bk_10 | exact bk_11 | exact bk_12 | exact bk_13 | exact bk_14 | exact bk_15 | exact bk_16 | exact cr_5 | exact cr_23 | exact cr_24 | exact cr_25 | exact cr_26 | exact cr_27 | exact cr_28 | exact cr_29 | exact cr_30 | assumption)) (by decide) (by first | omega | (simp only [bset, reduceIte, Nat.reduceEqDiff]; omega)) (by first | omega | (simp only [bset, reduceIte, Nat.reduceEqDiff]; omega)) ?_
          rw [show 458 + (B 1 n + 1 - 1) / 3 = 458 + B 1 n / 3 by omega, h.bo0 (B 1 n / 3) (by omega) (by omega)]
          have hbr := jbit_r (B 11 0) (B 1 n / 3)
          refine zr_if_ne (tgt := 49) dX7_take_42 (by decide) (rfl : 42 + 3 = 45) (by first | exact jb_iff | exact jI_z (by first | omega | (simp only [bset, reduceIte, Nat.reduceEqDiff]; omega)) (by first | omega | (simp only [bset, reduceIte, Nat.reduceEqDiff]; omega))) (fun h42 => ?_) (fun h42 => ?_)
          · first
            | (exfalso; omega)
            | (
              exfalso
              omega)
          · first
            | (exfalso; omega)
            | (
              refine zr_iconst dX7_take_45 (rfl : 45 + 1 = 46) ?_
              refine zr_goto (tgt := 50) dX7_take_46 (by decide) ?_
              refine zr_iconst dX7_take_50 (rfl : 50 + 1 = 51) ?_
              refine zr_fnV dX7_take_51 (rfl : 51 + 3 = 54) l_X7_60 (m_go) (by first | assumption | exact mw_167 | exact mw_168 | exact mw_169 | exact mw_170 | exact bk_0 | exact bk_1 | exact bk_2 | exact bk_3 | exact bk_4 | exact bk_5 | exact bk_6 | exact bk_7 | exact bk_8 | exact bk_9 | exact bk_10 | exact bk_11 | exact bk_12 | exact bk_13 | exact bk_14 | exact bk_15 | exact bk_16 | exact zup_self | exact (zup_ne (by first | assumption | omega)).trans (by first | assumption | exact zup_self) | exact (zup_ne (by first | assumption | omega)).trans ((zup_ne (by first | assumption | omega)).trans (by first | assumption | exact zup_self)) | exact (bk_out (by first | omega | (simp only [bset, reduceIte, Nat.reduceEqDiff]; omega))).trans (by first | exact bk_0 | exact bk_1 | exact bk_2 | exact bk_3 | exact bk_4 | exact bk_5 | exact bk_6 | exact bk_7 | exact bk_8 | exact bk_9 | exact bk_10 | exact bk_11 | exact bk_12 | exact bk_13 | exact bk_14 | exact bk_15 | exact bk_16 | exact cr_5 | exact cr_23 | exact cr_24 | exact cr_25 | exact cr_26 | exact cr_27 | exact cr_28 | exact cr_29 | exact cr_30 | assumption)) rfl rfl rfl (Nat.le_of_ble_eq_true rfl) ?_
              refine zr_if_ne (tgt := 59) dX7_take_54 (by decide) (rfl : 54 + 3 = 57) (by first | exact jb_iff | exact jI_z (by first | omega | (simp only [bset, reduceIte, Nat.reduceEqDiff]; omega)) (by first | omega | (simp only [bset, reduceIte, Nat.reduceEqDiff]; omega))) (fun h54 => ?_) (fun h54 => ?_)
              · first
                | (exfalso; omega)
                | (
                  refine zr_aload_n dX7_take_59 (rfl : 59 + 1 = 60) rfl ?_
                  refine zr_fnV dX7_take_60 (rfl : 60 + 3 = 63) l_X7_64 (m_saves ck.sc) (by first | assumption | exact mw_167 | exact mw_168 | exact mw_169 | exact mw_170 | exact bk_0 | exact bk_1 | exact bk_2 | exact bk_3 | exact bk_4 | exact bk_5 | exact bk_6 | exact bk_7 | exact bk_8 | exact bk_9 | exact bk_10 | exact bk_11 | exact bk_12 | exact bk_13 | exact bk_14 | exact bk_15 | exact bk_16 | exact zup_self | exact (zup_ne (by first | assumption | omega)).trans (by first | assumption | exact zup_self) | exact (zup_ne (by first | assumption | omega)).trans ((zup_ne (by first | assumption | omega)).trans (by first | assumption | exact zup_self)) | exact (bk_out (by first | omega | (simp only [bset, reduceIte, Nat.reduceEqDiff]; omega))).trans (by first | exact bk_0 | exact bk_1 | exact bk_2 | exact bk_3 | exact bk_4 | exact bk_5 | exact bk_6 | exact bk_7 | exact bk_8 | exact bk_9 | exact bk_10 | exact bk_11 | exact bk_12 | exact bk_13 | exact bk_14 | exact bk_15 | exact bk_16 | exact cr_5 | exact cr_23 | exact cr_24 | exact cr_25 | exact cr_26 | exact cr_27 | exact cr_28 | exact cr_29 | exact cr_30 | assumption)) rfl rfl rfl (Nat.le_of_ble_eq_true rfl) ?_
                  refine zr_aload_n dX7_take_63 (rfl : 63 + 1 = 64) rfl ?_
                  refine zr_getf dX7_take_64 (rfl : 64 + 3 = 67) f_X7_7 (by first | assumption | exact mw_167 | exact mw_168 | exact mw_169 | exact mw_170 | exact bk_0 | exact bk_1 | exact bk_2 | exact bk_3 | exact bk_4 | exact bk_5 | exact bk_6 | exact bk_7 | exact bk_8 | exact bk_9 | exact bk_10 | exact bk_11 | exact bk_12 | exact bk_13 | exact bk_14 | exact bk_15 | exact bk_16 | exact zup_self | exact (zup_ne (by first | assumption | omega)).trans (by first | assumption | exact zup_self) | exact (zup_ne (by first | assumption | omega)).trans ((zup_ne (by first | assumption | omega)).trans (by first | assumption | exact zup_self)) | exact (bk_out (by first | omega | (simp only [bset, reduceIte, Nat.reduceEqDiff]; omega))).trans (by first | exact bk_0 | exact bk_1 | exact bk_2 | exact bk_3 | exact bk_4 | exact bk_5 | exact bk_6 | exact bk_7 | exact bk_8 | exact bk_9 | exact bk_10 | exact bk_11 | exact bk_12 | exact bk_13 | exact bk_14 | exact bk_15 | exact bk_16 | exact cr_5 | exact cr_23 | exact cr_24 | exact cr_25 | exact cr_26 | exact cr_27 | exact cr_28 | exact cr_29 | exact cr_30 | assumption)) rfl ?_
                  refine zr_iconst dX7_take_67 (rfl : 67 + 1 = 68) ?_
                  refine zr_iload_n dX7_take_68 (rfl : 68 + 1 = 69) rfl ?_
                  refine zr_iadd dX7_take_69 (rfl : 69 + 1 = 70) (by first | exact jI_add _ _ | rfl) ?_
                  refine zr_iconst dX7_take_70 (rfl : 70 + 1 = 71) ?_
                  refine zr_iast dX7_take_71 (rfl : 71 + 1 = 72) (by first | assumption | exact mw_167 | exact mw_168 | exact mw_169 | exact mw_170 | exact bk_0 | exact bk_1 | exact bk_2 | exact bk_3 | exact bk_4 | exact bk_5 | exact bk_6 | exact bk_7 | exact bk_8 | exact bk_9 | exact bk_10 | exact bk_11 | exact bk_12 | exact bk_13 | exact bk_14 | exact bk_15 | exact bk_16 | exact zup_self | exact (zup_ne (by first | assumption | omega)).trans (by first | assumption | exact zup_self) | exact (zup_ne (by first | assumption | omega)).trans ((zup_ne (by first | assumption | omega)).trans (by first | assumption | exact zup_self)) | exact (bk_out (by first | omega | (simp only [bset, reduceIte, Nat.reduceEqDiff]; omega))).trans (by first | exact bk_0 | exact bk_1 | exact bk_2 | exact bk_3 | exact bk_4 | exact bk_5 | exact bk_6 | exact bk_7 | exact bk_8 | exact bk_9 | exact bk_10 | exact bk_11 | exact bk_12 | exact bk_13 | exact bk_14 | exact bk_15 | exact bk_16 | exact cr_5 | exact cr_23 | exact cr_24 | exact cr_25 | exact cr_26 | exact cr_27 | exact cr_28 | exact cr_29 | exact cr_30 | assumption)) (by decide) (by first | omega | (simp only [bset, reduceIte, Nat.reduceEqDiff]; omega)) (by first | omega | (simp only [bset, reduceIte, Nat.reduceEqDiff]; omega)) rfl ?_
                  rw [mwu_S]
                  refine zr_bipush dX7_take_72 (rfl : 72 + 2 = 74) (by decide) ?_
                  refine zr_iload_n dX7_take_74 (rfl : 74 + 1 = 75) rfl ?_
                  refine zr_iconst dX7_take_75 (rfl : 75 + 1 = 76) ?_
                  refine zr_isub dX7_take_76 (rfl : 76 + 1 = 77) (by first | exact jI_sub _ _ | rfl) ?_
                  refine zr_iconst dX7_take_77 (rfl : 77 + 1 = 78) ?_
                  refine zr_idiv dX7_take_78 (rfl : 78 + 1 = 79) (fun q => absurd ((jI_z (by first | omega | (simp only [bset, reduceIte, Nat.reduceEqDiff]; omega)) (by first | omega | (simp only [bset, reduceIte, Nat.reduceEqDiff]; omega))).mp q) (by first | omega | (simp only [bset, reduceIte, Nat.reduceEqDiff]; omega))) (jI_div (by first | omega | (simp only [bset, reduceIte, Nat.reduceEqDiff]; omega)) (by first | omega | (simp only [bset, reduceIte, Nat.reduceEqDiff]; omega)) (by first | omega | (simp only [bset, reduceIte, Nat.reduceEqDiff]; omega)) (by first | omega | (simp only [bset, reduceIte, Nat.reduceEqDiff]; omega))) ?_
                  refine zr_imul dX7_take_79 (rfl : 79 + 1 = 80) (by first | exact jI_mul _ _ | rfl) ?_
                  refine zr_iload_n dX7_take_80 (rfl : 80 + 1 = 81) rfl ?_
                  refine zr_iconst dX7_take_81 (rfl : 81 + 1 = 82) ?_
                  refine zr_isub dX7_take_82 (rfl : 82 + 1 = 83) (by first | exact jI_sub _ _ | rfl) ?_
                  refine zr_iconst dX7_take_83 (rfl : 83 + 1 = 84) ?_
                  refine zr_irem dX7_take_84 (rfl : 84 + 1 = 85) (fun q => absurd ((jI_z (by first | omega | (simp only [bset, reduceIte, Nat.reduceEqDiff]; omega)) (by first | omega | (simp only [bset, reduceIte, Nat.reduceEqDiff]; omega))).mp q) (by first | omega | (simp only [bset, reduceIte, Nat.reduceEqDiff]; omega))) (jI_rem (by first | omega | (simp only [bset, reduceIte, Nat.reduceEqDiff]; omega)) (by first | omega | (simp only [bset, reduceIte, Nat.reduceEqDiff]; omega)) (by first | omega | (simp only [bset, reduceIte, Nat.reduceEqDiff]; omega)) (by first | omega | (simp only [bset, reduceIte, Nat.reduceEqDiff]; omega))) ?_
                  refine zr_iadd dX7_take_85 (rfl : 85 + 1 = 86) (by first | exact jI_add _ _ | rfl) ?_
                  refine zr_ireE dX7_take_86 rfl rfl ?_
                  refine ⟨by rw [show B 1 n + 1 - 1 = B 1 n by omega], _, _, zRel_upd (zRel_save hR) (jok_lift ok) (jlk_lift ok lk hp h2 h3) pk (jagb_up (by omega)) (mr_lift hm2 hp), rfl⟩)
              · first
                | (exfalso; omega)
                | (
                  exfalso
                  omega))))
theorem p_buy1 (c : Int) (hc : j32 c) (hp : ¬ (0 ≤ c ∧ c < 6))  (hR : zRel B σ S ik) : zFe Γ md_X7_buy (d + 8) [.ref 167, .int (jI c)] (mw S σ.sc ik th σ.T σ.L w) (zMQ (some (.int (jI 0))) 1 (B) (σ) w) := by
  obtain ⟨ok, lk, pk, ck, lx, h, hsv, hkp⟩ := hR
  have hR : zRel B σ S ik := ⟨ok, lk, pk, ck, lx, h, hsv, hkp⟩
  refine zFe.of_run (lv := [some (.ref 167), some (.int (jI c)), none]) (by decide) rfl (Nat.le_of_ble_eq_true rfl) rfl (fun n9 g9 => ?_)
  refine zr_iload_n dX7_buy_0 (rfl : 0 + 1 = 1) rfl ?_
  refine zr_fnS dX7_buy_1 (rfl : 1 + 3 = 4) l_X7_50 (m_isCard c hc) rfl rfl (Nat.le_of_ble_eq_true rfl) ?_
  rw [jb_neg (by omega)]
  refine zr_istore_n (lv' := [_, _, _]) dX7_buy_4 (rfl : 4 + 1 = 5) (Nat.le_of_ble_eq_true rfl) rfl ?_
  refine zr_aload_n dX7_buy_5 (rfl : 5 + 1 = 6) rfl ?_
  refine zr_iload_n dX7_buy_6 (rfl : 6 + 1 = 7) rfl ?_
  refine zr_iload_n dX7_buy_7 (rfl : 7 + 1 = 8) rfl ?_
  refine zr_if_eq (tgt := 23) dX7_buy_8 (by decide) (rfl : 8 + 3 = 11) (by first | exact jb_iff | exact jI_z (by first | omega | (simp only [bset, reduceIte, Nat.reduceEqDiff]; omega)) (by first | omega | (simp only [bset, reduceIte, Nat.reduceEqDiff]; omega))) (fun h8 => ?_) (fun h8 => ?_)
  · first
    | (exfalso; omega)
    | (
      refine zr_iconst dX7_buy_23 (rfl : 23 + 1 = 24) ?_
      refine zr_iconst dX7_buy_24 (rfl : 24 + 1 = 25) ?_
      refine zr_fnV dX7_buy_25 (rfl : 25 + 3 = 28) l_X7_60 (m_go1 _ _) (by first | assumption | exact mw_167 | exact mw_168 | exact mw_169 | exact mw_170 | exact bk_0 | exact bk_1 | exact bk_2 | exact bk_3 | exact bk_4 | exact bk_5 | exact bk_6 | exact bk_7 | exact bk_8 | exact bk_9 | exact bk_10 | exact bk_11 | exact bk_12 | exact bk_13 | exact bk_14 | exact bk_15 | exact bk_16 | exact zup_self | exact (zup_ne (by first | assumption | omega)).trans (by first | assumption | exact zup_self) | exact (zup_ne (by first | assumption | omega)).trans ((zup_ne (by first | assumption | omega)).trans (by first | assumption | exact zup_self)) | exact (bk_out (by first | omega | (simp only [bset, reduceIte, Nat.reduceEqDiff]; omega))).trans (by first | exact bk_0 | exact bk_1 | exact bk_2 | exact bk_3 | exact bk_4 | exact bk_5 | exact bk_6 | exact bk_7 | exact bk_8 | exact bk_9 | exact bk_10 | exact bk_11 | exact bk_12 | exact bk_13 | exact bk_14 | exact bk_15 | exact bk_16 | exact cr_5 | exact cr_23 | exact cr_24 | exact cr_25 | exact cr_26 | exact cr_27 | exact cr_28 | exact cr_29 | exact cr_30 | assumption)) rfl rfl rfl (Nat.le_of_ble_eq_true rfl) ?_
      refine zr_if_ne (tgt := 33) dX7_buy_28 (by decide) (rfl : 28 + 3 = 31) (by first | exact jb_iff | exact jI_z (by first | omega | (simp only [bset, reduceIte, Nat.reduceEqDiff]; omega)) (by first | omega | (simp only [bset, reduceIte, Nat.reduceEqDiff]; omega))) (fun h28 => ?_) (fun h28 => ?_)
      · first
        | (exfalso; omega)
        | (
          exfalso
          omega)
      · first
        | (exfalso; omega)
        | (
          refine zr_iconst dX7_buy_31 (rfl : 31 + 1 = 32) ?_
          refine zr_ireE dX7_buy_32 rfl rfl ?_
          exact ⟨rfl, S, ik, hR, rfl⟩))
  · first
    | (exfalso; omega)
    | (
      exfalso
      omega)
theorem p_buy2 (c : Int) (hp : 0 ≤ c ∧ c < 6) (h2 : ¬ jfs B c)  (hR : zRel B σ S ik) : zFe Γ md_X7_buy (d + 8) [.ref 167, .int (jI c)] (mw S σ.sc ik th σ.T σ.L w) (zMQ (some (.int (jI 0))) 2 (B) (σ) w) := by
  obtain ⟨ok, lk, pk, ck, lx, h, hsv, hkp⟩ := hR
  have hR : zRel B σ S ik := ⟨ok, lk, pk, ck, lx, h, hsv, hkp⟩
  refine zFe.of_run (lv := [some (.ref 167), some (.int (jI c)), none]) (by decide) rfl (Nat.le_of_ble_eq_true rfl) rfl (fun n9 g9 => ?_)
  refine zr_iload_n dX7_buy_0 (rfl : 0 + 1 = 1) rfl ?_
  refine zr_fnS dX7_buy_1 (rfl : 1 + 3 = 4) l_X7_50 (m_isCard c (by first | omega | (simp only [bset, reduceIte, Nat.reduceEqDiff]; omega))) rfl rfl (Nat.le_of_ble_eq_true rfl) ?_
  rw [jb_pos (by omega)]
  refine zr_istore_n (lv' := [_, _, _]) dX7_buy_4 (rfl : 4 + 1 = 5) (Nat.le_of_ble_eq_true rfl) rfl ?_
  refine zr_aload_n dX7_buy_5 (rfl : 5 + 1 = 6) rfl ?_
  refine zr_iload_n dX7_buy_6 (rfl : 6 + 1 = 7) rfl ?_
  refine zr_iload_n dX7_buy_7 (rfl : 7 + 1 = 8) rfl ?_
  refine zr_if_eq (tgt := 23) dX7_buy_8 (by decide) (rfl : 8 + 3 = 11) (by first | exact jb_iff | exact jI_z (by first | omega | (simp only [bset, reduceIte, Nat.reduceEqDiff]; omega)) (by first | omega | (simp only [bset, reduceIte, Nat.reduceEqDiff]; omega))) (fun h8 => ?_) (fun h8 => ?_)
  · first
    | (exfalso; omega)
    | (
      refine zr_iconst dX7_buy_23 (rfl : 23 + 1 = 24) ?_
      refine zr_iconst dX7_buy_24 (rfl : 24 + 1 = 25) ?_
      refine zr_fnV dX7_buy_25 (rfl : 25 + 3 = 28) l_X7_60 (m_go2 _) (by first | assumption | exact mw_167 | exact mw_168 | exact mw_169 | exact mw_170 | exact bk_0 | exact bk_1 | exact bk_2 | exact bk_3 | exact bk_4 | exact bk_5 | exact bk_6 | exact bk_7 | exact bk_8 | exact bk_9 | exact bk_10 | exact bk_11 | exact bk_12 | exact bk_13 | exact bk_14 | exact bk_15 | exact bk_16 | exact zup_self | exact (zup_ne (by first | assumption | omega)).trans (by first | assumption | exact zup_self) | exact (zup_ne (by first | assumption | omega)).trans ((zup_ne (by first | assumption | omega)).trans (by first | assumption | exact zup_self)) | exact (bk_out (by first | omega | (simp only [bset, reduceIte, Nat.reduceEqDiff]; omega))).trans (by first | exact bk_0 | exact bk_1 | exact bk_2 | exact bk_3 | exact bk_4 | exact bk_5 | exact bk_6 | exact bk_7 | exact bk_8 | exact bk_9 | exact bk_10 | exact bk_11 | exact bk_12 | exact bk_13 | exact bk_14 | exact bk_15 | exact bk_16 | exact cr_5 | exact cr_23 | exact cr_24 | exact cr_25 | exact cr_26 | exact cr_27 | exact cr_28 | exact cr_29 | exact cr_30 | assumption)) rfl rfl rfl (Nat.le_of_ble_eq_true rfl) ?_
      refine zr_if_ne (tgt := 33) dX7_buy_28 (by decide) (rfl : 28 + 3 = 31) (by first | exact jb_iff | exact jI_z (by first | omega | (simp only [bset, reduceIte, Nat.reduceEqDiff]; omega)) (by first | omega | (simp only [bset, reduceIte, Nat.reduceEqDiff]; omega))) (fun h28 => ?_) (fun h28 => ?_)
      · first
        | (exfalso; omega)
        | (
          exfalso
          omega)
      · first
        | (exfalso; omega)
        | (
          refine zr_iconst dX7_buy_31 (rfl : 31 + 1 = 32) ?_
          refine zr_ireE dX7_buy_32 rfl rfl ?_
          exact ⟨rfl, S, ik, hR, rfl⟩))
  · first
    | (exfalso; omega)
    | (
      refine zr_aload_n dX7_buy_11 (rfl : 11 + 1 = 12) rfl ?_
      refine zr_iload_n dX7_buy_12 (rfl : 12 + 1 = 13) rfl ?_
      refine zr_fnV dX7_buy_13 (rfl : 13 + 3 = 16) l_X7_84 (m_canBuy c hp h ok lk) (by first | assumption | exact mw_167 | exact mw_168 | exact mw_169 | exact mw_170 | exact bk_0 | exact bk_1 | exact bk_2 | exact bk_3 | exact bk_4 | exact bk_5 | exact bk_6 | exact bk_7 | exact bk_8 | exact bk_9 | exact bk_10 | exact bk_11 | exact bk_12 | exact bk_13 | exact bk_14 | exact bk_15 | exact bk_16 | exact zup_self | exact (zup_ne (by first | assumption | omega)).trans (by first | assumption | exact zup_self) | exact (zup_ne (by first | assumption | omega)).trans ((zup_ne (by first | assumption | omega)).trans (by first | assumption | exact zup_self)) | exact (bk_out (by first | omega | (simp only [bset, reduceIte, Nat.reduceEqDiff]; omega))).trans (by first | exact bk_0 | exact bk_1 | exact bk_2 | exact bk_3 | exact bk_4 | exact bk_5 | exact bk_6 | exact bk_7 | exact bk_8 | exact bk_9 | exact bk_10 | exact bk_11 | exact bk_12 | exact bk_13 | exact bk_14 | exact bk_15 | exact bk_16 | exact cr_5 | exact cr_23 | exact cr_24 | exact cr_25 | exact cr_26 | exact cr_27 | exact cr_28 | exact cr_29 | exact cr_30 | assumption)) rfl rfl rfl (Nat.le_of_ble_eq_true rfl) ?_
      rw [jb_neg h2]
      refine zr_if_eq (tgt := 23) dX7_buy_16 (by decide) (rfl : 16 + 3 = 19) (by first | exact jb_iff | exact jI_z (by first | omega | (simp only [bset, reduceIte, Nat.reduceEqDiff]; omega)) (by first | omega | (simp only [bset, reduceIte, Nat.reduceEqDiff]; omega))) (fun h16 => ?_) (fun h16 => ?_)
      · first
        | (exfalso; omega)
        | (
          refine zr_iconst dX7_buy_23 (rfl : 23 + 1 = 24) ?_
          refine zr_iconst dX7_buy_24 (rfl : 24 + 1 = 25) ?_
          refine zr_fnV dX7_buy_25 (rfl : 25 + 3 = 28) l_X7_60 (m_go2 _) (by first | assumption | exact mw_167 | exact mw_168 | exact mw_169 | exact mw_170 | exact bk_0 | exact bk_1 | exact bk_2 | exact bk_3 | exact bk_4 | exact bk_5 | exact bk_6 | exact bk_7 | exact bk_8 | exact bk_9 | exact bk_10 | exact bk_11 | exact bk_12 | exact bk_13 | exact bk_14 | exact bk_15 | exact bk_16 | exact zup_self | exact (zup_ne (by first | assumption | omega)).trans (by first | assumption | exact zup_self) | exact (zup_ne (by first | assumption | omega)).trans ((zup_ne (by first | assumption | omega)).trans (by first | assumption | exact zup_self)) | exact (bk_out (by first | omega | (simp only [bset, reduceIte, Nat.reduceEqDiff]; omega))).trans (by first | exact bk_0 | exact bk_1 | exact bk_2 | exact bk_3 | exact bk_4 | exact bk_5 | exact bk_6 | exact bk_7 | exact bk_8 | exact bk_9 | exact bk_10 | exact bk_11 | exact bk_12 | exact bk_13 | exact bk_14 | exact bk_15 | exact bk_16 | exact cr_5 | exact cr_23 | exact cr_24 | exact cr_25 | exact cr_26 | exact cr_27 | exact cr_28 | exact cr_29 | exact cr_30 | assumption)) rfl rfl rfl (Nat.le_of_ble_eq_true rfl) ?_
          refine zr_if_ne (tgt := 33) dX7_buy_28 (by decide) (rfl : 28 + 3 = 31) (by first | exact jb_iff | exact jI_z (by first | omega | (simp only [bset, reduceIte, Nat.reduceEqDiff]; omega)) (by first | omega | (simp only [bset, reduceIte, Nat.reduceEqDiff]; omega))) (fun h28 => ?_) (fun h28 => ?_)
          · first
            | (exfalso; omega)
            | (
              exfalso
              omega)
          · first
            | (exfalso; omega)
            | (
              refine zr_iconst dX7_buy_31 (rfl : 31 + 1 = 32) ?_
              refine zr_ireE dX7_buy_32 rfl rfl ?_
              exact ⟨rfl, S, ik, hR, rfl⟩))
      · first
        | (exfalso; omega)
        | (
          exfalso
          omega))
theorem p_buy (c : Int) (hp : 0 ≤ c ∧ c < 6) (h2 : jfs B c)  (hR : zRel B σ S ik) : zFe Γ md_X7_buy (d + 8) [.ref 167, .int (jI c)] (mw S σ.sc ik th σ.T σ.L w) (zMQ (some (.int (jI (B 16 0 + B 23 0)))) 0 (jsell B c) (jsv σ B) w) := by
  obtain ⟨ok, lk, pk, ck, lx, h, hsv, hkp⟩ := hR
  have hR : zRel B σ S ik := ⟨ok, lk, pk, ck, lx, h, hsv, hkp⟩
  have hm2 : mr (jsv2 S σ.sc) 0 B := (zRel_save hR).2.2.2.2.2.1
  refine zFe.of_run (lv := [some (.ref 167), some (.int (jI c)), none]) (by decide) rfl (Nat.le_of_ble_eq_true rfl) rfl (fun n9 g9 => ?_)
  refine zr_iload_n dX7_buy_0 (rfl : 0 + 1 = 1) rfl ?_
  refine zr_fnS dX7_buy_1 (rfl : 1 + 3 = 4) l_X7_50 (m_isCard c (by first | omega | (simp only [bset, reduceIte, Nat.reduceEqDiff]; omega))) rfl rfl (Nat.le_of_ble_eq_true rfl) ?_
  rw [jb_pos (by omega)]
  refine zr_istore_n (lv' := [_, _, _]) dX7_buy_4 (rfl : 4 + 1 = 5) (Nat.le_of_ble_eq_true rfl) rfl ?_
  refine zr_aload_n dX7_buy_5 (rfl : 5 + 1 = 6) rfl ?_
  refine zr_iload_n dX7_buy_6 (rfl : 6 + 1 = 7) rfl ?_
  refine zr_iload_n dX7_buy_7 (rfl : 7 + 1 = 8) rfl ?_
  refine zr_if_eq (tgt := 23) dX7_buy_8 (by decide) (rfl : 8 + 3 = 11) (by first | exact jb_iff | exact jI_z (by first | omega | (simp only [bset, reduceIte, Nat.reduceEqDiff]; omega)) (by first | omega | (simp only [bset, reduceIte, Nat.reduceEqDiff]; omega))) (fun h8 => ?_) (fun h8 => ?_)
  · first
    | (exfalso; omega)
    | (
      exfalso
      omega)
  · first
    | (exfalso; omega)
    | (
      refine zr_aload_n dX7_buy_11 (rfl : 11 + 1 = 12) rfl ?_
      refine zr_iload_n dX7_buy_12 (rfl : 12 + 1 = 13) rfl ?_
      refine zr_fnV dX7_buy_13 (rfl : 13 + 3 = 16) l_X7_84 (m_canBuy c hp h ok lk) (by first | assumption | exact mw_167 | exact mw_168 | exact mw_169 | exact mw_170 | exact bk_0 | exact bk_1 | exact bk_2 | exact bk_3 | exact bk_4 | exact bk_5 | exact bk_6 | exact bk_7 | exact bk_8 | exact bk_9 | exact bk_10 | exact bk_11 | exact bk_12 | exact bk_13 | exact bk_14 | exact bk_15 | exact bk_16 | exact zup_self | exact (zup_ne (by first | assumption | omega)).trans (by first | assumption | exact zup_self) | exact (zup_ne (by first | assumption | omega)).trans ((zup_ne (by first | assumption | omega)).trans (by first | assumption | exact zup_self)) | exact (bk_out (by first | omega | (simp only [bset, reduceIte, Nat.reduceEqDiff]; omega))).trans (by first | exact bk_0 | exact bk_1 | exact bk_2 | exact bk_3 | exact bk_4 | exact bk_5 | exact bk_6 | exact bk_7 | exact bk_8 | exact bk_9 | exact bk_10 | exact bk_11 | exact bk_12 | exact bk_13 | exact bk_14 | exact bk_15 | exact bk_16 | exact cr_5 | exact cr_23 | exact cr_24 | exact cr_25 | exact cr_26 | exact cr_27 | exact cr_28 | exact cr_29 | exact cr_30 | assumption)) rfl rfl rfl (Nat.le_of_ble_eq_true rfl) ?_
      rw [jb_pos h2]
      refine zr_if_eq (tgt := 23) dX7_buy_16 (by decide) (rfl : 16 + 3 = 19) (by first | exact jb_iff | exact jI_z (by first | omega | (simp only [bset, reduceIte, Nat.reduceEqDiff]; omega)) (by first | omega | (simp only [bset, reduceIte, Nat.reduceEqDiff]; omega))) (fun h16 => ?_) (fun h16 => ?_)
      · first
        | (exfalso; omega)
        | (
          exfalso
          omega)
      · first
        | (exfalso; omega)
        | (
          refine zr_iconst dX7_buy_19 (rfl : 19 + 1 = 20) ?_
          refine zr_goto (tgt := 24) dX7_buy_20 (by decide) ?_
          refine zr_iconst dX7_buy_24 (rfl : 24 + 1 = 25) ?_
          refine zr_fnV dX7_buy_25 (rfl : 25 + 3 = 28) l_X7_60 (m_go) (by first | assumption | exact mw_167 | exact mw_168 | exact mw_169 | exact mw_170 | exact bk_0 | exact bk_1 | exact bk_2 | exact bk_3 | exact bk_4 | exact bk_5 | exact bk_6 | exact bk_7 | exact bk_8 | exact bk_9 | exact bk_10 | exact bk_11 | exact bk_12 | exact bk_13 | exact bk_14 | exact bk_15 | exact bk_16 | exact zup_self | exact (zup_ne (by first | assumption | omega)).trans (by first | assumption | exact zup_self) | exact (zup_ne (by first | assumption | omega)).trans ((zup_ne (by first | assumption | omega)).trans (by first | assumption | exact zup_self)) | exact (bk_out (by first | omega | (simp only [bset, reduceIte, Nat.reduceEqDiff]; omega))).trans (by first | exact bk_0 | exact bk_1 | exact bk_2 | exact bk_3 | exact bk_4 | exact bk_5 | exact bk_6 | exact bk_7 | exact bk_8 | exact bk_9 | exact bk_10 | exact bk_11 | exact bk_12 | exact bk_13 | exact bk_14 | exact bk_15 | exact bk_16 | exact cr_5 | exact cr_23 | exact cr_24 | exact cr_25 | exact cr_26 | exact cr_27 | exact cr_28 | exact cr_29 | exact cr_30 | assumption)) rfl rfl rfl (Nat.le_of_ble_eq_true rfl) ?_
          refine zr_if_ne (tgt := 33) dX7_buy_28 (by decide) (rfl : 28 + 3 = 31) (by first | exact jb_iff | exact jI_z (by first | omega | (simp only [bset, reduceIte, Nat.reduceEqDiff]; omega)) (by first | omega | (simp only [bset, reduceIte, Nat.reduceEqDiff]; omega))) (fun h28 => ?_) (fun h28 => ?_)
          · first
            | (exfalso; omega)
            | (
              refine zr_aload_n dX7_buy_33 (rfl : 33 + 1 = 34) rfl ?_
              refine zr_fnV dX7_buy_34 (rfl : 34 + 3 = 37) l_X7_64 (m_saves ck.sc) (by first | assumption | exact mw_167 | exact mw_168 | exact mw_169 | exact mw_170 | exact bk_0 | exact bk_1 | exact bk_2 | exact bk_3 | exact bk_4 | exact bk_5 | exact bk_6 | exact bk_7 | exact bk_8 | exact bk_9 | exact bk_10 | exact bk_11 | exact bk_12 | exact bk_13 | exact bk_14 | exact bk_15 | exact bk_16 | exact zup_self | exact (zup_ne (by first | assumption | omega)).trans (by first | assumption | exact zup_self) | exact (zup_ne (by first | assumption | omega)).trans ((zup_ne (by first | assumption | omega)).trans (by first | assumption | exact zup_self)) | exact (bk_out (by first | omega | (simp only [bset, reduceIte, Nat.reduceEqDiff]; omega))).trans (by first | exact bk_0 | exact bk_1 | exact bk_2 | exact bk_3 | exact bk_4 | exact bk_5 | exact bk_6 | exact bk_7 | exact bk_8 | exact bk_9 | exact bk_10 | exact bk_11 | exact bk_12 | exact bk_13 | exact bk_14 | exact bk_15 | exact bk_16 | exact cr_5 | exact cr_23 | exact cr_24 | exact cr_25 | exact cr_26 | exact cr_27 | exact cr_28 | exact cr_29 | exact cr_30 | assumption)) rfl rfl rfl (Nat.le_of_ble_eq_true rfl) ?_
              refine zr_aload_n dX7_buy_37 (rfl : 37 + 1 = 38) rfl ?_
              refine zr_iload_n dX7_buy_38 (rfl : 38 + 1 = 39) rfl ?_
              refine zr_feV dX7_buy_39 (rfl : 39 + 3 = 42) l_X7_87 (m_buys c hp hm2 ok) (by first | assumption | exact mw_167 | exact mw_168 | exact mw_169 | exact mw_170 | exact bk_0 | exact bk_1 | exact bk_2 | exact bk_3 | exact bk_4 | exact bk_5 | exact bk_6 | exact bk_7 | exact bk_8 | exact bk_9 | exact bk_10 | exact bk_11 | exact bk_12 | exact bk_13 | exact bk_14 | exact bk_15 | exact bk_16 | exact zup_self | exact (zup_ne (by first | assumption | omega)).trans (by first | assumption | exact zup_self) | exact (zup_ne (by first | assumption | omega)).trans ((zup_ne (by first | assumption | omega)).trans (by first | assumption | exact zup_self)) | exact (bk_out (by first | omega | (simp only [bset, reduceIte, Nat.reduceEqDiff]; omega))).trans (by first | exact bk_0 | exact bk_1 | exact bk_2 | exact bk_3 | exact bk_4 | exact bk_5 | exact bk_6 | exact bk_7 | exact bk_8 | exact bk_9 | exact bk_10 | exact bk_11 | exact bk_12 | exact bk_13 | exact bk_14 | exact bk_15 | exact bk_16 | exact cr_5 | exact cr_23 | exact cr_24 | exact cr_25 | exact cr_26 | exact cr_27 | exact cr_28 | exact cr_29 | exact cr_30 | assumption)) rfl rfl rfl (Nat.le_of_ble_eq_true rfl) ?_
              rintro _ _ ⟨rfl, S39, hS39, rfl⟩
              refine zr_ireE dX7_buy_42 rfl rfl ?_
              exact ⟨rfl, _, _, zRel_upd (zRel_save hR) (jok_sell ok hp h2) (jlk_sell ok lk hp h2) (pk) hS39.1 hS39.2, rfl⟩)
          · first
            | (exfalso; omega)
            | (
              exfalso
              omega)))
theorem p_seed1 (x : Int) (hx : j32 x) (hp : ¬ (0 ≤ x ∧ x < 10000))  (hR : zRel B σ S ik) : zFe Γ md_X7_seed (d + 8) [.ref 167, .int (jI x)] (mw S σ.sc ik th σ.T σ.L w) (zMQ (some (.int (jI 0))) 1 (B) (σ) w) := by
  obtain ⟨ok, lk, pk, ck, lx, h, hsv, hkp⟩ := hR
  have hR : zRel B σ S ik := ⟨ok, lk, pk, ck, lx, h, hsv, hkp⟩
  refine zFe.of_run (lv := [some (.ref 167), some (.int (jI x)), none]) (by decide) rfl (Nat.le_of_ble_eq_true rfl) rfl (fun n9 g9 => ?_)
  refine zr_aload_n dX7_seed_0 (rfl : 0 + 1 = 1) rfl ?_
  refine zr_iload_n dX7_seed_1 (rfl : 1 + 1 = 2) rfl ?_
  refine zr_iconst dX7_seed_2 (rfl : 2 + 1 = 3) ?_
  refine zr_sipush dX7_seed_3 (rfl : 3 + 3 = 6) (by decide) ?_
  refine zr_fnS dX7_seed_6 (rfl : 6 + 3 = 9) l_X7_32 (m_in x 0 9999 hx (by first | omega | (simp only [bset, reduceIte, Nat.reduceEqDiff]; omega)) (by first | omega | (simp only [bset, reduceIte, Nat.reduceEqDiff]; omega))) rfl rfl (Nat.le_of_ble_eq_true rfl) ?_
  rw [jb_neg (by omega)]
  refine zr_iconst dX7_seed_9 (rfl : 9 + 1 = 10) ?_
  refine zr_iconst dX7_seed_10 (rfl : 10 + 1 = 11) ?_
  refine zr_fnV dX7_seed_11 (rfl : 11 + 3 = 14) l_X7_60 (m_go1 _ _) (by first | assumption | exact mw_167 | exact mw_168 | exact mw_169 | exact mw_170 | exact bk_0 | exact bk_1 | exact bk_2 | exact bk_3 | exact bk_4 | exact bk_5 | exact bk_6 | exact bk_7 | exact bk_8 | exact bk_9 | exact bk_10 | exact bk_11 | exact bk_12 | exact bk_13 | exact bk_14 | exact bk_15 | exact bk_16 | exact zup_self | exact (zup_ne (by first | assumption | omega)).trans (by first | assumption | exact zup_self) | exact (zup_ne (by first | assumption | omega)).trans ((zup_ne (by first | assumption | omega)).trans (by first | assumption | exact zup_self)) | exact (bk_out (by first | omega | (simp only [bset, reduceIte, Nat.reduceEqDiff]; omega))).trans (by first | exact bk_0 | exact bk_1 | exact bk_2 | exact bk_3 | exact bk_4 | exact bk_5 | exact bk_6 | exact bk_7 | exact bk_8 | exact bk_9 | exact bk_10 | exact bk_11 | exact bk_12 | exact bk_13 | exact bk_14 | exact bk_15 | exact bk_16 | exact cr_5 | exact cr_23 | exact cr_24 | exact cr_25 | exact cr_26 | exact cr_27 | exact cr_28 | exact cr_29 | exact cr_30 | assumption)) rfl rfl rfl (Nat.le_of_ble_eq_true rfl) ?_
  refine zr_if_ne (tgt := 19) dX7_seed_14 (by decide) (rfl : 14 + 3 = 17) (by first | exact jb_iff | exact jI_z (by first | omega | (simp only [bset, reduceIte, Nat.reduceEqDiff]; omega)) (by first | omega | (simp only [bset, reduceIte, Nat.reduceEqDiff]; omega))) (fun h14 => ?_) (fun h14 => ?_)
  · first
    | (exfalso; omega)
    | (
      exfalso
      omega)
  · first
    | (exfalso; omega)
    | (
      refine zr_iconst dX7_seed_17 (rfl : 17 + 1 = 18) ?_
      refine zr_ireE dX7_seed_18 rfl rfl ?_
      exact ⟨rfl, S, ik, hR, rfl⟩)
theorem p_seed (x : Int) (hp : 0 ≤ x ∧ x < 10000)  (hR : zRel B σ S ik) : zFe Γ md_X7_seed (d + 8) [.ref 167, .int (jI x)] (mw S σ.sc ik th σ.T σ.L w) (zMQ (some (.int (jI (B 24 0)))) 0 (bset B 24 (fun _ => x)) (jsv σ B) w) := by
  obtain ⟨ok, lk, pk, ck, lx, h, hsv, hkp⟩ := hR
  have hR : zRel B σ S ik := ⟨ok, lk, pk, ck, lx, h, hsv, hkp⟩
  have hm2 : mr (jsv2 S σ.sc) 0 B := (zRel_save hR).2.2.2.2.2.1
  refine zFe.of_run (lv := [some (.ref 167), some (.int (jI x)), none]) (by decide) rfl (Nat.le_of_ble_eq_true rfl) rfl (fun n9 g9 => ?_)
  refine zr_aload_n dX7_seed_0 (rfl : 0 + 1 = 1) rfl ?_
  refine zr_iload_n dX7_seed_1 (rfl : 1 + 1 = 2) rfl ?_
  refine zr_iconst dX7_seed_2 (rfl : 2 + 1 = 3) ?_
  refine zr_sipush dX7_seed_3 (rfl : 3 + 3 = 6) (by decide) ?_
  refine zr_fnS dX7_seed_6 (rfl : 6 + 3 = 9) l_X7_32 (m_in x 0 9999 (by first | omega | (simp only [bset, reduceIte, Nat.reduceEqDiff]; omega)) (by first | omega | (simp only [bset, reduceIte, Nat.reduceEqDiff]; omega)) (by first | omega | (simp only [bset, reduceIte, Nat.reduceEqDiff]; omega))) rfl rfl (Nat.le_of_ble_eq_true rfl) ?_
  rw [jb_pos (by omega)]
  refine zr_iconst dX7_seed_9 (rfl : 9 + 1 = 10) ?_
  refine zr_iconst dX7_seed_10 (rfl : 10 + 1 = 11) ?_
  refine zr_fnV dX7_seed_11 (rfl : 11 + 3 = 14) l_X7_60 (m_go) (by first | assumption | exact mw_167 | exact mw_168 | exact mw_169 | exact mw_170 | exact bk_0 | exact bk_1 | exact bk_2 | exact bk_3 | exact bk_4 | exact bk_5 | exact bk_6 | exact bk_7 | exact bk_8 | exact bk_9 | exact bk_10 | exact bk_11 | exact bk_12 | exact bk_13 | exact bk_14 | exact bk_15 | exact bk_16 | exact zup_self | exact (zup_ne (by first | assumption | omega)).trans (by first | assumption | exact zup_self) | exact (zup_ne (by first | assumption | omega)).trans ((zup_ne (by first | assumption | omega)).trans (by first | assumption | exact zup_self)) | exact (bk_out (by first | omega | (simp only [bset, reduceIte, Nat.reduceEqDiff]; omega))).trans (by first | exact bk_0 | exact bk_1 | exact bk_2 | exact bk_3 | exact bk_4 | exact bk_5 | exact bk_6 | exact bk_7 | exact bk_8 | exact bk_9 | exact bk_10 | exact bk_11 | exact bk_12 | exact bk_13 | exact bk_14 | exact bk_15 | exact bk_16 | exact cr_5 | exact cr_23 | exact cr_24 | exact cr_25 | exact cr_26 | exact cr_27 | exact cr_28 | exact cr_29 | exact cr_30 | assumption)) rfl rfl rfl (Nat.le_of_ble_eq_true rfl) ?_
  refine zr_if_ne (tgt := 19) dX7_seed_14 (by decide) (rfl : 14 + 3 = 17) (by first | exact jb_iff | exact jI_z (by first | omega | (simp only [bset, reduceIte, Nat.reduceEqDiff]; omega)) (by first | omega | (simp only [bset, reduceIte, Nat.reduceEqDiff]; omega))) (fun h14 => ?_) (fun h14 => ?_)
  · first
    | (exfalso; omega)
    | (
      refine zr_aload_n dX7_seed_19 (rfl : 19 + 1 = 20) rfl ?_
      refine zr_fnV dX7_seed_20 (rfl : 20 + 3 = 23) l_X7_64 (m_saves ck.sc) (by first | assumption | exact mw_167 | exact mw_168 | exact mw_169 | exact mw_170 | exact bk_0 | exact bk_1 | exact bk_2 | exact bk_3 | exact bk_4 | exact bk_5 | exact bk_6 | exact bk_7 | exact bk_8 | exact bk_9 | exact bk_10 | exact bk_11 | exact bk_12 | exact bk_13 | exact bk_14 | exact bk_15 | exact bk_16 | exact zup_self | exact (zup_ne (by first | assumption | omega)).trans (by first | assumption | exact zup_self) | exact (zup_ne (by first | assumption | omega)).trans ((zup_ne (by first | assumption | omega)).trans (by first | assumption | exact zup_self)) | exact (bk_out (by first | omega | (simp only [bset, reduceIte, Nat.reduceEqDiff]; omega))).trans (by first | exact bk_0 | exact bk_1 | exact bk_2 | exact bk_3 | exact bk_4 | exact bk_5 | exact bk_6 | exact bk_7 | exact bk_8 | exact bk_9 | exact bk_10 | exact bk_11 | exact bk_12 | exact bk_13 | exact bk_14 | exact bk_15 | exact bk_16 | exact cr_5 | exact cr_23 | exact cr_24 | exact cr_25 | exact cr_26 | exact cr_27 | exact cr_28 | exact cr_29 | exact cr_30 | assumption)) rfl rfl rfl (Nat.le_of_ble_eq_true rfl) ?_
      refine zr_aload_n dX7_seed_23 (rfl : 23 + 1 = 24) rfl ?_
      refine zr_getf dX7_seed_24 (rfl : 24 + 3 = 27) f_X7_7 (by first | assumption | exact mw_167 | exact mw_168 | exact mw_169 | exact mw_170 | exact bk_0 | exact bk_1 | exact bk_2 | exact bk_3 | exact bk_4 | exact bk_5 | exact bk_6 | exact bk_7 | exact bk_8 | exact bk_9 | exact bk_10 | exact bk_11 | exact bk_12 | exact bk_13 | exact bk_14 | exact bk_15 | exact bk_16 | exact zup_self | exact (zup_ne (by first | assumption | omega)).trans (by first | assumption | exact zup_self) | exact (zup_ne (by first | assumption | omega)).trans ((zup_ne (by first | assumption | omega)).trans (by first | assumption | exact zup_self)) | exact (bk_out (by first | omega | (simp only [bset, reduceIte, Nat.reduceEqDiff]; omega))).trans (by first | exact bk_0 | exact bk_1 | exact bk_2 | exact bk_3 | exact bk_4 | exact bk_5 | exact bk_6 | exact bk_7 | exact bk_8 | exact bk_9 | exact bk_10 | exact bk_11 | exact bk_12 | exact bk_13 | exact bk_14 | exact bk_15 | exact bk_16 | exact cr_5 | exact cr_23 | exact cr_24 | exact cr_25 | exact cr_26 | exact cr_27 | exact cr_28 | exact cr_29 | exact cr_30 | assumption)) rfl ?_
      refine zr_iconst dX7_seed_27 (rfl : 27 + 1 = 28) ?_
      refine zr_iald dX7_seed_28 (rfl : 28 + 1 = 29) (by first | assumption | exact mw_167 | exact mw_168 | exact mw_169 | exact mw_170 | exact bk_0 | exact bk_1 | exact bk_2 | exact bk_3 | exact bk_4 | exact bk_5 | exact bk_6 | exact bk_7 | exact bk_8 | exact bk_9 | exact bk_10 | exact bk_11 | exact bk_12 | exact bk_13 | exact bk_14 | exact bk_15 | exact bk_16 | exact zup_self | exact (zup_ne (by first | assumption | omega)).trans (by first | assumption | exact zup_self) | exact (zup_ne (by first | assumption | omega)).trans ((zup_ne (by first | assumption | omega)).trans (by first | assumption | exact zup_self)) | exact (bk_out (by first | omega | (simp only [bset, reduceIte, Nat.reduceEqDiff]; omega))).trans (by first | exact bk_0 | exact bk_1 | exact bk_2 | exact bk_3 | exact bk_4 | exact bk_5 | exact bk_6 | exact bk_7 | exact bk_8 | exact bk_9 | exact bk_10 | exact bk_11 | exact bk_12 | exact bk_13 | exact bk_14 | exact bk_15 | exact bk_16 | exact cr_5 | exact cr_23 | exact cr_24 | exact cr_25 | exact cr_26 | exact cr_27 | exact cr_28 | exact cr_29 | exact cr_30 | assumption)) (by decide) (by first | omega | (simp only [bset, reduceIte, Nat.reduceEqDiff]; omega)) (by first | omega | (simp only [bset, reduceIte, Nat.reduceEqDiff]; omega)) ?_
      rw [hm2.lo0]
      refine zr_istore_n (lv' := [_, _, _]) dX7_seed_29 (rfl : 29 + 1 = 30) (Nat.le_of_ble_eq_true rfl) rfl ?_
      refine zr_aload_n dX7_seed_30 (rfl : 30 + 1 = 31) rfl ?_
      refine zr_getf dX7_seed_31 (rfl : 31 + 3 = 34) f_X7_7 (by first | assumption | exact mw_167 | exact mw_168 | exact mw_169 | exact mw_170 | exact bk_0 | exact bk_1 | exact bk_2 | exact bk_3 | exact bk_4 | exact bk_5 | exact bk_6 | exact bk_7 | exact bk_8 | exact bk_9 | exact bk_10 | exact bk_11 | exact bk_12 | exact bk_13 | exact bk_14 | exact bk_15 | exact bk_16 | exact zup_self | exact (zup_ne (by first | assumption | omega)).trans (by first | assumption | exact zup_self) | exact (zup_ne (by first | assumption | omega)).trans ((zup_ne (by first | assumption | omega)).trans (by first | assumption | exact zup_self)) | exact (bk_out (by first | omega | (simp only [bset, reduceIte, Nat.reduceEqDiff]; omega))).trans (by first | exact bk_0 | exact bk_1 | exact bk_2 | exact bk_3 | exact bk_4 | exact bk_5 | exact bk_6 | exact bk_7 | exact bk_8 | exact bk_9 | exact bk_10 | exact bk_11 | exact bk_12 | exact bk_13 | exact bk_14 | exact bk_15 | exact bk_16 | exact cr_5 | exact cr_23 | exact cr_24 | exact cr_25 | exact cr_26 | exact cr_27 | exact cr_28 | exact cr_29 | exact cr_30 | assumption)) rfl ?_
      refine zr_iconst dX7_seed_34 (rfl : 34 + 1 = 35) ?_
      refine zr_iload_n dX7_seed_35 (rfl : 35 + 1 = 36) rfl ?_
      refine zr_iast dX7_seed_36 (rfl : 36 + 1 = 37) (by first | assumption | exact mw_167 | exact mw_168 | exact mw_169 | exact mw_170 | exact bk_0 | exact bk_1 | exact bk_2 | exact bk_3 | exact bk_4 | exact bk_5 | exact bk_6 | exact bk_7 | exact bk_8 | exact bk_9 | exact bk_10 | exact bk_11 | exact bk_12 | exact bk_13 | exact bk_14 | exact bk_15 | exact bk_16 | exact zup_self | exact (zup_ne (by first | assumption | omega)).trans (by first | assumption | exact zup_self) | exact (zup_ne (by first | assumption | omega)).trans ((zup_ne (by first | assumption | omega)).trans (by first | assumption | exact zup_self)) | exact (bk_out (by first | omega | (simp only [bset, reduceIte, Nat.reduceEqDiff]; omega))).trans (by first | exact bk_0 | exact bk_1 | exact bk_2 | exact bk_3 | exact bk_4 | exact bk_5 | exact bk_6 | exact bk_7 | exact bk_8 | exact bk_9 | exact bk_10 | exact bk_11 | exact bk_12 | exact bk_13 | exact bk_14 | exact bk_15 | exact bk_16 | exact cr_5 | exact cr_23 | exact cr_24 | exact cr_25 | exact cr_26 | exact cr_27 | exact cr_28 | exact cr_29 | exact cr_30 | assumption)) (by decide) (by first | omega | (simp only [bset, reduceIte, Nat.reduceEqDiff]; omega)) (by first | omega | (simp only [bset, reduceIte, Nat.reduceEqDiff]; omega)) rfl ?_
      rw [mwu_S]
      refine zr_iload_n dX7_seed_37 (rfl : 37 + 1 = 38) rfl ?_
      refine zr_ireE dX7_seed_38 rfl rfl ?_
      exact ⟨rfl, _, _, zRel_upd (zRel_save hR) (jok_lot ok hp) (jlk_lot lk) pk (jagb_up (by omega)) (mr_lot hm2), rfl⟩)
  · first
    | (exfalso; omega)
    | (
      exfalso
      omega)
theorem p_set1 (s x : Int) (hs : j32 s) (hx : j32 x) (hp : ¬ (0 ≤ s ∧ s < 3))  (hR : zRel B σ S ik) : zFe Γ md_X7_set (d + 8) [.ref 167, .int (jI s), .int (jI x)] (mw S σ.sc ik th σ.T σ.L w) (zMQ (some (.int (jI 0))) 1 (B) (σ) w) := by
  obtain ⟨ok, lk, pk, ck, lx, h, hsv, hkp⟩ := hR
  have hR : zRel B σ S ik := ⟨ok, lk, pk, ck, lx, h, hsv, hkp⟩
  refine zFe.of_run (lv := [some (.ref 167), some (.int (jI s)), some (.int (jI x)), none, none]) (by decide) rfl (Nat.le_of_ble_eq_true rfl) rfl (fun n9 g9 => ?_)
  refine zr_iload_n dX7_set_0 (rfl : 0 + 1 = 1) rfl ?_
  refine zr_iconst dX7_set_1 (rfl : 1 + 1 = 2) ?_
  refine zr_iconst dX7_set_2 (rfl : 2 + 1 = 3) ?_
  refine zr_fnS dX7_set_3 (rfl : 3 + 3 = 6) l_X7_32 (m_in s 0 2 hs (by first | omega | (simp only [bset, reduceIte, Nat.reduceEqDiff]; omega)) (by first | omega | (simp only [bset, reduceIte, Nat.reduceEqDiff]; omega))) rfl rfl (Nat.le_of_ble_eq_true rfl) ?_
  rw [jb_neg (by omega)]
  refine zr_istore_n (lv' := [_, _, _, _, _]) dX7_set_6 (rfl : 6 + 1 = 7) (Nat.le_of_ble_eq_true rfl) rfl ?_
  refine zr_aload_n dX7_set_7 (rfl : 7 + 1 = 8) rfl ?_
  refine zr_iload_n dX7_set_8 (rfl : 8 + 1 = 9) rfl ?_
  refine zr_iload_n dX7_set_9 (rfl : 9 + 1 = 10) rfl ?_
  refine zr_iload_n dX7_set_10 (rfl : 10 + 1 = 11) rfl ?_
  refine zr_if_ne (tgt := 18) dX7_set_11 (by decide) (rfl : 11 + 3 = 14) (by first | exact jb_iff | exact jI_z (by first | omega | (simp only [bset, reduceIte, Nat.reduceEqDiff]; omega)) (by first | omega | (simp only [bset, reduceIte, Nat.reduceEqDiff]; omega))) (fun h11 => ?_) (fun h11 => ?_)
  · first
    | (exfalso; omega)
    | (
      refine zr_iconst dX7_set_18 (rfl : 18 + 1 = 19) ?_
      refine zr_iload_n dX7_set_19 (rfl : 19 + 1 = 20) rfl ?_
      refine zr_iconst dX7_set_20 (rfl : 20 + 1 = 21) ?_
      refine zr_icmp_ne (tgt := 28) dX7_set_21 (by decide) (rfl : 21 + 3 = 24) (jI_eq (by first | omega | (simp only [bset, reduceIte, Nat.reduceEqDiff]; omega)) (by first | omega | (simp only [bset, reduceIte, Nat.reduceEqDiff]; omega)) (by first | omega | (simp only [bset, reduceIte, Nat.reduceEqDiff]; omega)) (by first | omega | (simp only [bset, reduceIte, Nat.reduceEqDiff]; omega))) (fun h21 => ?_) (fun h21 => ?_)
      · first
        | (exfalso; omega)
        | (
          refine zr_bipush dX7_set_28 (rfl : 28 + 2 = 30) (by decide) ?_
          refine zr_fnS dX7_set_30 (rfl : 30 + 3 = 33) l_X7_32 (m_in x _ _ hx (by first | omega | (simp only [bset, reduceIte, Nat.reduceEqDiff]; omega)) (by first | omega | (simp only [bset, reduceIte, Nat.reduceEqDiff]; omega))) rfl rfl (Nat.le_of_ble_eq_true rfl) ?_
          refine zr_iconst dX7_set_33 (rfl : 33 + 1 = 34) ?_
          refine zr_fnV dX7_set_34 (rfl : 34 + 3 = 37) l_X7_60 (m_go1 _ _) (by first | assumption | exact mw_167 | exact mw_168 | exact mw_169 | exact mw_170 | exact bk_0 | exact bk_1 | exact bk_2 | exact bk_3 | exact bk_4 | exact bk_5 | exact bk_6 | exact bk_7 | exact bk_8 | exact bk_9 | exact bk_10 | exact bk_11 | exact bk_12 | exact bk_13 | exact bk_14 | exact bk_15 | exact bk_16 | exact zup_self | exact (zup_ne (by first | assumption | omega)).trans (by first | assumption | exact zup_self) | exact (zup_ne (by first | assumption | omega)).trans ((zup_ne (by first | assumption | omega)).trans (by first | assumption | exact zup_self)) | exact (bk_out (by first | omega | (simp only [bset, reduceIte, Nat.reduceEqDiff]; omega))).trans (by first | exact bk_0 | exact bk_1 | exact bk_2 | exact bk_3 | exact bk_4 | exact bk_5 | exact bk_6 | exact bk_7 | exact bk_8 | exact bk_9 | exact bk_10 | exact bk_11 | exact bk_12 | exact bk_13 | exact bk_14 | exact bk_15 | exact bk_16 | exact cr_5 | exact cr_23 | exact cr_24 | exact cr_25 | exact cr_26 | exact cr_27 | exact cr_28 | exact cr_29 | exact cr_30 | assumption)) rfl rfl rfl (Nat.le_of_ble_eq_true rfl) ?_
          refine zr_if_ne (tgt := 42) dX7_set_37 (by decide) (rfl : 37 + 3 = 40) (by first | exact jb_iff | exact jI_z (by first | omega | (simp only [bset, reduceIte, Nat.reduceEqDiff]; omega)) (by first | omega | (simp only [bset, reduceIte, Nat.reduceEqDiff]; omega))) (fun h37 => ?_) (fun h37 => ?_)
          · first
            | (exfalso; omega)
            | (
              exfalso
              omega)
          · first
            | (exfalso; omega)
            | (
              refine zr_iconst dX7_set_40 (rfl : 40 + 1 = 41) ?_
              refine zr_ireE dX7_set_41 rfl rfl ?_
              exact ⟨rfl, S, ik, hR, rfl⟩))
      · first
        | (exfalso; omega)
        | (
          refine zr_iconst dX7_set_24 (rfl : 24 + 1 = 25) ?_
          refine zr_goto (tgt := 30) dX7_set_25 (by decide) ?_
          refine zr_fnS dX7_set_30 (rfl : 30 + 3 = 33) l_X7_32 (m_in x _ _ hx (by first | omega | (simp only [bset, reduceIte, Nat.reduceEqDiff]; omega)) (by first | omega | (simp only [bset, reduceIte, Nat.reduceEqDiff]; omega))) rfl rfl (Nat.le_of_ble_eq_true rfl) ?_
          refine zr_iconst dX7_set_33 (rfl : 33 + 1 = 34) ?_
          refine zr_fnV dX7_set_34 (rfl : 34 + 3 = 37) l_X7_60 (m_go1 _ _) (by first | assumption | exact mw_167 | exact mw_168 | exact mw_169 | exact mw_170 | exact bk_0 | exact bk_1 | exact bk_2 | exact bk_3 | exact bk_4 | exact bk_5 | exact bk_6 | exact bk_7 | exact bk_8 | exact bk_9 | exact bk_10 | exact bk_11 | exact bk_12 | exact bk_13 | exact bk_14 | exact bk_15 | exact bk_16 | exact zup_self | exact (zup_ne (by first | assumption | omega)).trans (by first | assumption | exact zup_self) | exact (zup_ne (by first | assumption | omega)).trans ((zup_ne (by first | assumption | omega)).trans (by first | assumption | exact zup_self)) | exact (bk_out (by first | omega | (simp only [bset, reduceIte, Nat.reduceEqDiff]; omega))).trans (by first | exact bk_0 | exact bk_1 | exact bk_2 | exact bk_3 | exact bk_4 | exact bk_5 | exact bk_6 | exact bk_7 | exact bk_8 | exact bk_9 | exact bk_10 | exact bk_11 | exact bk_12 | exact bk_13 | exact bk_14 | exact bk_15 | exact bk_16 | exact cr_5 | exact cr_23 | exact cr_24 | exact cr_25 | exact cr_26 | exact cr_27 | exact cr_28 | exact cr_29 | exact cr_30 | assumption)) rfl rfl rfl (Nat.le_of_ble_eq_true rfl) ?_
          refine zr_if_ne (tgt := 42) dX7_set_37 (by decide) (rfl : 37 + 3 = 40) (by first | exact jb_iff | exact jI_z (by first | omega | (simp only [bset, reduceIte, Nat.reduceEqDiff]; omega)) (by first | omega | (simp only [bset, reduceIte, Nat.reduceEqDiff]; omega))) (fun h37 => ?_) (fun h37 => ?_)
          · first
            | (exfalso; omega)
            | (
              exfalso
              omega)
          · first
            | (exfalso; omega)
            | (
              refine zr_iconst dX7_set_40 (rfl : 40 + 1 = 41) ?_
              refine zr_ireE dX7_set_41 rfl rfl ?_
              exact ⟨rfl, S, ik, hR, rfl⟩)))
  · first
    | (exfalso; omega)
    | (
      refine zr_iconst dX7_set_14 (rfl : 14 + 1 = 15) ?_
      refine zr_goto (tgt := 19) dX7_set_15 (by decide) ?_
      refine zr_iload_n dX7_set_19 (rfl : 19 + 1 = 20) rfl ?_
      refine zr_iconst dX7_set_20 (rfl : 20 + 1 = 21) ?_
      refine zr_icmp_ne (tgt := 28) dX7_set_21 (by decide) (rfl : 21 + 3 = 24) (jI_eq (by first | omega | (simp only [bset, reduceIte, Nat.reduceEqDiff]; omega)) (by first | omega | (simp only [bset, reduceIte, Nat.reduceEqDiff]; omega)) (by first | omega | (simp only [bset, reduceIte, Nat.reduceEqDiff]; omega)) (by first | omega | (simp only [bset, reduceIte, Nat.reduceEqDiff]; omega))) (fun h21 => ?_) (fun h21 => ?_)
      · first
        | (exfalso; omega)
        | (
          refine zr_bipush dX7_set_28 (rfl : 28 + 2 = 30) (by decide) ?_
          refine zr_fnS dX7_set_30 (rfl : 30 + 3 = 33) l_X7_32 (m_in x _ _ hx (by first | omega | (simp only [bset, reduceIte, Nat.reduceEqDiff]; omega)) (by first | omega | (simp only [bset, reduceIte, Nat.reduceEqDiff]; omega))) rfl rfl (Nat.le_of_ble_eq_true rfl) ?_
          refine zr_iconst dX7_set_33 (rfl : 33 + 1 = 34) ?_
          refine zr_fnV dX7_set_34 (rfl : 34 + 3 = 37) l_X7_60 (m_go1 _ _) (by first | assumption | exact mw_167 | exact mw_168 | exact mw_169 | exact mw_170 | exact bk_0 | exact bk_1 | exact bk_2 | exact bk_3 | exact bk_4 | exact bk_5 | exact bk_6 | exact bk_7 | exact bk_8 | exact bk_9 | exact bk_10 | exact bk_11 | exact bk_12 | exact bk_13 | exact bk_14 | exact bk_15 | exact bk_16 | exact zup_self | exact (zup_ne (by first | assumption | omega)).trans (by first | assumption | exact zup_self) | exact (zup_ne (by first | assumption | omega)).trans ((zup_ne (by first | assumption | omega)).trans (by first | assumption | exact zup_self)) | exact (bk_out (by first | omega | (simp only [bset, reduceIte, Nat.reduceEqDiff]; omega))).trans (by first | exact bk_0 | exact bk_1 | exact bk_2 | exact bk_3 | exact bk_4 | exact bk_5 | exact bk_6 | exact bk_7 | exact bk_8 | exact bk_9 | exact bk_10 | exact bk_11 | exact bk_12 | exact bk_13 | exact bk_14 | exact bk_15 | exact bk_16 | exact cr_5 | exact cr_23 | exact cr_24 | exact cr_25 | exact cr_26 | exact cr_27 | exact cr_28 | exact cr_29 | exact cr_30 | assumption)) rfl rfl rfl (Nat.le_of_ble_eq_true rfl) ?_
          refine zr_if_ne (tgt := 42) dX7_set_37 (by decide) (rfl : 37 + 3 = 40) (by first | exact jb_iff | exact jI_z (by first | omega | (simp only [bset, reduceIte, Nat.reduceEqDiff]; omega)) (by first | omega | (simp only [bset, reduceIte, Nat.reduceEqDiff]; omega))) (fun h37 => ?_) (fun h37 => ?_)
          · first
            | (exfalso; omega)
            | (
              exfalso
              omega)
          · first
            | (exfalso; omega)
            | (
              refine zr_iconst dX7_set_40 (rfl : 40 + 1 = 41) ?_
              refine zr_ireE dX7_set_41 rfl rfl ?_
              exact ⟨rfl, S, ik, hR, rfl⟩))
      · first
        | (exfalso; omega)
        | (
          refine zr_iconst dX7_set_24 (rfl : 24 + 1 = 25) ?_
          refine zr_goto (tgt := 30) dX7_set_25 (by decide) ?_
          refine zr_fnS dX7_set_30 (rfl : 30 + 3 = 33) l_X7_32 (m_in x _ _ hx (by first | omega | (simp only [bset, reduceIte, Nat.reduceEqDiff]; omega)) (by first | omega | (simp only [bset, reduceIte, Nat.reduceEqDiff]; omega))) rfl rfl (Nat.le_of_ble_eq_true rfl) ?_
          refine zr_iconst dX7_set_33 (rfl : 33 + 1 = 34) ?_
          refine zr_fnV dX7_set_34 (rfl : 34 + 3 = 37) l_X7_60 (m_go1 _ _) (by first | assumption | exact mw_167 | exact mw_168 | exact mw_169 | exact mw_170 | exact bk_0 | exact bk_1 | exact bk_2 | exact bk_3 | exact bk_4 | exact bk_5 | exact bk_6 | exact bk_7 | exact bk_8 | exact bk_9 | exact bk_10 | exact bk_11 | exact bk_12 | exact bk_13 | exact bk_14 | exact bk_15 | exact bk_16 | exact zup_self | exact (zup_ne (by first | assumption | omega)).trans (by first | assumption | exact zup_self) | exact (zup_ne (by first | assumption | omega)).trans ((zup_ne (by first | assumption | omega)).trans (by first | assumption | exact zup_self)) | exact (bk_out (by first | omega | (simp only [bset, reduceIte, Nat.reduceEqDiff]; omega))).trans (by first | exact bk_0 | exact bk_1 | exact bk_2 | exact bk_3 | exact bk_4 | exact bk_5 | exact bk_6 | exact bk_7 | exact bk_8 | exact bk_9 | exact bk_10 | exact bk_11 | exact bk_12 | exact bk_13 | exact bk_14 | exact bk_15 | exact bk_16 | exact cr_5 | exact cr_23 | exact cr_24 | exact cr_25 | exact cr_26 | exact cr_27 | exact cr_28 | exact cr_29 | exact cr_30 | assumption)) rfl rfl rfl (Nat.le_of_ble_eq_true rfl) ?_
          refine zr_if_ne (tgt := 42) dX7_set_37 (by decide) (rfl : 37 + 3 = 40) (by first | exact jb_iff | exact jI_z (by first | omega | (simp only [bset, reduceIte, Nat.reduceEqDiff]; omega)) (by first | omega | (simp only [bset, reduceIte, Nat.reduceEqDiff]; omega))) (fun h37 => ?_) (fun h37 => ?_)
          · first
            | (exfalso; omega)
            | (
              exfalso
              omega)
          · first
            | (exfalso; omega)
            | (
              refine zr_iconst dX7_set_40 (rfl : 40 + 1 = 41) ?_
              refine zr_ireE dX7_set_41 rfl rfl ?_
              exact ⟨rfl, S, ik, hR, rfl⟩)))
theorem p_set2 (s x : Int) (hx : j32 x) (hp : 0 ≤ s ∧ s < 3) (h2 : ¬ (jse0 s ≤ x ∧ x ≤ jse9 s))  (hR : zRel B σ S ik) : zFe Γ md_X7_set (d + 8) [.ref 167, .int (jI s), .int (jI x)] (mw S σ.sc ik th σ.T σ.L w) (zMQ (some (.int (jI 0))) 2 (B) (σ) w) := by
  obtain ⟨ok, lk, pk, ck, lx, h, hsv, hkp⟩ := hR
  have hR : zRel B σ S ik := ⟨ok, lk, pk, ck, lx, h, hsv, hkp⟩
  have hse := jse_r s
  have hs0 : (s = 0 ∧ jse0 s = 1) ∨ (s ≠ 0 ∧ jse0 s = 0) := by
    unfold jse0
    split <;> omega
  have hs9 : (s = 2 ∧ jse9 s = 1) ∨ (s ≠ 2 ∧ jse9 s = 99) := by
    unfold jse9
    split <;> omega
  refine zFe.of_run (lv := [some (.ref 167), some (.int (jI s)), some (.int (jI x)), none, none]) (by decide) rfl (Nat.le_of_ble_eq_true rfl) rfl (fun n9 g9 => ?_)
  refine zr_iload_n dX7_set_0 (rfl : 0 + 1 = 1) rfl ?_
  refine zr_iconst dX7_set_1 (rfl : 1 + 1 = 2) ?_
  refine zr_iconst dX7_set_2 (rfl : 2 + 1 = 3) ?_
  refine zr_fnS dX7_set_3 (rfl : 3 + 3 = 6) l_X7_32 (m_in s 0 2 (by first | omega | (simp only [bset, reduceIte, Nat.reduceEqDiff]; omega)) (by first | omega | (simp only [bset, reduceIte, Nat.reduceEqDiff]; omega)) (by first | omega | (simp only [bset, reduceIte, Nat.reduceEqDiff]; omega))) rfl rfl (Nat.le_of_ble_eq_true rfl) ?_
  rw [jb_pos (by omega)]
  refine zr_istore_n (lv' := [_, _, _, _, _]) dX7_set_6 (rfl : 6 + 1 = 7) (Nat.le_of_ble_eq_true rfl) rfl ?_
  refine zr_aload_n dX7_set_7 (rfl : 7 + 1 = 8) rfl ?_
  refine zr_iload_n dX7_set_8 (rfl : 8 + 1 = 9) rfl ?_
  refine zr_iload_n dX7_set_9 (rfl : 9 + 1 = 10) rfl ?_
  refine zr_iload_n dX7_set_10 (rfl : 10 + 1 = 11) rfl ?_
  refine zr_if_ne (tgt := 18) dX7_set_11 (by decide) (rfl : 11 + 3 = 14) (by first | exact jb_iff | exact jI_z (by first | omega | (simp only [bset, reduceIte, Nat.reduceEqDiff]; omega)) (by first | omega | (simp only [bset, reduceIte, Nat.reduceEqDiff]; omega))) (fun h11 => ?_) (fun h11 => ?_)
  · first
    | (exfalso; omega)
    | (
      refine zr_iconst dX7_set_18 (rfl : 18 + 1 = 19) ?_
      refine zr_iload_n dX7_set_19 (rfl : 19 + 1 = 20) rfl ?_
      refine zr_iconst dX7_set_20 (rfl : 20 + 1 = 21) ?_
      refine zr_icmp_ne (tgt := 28) dX7_set_21 (by decide) (rfl : 21 + 3 = 24) (jI_eq (by first | omega | (simp only [bset, reduceIte, Nat.reduceEqDiff]; omega)) (by first | omega | (simp only [bset, reduceIte, Nat.reduceEqDiff]; omega)) (by first | omega | (simp only [bset, reduceIte, Nat.reduceEqDiff]; omega)) (by first | omega | (simp only [bset, reduceIte, Nat.reduceEqDiff]; omega))) (fun h21 => ?_) (fun h21 => ?_)
      · first
        | (exfalso; omega)
        | (
          refine zr_bipush dX7_set_28 (rfl : 28 + 2 = 30) (by decide) ?_
          refine zr_fnS dX7_set_30 (rfl : 30 + 3 = 33) l_X7_32 (m_in x _ _ hx (by first | omega | (simp only [bset, reduceIte, Nat.reduceEqDiff]; omega)) (by first | omega | (simp only [bset, reduceIte, Nat.reduceEqDiff]; omega))) rfl rfl (Nat.le_of_ble_eq_true rfl) ?_
          rw [jb_neg (by omega)]
          refine zr_iconst dX7_set_33 (rfl : 33 + 1 = 34) ?_
          refine zr_fnV dX7_set_34 (rfl : 34 + 3 = 37) l_X7_60 (m_go2 _) (by first | assumption | exact mw_167 | exact mw_168 | exact mw_169 | exact mw_170 | exact bk_0 | exact bk_1 | exact bk_2 | exact bk_3 | exact bk_4 | exact bk_5 | exact bk_6 | exact bk_7 | exact bk_8 | exact bk_9 | exact bk_10 | exact bk_11 | exact bk_12 | exact bk_13 | exact bk_14 | exact bk_15 | exact bk_16 | exact zup_self | exact (zup_ne (by first | assumption | omega)).trans (by first | assumption | exact zup_self) | exact (zup_ne (by first | assumption | omega)).trans ((zup_ne (by first | assumption | omega)).trans (by first | assumption | exact zup_self)) | exact (bk_out (by first | omega | (simp only [bset, reduceIte, Nat.reduceEqDiff]; omega))).trans (by first | exact bk_0 | exact bk_1 | exact bk_2 | exact bk_3 | exact bk_4 | exact bk_5 | exact bk_6 | exact bk_7 | exact bk_8 | exact bk_9 | exact bk_10 | exact bk_11 | exact bk_12 | exact bk_13 | exact bk_14 | exact bk_15 | exact bk_16 | exact cr_5 | exact cr_23 | exact cr_24 | exact cr_25 | exact cr_26 | exact cr_27 | exact cr_28 | exact cr_29 | exact cr_30 | assumption)) rfl rfl rfl (Nat.le_of_ble_eq_true rfl) ?_
          refine zr_if_ne (tgt := 42) dX7_set_37 (by decide) (rfl : 37 + 3 = 40) (by first | exact jb_iff | exact jI_z (by first | omega | (simp only [bset, reduceIte, Nat.reduceEqDiff]; omega)) (by first | omega | (simp only [bset, reduceIte, Nat.reduceEqDiff]; omega))) (fun h37 => ?_) (fun h37 => ?_)
          · first
            | (exfalso; omega)
            | (
              exfalso
              omega)
          · first
            | (exfalso; omega)
            | (
              refine zr_iconst dX7_set_40 (rfl : 40 + 1 = 41) ?_
              refine zr_ireE dX7_set_41 rfl rfl ?_
              exact ⟨rfl, S, ik, hR, rfl⟩))
      · first
        | (exfalso; omega)
        | (
          refine zr_iconst dX7_set_24 (rfl : 24 + 1 = 25) ?_
          refine zr_goto (tgt := 30) dX7_set_25 (by decide) ?_
          refine zr_fnS dX7_set_30 (rfl : 30 + 3 = 33) l_X7_32 (m_in x _ _ hx (by first | omega | (simp only [bset, reduceIte, Nat.reduceEqDiff]; omega)) (by first | omega | (simp only [bset, reduceIte, Nat.reduceEqDiff]; omega))) rfl rfl (Nat.le_of_ble_eq_true rfl) ?_
          rw [jb_neg (by omega)]
          refine zr_iconst dX7_set_33 (rfl : 33 + 1 = 34) ?_
          refine zr_fnV dX7_set_34 (rfl : 34 + 3 = 37) l_X7_60 (m_go2 _) (by first | assumption | exact mw_167 | exact mw_168 | exact mw_169 | exact mw_170 | exact bk_0 | exact bk_1 | exact bk_2 | exact bk_3 | exact bk_4 | exact bk_5 | exact bk_6 | exact bk_7 | exact bk_8 | exact bk_9 | exact bk_10 | exact bk_11 | exact bk_12 | exact bk_13 | exact bk_14 | exact bk_15 | exact bk_16 | exact zup_self | exact (zup_ne (by first | assumption | omega)).trans (by first | assumption | exact zup_self) | exact (zup_ne (by first | assumption | omega)).trans ((zup_ne (by first | assumption | omega)).trans (by first | assumption | exact zup_self)) | exact (bk_out (by first | omega | (simp only [bset, reduceIte, Nat.reduceEqDiff]; omega))).trans (by first | exact bk_0 | exact bk_1 | exact bk_2 | exact bk_3 | exact bk_4 | exact bk_5 | exact bk_6 | exact bk_7 | exact bk_8 | exact bk_9 | exact bk_10 | exact bk_11 | exact bk_12 | exact bk_13 | exact bk_14 | exact bk_15 | exact bk_16 | exact cr_5 | exact cr_23 | exact cr_24 | exact cr_25 | exact cr_26 | exact cr_27 | exact cr_28 | exact cr_29 | exact cr_30 | assumption)) rfl rfl rfl (Nat.le_of_ble_eq_true rfl) ?_
          refine zr_if_ne (tgt := 42) dX7_set_37 (by decide) (rfl : 37 + 3 = 40) (by first | exact jb_iff | exact jI_z (by first | omega | (simp only [bset, reduceIte, Nat.reduceEqDiff]; omega)) (by first | omega | (simp only [bset, reduceIte, Nat.reduceEqDiff]; omega))) (fun h37 => ?_) (fun h37 => ?_)
          · first
            | (exfalso; omega)
            | (
              exfalso
              omega)
          · first
            | (exfalso; omega)
            | (
              refine zr_iconst dX7_set_40 (rfl : 40 + 1 = 41) ?_
              refine zr_ireE dX7_set_41 rfl rfl ?_
              exact ⟨rfl, S, ik, hR, rfl⟩)))
  · first
    | (exfalso; omega)
    | (
      refine zr_iconst dX7_set_14 (rfl : 14 + 1 = 15) ?_
      refine zr_goto (tgt := 19) dX7_set_15 (by decide) ?_
      refine zr_iload_n dX7_set_19 (rfl : 19 + 1 = 20) rfl ?_
      refine zr_iconst dX7_set_20 (rfl : 20 + 1 = 21) ?_
      refine zr_icmp_ne (tgt := 28) dX7_set_21 (by decide) (rfl : 21 + 3 = 24) (jI_eq (by first | omega | (simp only [bset, reduceIte, Nat.reduceEqDiff]; omega)) (by first | omega | (simp only [bset, reduceIte, Nat.reduceEqDiff]; omega)) (by first | omega | (simp only [bset, reduceIte, Nat.reduceEqDiff]; omega)) (by first | omega | (simp only [bset, reduceIte, Nat.reduceEqDiff]; omega))) (fun h21 => ?_) (fun h21 => ?_)
      · first
        | (exfalso; omega)
        | (
          refine zr_bipush dX7_set_28 (rfl : 28 + 2 = 30) (by decide) ?_
          refine zr_fnS dX7_set_30 (rfl : 30 + 3 = 33) l_X7_32 (m_in x _ _ hx (by first | omega | (simp only [bset, reduceIte, Nat.reduceEqDiff]; omega)) (by first | omega | (simp only [bset, reduceIte, Nat.reduceEqDiff]; omega))) rfl rfl (Nat.le_of_ble_eq_true rfl) ?_
          rw [jb_neg (by omega)]
          refine zr_iconst dX7_set_33 (rfl : 33 + 1 = 34) ?_
          refine zr_fnV dX7_set_34 (rfl : 34 + 3 = 37) l_X7_60 (m_go2 _) (by first | assumption | exact mw_167 | exact mw_168 | exact mw_169 | exact mw_170 | exact bk_0 | exact bk_1 | exact bk_2 | exact bk_3 | exact bk_4 | exact bk_5 | exact bk_6 | exact bk_7 | exact bk_8 | exact bk_9 | exact bk_10 | exact bk_11 | exact bk_12 | exact bk_13 | exact bk_14 | exact bk_15 | exact bk_16 | exact zup_self | exact (zup_ne (by first | assumption | omega)).trans (by first | assumption | exact zup_self) | exact (zup_ne (by first | assumption | omega)).trans ((zup_ne (by first | assumption | omega)).trans (by first | assumption | exact zup_self)) | exact (bk_out (by first | omega | (simp only [bset, reduceIte, Nat.reduceEqDiff]; omega))).trans (by first | exact bk_0 | exact bk_1 | exact bk_2 | exact bk_3 | exact bk_4 | exact bk_5 | exact bk_6 | exact bk_7 | exact bk_8 | exact bk_9 | exact bk_10 | exact bk_11 | exact bk_12 | exact bk_13 | exact bk_14 | exact bk_15 | exact bk_16 | exact cr_5 | exact cr_23 | exact cr_24 | exact cr_25 | exact cr_26 | exact cr_27 | exact cr_28 | exact cr_29 | exact cr_30 | assumption)) rfl rfl rfl (Nat.le_of_ble_eq_true rfl) ?_
          refine zr_if_ne (tgt := 42) dX7_set_37 (by decide) (rfl : 37 + 3 = 40) (by first | exact jb_iff | exact jI_z (by first | omega | (simp only [bset, reduceIte, Nat.reduceEqDiff]; omega)) (by first | omega | (simp only [bset, reduceIte, Nat.reduceEqDiff]; omega))) (fun h37 => ?_) (fun h37 => ?_)
          · first
            | (exfalso; omega)
            | (
              exfalso
              omega)
          · first
            | (exfalso; omega)
            | (
              refine zr_iconst dX7_set_40 (rfl : 40 + 1 = 41) ?_
              refine zr_ireE dX7_set_41 rfl rfl ?_
              exact ⟨rfl, S, ik, hR, rfl⟩))
      · first
        | (exfalso; omega)
        | (
          refine zr_iconst dX7_set_24 (rfl : 24 + 1 = 25) ?_
          refine zr_goto (tgt := 30) dX7_set_25 (by decide) ?_
          refine zr_fnS dX7_set_30 (rfl : 30 + 3 = 33) l_X7_32 (m_in x _ _ hx (by first | omega | (simp only [bset, reduceIte, Nat.reduceEqDiff]; omega)) (by first | omega | (simp only [bset, reduceIte, Nat.reduceEqDiff]; omega))) rfl rfl (Nat.le_of_ble_eq_true rfl) ?_
          rw [jb_neg (by omega)]
          refine zr_iconst dX7_set_33 (rfl : 33 + 1 = 34) ?_
          refine zr_fnV dX7_set_34 (rfl : 34 + 3 = 37) l_X7_60 (m_go2 _) (by first | assumption | exact mw_167 | exact mw_168 | exact mw_169 | exact mw_170 | exact bk_0 | exact bk_1 | exact bk_2 | exact bk_3 | exact bk_4 | exact bk_5 | exact bk_6 | exact bk_7 | exact bk_8 | exact bk_9 | exact bk_10 | exact bk_11 | exact bk_12 | exact bk_13 | exact bk_14 | exact bk_15 | exact bk_16 | exact zup_self | exact (zup_ne (by first | assumption | omega)).trans (by first | assumption | exact zup_self) | exact (zup_ne (by first | assumption | omega)).trans ((zup_ne (by first | assumption | omega)).trans (by first | assumption | exact zup_self)) | exact (bk_out (by first | omega | (simp only [bset, reduceIte, Nat.reduceEqDiff]; omega))).trans (by first | exact bk_0 | exact bk_1 | exact bk_2 | exact bk_3 | exact bk_4 | exact bk_5 | exact bk_6 | exact bk_7 | exact bk_8 | exact bk_9 | exact bk_10 | exact bk_11 | exact bk_12 | exact bk_13 | exact bk_14 | exact bk_15 | exact bk_16 | exact cr_5 | exact cr_23 | exact cr_24 | exact cr_25 | exact cr_26 | exact cr_27 | exact cr_28 | exact cr_29 | exact cr_30 | assumption)) rfl rfl rfl (Nat.le_of_ble_eq_true rfl) ?_
          refine zr_if_ne (tgt := 42) dX7_set_37 (by decide) (rfl : 37 + 3 = 40) (by first | exact jb_iff | exact jI_z (by first | omega | (simp only [bset, reduceIte, Nat.reduceEqDiff]; omega)) (by first | omega | (simp only [bset, reduceIte, Nat.reduceEqDiff]; omega))) (fun h37 => ?_) (fun h37 => ?_)
          · first
            | (exfalso; omega)
            | (
              exfalso
              omega)
          · first
            | (exfalso; omega)
            | (
              refine zr_iconst dX7_set_40 (rfl : 40 + 1 = 41) ?_
              refine zr_ireE dX7_set_41 rfl rfl ?_
              exact ⟨rfl, S, ik, hR, rfl⟩)))
theorem p_set (s x : Int) (hp : 0 ≤ s ∧ s < 3) (h2 : jse0 s ≤ x ∧ x ≤ jse9 s)  (hR : zRel B σ S ik) : zFe Γ md_X7_set (d + 8) [.ref 167, .int (jI s), .int (jI x)] (mw S σ.sc ik th σ.T σ.L w) (zMQ (some (.int (jI (B 23 s)))) 0 (bset B 23 (jup (B 23) s x)) (jsv σ B) w) := by
  obtain ⟨ok, lk, pk, ck, lx, h, hsv, hkp⟩ := hR
  have hR : zRel B σ S ik := ⟨ok, lk, pk, ck, lx, h, hsv, hkp⟩
  have hse := jse_r s
  have hs0 : (s = 0 ∧ jse0 s = 1) ∨ (s ≠ 0 ∧ jse0 s = 0) := by
    unfold jse0
    split <;> omega
  have hs9 : (s = 2 ∧ jse9 s = 1) ∨ (s ≠ 2 ∧ jse9 s = 99) := by
    unfold jse9
    split <;> omega
  have hm2 : mr (jsv2 S σ.sc) 0 B := (zRel_save hR).2.2.2.2.2.1
  refine zFe.of_run (lv := [some (.ref 167), some (.int (jI s)), some (.int (jI x)), none, none]) (by decide) rfl (Nat.le_of_ble_eq_true rfl) rfl (fun n9 g9 => ?_)
  refine zr_iload_n dX7_set_0 (rfl : 0 + 1 = 1) rfl ?_
  refine zr_iconst dX7_set_1 (rfl : 1 + 1 = 2) ?_
  refine zr_iconst dX7_set_2 (rfl : 2 + 1 = 3) ?_
  refine zr_fnS dX7_set_3 (rfl : 3 + 3 = 6) l_X7_32 (m_in s 0 2 (by first | omega | (simp only [bset, reduceIte, Nat.reduceEqDiff]; omega)) (by first | omega | (simp only [bset, reduceIte, Nat.reduceEqDiff]; omega)) (by first | omega | (simp only [bset, reduceIte, Nat.reduceEqDiff]; omega))) rfl rfl (Nat.le_of_ble_eq_true rfl) ?_
  rw [jb_pos (by omega)]
  refine zr_istore_n (lv' := [_, _, _, _, _]) dX7_set_6 (rfl : 6 + 1 = 7) (Nat.le_of_ble_eq_true rfl) rfl ?_
  refine zr_aload_n dX7_set_7 (rfl : 7 + 1 = 8) rfl ?_
  refine zr_iload_n dX7_set_8 (rfl : 8 + 1 = 9) rfl ?_
  refine zr_iload_n dX7_set_9 (rfl : 9 + 1 = 10) rfl ?_
  refine zr_iload_n dX7_set_10 (rfl : 10 + 1 = 11) rfl ?_
  refine zr_if_ne (tgt := 18) dX7_set_11 (by decide) (rfl : 11 + 3 = 14) (by first | exact jb_iff | exact jI_z (by first | omega | (simp only [bset, reduceIte, Nat.reduceEqDiff]; omega)) (by first | omega | (simp only [bset, reduceIte, Nat.reduceEqDiff]; omega))) (fun h11 => ?_) (fun h11 => ?_)
  · first
    | (exfalso; omega)
    | (
      refine zr_iconst dX7_set_18 (rfl : 18 + 1 = 19) ?_
      refine zr_iload_n dX7_set_19 (rfl : 19 + 1 = 20) rfl ?_
      refine zr_iconst dX7_set_20 (rfl : 20 + 1 = 21) ?_
      refine zr_icmp_ne (tgt := 28) dX7_set_21 (by decide) (rfl : 21 + 3 = 24) (jI_eq (by first | omega | (simp only [bset, reduceIte, Nat.reduceEqDiff]; omega)) (by first | omega | (simp only [bset, reduceIte, Nat.reduceEqDiff]; omega)) (by first | omega | (simp only [bset, reduceIte, Nat.reduceEqDiff]; omega)) (by first | omega | (simp only [bset, reduceIte, Nat.reduceEqDiff]; omega))) (fun h21 => ?_) (fun h21 => ?_)
      · first
        | (exfalso; omega)
        | (
          refine zr_bipush dX7_set_28 (rfl : 28 + 2 = 30) (by decide) ?_
          refine zr_fnS dX7_set_30 (rfl : 30 + 3 = 33) l_X7_32 (m_in x _ _ (by first | omega | (simp only [bset, reduceIte, Nat.reduceEqDiff]; omega)) (by first | omega | (simp only [bset, reduceIte, Nat.reduceEqDiff]; omega)) (by first | omega | (simp only [bset, reduceIte, Nat.reduceEqDiff]; omega))) rfl rfl (Nat.le_of_ble_eq_true rfl) ?_
          rw [jb_pos (by omega)]
          refine zr_iconst dX7_set_33 (rfl : 33 + 1 = 34) ?_
          refine zr_fnV dX7_set_34 (rfl : 34 + 3 = 37) l_X7_60 (m_go) (by first | assumption | exact mw_167 | exact mw_168 | exact mw_169 | exact mw_170 | exact bk_0 | exact bk_1 | exact bk_2 | exact bk_3 | exact bk_4 | exact bk_5 | exact bk_6 | exact bk_7 | exact bk_8 | exact bk_9 | exact bk_10 | exact bk_11 | exact bk_12 | exact bk_13 | exact bk_14 | exact bk_15 | exact bk_16 | exact zup_self | exact (zup_ne (by first | assumption | omega)).trans (by first | assumption | exact zup_self) | exact (zup_ne (by first | assumption | omega)).trans ((zup_ne (by first | assumption | omega)).trans (by first | assumption | exact zup_self)) | exact (bk_out (by first | omega | (simp only [bset, reduceIte, Nat.reduceEqDiff]; omega))).trans (by first | exact bk_0 | exact bk_1 | exact bk_2 | exact bk_3 | exact bk_4 | exact bk_5 | exact bk_6 | exact bk_7 | exact bk_8 | exact bk_9 | exact bk_10 | exact bk_11 | exact bk_12 | exact bk_13 | exact bk_14 | exact bk_15 | exact bk_16 | exact cr_5 | exact cr_23 | exact cr_24 | exact cr_25 | exact cr_26 | exact cr_27 | exact cr_28 | exact cr_29 | exact cr_30 | assumption)) rfl rfl rfl (Nat.le_of_ble_eq_true rfl) ?_
          refine zr_if_ne (tgt := 42) dX7_set_37 (by decide) (rfl : 37 + 3 = 40) (by first | exact jb_iff | exact jI_z (by first | omega | (simp only [bset, reduceIte, Nat.reduceEqDiff]; omega)) (by first | omega | (simp only [bset, reduceIte, Nat.reduceEqDiff]; omega))) (fun h37 => ?_) (fun h37 => ?_)
          · first
            | (exfalso; omega)
            | (
              refine zr_aload_n dX7_set_42 (rfl : 42 + 1 = 43) rfl ?_
              refine zr_fnV dX7_set_43 (rfl : 43 + 3 = 46) l_X7_64 (m_saves ck.sc) (by first | assumption | exact mw_167 | exact mw_168 | exact mw_169 | exact mw_170 | exact bk_0 | exact bk_1 | exact bk_2 | exact bk_3 | exact bk_4 | exact bk_5 | exact bk_6 | exact bk_7 | exact bk_8 | exact bk_9 | exact bk_10 | exact bk_11 | exact bk_12 | exact bk_13 | exact bk_14 | exact bk_15 | exact bk_16 | exact zup_self | exact (zup_ne (by first | assumption | omega)).trans (by first | assumption | exact zup_self) | exact (zup_ne (by first | assumption | omega)).trans ((zup_ne (by first | assumption | omega)).trans (by first | assumption | exact zup_self)) | exact (bk_out (by first | omega | (simp only [bset, reduceIte, Nat.reduceEqDiff]; omega))).trans (by first | exact bk_0 | exact bk_1 | exact bk_2 | exact bk_3 | exact bk_4 | exact bk_5 | exact bk_6 | exact bk_7 | exact bk_8 | exact bk_9 | exact bk_10 | exact bk_11 | exact bk_12 | exact bk_13 | exact bk_14 | exact bk_15 | exact bk_16 | exact cr_5 | exact cr_23 | exact cr_24 | exact cr_25 | exact cr_26 | exact cr_27 | exact cr_28 | exact cr_29 | exact cr_30 | assumption)) rfl rfl rfl (Nat.le_of_ble_eq_true rfl) ?_
              refine zr_aload_n dX7_set_46 (rfl : 46 + 1 = 47) rfl ?_
              refine zr_getf dX7_set_47 (rfl : 47 + 3 = 50) f_X7_7 (by first | assumption | exact mw_167 | exact mw_168 | exact mw_169 | exact mw_170 | exact bk_0 | exact bk_1 | exact bk_2 | exact bk_3 | exact bk_4 | exact bk_5 | exact bk_6 | exact bk_7 | exact bk_8 | exact bk_9 | exact bk_10 | exact bk_11 | exact bk_12 | exact bk_13 | exact bk_14 | exact bk_15 | exact bk_16 | exact zup_self | exact (zup_ne (by first | assumption | omega)).trans (by first | assumption | exact zup_self) | exact (zup_ne (by first | assumption | omega)).trans ((zup_ne (by first | assumption | omega)).trans (by first | assumption | exact zup_self)) | exact (bk_out (by first | omega | (simp only [bset, reduceIte, Nat.reduceEqDiff]; omega))).trans (by first | exact bk_0 | exact bk_1 | exact bk_2 | exact bk_3 | exact bk_4 | exact bk_5 | exact bk_6 | exact bk_7 | exact bk_8 | exact bk_9 | exact bk_10 | exact bk_11 | exact bk_12 | exact bk_13 | exact bk_14 | exact bk_15 | exact bk_16 | exact cr_5 | exact cr_23 | exact cr_24 | exact cr_25 | exact cr_26 | exact cr_27 | exact cr_28 | exact cr_29 | exact cr_30 | assumption)) rfl ?_
              refine zr_iload_n dX7_set_50 (rfl : 50 + 1 = 51) rfl ?_
              refine zr_iald dX7_set_51 (rfl : 51 + 1 = 52) (by first | assumption | exact mw_167 | exact mw_168 | exact mw_169 | exact mw_170 | exact bk_0 | exact bk_1 | exact bk_2 | exact bk_3 | exact bk_4 | exact bk_5 | exact bk_6 | exact bk_7 | exact bk_8 | exact bk_9 | exact bk_10 | exact bk_11 | exact bk_12 | exact bk_13 | exact bk_14 | exact bk_15 | exact bk_16 | exact zup_self | exact (zup_ne (by first | assumption | omega)).trans (by first | assumption | exact zup_self) | exact (zup_ne (by first | assumption | omega)).trans ((zup_ne (by first | assumption | omega)).trans (by first | assumption | exact zup_self)) | exact (bk_out (by first | omega | (simp only [bset, reduceIte, Nat.reduceEqDiff]; omega))).trans (by first | exact bk_0 | exact bk_1 | exact bk_2 | exact bk_3 | exact bk_4 | exact bk_5 | exact bk_6 | exact bk_7 | exact bk_8 | exact bk_9 | exact bk_10 | exact bk_11 | exact bk_12 | exact bk_13 | exact bk_14 | exact bk_15 | exact bk_16 | exact cr_5 | exact cr_23 | exact cr_24 | exact cr_25 | exact cr_26 | exact cr_27 | exact cr_28 | exact cr_29 | exact cr_30 | assumption)) (by decide) (by first | omega | (simp only [bset, reduceIte, Nat.reduceEqDiff]; omega)) (by first | omega | (simp only [bset, reduceIte, Nat.reduceEqDiff]; omega)) ?_
              rw [hm2.se0 s hp.1 hp.2]
              refine zr_istore (lv' := [_, _, _, _, _]) dX7_set_52 (rfl : 52 + 2 = 54) (Nat.le_of_ble_eq_true rfl) rfl ?_
              refine zr_aload_n dX7_set_54 (rfl : 54 + 1 = 55) rfl ?_
              refine zr_getf dX7_set_55 (rfl : 55 + 3 = 58) f_X7_7 (by first | assumption | exact mw_167 | exact mw_168 | exact mw_169 | exact mw_170 | exact bk_0 | exact bk_1 | exact bk_2 | exact bk_3 | exact bk_4 | exact bk_5 | exact bk_6 | exact bk_7 | exact bk_8 | exact bk_9 | exact bk_10 | exact bk_11 | exact bk_12 | exact bk_13 | exact bk_14 | exact bk_15 | exact bk_16 | exact zup_self | exact (zup_ne (by first | assumption | omega)).trans (by first | assumption | exact zup_self) | exact (zup_ne (by first | assumption | omega)).trans ((zup_ne (by first | assumption | omega)).trans (by first | assumption | exact zup_self)) | exact (bk_out (by first | omega | (simp only [bset, reduceIte, Nat.reduceEqDiff]; omega))).trans (by first | exact bk_0 | exact bk_1 | exact bk_2 | exact bk_3 | exact bk_4 | exact bk_5 | exact bk_6 | exact bk_7 | exact bk_8 | exact bk_9 | exact bk_10 | exact bk_11 | exact bk_12 | exact bk_13 | exact bk_14 | exact bk_15 | exact bk_16 | exact cr_5 | exact cr_23 | exact cr_24 | exact cr_25 | exact cr_26 | exact cr_27 | exact cr_28 | exact cr_29 | exact cr_30 | assumption)) rfl ?_
              refine zr_iload_n dX7_set_58 (rfl : 58 + 1 = 59) rfl ?_
              refine zr_iload_n dX7_set_59 (rfl : 59 + 1 = 60) rfl ?_
              refine zr_iast dX7_set_60 (rfl : 60 + 1 = 61) (by first | assumption | exact mw_167 | exact mw_168 | exact mw_169 | exact mw_170 | exact bk_0 | exact bk_1 | exact bk_2 | exact bk_3 | exact bk_4 | exact bk_5 | exact bk_6 | exact bk_7 | exact bk_8 | exact bk_9 | exact bk_10 | exact bk_11 | exact bk_12 | exact bk_13 | exact bk_14 | exact bk_15 | exact bk_16 | exact zup_self | exact (zup_ne (by first | assumption | omega)).trans (by first | assumption | exact zup_self) | exact (zup_ne (by first | assumption | omega)).trans ((zup_ne (by first | assumption | omega)).trans (by first | assumption | exact zup_self)) | exact (bk_out (by first | omega | (simp only [bset, reduceIte, Nat.reduceEqDiff]; omega))).trans (by first | exact bk_0 | exact bk_1 | exact bk_2 | exact bk_3 | exact bk_4 | exact bk_5 | exact bk_6 | exact bk_7 | exact bk_8 | exact bk_9 | exact bk_10 | exact bk_11 | exact bk_12 | exact bk_13 | exact bk_14 | exact bk_15 | exact bk_16 | exact cr_5 | exact cr_23 | exact cr_24 | exact cr_25 | exact cr_26 | exact cr_27 | exact cr_28 | exact cr_29 | exact cr_30 | assumption)) (by decide) (by first | omega | (simp only [bset, reduceIte, Nat.reduceEqDiff]; omega)) (by first | omega | (simp only [bset, reduceIte, Nat.reduceEqDiff]; omega)) rfl ?_
              rw [mwu_S]
              refine zr_iload dX7_set_61 (rfl : 61 + 2 = 63) rfl ?_
              refine zr_ireE dX7_set_63 rfl rfl ?_
              exact ⟨rfl, _, _, zRel_upd (zRel_save hR) (jok_set ok (by omega)) (jlk_set lk) (jpk_set pk (by omega)) (jagb_up (by omega)) (mr_set hm2 hp), rfl⟩)
          · first
            | (exfalso; omega)
            | (
              exfalso
              omega))
      · first
        | (exfalso; omega)
        | (
          refine zr_iconst dX7_set_24 (rfl : 24 + 1 = 25) ?_
          refine zr_goto (tgt := 30) dX7_set_25 (by decide) ?_
          refine zr_fnS dX7_set_30 (rfl : 30 + 3 = 33) l_X7_32 (m_in x _ _ (by first | omega | (simp only [bset, reduceIte, Nat.reduceEqDiff]; omega)) (by first | omega | (simp only [bset, reduceIte, Nat.reduceEqDiff]; omega)) (by first | omega | (simp only [bset, reduceIte, Nat.reduceEqDiff]; omega))) rfl rfl (Nat.le_of_ble_eq_true rfl) ?_
          rw [jb_pos (by omega)]
          refine zr_iconst dX7_set_33 (rfl : 33 + 1 = 34) ?_
          refine zr_fnV dX7_set_34 (rfl : 34 + 3 = 37) l_X7_60 (m_go) (by first | assumption | exact mw_167 | exact mw_168 | exact mw_169 | exact mw_170 | exact bk_0 | exact bk_1 | exact bk_2 | exact bk_3 | exact bk_4 | exact bk_5 | exact bk_6 | exact bk_7 | exact bk_8 | exact bk_9 | exact bk_10 | exact bk_11 | exact bk_12 | exact bk_13 | exact bk_14 | exact bk_15 | exact bk_16 | exact zup_self | exact (zup_ne (by first | assumption | omega)).trans (by first | assumption | exact zup_self) | exact (zup_ne (by first | assumption | omega)).trans ((zup_ne (by first | assumption | omega)).trans (by first | assumption | exact zup_self)) | exact (bk_out (by first | omega | (simp only [bset, reduceIte, Nat.reduceEqDiff]; omega))).trans (by first | exact bk_0 | exact bk_1 | exact bk_2 | exact bk_3 | exact bk_4 | exact bk_5 | exact bk_6 | exact bk_7 | exact bk_8 | exact bk_9 | exact bk_10 | exact bk_11 | exact bk_12 | exact bk_13 | exact bk_14 | exact bk_15 | exact bk_16 | exact cr_5 | exact cr_23 | exact cr_24 | exact cr_25 | exact cr_26 | exact cr_27 | exact cr_28 | exact cr_29 | exact cr_30 | assumption)) rfl rfl rfl (Nat.le_of_ble_eq_true rfl) ?_
          refine zr_if_ne (tgt := 42) dX7_set_37 (by decide) (rfl : 37 + 3 = 40) (by first | exact jb_iff | exact jI_z (by first | omega | (simp only [bset, reduceIte, Nat.reduceEqDiff]; omega)) (by first | omega | (simp only [bset, reduceIte, Nat.reduceEqDiff]; omega))) (fun h37 => ?_) (fun h37 => ?_)
          · first
            | (exfalso; omega)
            | (
              refine zr_aload_n dX7_set_42 (rfl : 42 + 1 = 43) rfl ?_
              refine zr_fnV dX7_set_43 (rfl : 43 + 3 = 46) l_X7_64 (m_saves ck.sc) (by first | assumption | exact mw_167 | exact mw_168 | exact mw_169 | exact mw_170 | exact bk_0 | exact bk_1 | exact bk_2 | exact bk_3 | exact bk_4 | exact bk_5 | exact bk_6 | exact bk_7 | exact bk_8 | exact bk_9 | exact bk_10 | exact bk_11 | exact bk_12 | exact bk_13 | exact bk_14 | exact bk_15 | exact bk_16 | exact zup_self | exact (zup_ne (by first | assumption | omega)).trans (by first | assumption | exact zup_self) | exact (zup_ne (by first | assumption | omega)).trans ((zup_ne (by first | assumption | omega)).trans (by first | assumption | exact zup_self)) | exact (bk_out (by first | omega | (simp only [bset, reduceIte, Nat.reduceEqDiff]; omega))).trans (by first | exact bk_0 | exact bk_1 | exact bk_2 | exact bk_3 | exact bk_4 | exact bk_5 | exact bk_6 | exact bk_7 | exact bk_8 | exact bk_9 | exact bk_10 | exact bk_11 | exact bk_12 | exact bk_13 | exact bk_14 | exact bk_15 | exact bk_16 | exact cr_5 | exact cr_23 | exact cr_24 | exact cr_25 | exact cr_26 | exact cr_27 | exact cr_28 | exact cr_29 | exact cr_30 | assumption)) rfl rfl rfl (Nat.le_of_ble_eq_true rfl) ?_
              refine zr_aload_n dX7_set_46 (rfl : 46 + 1 = 47) rfl ?_
              refine zr_getf dX7_set_47 (rfl : 47 + 3 = 50) f_X7_7 (by first | assumption | exact mw_167 | exact mw_168 | exact mw_169 | exact mw_170 | exact bk_0 | exact bk_1 | exact bk_2 | exact bk_3 | exact bk_4 | exact bk_5 | exact bk_6 | exact bk_7 | exact bk_8 | exact bk_9 | exact bk_10 | exact bk_11 | exact bk_12 | exact bk_13 | exact bk_14 | exact bk_15 | exact bk_16 | exact zup_self | exact (zup_ne (by first | assumption | omega)).trans (by first | assumption | exact zup_self) | exact (zup_ne (by first | assumption | omega)).trans ((zup_ne (by first | assumption | omega)).trans (by first | assumption | exact zup_self)) | exact (bk_out (by first | omega | (simp only [bset, reduceIte, Nat.reduceEqDiff]; omega))).trans (by first | exact bk_0 | exact bk_1 | exact bk_2 | exact bk_3 | exact bk_4 | exact bk_5 | exact bk_6 | exact bk_7 | exact bk_8 | exact bk_9 | exact bk_10 | exact bk_11 | exact bk_12 | exact bk_13 | exact bk_14 | exact bk_15 | exact bk_16 | exact cr_5 | exact cr_23 | exact cr_24 | exact cr_25 | exact cr_26 | exact cr_27 | exact cr_28 | exact cr_29 | exact cr_30 | assumption)) rfl ?_
              refine zr_iload_n dX7_set_50 (rfl : 50 + 1 = 51) rfl ?_
              refine zr_iald dX7_set_51 (rfl : 51 + 1 = 52) (by first | assumption | exact mw_167 | exact mw_168 | exact mw_169 | exact mw_170 | exact bk_0 | exact bk_1 | exact bk_2 | exact bk_3 | exact bk_4 | exact bk_5 | exact bk_6 | exact bk_7 | exact bk_8 | exact bk_9 | exact bk_10 | exact bk_11 | exact bk_12 | exact bk_13 | exact bk_14 | exact bk_15 | exact bk_16 | exact zup_self | exact (zup_ne (by first | assumption | omega)).trans (by first | assumption | exact zup_self) | exact (zup_ne (by first | assumption | omega)).trans ((zup_ne (by first | assumption | omega)).trans (by first | assumption | exact zup_self)) | exact (bk_out (by first | omega | (simp only [bset, reduceIte, Nat.reduceEqDiff]; omega))).trans (by first | exact bk_0 | exact bk_1 | exact bk_2 | exact bk_3 | exact bk_4 | exact bk_5 | exact bk_6 | exact bk_7 | exact bk_8 | exact bk_9 | exact bk_10 | exact bk_11 | exact bk_12 | exact bk_13 | exact bk_14 | exact bk_15 | exact bk_16 | exact cr_5 | exact cr_23 | exact cr_24 | exact cr_25 | exact cr_26 | exact cr_27 | exact cr_28 | exact cr_29 | exact cr_30 | assumption)) (by decide) (by first | omega | (simp only [bset, reduceIte, Nat.reduceEqDiff]; omega)) (by first | omega | (simp only [bset, reduceIte, Nat.reduceEqDiff]; omega)) ?_
              rw [hm2.se0 s hp.1 hp.2]
              refine zr_istore (lv' := [_, _, _, _, _]) dX7_set_52 (rfl : 52 + 2 = 54) (Nat.le_of_ble_eq_true rfl) rfl ?_
              refine zr_aload_n dX7_set_54 (rfl : 54 + 1 = 55) rfl ?_
              refine zr_getf dX7_set_55 (rfl : 55 + 3 = 58) f_X7_7 (by first | assumption | exact mw_167 | exact mw_168 | exact mw_169 | exact mw_170 | exact bk_0 | exact bk_1 | exact bk_2 | exact bk_3 | exact bk_4 | exact bk_5 | exact bk_6 | exact bk_7 | exact bk_8 | exact bk_9 | exact bk_10 | exact bk_11 | exact bk_12 | exact bk_13 | exact bk_14 | exact bk_15 | exact bk_16 | exact zup_self | exact (zup_ne (by first | assumption | omega)).trans (by first | assumption | exact zup_self) | exact (zup_ne (by first | assumption | omega)).trans ((zup_ne (by first | assumption | omega)).trans (by first | assumption | exact zup_self)) | exact (bk_out (by first | omega | (simp only [bset, reduceIte, Nat.reduceEqDiff]; omega))).trans (by first | exact bk_0 | exact bk_1 | exact bk_2 | exact bk_3 | exact bk_4 | exact bk_5 | exact bk_6 | exact bk_7 | exact bk_8 | exact bk_9 | exact bk_10 | exact bk_11 | exact bk_12 | exact bk_13 | exact bk_14 | exact bk_15 | exact bk_16 | exact cr_5 | exact cr_23 | exact cr_24 | exact cr_25 | exact cr_26 | exact cr_27 | exact cr_28 | exact cr_29 | exact cr_30 | assumption)) rfl ?_
              refine zr_iload_n dX7_set_58 (rfl : 58 + 1 = 59) rfl ?_
              refine zr_iload_n dX7_set_59 (rfl : 59 + 1 = 60) rfl ?_
              refine zr_iast dX7_set_60 (rfl : 60 + 1 = 61) (by first | assumption | exact mw_167 | exact mw_168 | exact mw_169 | exact mw_170 | exact bk_0 | exact bk_1 | exact bk_2 | exact bk_3 | exact bk_4 | exact bk_5 | exact bk_6 | exact bk_7 | exact bk_8 | exact bk_9 | exact bk_10 | exact bk_11 | exact bk_12 | exact bk_13 | exact bk_14 | exact bk_15 | exact bk_16 | exact zup_self | exact (zup_ne (by first | assumption | omega)).trans (by first | assumption | exact zup_self) | exact (zup_ne (by first | assumption | omega)).trans ((zup_ne (by first | assumption | omega)).trans (by first | assumption | exact zup_self)) | exact (bk_out (by first | omega | (simp only [bset, reduceIte, Nat.reduceEqDiff]; omega))).trans (by first | exact bk_0 | exact bk_1 | exact bk_2 | exact bk_3 | exact bk_4 | exact bk_5 | exact bk_6 | exact bk_7 | exact bk_8 | exact bk_9 | exact bk_10 | exact bk_11 | exact bk_12 | exact bk_13 | exact bk_14 | exact bk_15 | exact bk_16 | exact cr_5 | exact cr_23 | exact cr_24 | exact cr_25 | exact cr_26 | exact cr_27 | exact cr_28 | exact cr_29 | exact cr_30 | assumption)) (by decide) (by first | omega | (simp only [bset, reduceIte, Nat.reduceEqDiff]; omega)) (by first | omega | (simp only [bset, reduceIte, Nat.reduceEqDiff]; omega)) rfl ?_
              rw [mwu_S]
              refine zr_iload dX7_set_61 (rfl : 61 + 2 = 63) rfl ?_
              refine zr_ireE dX7_set_63 rfl rfl ?_
              exact ⟨rfl, _, _, zRel_upd (zRel_save hR) (jok_set ok (by omega)) (jlk_set lk) (jpk_set pk (by omega)) (jagb_up (by omega)) (mr_set hm2 hp), rfl⟩)
          · first
            | (exfalso; omega)
            | (
              exfalso
              omega)))
  · first
    | (exfalso; omega)
    | (
      refine zr_iconst dX7_set_14 (rfl : 14 + 1 = 15) ?_
      refine zr_goto (tgt := 19) dX7_set_15 (by decide) ?_
      refine zr_iload_n dX7_set_19 (rfl : 19 + 1 = 20) rfl ?_
      refine zr_iconst dX7_set_20 (rfl : 20 + 1 = 21) ?_
      refine zr_icmp_ne (tgt := 28) dX7_set_21 (by decide) (rfl : 21 + 3 = 24) (jI_eq (by first | omega | (simp only [bset, reduceIte, Nat.reduceEqDiff]; omega)) (by first | omega | (simp only [bset, reduceIte, Nat.reduceEqDiff]; omega)) (by first | omega | (simp only [bset, reduceIte, Nat.reduceEqDiff]; omega)) (by first | omega | (simp only [bset, reduceIte, Nat.reduceEqDiff]; omega))) (fun h21 => ?_) (fun h21 => ?_)
      · first
        | (exfalso; omega)
        | (
          refine zr_bipush dX7_set_28 (rfl : 28 + 2 = 30) (by decide) ?_
          refine zr_fnS dX7_set_30 (rfl : 30 + 3 = 33) l_X7_32 (m_in x _ _ (by first | omega | (simp only [bset, reduceIte, Nat.reduceEqDiff]; omega)) (by first | omega | (simp only [bset, reduceIte, Nat.reduceEqDiff]; omega)) (by first | omega | (simp only [bset, reduceIte, Nat.reduceEqDiff]; omega))) rfl rfl (Nat.le_of_ble_eq_true rfl) ?_
          rw [jb_pos (by omega)]
          refine zr_iconst dX7_set_33 (rfl : 33 + 1 = 34) ?_
          refine zr_fnV dX7_set_34 (rfl : 34 + 3 = 37) l_X7_60 (m_go) (by first | assumption | exact mw_167 | exact mw_168 | exact mw_169 | exact mw_170 | exact bk_0 | exact bk_1 | exact bk_2 | exact bk_3 | exact bk_4 | exact bk_5 | exact bk_6 | exact bk_7 | exact bk_8 | exact bk_9 | exact bk_10 | exact bk_11 | exact bk_12 | exact bk_13 | exact bk_14 | exact bk_15 | exact bk_16 | exact zup_self | exact (zup_ne (by first | assumption | omega)).trans (by first | assumption | exact zup_self) | exact (zup_ne (by first | assumption | omega)).trans ((zup_ne (by first | assumption | omega)).trans (by first | assumption | exact zup_self)) | exact (bk_out (by first | omega | (simp only [bset, reduceIte, Nat.reduceEqDiff]; omega))).trans (by first | exact bk_0 | exact bk_1 | exact bk_2 | exact bk_3 | exact bk_4 | exact bk_5 | exact bk_6 | exact bk_7 | exact bk_8 | exact bk_9 | exact bk_10 | exact bk_11 | exact bk_12 | exact bk_13 | exact bk_14 | exact bk_15 | exact bk_16 | exact cr_5 | exact cr_23 | exact cr_24 | exact cr_25 | exact cr_26 | exact cr_27 | exact cr_28 | exact cr_29 | exact cr_30 | assumption)) rfl rfl rfl (Nat.le_of_ble_eq_true rfl) ?_
          refine zr_if_ne (tgt := 42) dX7_set_37 (by decide) (rfl : 37 + 3 = 40) (by first | exact jb_iff | exact jI_z (by first | omega | (simp only [bset, reduceIte, Nat.reduceEqDiff]; omega)) (by first | omega | (simp only [bset, reduceIte, Nat.reduceEqDiff]; omega))) (fun h37 => ?_) (fun h37 => ?_)
          · first
            | (exfalso; omega)
            | (
              refine zr_aload_n dX7_set_42 (rfl : 42 + 1 = 43) rfl ?_
              refine zr_fnV dX7_set_43 (rfl : 43 + 3 = 46) l_X7_64 (m_saves ck.sc) (by first | assumption | exact mw_167 | exact mw_168 | exact mw_169 | exact mw_170 | exact bk_0 | exact bk_1 | exact bk_2 | exact bk_3 | exact bk_4 | exact bk_5 | exact bk_6 | exact bk_7 | exact bk_8 | exact bk_9 | exact bk_10 | exact bk_11 | exact bk_12 | exact bk_13 | exact bk_14 | exact bk_15 | exact bk_16 | exact zup_self | exact (zup_ne (by first | assumption | omega)).trans (by first | assumption | exact zup_self) | exact (zup_ne (by first | assumption | omega)).trans ((zup_ne (by first | assumption | omega)).trans (by first | assumption | exact zup_self)) | exact (bk_out (by first | omega | (simp only [bset, reduceIte, Nat.reduceEqDiff]; omega))).trans (by first | exact bk_0 | exact bk_1 | exact bk_2 | exact bk_3 | exact bk_4 | exact bk_5 | exact bk_6 | exact bk_7 | exact bk_8 | exact bk_9 | exact bk_10 | exact bk_11 | exact bk_12 | exact bk_13 | exact bk_14 | exact bk_15 | exact bk_16 | exact cr_5 | exact cr_23 | exact cr_24 | exact cr_25 | exact cr_26 | exact cr_27 | exact cr_28 | exact cr_29 | exact cr_30 | assumption)) rfl rfl rfl (Nat.le_of_ble_eq_true rfl) ?_
              refine zr_aload_n dX7_set_46 (rfl : 46 + 1 = 47) rfl ?_
              refine zr_getf dX7_set_47 (rfl : 47 + 3 = 50) f_X7_7 (by first | assumption | exact mw_167 | exact mw_168 | exact mw_169 | exact mw_170 | exact bk_0 | exact bk_1 | exact bk_2 | exact bk_3 | exact bk_4 | exact bk_5 | exact bk_6 | exact bk_7 | exact bk_8 | exact bk_9 | exact bk_10 | exact bk_11 | exact bk_12 | exact bk_13 | exact bk_14 | exact bk_15 | exact bk_16 | exact zup_self | exact (zup_ne (by first | assumption | omega)).trans (by first | assumption | exact zup_self) | exact (zup_ne (by first | assumption | omega)).trans ((zup_ne (by first | assumption | omega)).trans (by first | assumption | exact zup_self)) | exact (bk_out (by first | omega | (simp only [bset, reduceIte, Nat.reduceEqDiff]; omega))).trans (by first | exact bk_0 | exact bk_1 | exact bk_2 | exact bk_3 | exact bk_4 | exact bk_5 | exact bk_6 | exact bk_7 | exact bk_8 | exact bk_9 | exact bk_10 | exact bk_11 | exact bk_12 | exact bk_13 | exact bk_14 | exact bk_15 | exact bk_16 | exact cr_5 | exact cr_23 | exact cr_24 | exact cr_25 | exact cr_26 | exact cr_27 | exact cr_28 | exact cr_29 | exact cr_30 | assumption)) rfl ?_
              refine zr_iload_n dX7_set_50 (rfl : 50 + 1 = 51) rfl ?_
              refine zr_iald dX7_set_51 (rfl : 51 + 1 = 52) (by first | assumption | exact mw_167 | exact mw_168 | exact mw_169 | exact mw_170 | exact bk_0 | exact bk_1 | exact bk_2 | exact bk_3 | exact bk_4 | exact bk_5 | exact bk_6 | exact bk_7 | exact bk_8 | exact bk_9 | exact bk_10 | exact bk_11 | exact bk_12 | exact bk_13 | exact bk_14 | exact bk_15 | exact bk_16 | exact zup_self | exact (zup_ne (by first | assumption | omega)).trans (by first | assumption | exact zup_self) | exact (zup_ne (by first | assumption | omega)).trans ((zup_ne (by first | assumption | omega)).trans (by first | assumption | exact zup_self)) | exact (bk_out (by first | omega | (simp only [bset, reduceIte, Nat.reduceEqDiff]; omega))).trans (by first | exact bk_0 | exact bk_1 | exact bk_2 | exact bk_3 | exact bk_4 | exact bk_5 | exact bk_6 | exact bk_7 | exact bk_8 | exact bk_9 | exact bk_10 | exact bk_11 | exact bk_12 | exact bk_13 | exact bk_14 | exact bk_15 | exact bk_16 | exact cr_5 | exact cr_23 | exact cr_24 | exact cr_25 | exact cr_26 | exact cr_27 | exact cr_28 | exact cr_29 | exact cr_30 | assumption)) (by decide) (by first | omega | (simp only [bset, reduceIte, Nat.reduceEqDiff]; omega)) (by first | omega | (simp only [bset, reduceIte, Nat.reduceEqDiff]; omega)) ?_
              rw [hm2.se0 s hp.1 hp.2]
              refine zr_istore (lv' := [_, _, _, _, _]) dX7_set_52 (rfl : 52 + 2 = 54) (Nat.le_of_ble_eq_true rfl) rfl ?_
              refine zr_aload_n dX7_set_54 (rfl : 54 + 1 = 55) rfl ?_
              refine zr_getf dX7_set_55 (rfl : 55 + 3 = 58) f_X7_7 (by first | assumption | exact mw_167 | exact mw_168 | exact mw_169 | exact mw_170 | exact bk_0 | exact bk_1 | exact bk_2 | exact bk_3 | exact bk_4 | exact bk_5 | exact bk_6 | exact bk_7 | exact bk_8 | exact bk_9 | exact bk_10 | exact bk_11 | exact bk_12 | exact bk_13 | exact bk_14 | exact bk_15 | exact bk_16 | exact zup_self | exact (zup_ne (by first | assumption | omega)).trans (by first | assumption | exact zup_self) | exact (zup_ne (by first | assumption | omega)).trans ((zup_ne (by first | assumption | omega)).trans (by first | assumption | exact zup_self)) | exact (bk_out (by first | omega | (simp only [bset, reduceIte, Nat.reduceEqDiff]; omega))).trans (by first | exact bk_0 | exact bk_1 | exact bk_2 | exact bk_3 | exact bk_4 | exact bk_5 | exact bk_6 | exact bk_7 | exact bk_8 | exact bk_9 | exact bk_10 | exact bk_11 | exact bk_12 | exact bk_13 | exact bk_14 | exact bk_15 | exact bk_16 | exact cr_5 | exact cr_23 | exact cr_24 | exact cr_25 | exact cr_26 | exact cr_27 | exact cr_28 | exact cr_29 | exact cr_30 | assumption)) rfl ?_
              refine zr_iload_n dX7_set_58 (rfl : 58 + 1 = 59) rfl ?_
              refine zr_iload_n dX7_set_59 (rfl : 59 + 1 = 60) rfl ?_
              refine zr_iast dX7_set_60 (rfl : 60 + 1 = 61) (by first | assumption | exact mw_167 | exact mw_168 | exact mw_169 | exact mw_170 | exact bk_0 | exact bk_1 | exact bk_2 | exact bk_3 | exact bk_4 | exact bk_5 | exact bk_6 | exact bk_7 | exact bk_8 | exact bk_9 | exact bk_10 | exact bk_11 | exact bk_12 | exact bk_13 | exact bk_14 | exact bk_15 | exact bk_16 | exact zup_self | exact (zup_ne (by first | assumption | omega)).trans (by first | assumption | exact zup_self) | exact (zup_ne (by first | assumption | omega)).trans ((zup_ne (by first | assumption | omega)).trans (by first | assumption | exact zup_self)) | exact (bk_out (by first | omega | (simp only [bset, reduceIte, Nat.reduceEqDiff]; omega))).trans (by first | exact bk_0 | exact bk_1 | exact bk_2 | exact bk_3 | exact bk_4 | exact bk_5 | exact bk_6 | exact bk_7 | exact bk_8 | exact bk_9 | exact bk_10 | exact bk_11 | exact bk_12 | exact bk_13 | exact bk_14 | exact bk_15 | exact bk_16 | exact cr_5 | exact cr_23 | exact cr_24 | exact cr_25 | exact cr_26 | exact cr_27 | exact cr_28 | exact cr_29 | exact cr_30 | assumption)) (by decide) (by first | omega | (simp only [bset, reduceIte, Nat.reduceEqDiff]; omega)) (by first | omega | (simp only [bset, reduceIte, Nat.reduceEqDiff]; omega)) rfl ?_
              rw [mwu_S]
              refine zr_iload dX7_set_61 (rfl : 61 + 2 = 63) rfl ?_
              refine zr_ireE dX7_set_63 rfl rfl ?_
              exact ⟨rfl, _, _, zRel_upd (zRel_save hR) (jok_set ok (by omega)) (jlk_set lk) (jpk_set pk (by omega)) (jagb_up (by omega)) (mr_set hm2 hp), rfl⟩)
          · first
            | (exfalso; omega)
            | (
              exfalso
              omega))
      · first
        | (exfalso; omega)
        | (
          refine zr_iconst dX7_set_24 (rfl : 24 + 1 = 25) ?_
          refine zr_goto (tgt := 30) dX7_set_25 (by decide) ?_
          refine zr_fnS dX7_set_30 (rfl : 30 + 3 = 33) l_X7_32 (m_in x _ _ (by first | omega | (simp only [bset, reduceIte, Nat.reduceEqDiff]; omega)) (by first | omega | (simp only [bset, reduceIte, Nat.reduceEqDiff]; omega)) (by first | omega | (simp only [bset, reduceIte, Nat.reduceEqDiff]; omega))) rfl rfl (Nat.le_of_ble_eq_true rfl) ?_
          rw [jb_pos (by omega)]
          refine zr_iconst dX7_set_33 (rfl : 33 + 1 = 34) ?_
          refine zr_fnV dX7_set_34 (rfl : 34 + 3 = 37) l_X7_60 (m_go) (by first | assumption | exact mw_167 | exact mw_168 | exact mw_169 | exact mw_170 | exact bk_0 | exact bk_1 | exact bk_2 | exact bk_3 | exact bk_4 | exact bk_5 | exact bk_6 | exact bk_7 | exact bk_8 | exact bk_9 | exact bk_10 | exact bk_11 | exact bk_12 | exact bk_13 | exact bk_14 | exact bk_15 | exact bk_16 | exact zup_self | exact (zup_ne (by first | assumption | omega)).trans (by first | assumption | exact zup_self) | exact (zup_ne (by first | assumption | omega)).trans ((zup_ne (by first | assumption | omega)).trans (by first | assumption | exact zup_self)) | exact (bk_out (by first | omega | (simp only [bset, reduceIte, Nat.reduceEqDiff]; omega))).trans (by first | exact bk_0 | exact bk_1 | exact bk_2 | exact bk_3 | exact bk_4 | exact bk_5 | exact bk_6 | exact bk_7 | exact bk_8 | exact bk_9 | exact bk_10 | exact bk_11 | exact bk_12 | exact bk_13 | exact bk_14 | exact bk_15 | exact bk_16 | exact cr_5 | exact cr_23 | exact cr_24 | exact cr_25 | exact cr_26 | exact cr_27 | exact cr_28 | exact cr_29 | exact cr_30 | assumption)) rfl rfl rfl (Nat.le_of_ble_eq_true rfl) ?_
          refine zr_if_ne (tgt := 42) dX7_set_37 (by decide) (rfl : 37 + 3 = 40) (by first | exact jb_iff | exact jI_z (by first | omega | (simp only [bset, reduceIte, Nat.reduceEqDiff]; omega)) (by first | omega | (simp only [bset, reduceIte, Nat.reduceEqDiff]; omega))) (fun h37 => ?_) (fun h37 => ?_)
          · first
            | (exfalso; omega)
            | (
              refine zr_aload_n dX7_set_42 (rfl : 42 + 1 = 43) rfl ?_
              refine zr_fnV dX7_set_43 (rfl : 43 + 3 = 46) l_X7_64 (m_saves ck.sc) (by first | assumption | exact mw_167 | exact mw_168 | exact mw_169 | exact mw_170 | exact bk_0 | exact bk_1 | exact bk_2 | exact bk_3 | exact bk_4 | exact bk_5 | exact bk_6 | exact bk_7 | exact bk_8 | exact bk_9 | exact bk_10 | exact bk_11 | exact bk_12 | exact bk_13 | exact bk_14 | exact bk_15 | exact bk_16 | exact zup_self | exact (zup_ne (by first | assumption | omega)).trans (by first | assumption | exact zup_self) | exact (zup_ne (by first | assumption | omega)).trans ((zup_ne (by first | assumption | omega)).trans (by first | assumption | exact zup_self)) | exact (bk_out (by first | omega | (simp only [bset, reduceIte, Nat.reduceEqDiff]; omega))).trans (by first | exact bk_0 | exact bk_1 | exact bk_2 | exact bk_3 | exact bk_4 | exact bk_5 | exact bk_6 | exact bk_7 | exact bk_8 | exact bk_9 | exact bk_10 | exact bk_11 | exact bk_12 | exact bk_13 | exact bk_14 | exact bk_15 | exact bk_16 | exact cr_5 | exact cr_23 | exact cr_24 | exact cr_25 | exact cr_26 | exact cr_27 | exact cr_28 | exact cr_29 | exact cr_30 | assumption)) rfl rfl rfl (Nat.le_of_ble_eq_true rfl) ?_
              refine zr_aload_n dX7_set_46 (rfl : 46 + 1 = 47) rfl ?_
              refine zr_getf dX7_set_47 (rfl : 47 + 3 = 50) f_X7_7 (by first | assumption | exact mw_167 | exact mw_168 | exact mw_169 | exact mw_170 | exact bk_0 | exact bk_1 | exact bk_2 | exact bk_3 | exact bk_4 | exact bk_5 | exact bk_6 | exact bk_7 | exact bk_8 | exact bk_9 | exact bk_10 | exact bk_11 | exact bk_12 | exact bk_13 | exact bk_14 | exact bk_15 | exact bk_16 | exact zup_self | exact (zup_ne (by first | assumption | omega)).trans (by first | assumption | exact zup_self) | exact (zup_ne (by first | assumption | omega)).trans ((zup_ne (by first | assumption | omega)).trans (by first | assumption | exact zup_self)) | exact (bk_out (by first | omega | (simp only [bset, reduceIte, Nat.reduceEqDiff]; omega))).trans (by first | exact bk_0 | exact bk_1 | exact bk_2 | exact bk_3 | exact bk_4 | exact bk_5 | exact bk_6 | exact bk_7 | exact bk_8 | exact bk_9 | exact bk_10 | exact bk_11 | exact bk_12 | exact bk_13 | exact bk_14 | exact bk_15 | exact bk_16 | exact cr_5 | exact cr_23 | exact cr_24 | exact cr_25 | exact cr_26 | exact cr_27 | exact cr_28 | exact cr_29 | exact cr_30 | assumption)) rfl ?_
              refine zr_iload_n dX7_set_50 (rfl : 50 + 1 = 51) rfl ?_
              refine zr_iald dX7_set_51 (rfl : 51 + 1 = 52) (by first | assumption | exact mw_167 | exact mw_168 | exact mw_169 | exact mw_170 | exact bk_0 | exact bk_1 | exact bk_2 | exact bk_3 | exact bk_4 | exact bk_5 | exact bk_6 | exact bk_7 | exact bk_8 | exact bk_9 | exact bk_10 | exact bk_11 | exact bk_12 | exact bk_13 | exact bk_14 | exact bk_15 | exact bk_16 | exact zup_self | exact (zup_ne (by first | assumption | omega)).trans (by first | assumption | exact zup_self) | exact (zup_ne (by first | assumption | omega)).trans ((zup_ne (by first | assumption | omega)).trans (by first | assumption | exact zup_self)) | exact (bk_out (by first | omega | (simp only [bset, reduceIte, Nat.reduceEqDiff]; omega))).trans (by first | exact bk_0 | exact bk_1 | exact bk_2 | exact bk_3 | exact bk_4 | exact bk_5 | exact bk_6 | exact bk_7 | exact bk_8 | exact bk_9 | exact bk_10 | exact bk_11 | exact bk_12 | exact bk_13 | exact bk_14 | exact bk_15 | exact bk_16 | exact cr_5 | exact cr_23 | exact cr_24 | exact cr_25 | exact cr_26 | exact cr_27 | exact cr_28 | exact cr_29 | exact cr_30 | assumption)) (by decide) (by first | omega | (simp only [bset, reduceIte, Nat.reduceEqDiff]; omega)) (by first | omega | (simp only [bset, reduceIte, Nat.reduceEqDiff]; omega)) ?_
              rw [hm2.se0 s hp.1 hp.2]
              refine zr_istore (lv' := [_, _, _, _, _]) dX7_set_52 (rfl : 52 + 2 = 54) (Nat.le_of_ble_eq_true rfl) rfl ?_
              refine zr_aload_n dX7_set_54 (rfl : 54 + 1 = 55) rfl ?_
              refine zr_getf dX7_set_55 (rfl : 55 + 3 = 58) f_X7_7 (by first | assumption | exact mw_167 | exact mw_168 | exact mw_169 | exact mw_170 | exact bk_0 | exact bk_1 | exact bk_2 | exact bk_3 | exact bk_4 | exact bk_5 | exact bk_6 | exact bk_7 | exact bk_8 | exact bk_9 | exact bk_10 | exact bk_11 | exact bk_12 | exact bk_13 | exact bk_14 | exact bk_15 | exact bk_16 | exact zup_self | exact (zup_ne (by first | assumption | omega)).trans (by first | assumption | exact zup_self) | exact (zup_ne (by first | assumption | omega)).trans ((zup_ne (by first | assumption | omega)).trans (by first | assumption | exact zup_self)) | exact (bk_out (by first | omega | (simp only [bset, reduceIte, Nat.reduceEqDiff]; omega))).trans (by first | exact bk_0 | exact bk_1 | exact bk_2 | exact bk_3 | exact bk_4 | exact bk_5 | exact bk_6 | exact bk_7 | exact bk_8 | exact bk_9 | exact bk_10 | exact bk_11 | exact bk_12 | exact bk_13 | exact bk_14 | exact bk_15 | exact bk_16 | exact cr_5 | exact cr_23 | exact cr_24 | exact cr_25 | exact cr_26 | exact cr_27 | exact cr_28 | exact cr_29 | exact cr_30 | assumption)) rfl ?_
              refine zr_iload_n dX7_set_58 (rfl : 58 + 1 = 59) rfl ?_
              refine zr_iload_n dX7_set_59 (rfl : 59 + 1 = 60) rfl ?_
              refine zr_iast dX7_set_60 (rfl : 60 + 1 = 61) (by first | assumption | exact mw_167 | exact mw_168 | exact mw_169 | exact mw_170 | exact bk_0 | exact bk_1 | exact bk_2 | exact bk_3 | exact bk_4 | exact bk_5 | exact bk_6 | exact bk_7 | exact bk_8 | exact bk_9 | exact bk_10 | exact bk_11 | exact bk_12 | exact bk_13 | exact bk_14 | exact bk_15 | exact bk_16 | exact zup_self | exact (zup_ne (by first | assumption | omega)).trans (by first | assumption | exact zup_self) | exact (zup_ne (by first | assumption | omega)).trans ((zup_ne (by first | assumption | omega)).trans (by first | assumption | exact zup_self)) | exact (bk_out (by first | omega | (simp only [bset, reduceIte, Nat.reduceEqDiff]; omega))).trans (by first | exact bk_0 | exact bk_1 | exact bk_2 | exact bk_3 | exact bk_4 | exact bk_5 | exact bk_6 | exact bk_7 | exact bk_8 | exact bk_9 | exact bk_10 | exact bk_11 | exact bk_12 | exact bk_13 | exact bk_14 | exact bk_15 | exact bk_16 | exact cr_5 | exact cr_23 | exact cr_24 | exact cr_25 | exact cr_26 | exact cr_27 | exact cr_28 | exact cr_29 | exact cr_30 | assumption)) (by decide) (by first | omega | (simp only [bset, reduceIte, Nat.reduceEqDiff]; omega)) (by first | omega | (simp only [bset, reduceIte, Nat.reduceEqDiff]; omega)) rfl ?_
              rw [mwu_S]
              refine zr_iload dX7_set_61 (rfl : 61 + 2 = 63) rfl ?_
              refine zr_ireE dX7_set_63 rfl rfl ?_
              exact ⟨rfl, _, _, zRel_upd (zRel_save hR) (jok_set ok (by omega)) (jlk_set lk) (jpk_set pk (by omega)) (jagb_up (by omega)) (mr_set hm2 hp), rfl⟩)
          · first
            | (exfalso; omega)
            | (
              exfalso
              omega)))
theorem p_draw1 (m : Int) (hm : j32 m) (hp : ¬ (1 ≤ m ∧ m ≤ 90))  (hR : zRel B σ S ik) : zFe Γ md_X7_draw (d + 8) [.ref 167, .int (jI m)] (mw S σ.sc ik th σ.T σ.L w) (zMQ (some (.int (jI 0))) 1 (B) (σ) w) := by
  obtain ⟨ok, lk, pk, ck, lx, h, hsv, hkp⟩ := hR
  have hR : zRel B σ S ik := ⟨ok, lk, pk, ck, lx, h, hsv, hkp⟩
  refine zFe.of_run (lv := [some (.ref 167), some (.int (jI m)), none]) (by decide) rfl (Nat.le_of_ble_eq_true rfl) rfl (fun n9 g9 => ?_)
  refine zr_iload_n dX7_draw_0 (rfl : 0 + 1 = 1) rfl ?_
  refine zr_iconst dX7_draw_1 (rfl : 1 + 1 = 2) ?_
  refine zr_bipush dX7_draw_2 (rfl : 2 + 2 = 4) (by decide) ?_
  refine zr_fnS dX7_draw_4 (rfl : 4 + 3 = 7) l_X7_32 (m_in m 1 90 hm (by first | omega | (simp only [bset, reduceIte, Nat.reduceEqDiff]; omega)) (by first | omega | (simp only [bset, reduceIte, Nat.reduceEqDiff]; omega))) rfl rfl (Nat.le_of_ble_eq_true rfl) ?_
  rw [jb_neg (by omega)]
  refine zr_istore_n (lv' := [_, _, _]) dX7_draw_7 (rfl : 7 + 1 = 8) (Nat.le_of_ble_eq_true rfl) rfl ?_
  refine zr_aload_n dX7_draw_8 (rfl : 8 + 1 = 9) rfl ?_
  refine zr_iload_n dX7_draw_9 (rfl : 9 + 1 = 10) rfl ?_
  refine zr_iload_n dX7_draw_10 (rfl : 10 + 1 = 11) rfl ?_
  refine zr_if_eq (tgt := 33) dX7_draw_11 (by decide) (rfl : 11 + 3 = 14) (by first | exact jb_iff | exact jI_z (by first | omega | (simp only [bset, reduceIte, Nat.reduceEqDiff]; omega)) (by first | omega | (simp only [bset, reduceIte, Nat.reduceEqDiff]; omega))) (fun h11 => ?_) (fun h11 => ?_)
  · first
    | (exfalso; omega)
    | (
      refine zr_iconst dX7_draw_33 (rfl : 33 + 1 = 34) ?_
      refine zr_iconst dX7_draw_34 (rfl : 34 + 1 = 35) ?_
      refine zr_fnV dX7_draw_35 (rfl : 35 + 3 = 38) l_X7_60 (m_go1 _ _) (by first | assumption | exact mw_167 | exact mw_168 | exact mw_169 | exact mw_170 | exact bk_0 | exact bk_1 | exact bk_2 | exact bk_3 | exact bk_4 | exact bk_5 | exact bk_6 | exact bk_7 | exact bk_8 | exact bk_9 | exact bk_10 | exact bk_11 | exact bk_12 | exact bk_13 | exact bk_14 | exact bk_15 | exact bk_16 | exact zup_self | exact (zup_ne (by first | assumption | omega)).trans (by first | assumption | exact zup_self) | exact (zup_ne (by first | assumption | omega)).trans ((zup_ne (by first | assumption | omega)).trans (by first | assumption | exact zup_self)) | exact (bk_out (by first | omega | (simp only [bset, reduceIte, Nat.reduceEqDiff]; omega))).trans (by first | exact bk_0 | exact bk_1 | exact bk_2 | exact bk_3 | exact bk_4 | exact bk_5 | exact bk_6 | exact bk_7 | exact bk_8 | exact bk_9 | exact bk_10 | exact bk_11 | exact bk_12 | exact bk_13 | exact bk_14 | exact bk_15 | exact bk_16 | exact cr_5 | exact cr_23 | exact cr_24 | exact cr_25 | exact cr_26 | exact cr_27 | exact cr_28 | exact cr_29 | exact cr_30 | assumption)) rfl rfl rfl (Nat.le_of_ble_eq_true rfl) ?_
      refine zr_if_ne (tgt := 43) dX7_draw_38 (by decide) (rfl : 38 + 3 = 41) (by first | exact jb_iff | exact jI_z (by first | omega | (simp only [bset, reduceIte, Nat.reduceEqDiff]; omega)) (by first | omega | (simp only [bset, reduceIte, Nat.reduceEqDiff]; omega))) (fun h38 => ?_) (fun h38 => ?_)
      · first
        | (exfalso; omega)
        | (
          exfalso
          omega)
      · first
        | (exfalso; omega)
        | (
          refine zr_iconst dX7_draw_41 (rfl : 41 + 1 = 42) ?_
          refine zr_ireE dX7_draw_42 rfl rfl ?_
          exact ⟨rfl, S, ik, hR, rfl⟩))
  · first
    | (exfalso; omega)
    | (
      exfalso
      omega)
theorem p_draw2 (m : Int) (hp : 1 ≤ m ∧ m ≤ 90) (h2 : ¬ m ≤ B 4 0)  (hR : zRel B σ S ik) : zFe Γ md_X7_draw (d + 8) [.ref 167, .int (jI m)] (mw S σ.sc ik th σ.T σ.L w) (zMQ (some (.int (jI 0))) 2 (B) (σ) w) := by
  obtain ⟨ok, lk, pk, ck, lx, h, hsv, hkp⟩ := hR
  have hR : zRel B σ S ik := ⟨ok, lk, pk, ck, lx, h, hsv, hkp⟩
  have hca := h.ca0
  have hco := ok.ca
  have hds := ok.ds
  refine zFe.of_run (lv := [some (.ref 167), some (.int (jI m)), none]) (by decide) rfl (Nat.le_of_ble_eq_true rfl) rfl (fun n9 g9 => ?_)
  refine zr_iload_n dX7_draw_0 (rfl : 0 + 1 = 1) rfl ?_
  refine zr_iconst dX7_draw_1 (rfl : 1 + 1 = 2) ?_
  refine zr_bipush dX7_draw_2 (rfl : 2 + 2 = 4) (by decide) ?_
  refine zr_fnS dX7_draw_4 (rfl : 4 + 3 = 7) l_X7_32 (m_in m 1 90 (by first | omega | (simp only [bset, reduceIte, Nat.reduceEqDiff]; omega)) (by first | omega | (simp only [bset, reduceIte, Nat.reduceEqDiff]; omega)) (by first | omega | (simp only [bset, reduceIte, Nat.reduceEqDiff]; omega))) rfl rfl (Nat.le_of_ble_eq_true rfl) ?_
  rw [jb_pos (by omega)]
  refine zr_istore_n (lv' := [_, _, _]) dX7_draw_7 (rfl : 7 + 1 = 8) (Nat.le_of_ble_eq_true rfl) rfl ?_
  refine zr_aload_n dX7_draw_8 (rfl : 8 + 1 = 9) rfl ?_
  refine zr_iload_n dX7_draw_9 (rfl : 9 + 1 = 10) rfl ?_
  refine zr_iload_n dX7_draw_10 (rfl : 10 + 1 = 11) rfl ?_
  refine zr_if_eq (tgt := 33) dX7_draw_11 (by decide) (rfl : 11 + 3 = 14) (by first | exact jb_iff | exact jI_z (by first | omega | (simp only [bset, reduceIte, Nat.reduceEqDiff]; omega)) (by first | omega | (simp only [bset, reduceIte, Nat.reduceEqDiff]; omega))) (fun h11 => ?_) (fun h11 => ?_)
  · first
    | (exfalso; omega)
    | (
      refine zr_iconst dX7_draw_33 (rfl : 33 + 1 = 34) ?_
      refine zr_iconst dX7_draw_34 (rfl : 34 + 1 = 35) ?_
      refine zr_fnV dX7_draw_35 (rfl : 35 + 3 = 38) l_X7_60 (m_go2 _) (by first | assumption | exact mw_167 | exact mw_168 | exact mw_169 | exact mw_170 | exact bk_0 | exact bk_1 | exact bk_2 | exact bk_3 | exact bk_4 | exact bk_5 | exact bk_6 | exact bk_7 | exact bk_8 | exact bk_9 | exact bk_10 | exact bk_11 | exact bk_12 | exact bk_13 | exact bk_14 | exact bk_15 | exact bk_16 | exact zup_self | exact (zup_ne (by first | assumption | omega)).trans (by first | assumption | exact zup_self) | exact (zup_ne (by first | assumption | omega)).trans ((zup_ne (by first | assumption | omega)).trans (by first | assumption | exact zup_self)) | exact (bk_out (by first | omega | (simp only [bset, reduceIte, Nat.reduceEqDiff]; omega))).trans (by first | exact bk_0 | exact bk_1 | exact bk_2 | exact bk_3 | exact bk_4 | exact bk_5 | exact bk_6 | exact bk_7 | exact bk_8 | exact bk_9 | exact bk_10 | exact bk_11 | exact bk_12 | exact bk_13 | exact bk_14 | exact bk_15 | exact bk_16 | exact cr_5 | exact cr_23 | exact cr_24 | exact cr_25 | exact cr_26 | exact cr_27 | exact cr_28 | exact cr_29 | exact cr_30 | assumption)) rfl rfl rfl (Nat.le_of_ble_eq_true rfl) ?_
      refine zr_if_ne (tgt := 43) dX7_draw_38 (by decide) (rfl : 38 + 3 = 41) (by first | exact jb_iff | exact jI_z (by first | omega | (simp only [bset, reduceIte, Nat.reduceEqDiff]; omega)) (by first | omega | (simp only [bset, reduceIte, Nat.reduceEqDiff]; omega))) (fun h38 => ?_) (fun h38 => ?_)
      · first
        | (exfalso; omega)
        | (
          exfalso
          omega)
      · first
        | (exfalso; omega)
        | (
          refine zr_iconst dX7_draw_41 (rfl : 41 + 1 = 42) ?_
          refine zr_ireE dX7_draw_42 rfl rfl ?_
          exact ⟨rfl, S, ik, hR, rfl⟩))
  · first
    | (exfalso; omega)
    | (
      refine zr_iload_n dX7_draw_14 (rfl : 14 + 1 = 15) rfl ?_
      refine zr_bipush dX7_draw_15 (rfl : 15 + 2 = 17) (by decide) ?_
      refine zr_aload_n dX7_draw_17 (rfl : 17 + 1 = 18) rfl ?_
      refine zr_getf dX7_draw_18 (rfl : 18 + 3 = 21) f_X7_7 (by first | assumption | exact mw_167 | exact mw_168 | exact mw_169 | exact mw_170 | exact bk_0 | exact bk_1 | exact bk_2 | exact bk_3 | exact bk_4 | exact bk_5 | exact bk_6 | exact bk_7 | exact bk_8 | exact bk_9 | exact bk_10 | exact bk_11 | exact bk_12 | exact bk_13 | exact bk_14 | exact bk_15 | exact bk_16 | exact zup_self | exact (zup_ne (by first | assumption | omega)).trans (by first | assumption | exact zup_self) | exact (zup_ne (by first | assumption | omega)).trans ((zup_ne (by first | assumption | omega)).trans (by first | assumption | exact zup_self)) | exact (bk_out (by first | omega | (simp only [bset, reduceIte, Nat.reduceEqDiff]; omega))).trans (by first | exact bk_0 | exact bk_1 | exact bk_2 | exact bk_3 | exact bk_4 | exact bk_5 | exact bk_6 | exact bk_7 | exact bk_8 | exact bk_9 | exact bk_10 | exact bk_11 | exact bk_12 | exact bk_13 | exact bk_14 | exact bk_15 | exact bk_16 | exact cr_5 | exact cr_23 | exact cr_24 | exact cr_25 | exact cr_26 | exact cr_27 | exact cr_28 | exact cr_29 | exact cr_30 | assumption)) rfl ?_
      refine zr_sipush dX7_draw_21 (rfl : 21 + 3 = 24) (by decide) ?_
      refine zr_iald dX7_draw_24 (rfl : 24 + 1 = 25) (by first | assumption | exact mw_167 | exact mw_168 | exact mw_169 | exact mw_170 | exact bk_0 | exact bk_1 | exact bk_2 | exact bk_3 | exact bk_4 | exact bk_5 | exact bk_6 | exact bk_7 | exact bk_8 | exact bk_9 | exact bk_10 | exact bk_11 | exact bk_12 | exact bk_13 | exact bk_14 | exact bk_15 | exact bk_16 | exact zup_self | exact (zup_ne (by first | assumption | omega)).trans (by first | assumption | exact zup_self) | exact (zup_ne (by first | assumption | omega)).trans ((zup_ne (by first | assumption | omega)).trans (by first | assumption | exact zup_self)) | exact (bk_out (by first | omega | (simp only [bset, reduceIte, Nat.reduceEqDiff]; omega))).trans (by first | exact bk_0 | exact bk_1 | exact bk_2 | exact bk_3 | exact bk_4 | exact bk_5 | exact bk_6 | exact bk_7 | exact bk_8 | exact bk_9 | exact bk_10 | exact bk_11 | exact bk_12 | exact bk_13 | exact bk_14 | exact bk_15 | exact bk_16 | exact cr_5 | exact cr_23 | exact cr_24 | exact cr_25 | exact cr_26 | exact cr_27 | exact cr_28 | exact cr_29 | exact cr_30 | assumption)) (by decide) (by first | omega | (simp only [bset, reduceIte, Nat.reduceEqDiff]; omega)) (by first | omega | (simp only [bset, reduceIte, Nat.reduceEqDiff]; omega)) ?_
      refine zr_isub dX7_draw_25 (rfl : 25 + 1 = 26) (by first | exact jI_sub _ _ | rfl) ?_
      refine zr_icmp_gt (tgt := 33) dX7_draw_26 (by decide) (rfl : 26 + 3 = 29) (jI_lt (by first | omega | (simp only [bset, reduceIte, Nat.reduceEqDiff]; omega)) (by first | omega | (simp only [bset, reduceIte, Nat.reduceEqDiff]; omega)) (by first | omega | (simp only [bset, reduceIte, Nat.reduceEqDiff]; omega)) (by first | omega | (simp only [bset, reduceIte, Nat.reduceEqDiff]; omega))) (fun h26 => ?_) (fun h26 => ?_)
      · first
        | (exfalso; omega)
        | (
          refine zr_iconst dX7_draw_33 (rfl : 33 + 1 = 34) ?_
          refine zr_iconst dX7_draw_34 (rfl : 34 + 1 = 35) ?_
          refine zr_fnV dX7_draw_35 (rfl : 35 + 3 = 38) l_X7_60 (m_go2 _) (by first | assumption | exact mw_167 | exact mw_168 | exact mw_169 | exact mw_170 | exact bk_0 | exact bk_1 | exact bk_2 | exact bk_3 | exact bk_4 | exact bk_5 | exact bk_6 | exact bk_7 | exact bk_8 | exact bk_9 | exact bk_10 | exact bk_11 | exact bk_12 | exact bk_13 | exact bk_14 | exact bk_15 | exact bk_16 | exact zup_self | exact (zup_ne (by first | assumption | omega)).trans (by first | assumption | exact zup_self) | exact (zup_ne (by first | assumption | omega)).trans ((zup_ne (by first | assumption | omega)).trans (by first | assumption | exact zup_self)) | exact (bk_out (by first | omega | (simp only [bset, reduceIte, Nat.reduceEqDiff]; omega))).trans (by first | exact bk_0 | exact bk_1 | exact bk_2 | exact bk_3 | exact bk_4 | exact bk_5 | exact bk_6 | exact bk_7 | exact bk_8 | exact bk_9 | exact bk_10 | exact bk_11 | exact bk_12 | exact bk_13 | exact bk_14 | exact bk_15 | exact bk_16 | exact cr_5 | exact cr_23 | exact cr_24 | exact cr_25 | exact cr_26 | exact cr_27 | exact cr_28 | exact cr_29 | exact cr_30 | assumption)) rfl rfl rfl (Nat.le_of_ble_eq_true rfl) ?_
          refine zr_if_ne (tgt := 43) dX7_draw_38 (by decide) (rfl : 38 + 3 = 41) (by first | exact jb_iff | exact jI_z (by first | omega | (simp only [bset, reduceIte, Nat.reduceEqDiff]; omega)) (by first | omega | (simp only [bset, reduceIte, Nat.reduceEqDiff]; omega))) (fun h38 => ?_) (fun h38 => ?_)
          · first
            | (exfalso; omega)
            | (
              exfalso
              omega)
          · first
            | (exfalso; omega)
            | (
              refine zr_iconst dX7_draw_41 (rfl : 41 + 1 = 42) ?_
              refine zr_ireE dX7_draw_42 rfl rfl ?_
              exact ⟨rfl, S, ik, hR, rfl⟩))
      · first
        | (exfalso; omega)
        | (
          exfalso
          omega))
theorem p_draw (m : Int) (hp : 1 ≤ m ∧ m ≤ 90) (h2 : m ≤ B 4 0)  (hR : zRel B σ S ik) : zFe Γ md_X7_draw (d + 8) [.ref 167, .int (jI m)] (mw S σ.sc ik th σ.T σ.L w) (zMQ (some (.int (jI (jdrl B m.toNat)))) 0 (jdrs m.toNat B) (jsv σ B) w) := by
  obtain ⟨ok, lk, pk, ck, lx, h, hsv, hkp⟩ := hR
  have hR : zRel B σ S ik := ⟨ok, lk, pk, ck, lx, h, hsv, hkp⟩
  have hca := h.ca0
  have hco := ok.ca
  have hds := ok.ds
  have hm2 : mr (jsv2 S σ.sc) 0 B := (zRel_save hR).2.2.2.2.2.1
  have hda := m_drawsAll (Γ := Γ) (d := d + 5) (S := jsv2 S σ.sc) (st := jst2 σ.sc + 1) (ik := ik) (th := 0) (tx := σ.T) (ty := σ.L) (w := w) m.toNat (by omega) (by omega) hm2 ok lk
  rw [show (m.toNat : Int) = m by omega] at hda
  refine zFe.of_run (lv := [some (.ref 167), some (.int (jI m)), none]) (by decide) rfl (Nat.le_of_ble_eq_true rfl) rfl (fun n9 g9 => ?_)
  refine zr_iload_n dX7_draw_0 (rfl : 0 + 1 = 1) rfl ?_
  refine zr_iconst dX7_draw_1 (rfl : 1 + 1 = 2) ?_
  refine zr_bipush dX7_draw_2 (rfl : 2 + 2 = 4) (by decide) ?_
  refine zr_fnS dX7_draw_4 (rfl : 4 + 3 = 7) l_X7_32 (m_in m 1 90 (by first | omega | (simp only [bset, reduceIte, Nat.reduceEqDiff]; omega)) (by first | omega | (simp only [bset, reduceIte, Nat.reduceEqDiff]; omega)) (by first | omega | (simp only [bset, reduceIte, Nat.reduceEqDiff]; omega))) rfl rfl (Nat.le_of_ble_eq_true rfl) ?_
  rw [jb_pos (by omega)]
  refine zr_istore_n (lv' := [_, _, _]) dX7_draw_7 (rfl : 7 + 1 = 8) (Nat.le_of_ble_eq_true rfl) rfl ?_
  refine zr_aload_n dX7_draw_8 (rfl : 8 + 1 = 9) rfl ?_
  refine zr_iload_n dX7_draw_9 (rfl : 9 + 1 = 10) rfl ?_
  refine zr_iload_n dX7_draw_10 (rfl : 10 + 1 = 11) rfl ?_
  refine zr_if_eq (tgt := 33) dX7_draw_11 (by decide) (rfl : 11 + 3 = 14) (by first | exact jb_iff | exact jI_z (by first | omega | (simp only [bset, reduceIte, Nat.reduceEqDiff]; omega)) (by first | omega | (simp only [bset, reduceIte, Nat.reduceEqDiff]; omega))) (fun h11 => ?_) (fun h11 => ?_)
  · first
    | (exfalso; omega)
    | (
      exfalso
      omega)
  · first
    | (exfalso; omega)
    | (
      refine zr_iload_n dX7_draw_14 (rfl : 14 + 1 = 15) rfl ?_
      refine zr_bipush dX7_draw_15 (rfl : 15 + 2 = 17) (by decide) ?_
      refine zr_aload_n dX7_draw_17 (rfl : 17 + 1 = 18) rfl ?_
      refine zr_getf dX7_draw_18 (rfl : 18 + 3 = 21) f_X7_7 (by first | assumption | exact mw_167 | exact mw_168 | exact mw_169 | exact mw_170 | exact bk_0 | exact bk_1 | exact bk_2 | exact bk_3 | exact bk_4 | exact bk_5 | exact bk_6 | exact bk_7 | exact bk_8 | exact bk_9 | exact bk_10 | exact bk_11 | exact bk_12 | exact bk_13 | exact bk_14 | exact bk_15 | exact bk_16 | exact zup_self | exact (zup_ne (by first | assumption | omega)).trans (by first | assumption | exact zup_self) | exact (zup_ne (by first | assumption | omega)).trans ((zup_ne (by first | assumption | omega)).trans (by first | assumption | exact zup_self)) | exact (bk_out (by first | omega | (simp only [bset, reduceIte, Nat.reduceEqDiff]; omega))).trans (by first | exact bk_0 | exact bk_1 | exact bk_2 | exact bk_3 | exact bk_4 | exact bk_5 | exact bk_6 | exact bk_7 | exact bk_8 | exact bk_9 | exact bk_10 | exact bk_11 | exact bk_12 | exact bk_13 | exact bk_14 | exact bk_15 | exact bk_16 | exact cr_5 | exact cr_23 | exact cr_24 | exact cr_25 | exact cr_26 | exact cr_27 | exact cr_28 | exact cr_29 | exact cr_30 | assumption)) rfl ?_
      refine zr_sipush dX7_draw_21 (rfl : 21 + 3 = 24) (by decide) ?_
      refine zr_iald dX7_draw_24 (rfl : 24 + 1 = 25) (by first | assumption | exact mw_167 | exact mw_168 | exact mw_169 | exact mw_170 | exact bk_0 | exact bk_1 | exact bk_2 | exact bk_3 | exact bk_4 | exact bk_5 | exact bk_6 | exact bk_7 | exact bk_8 | exact bk_9 | exact bk_10 | exact bk_11 | exact bk_12 | exact bk_13 | exact bk_14 | exact bk_15 | exact bk_16 | exact zup_self | exact (zup_ne (by first | assumption | omega)).trans (by first | assumption | exact zup_self) | exact (zup_ne (by first | assumption | omega)).trans ((zup_ne (by first | assumption | omega)).trans (by first | assumption | exact zup_self)) | exact (bk_out (by first | omega | (simp only [bset, reduceIte, Nat.reduceEqDiff]; omega))).trans (by first | exact bk_0 | exact bk_1 | exact bk_2 | exact bk_3 | exact bk_4 | exact bk_5 | exact bk_6 | exact bk_7 | exact bk_8 | exact bk_9 | exact bk_10 | exact bk_11 | exact bk_12 | exact bk_13 | exact bk_14 | exact bk_15 | exact bk_16 | exact cr_5 | exact cr_23 | exact cr_24 | exact cr_25 | exact cr_26 | exact cr_27 | exact cr_28 | exact cr_29 | exact cr_30 | assumption)) (by decide) (by first | omega | (simp only [bset, reduceIte, Nat.reduceEqDiff]; omega)) (by first | omega | (simp only [bset, reduceIte, Nat.reduceEqDiff]; omega)) ?_
      refine zr_isub dX7_draw_25 (rfl : 25 + 1 = 26) (by first | exact jI_sub _ _ | rfl) ?_
      refine zr_icmp_gt (tgt := 33) dX7_draw_26 (by decide) (rfl : 26 + 3 = 29) (jI_lt (by first | omega | (simp only [bset, reduceIte, Nat.reduceEqDiff]; omega)) (by first | omega | (simp only [bset, reduceIte, Nat.reduceEqDiff]; omega)) (by first | omega | (simp only [bset, reduceIte, Nat.reduceEqDiff]; omega)) (by first | omega | (simp only [bset, reduceIte, Nat.reduceEqDiff]; omega))) (fun h26 => ?_) (fun h26 => ?_)
      · first
        | (exfalso; omega)
        | (
          exfalso
          omega)
      · first
        | (exfalso; omega)
        | (
          refine zr_iconst dX7_draw_29 (rfl : 29 + 1 = 30) ?_
          refine zr_goto (tgt := 34) dX7_draw_30 (by decide) ?_
          refine zr_iconst dX7_draw_34 (rfl : 34 + 1 = 35) ?_
          refine zr_fnV dX7_draw_35 (rfl : 35 + 3 = 38) l_X7_60 (m_go) (by first | assumption | exact mw_167 | exact mw_168 | exact mw_169 | exact mw_170 | exact bk_0 | exact bk_1 | exact bk_2 | exact bk_3 | exact bk_4 | exact bk_5 | exact bk_6 | exact bk_7 | exact bk_8 | exact bk_9 | exact bk_10 | exact bk_11 | exact bk_12 | exact bk_13 | exact bk_14 | exact bk_15 | exact bk_16 | exact zup_self | exact (zup_ne (by first | assumption | omega)).trans (by first | assumption | exact zup_self) | exact (zup_ne (by first | assumption | omega)).trans ((zup_ne (by first | assumption | omega)).trans (by first | assumption | exact zup_self)) | exact (bk_out (by first | omega | (simp only [bset, reduceIte, Nat.reduceEqDiff]; omega))).trans (by first | exact bk_0 | exact bk_1 | exact bk_2 | exact bk_3 | exact bk_4 | exact bk_5 | exact bk_6 | exact bk_7 | exact bk_8 | exact bk_9 | exact bk_10 | exact bk_11 | exact bk_12 | exact bk_13 | exact bk_14 | exact bk_15 | exact bk_16 | exact cr_5 | exact cr_23 | exact cr_24 | exact cr_25 | exact cr_26 | exact cr_27 | exact cr_28 | exact cr_29 | exact cr_30 | assumption)) rfl rfl rfl (Nat.le_of_ble_eq_true rfl) ?_
          refine zr_if_ne (tgt := 43) dX7_draw_38 (by decide) (rfl : 38 + 3 = 41) (by first | exact jb_iff | exact jI_z (by first | omega | (simp only [bset, reduceIte, Nat.reduceEqDiff]; omega)) (by first | omega | (simp only [bset, reduceIte, Nat.reduceEqDiff]; omega))) (fun h38 => ?_) (fun h38 => ?_)
          · first
            | (exfalso; omega)
            | (
              refine zr_aload_n dX7_draw_43 (rfl : 43 + 1 = 44) rfl ?_
              refine zr_fnV dX7_draw_44 (rfl : 44 + 3 = 47) l_X7_64 (m_saves ck.sc) (by first | assumption | exact mw_167 | exact mw_168 | exact mw_169 | exact mw_170 | exact bk_0 | exact bk_1 | exact bk_2 | exact bk_3 | exact bk_4 | exact bk_5 | exact bk_6 | exact bk_7 | exact bk_8 | exact bk_9 | exact bk_10 | exact bk_11 | exact bk_12 | exact bk_13 | exact bk_14 | exact bk_15 | exact bk_16 | exact zup_self | exact (zup_ne (by first | assumption | omega)).trans (by first | assumption | exact zup_self) | exact (zup_ne (by first | assumption | omega)).trans ((zup_ne (by first | assumption | omega)).trans (by first | assumption | exact zup_self)) | exact (bk_out (by first | omega | (simp only [bset, reduceIte, Nat.reduceEqDiff]; omega))).trans (by first | exact bk_0 | exact bk_1 | exact bk_2 | exact bk_3 | exact bk_4 | exact bk_5 | exact bk_6 | exact bk_7 | exact bk_8 | exact bk_9 | exact bk_10 | exact bk_11 | exact bk_12 | exact bk_13 | exact bk_14 | exact bk_15 | exact bk_16 | exact cr_5 | exact cr_23 | exact cr_24 | exact cr_25 | exact cr_26 | exact cr_27 | exact cr_28 | exact cr_29 | exact cr_30 | assumption)) rfl rfl rfl (Nat.le_of_ble_eq_true rfl) ?_
              refine zr_aload_n dX7_draw_47 (rfl : 47 + 1 = 48) rfl ?_
              refine zr_iload_n dX7_draw_48 (rfl : 48 + 1 = 49) rfl ?_
              refine zr_feV dX7_draw_49 (rfl : 49 + 3 = 52) l_X7_93 (hda) (by first | assumption | exact mw_167 | exact mw_168 | exact mw_169 | exact mw_170 | exact bk_0 | exact bk_1 | exact bk_2 | exact bk_3 | exact bk_4 | exact bk_5 | exact bk_6 | exact bk_7 | exact bk_8 | exact bk_9 | exact bk_10 | exact bk_11 | exact bk_12 | exact bk_13 | exact bk_14 | exact bk_15 | exact bk_16 | exact zup_self | exact (zup_ne (by first | assumption | omega)).trans (by first | assumption | exact zup_self) | exact (zup_ne (by first | assumption | omega)).trans ((zup_ne (by first | assumption | omega)).trans (by first | assumption | exact zup_self)) | exact (bk_out (by first | omega | (simp only [bset, reduceIte, Nat.reduceEqDiff]; omega))).trans (by first | exact bk_0 | exact bk_1 | exact bk_2 | exact bk_3 | exact bk_4 | exact bk_5 | exact bk_6 | exact bk_7 | exact bk_8 | exact bk_9 | exact bk_10 | exact bk_11 | exact bk_12 | exact bk_13 | exact bk_14 | exact bk_15 | exact bk_16 | exact cr_5 | exact cr_23 | exact cr_24 | exact cr_25 | exact cr_26 | exact cr_27 | exact cr_28 | exact cr_29 | exact cr_30 | assumption)) rfl rfl rfl (Nat.le_of_ble_eq_true rfl) ?_
              rintro _ _ ⟨rfl, S49, hS49, rfl⟩
              refine zr_ireE dX7_draw_52 rfl rfl ?_
              exact ⟨rfl, _, _, zRel_upd (zRel_save hR) (jok_drs ok _ (by omega)) (jlk_drs ok lk _ (by omega)) (jpk_drs pk _) hS49.1 hS49.2, rfl⟩)
          · first
            | (exfalso; omega)
            | (
              exfalso
              omega)))
theorem p_claim1 (c g : Int) (hc : j32 c) (hg : j32 g) (hp : ¬ ((0 ≤ c ∧ c < 6) ∧ 0 ≤ g ∧ g < 4))  (hR : zRel B σ S ik) : zFe Γ md_X7_claim (d + 8) [.ref 167, .int (jI c), .int (jI g)] (mw S σ.sc ik th σ.T σ.L w) (zMQ (some (.int (jI 0))) 1 (B) (σ) w) := by
  obtain ⟨ok, lk, pk, ck, lx, h, hsv, hkp⟩ := hR
  have hR : zRel B σ S ik := ⟨ok, lk, pk, ck, lx, h, hsv, hkp⟩
  refine zFe.of_run (lv := [some (.ref 167), some (.int (jI c)), some (.int (jI g)), none]) (by decide) rfl (Nat.le_of_ble_eq_true rfl) rfl (fun n9 g9 => ?_)
  refine zr_iload_n dX7_claim_0 (rfl : 0 + 1 = 1) rfl ?_
  refine zr_fnS dX7_claim_1 (rfl : 1 + 3 = 4) l_X7_50 (m_isCard c hc) rfl rfl (Nat.le_of_ble_eq_true rfl) ?_
  refine zr_if_eq (tgt := 20) dX7_claim_4 (by decide) (rfl : 4 + 3 = 7) (by first | exact jb_iff | exact jI_z (by first | omega | (simp only [bset, reduceIte, Nat.reduceEqDiff]; omega)) (by first | omega | (simp only [bset, reduceIte, Nat.reduceEqDiff]; omega))) (fun h4 => ?_) (fun h4 => ?_)
  · first
    | (exfalso; omega)
    | (
      refine zr_iconst dX7_claim_20 (rfl : 20 + 1 = 21) ?_
      refine zr_istore_n (lv' := [_, _, _, _]) dX7_claim_21 (rfl : 21 + 1 = 22) (Nat.le_of_ble_eq_true rfl) rfl ?_
      refine zr_aload_n dX7_claim_22 (rfl : 22 + 1 = 23) rfl ?_
      refine zr_iload_n dX7_claim_23 (rfl : 23 + 1 = 24) rfl ?_
      refine zr_iload_n dX7_claim_24 (rfl : 24 + 1 = 25) rfl ?_
      refine zr_if_eq (tgt := 46) dX7_claim_25 (by decide) (rfl : 25 + 3 = 28) (by first | exact jb_iff | exact jI_z (by first | omega | (simp only [bset, reduceIte, Nat.reduceEqDiff]; omega)) (by first | omega | (simp only [bset, reduceIte, Nat.reduceEqDiff]; omega))) (fun h25 => ?_) (fun h25 => ?_)
      · first
        | (exfalso; omega)
        | (
          refine zr_iconst dX7_claim_46 (rfl : 46 + 1 = 47) ?_
          refine zr_iconst dX7_claim_47 (rfl : 47 + 1 = 48) ?_
          refine zr_fnV dX7_claim_48 (rfl : 48 + 3 = 51) l_X7_60 (m_go1 _ _) (by first | assumption | exact mw_167 | exact mw_168 | exact mw_169 | exact mw_170 | exact bk_0 | exact bk_1 | exact bk_2 | exact bk_3 | exact bk_4 | exact bk_5 | exact bk_6 | exact bk_7 | exact bk_8 | exact bk_9 | exact bk_10 | exact bk_11 | exact bk_12 | exact bk_13 | exact bk_14 | exact bk_15 | exact bk_16 | exact zup_self | exact (zup_ne (by first | assumption | omega)).trans (by first | assumption | exact zup_self) | exact (zup_ne (by first | assumption | omega)).trans ((zup_ne (by first | assumption | omega)).trans (by first | assumption | exact zup_self)) | exact (bk_out (by first | omega | (simp only [bset, reduceIte, Nat.reduceEqDiff]; omega))).trans (by first | exact bk_0 | exact bk_1 | exact bk_2 | exact bk_3 | exact bk_4 | exact bk_5 | exact bk_6 | exact bk_7 | exact bk_8 | exact bk_9 | exact bk_10 | exact bk_11 | exact bk_12 | exact bk_13 | exact bk_14 | exact bk_15 | exact bk_16 | exact cr_5 | exact cr_23 | exact cr_24 | exact cr_25 | exact cr_26 | exact cr_27 | exact cr_28 | exact cr_29 | exact cr_30 | assumption)) rfl rfl rfl (Nat.le_of_ble_eq_true rfl) ?_
          refine zr_if_ne (tgt := 56) dX7_claim_51 (by decide) (rfl : 51 + 3 = 54) (by first | exact jb_iff | exact jI_z (by first | omega | (simp only [bset, reduceIte, Nat.reduceEqDiff]; omega)) (by first | omega | (simp only [bset, reduceIte, Nat.reduceEqDiff]; omega))) (fun h51 => ?_) (fun h51 => ?_)
          · first
            | (exfalso; omega)
            | (
              exfalso
              omega)
          · first
            | (exfalso; omega)
            | (
              refine zr_iconst dX7_claim_54 (rfl : 54 + 1 = 55) ?_
              refine zr_ireE dX7_claim_55 rfl rfl ?_
              exact ⟨rfl, S, ik, hR, rfl⟩))
      · first
        | (exfalso; omega)
        | (
          exfalso
          omega))
  · first
    | (exfalso; omega)
    | (
      refine zr_iload_n dX7_claim_7 (rfl : 7 + 1 = 8) rfl ?_
      refine zr_iconst dX7_claim_8 (rfl : 8 + 1 = 9) ?_
      refine zr_iconst dX7_claim_9 (rfl : 9 + 1 = 10) ?_
      refine zr_fnS dX7_claim_10 (rfl : 10 + 3 = 13) l_X7_32 (m_in g 0 3 hg (by first | omega | (simp only [bset, reduceIte, Nat.reduceEqDiff]; omega)) (by first | omega | (simp only [bset, reduceIte, Nat.reduceEqDiff]; omega))) rfl rfl (Nat.le_of_ble_eq_true rfl) ?_
      refine zr_if_eq (tgt := 20) dX7_claim_13 (by decide) (rfl : 13 + 3 = 16) (by first | exact jb_iff | exact jI_z (by first | omega | (simp only [bset, reduceIte, Nat.reduceEqDiff]; omega)) (by first | omega | (simp only [bset, reduceIte, Nat.reduceEqDiff]; omega))) (fun h13 => ?_) (fun h13 => ?_)
      · first
        | (exfalso; omega)
        | (
          refine zr_iconst dX7_claim_20 (rfl : 20 + 1 = 21) ?_
          refine zr_istore_n (lv' := [_, _, _, _]) dX7_claim_21 (rfl : 21 + 1 = 22) (Nat.le_of_ble_eq_true rfl) rfl ?_
          refine zr_aload_n dX7_claim_22 (rfl : 22 + 1 = 23) rfl ?_
          refine zr_iload_n dX7_claim_23 (rfl : 23 + 1 = 24) rfl ?_
          refine zr_iload_n dX7_claim_24 (rfl : 24 + 1 = 25) rfl ?_
          refine zr_if_eq (tgt := 46) dX7_claim_25 (by decide) (rfl : 25 + 3 = 28) (by first | exact jb_iff | exact jI_z (by first | omega | (simp only [bset, reduceIte, Nat.reduceEqDiff]; omega)) (by first | omega | (simp only [bset, reduceIte, Nat.reduceEqDiff]; omega))) (fun h25 => ?_) (fun h25 => ?_)
          · first
            | (exfalso; omega)
            | (
              refine zr_iconst dX7_claim_46 (rfl : 46 + 1 = 47) ?_
              refine zr_iconst dX7_claim_47 (rfl : 47 + 1 = 48) ?_
              refine zr_fnV dX7_claim_48 (rfl : 48 + 3 = 51) l_X7_60 (m_go1 _ _) (by first | assumption | exact mw_167 | exact mw_168 | exact mw_169 | exact mw_170 | exact bk_0 | exact bk_1 | exact bk_2 | exact bk_3 | exact bk_4 | exact bk_5 | exact bk_6 | exact bk_7 | exact bk_8 | exact bk_9 | exact bk_10 | exact bk_11 | exact bk_12 | exact bk_13 | exact bk_14 | exact bk_15 | exact bk_16 | exact zup_self | exact (zup_ne (by first | assumption | omega)).trans (by first | assumption | exact zup_self) | exact (zup_ne (by first | assumption | omega)).trans ((zup_ne (by first | assumption | omega)).trans (by first | assumption | exact zup_self)) | exact (bk_out (by first | omega | (simp only [bset, reduceIte, Nat.reduceEqDiff]; omega))).trans (by first | exact bk_0 | exact bk_1 | exact bk_2 | exact bk_3 | exact bk_4 | exact bk_5 | exact bk_6 | exact bk_7 | exact bk_8 | exact bk_9 | exact bk_10 | exact bk_11 | exact bk_12 | exact bk_13 | exact bk_14 | exact bk_15 | exact bk_16 | exact cr_5 | exact cr_23 | exact cr_24 | exact cr_25 | exact cr_26 | exact cr_27 | exact cr_28 | exact cr_29 | exact cr_30 | assumption)) rfl rfl rfl (Nat.le_of_ble_eq_true rfl) ?_
              refine zr_if_ne (tgt := 56) dX7_claim_51 (by decide) (rfl : 51 + 3 = 54) (by first | exact jb_iff | exact jI_z (by first | omega | (simp only [bset, reduceIte, Nat.reduceEqDiff]; omega)) (by first | omega | (simp only [bset, reduceIte, Nat.reduceEqDiff]; omega))) (fun h51 => ?_) (fun h51 => ?_)
              · first
                | (exfalso; omega)
                | (
                  exfalso
                  omega)
              · first
                | (exfalso; omega)
                | (
                  refine zr_iconst dX7_claim_54 (rfl : 54 + 1 = 55) ?_
                  refine zr_ireE dX7_claim_55 rfl rfl ?_
                  exact ⟨rfl, S, ik, hR, rfl⟩))
          · first
            | (exfalso; omega)
            | (
              exfalso
              omega))
      · first
        | (exfalso; omega)
        | (
          refine zr_iconst dX7_claim_16 (rfl : 16 + 1 = 17) ?_
          refine zr_goto (tgt := 21) dX7_claim_17 (by decide) ?_
          refine zr_istore_n (lv' := [_, _, _, _]) dX7_claim_21 (rfl : 21 + 1 = 22) (Nat.le_of_ble_eq_true rfl) rfl ?_
          refine zr_aload_n dX7_claim_22 (rfl : 22 + 1 = 23) rfl ?_
          refine zr_iload_n dX7_claim_23 (rfl : 23 + 1 = 24) rfl ?_
          refine zr_iload_n dX7_claim_24 (rfl : 24 + 1 = 25) rfl ?_
          refine zr_if_eq (tgt := 46) dX7_claim_25 (by decide) (rfl : 25 + 3 = 28) (by first | exact jb_iff | exact jI_z (by first | omega | (simp only [bset, reduceIte, Nat.reduceEqDiff]; omega)) (by first | omega | (simp only [bset, reduceIte, Nat.reduceEqDiff]; omega))) (fun h25 => ?_) (fun h25 => ?_)
          · first
            | (exfalso; omega)
            | (
              refine zr_iconst dX7_claim_46 (rfl : 46 + 1 = 47) ?_
              refine zr_iconst dX7_claim_47 (rfl : 47 + 1 = 48) ?_
              refine zr_fnV dX7_claim_48 (rfl : 48 + 3 = 51) l_X7_60 (m_go1 _ _) (by first | assumption | exact mw_167 | exact mw_168 | exact mw_169 | exact mw_170 | exact bk_0 | exact bk_1 | exact bk_2 | exact bk_3 | exact bk_4 | exact bk_5 | exact bk_6 | exact bk_7 | exact bk_8 | exact bk_9 | exact bk_10 | exact bk_11 | exact bk_12 | exact bk_13 | exact bk_14 | exact bk_15 | exact bk_16 | exact zup_self | exact (zup_ne (by first | assumption | omega)).trans (by first | assumption | exact zup_self) | exact (zup_ne (by first | assumption | omega)).trans ((zup_ne (by first | assumption | omega)).trans (by first | assumption | exact zup_self)) | exact (bk_out (by first | omega | (simp only [bset, reduceIte, Nat.reduceEqDiff]; omega))).trans (by first | exact bk_0 | exact bk_1 | exact bk_2 | exact bk_3 | exact bk_4 | exact bk_5 | exact bk_6 | exact bk_7 | exact bk_8 | exact bk_9 | exact bk_10 | exact bk_11 | exact bk_12 | exact bk_13 | exact bk_14 | exact bk_15 | exact bk_16 | exact cr_5 | exact cr_23 | exact cr_24 | exact cr_25 | exact cr_26 | exact cr_27 | exact cr_28 | exact cr_29 | exact cr_30 | assumption)) rfl rfl rfl (Nat.le_of_ble_eq_true rfl) ?_
              refine zr_if_ne (tgt := 56) dX7_claim_51 (by decide) (rfl : 51 + 3 = 54) (by first | exact jb_iff | exact jI_z (by first | omega | (simp only [bset, reduceIte, Nat.reduceEqDiff]; omega)) (by first | omega | (simp only [bset, reduceIte, Nat.reduceEqDiff]; omega))) (fun h51 => ?_) (fun h51 => ?_)
              · first
                | (exfalso; omega)
                | (
                  exfalso
                  omega)
              · first
                | (exfalso; omega)
                | (
                  refine zr_iconst dX7_claim_54 (rfl : 54 + 1 = 55) ?_
                  refine zr_ireE dX7_claim_55 rfl rfl ?_
                  exact ⟨rfl, S, ik, hR, rfl⟩))
          · first
            | (exfalso; omega)
            | (
              exfalso
              omega)))
theorem p_claim2 (c g : Int) (hp : (0 ≤ c ∧ c < 6) ∧ 0 ≤ g ∧ g < 4) (h2 : ¬ jbit (B 11 0) c = 1)  (hR : zRel B σ S ik) : zFe Γ md_X7_claim (d + 8) [.ref 167, .int (jI c), .int (jI g)] (mw S σ.sc ik th σ.T σ.L w) (zMQ (some (.int (jI 0))) 2 (B) (σ) w) := by
  obtain ⟨ok, lk, pk, ck, lx, h, hsv, hkp⟩ := hR
  have hR : zRel B σ S ik := ⟨ok, lk, pk, ck, lx, h, hsv, hkp⟩
  have hbo := h.bo0 c hp.1.1 hp.1.2
  have hbr := jbit_r (B 11 0) c
  refine zFe.of_run (lv := [some (.ref 167), some (.int (jI c)), some (.int (jI g)), none]) (by decide) rfl (Nat.le_of_ble_eq_true rfl) rfl (fun n9 g9 => ?_)
  refine zr_iload_n dX7_claim_0 (rfl : 0 + 1 = 1) rfl ?_
  refine zr_fnS dX7_claim_1 (rfl : 1 + 3 = 4) l_X7_50 (m_isCard c (by first | omega | (simp only [bset, reduceIte, Nat.reduceEqDiff]; omega))) rfl rfl (Nat.le_of_ble_eq_true rfl) ?_
  refine zr_if_eq (tgt := 20) dX7_claim_4 (by decide) (rfl : 4 + 3 = 7) (by first | exact jb_iff | exact jI_z (by first | omega | (simp only [bset, reduceIte, Nat.reduceEqDiff]; omega)) (by first | omega | (simp only [bset, reduceIte, Nat.reduceEqDiff]; omega))) (fun h4 => ?_) (fun h4 => ?_)
  · first
    | (exfalso; omega)
    | (
      refine zr_iconst dX7_claim_20 (rfl : 20 + 1 = 21) ?_
      refine zr_istore_n (lv' := [_, _, _, _]) dX7_claim_21 (rfl : 21 + 1 = 22) (Nat.le_of_ble_eq_true rfl) rfl ?_
      refine zr_aload_n dX7_claim_22 (rfl : 22 + 1 = 23) rfl ?_
      refine zr_iload_n dX7_claim_23 (rfl : 23 + 1 = 24) rfl ?_
      refine zr_iload_n dX7_claim_24 (rfl : 24 + 1 = 25) rfl ?_
      refine zr_if_eq (tgt := 46) dX7_claim_25 (by decide) (rfl : 25 + 3 = 28) (by first | exact jb_iff | exact jI_z (by first | omega | (simp only [bset, reduceIte, Nat.reduceEqDiff]; omega)) (by first | omega | (simp only [bset, reduceIte, Nat.reduceEqDiff]; omega))) (fun h25 => ?_) (fun h25 => ?_)
      · first
        | (exfalso; omega)
        | (
          refine zr_iconst dX7_claim_46 (rfl : 46 + 1 = 47) ?_
          refine zr_iconst dX7_claim_47 (rfl : 47 + 1 = 48) ?_
          refine zr_fnV dX7_claim_48 (rfl : 48 + 3 = 51) l_X7_60 (m_go2 _) (by first | assumption | exact mw_167 | exact mw_168 | exact mw_169 | exact mw_170 | exact bk_0 | exact bk_1 | exact bk_2 | exact bk_3 | exact bk_4 | exact bk_5 | exact bk_6 | exact bk_7 | exact bk_8 | exact bk_9 | exact bk_10 | exact bk_11 | exact bk_12 | exact bk_13 | exact bk_14 | exact bk_15 | exact bk_16 | exact zup_self | exact (zup_ne (by first | assumption | omega)).trans (by first | assumption | exact zup_self) | exact (zup_ne (by first | assumption | omega)).trans ((zup_ne (by first | assumption | omega)).trans (by first | assumption | exact zup_self)) | exact (bk_out (by first | omega | (simp only [bset, reduceIte, Nat.reduceEqDiff]; omega))).trans (by first | exact bk_0 | exact bk_1 | exact bk_2 | exact bk_3 | exact bk_4 | exact bk_5 | exact bk_6 | exact bk_7 | exact bk_8 | exact bk_9 | exact bk_10 | exact bk_11 | exact bk_12 | exact bk_13 | exact bk_14 | exact bk_15 | exact bk_16 | exact cr_5 | exact cr_23 | exact cr_24 | exact cr_25 | exact cr_26 | exact cr_27 | exact cr_28 | exact cr_29 | exact cr_30 | assumption)) rfl rfl rfl (Nat.le_of_ble_eq_true rfl) ?_
          refine zr_if_ne (tgt := 56) dX7_claim_51 (by decide) (rfl : 51 + 3 = 54) (by first | exact jb_iff | exact jI_z (by first | omega | (simp only [bset, reduceIte, Nat.reduceEqDiff]; omega)) (by first | omega | (simp only [bset, reduceIte, Nat.reduceEqDiff]; omega))) (fun h51 => ?_) (fun h51 => ?_)
          · first
            | (exfalso; omega)
            | (
              exfalso
              omega)
          · first
            | (exfalso; omega)
            | (
              refine zr_iconst dX7_claim_54 (rfl : 54 + 1 = 55) ?_
              refine zr_ireE dX7_claim_55 rfl rfl ?_
              exact ⟨rfl, S, ik, hR, rfl⟩))
      · first
        | (exfalso; omega)
        | (
          refine zr_aload_n dX7_claim_28 (rfl : 28 + 1 = 29) rfl ?_
          refine zr_getf dX7_claim_29 (rfl : 29 + 3 = 32) f_X7_7 (by first | assumption | exact mw_167 | exact mw_168 | exact mw_169 | exact mw_170 | exact bk_0 | exact bk_1 | exact bk_2 | exact bk_3 | exact bk_4 | exact bk_5 | exact bk_6 | exact bk_7 | exact bk_8 | exact bk_9 | exact bk_10 | exact bk_11 | exact bk_12 | exact bk_13 | exact bk_14 | exact bk_15 | exact bk_16 | exact zup_self | exact (zup_ne (by first | assumption | omega)).trans (by first | assumption | exact zup_self) | exact (zup_ne (by first | assumption | omega)).trans ((zup_ne (by first | assumption | omega)).trans (by first | assumption | exact zup_self)) | exact (bk_out (by first | omega | (simp only [bset, reduceIte, Nat.reduceEqDiff]; omega))).trans (by first | exact bk_0 | exact bk_1 | exact bk_2 | exact bk_3 | exact bk_4 | exact bk_5 | exact bk_6 | exact bk_7 | exact bk_8 | exact bk_9 | exact bk_10 | exact bk_11 | exact bk_12 | exact bk_13 | exact bk_14 | exact bk_15 | exact bk_16 | exact cr_5 | exact cr_23 | exact cr_24 | exact cr_25 | exact cr_26 | exact cr_27 | exact cr_28 | exact cr_29 | exact cr_30 | assumption)) rfl ?_
          refine zr_sipush dX7_claim_32 (rfl : 32 + 3 = 35) (by decide) ?_
          refine zr_iload_n dX7_claim_35 (rfl : 35 + 1 = 36) rfl ?_
          refine zr_iadd dX7_claim_36 (rfl : 36 + 1 = 37) (by first | exact jI_add _ _ | rfl) ?_
          refine zr_iald dX7_claim_37 (rfl : 37 + 1 = 38) (by first | assumption | exact mw_167 | exact mw_168 | exact mw_169 | exact mw_170 | exact bk_0 | exact bk_1 | exact bk_2 | exact bk_3 | exact bk_4 | exact bk_5 | exact bk_6 | exact bk_7 | exact bk_8 | exact bk_9 | exact bk_10 | exact bk_11 | exact bk_12 | exact bk_13 | exact bk_14 | exact bk_15 | exact bk_16 | exact zup_self | exact (zup_ne (by first | assumption | omega)).trans (by first | assumption | exact zup_self) | exact (zup_ne (by first | assumption | omega)).trans ((zup_ne (by first | assumption | omega)).trans (by first | assumption | exact zup_self)) | exact (bk_out (by first | omega | (simp only [bset, reduceIte, Nat.reduceEqDiff]; omega))).trans (by first | exact bk_0 | exact bk_1 | exact bk_2 | exact bk_3 | exact bk_4 | exact bk_5 | exact bk_6 | exact bk_7 | exact bk_8 | exact bk_9 | exact bk_10 | exact bk_11 | exact bk_12 | exact bk_13 | exact bk_14 | exact bk_15 | exact bk_16 | exact cr_5 | exact cr_23 | exact cr_24 | exact cr_25 | exact cr_26 | exact cr_27 | exact cr_28 | exact cr_29 | exact cr_30 | assumption)) (by decide) (by first | omega | (simp only [bset, reduceIte, Nat.reduceEqDiff]; omega)) (by first | omega | (simp only [bset, reduceIte, Nat.reduceEqDiff]; omega)) ?_
          refine zr_iconst dX7_claim_38 (rfl : 38 + 1 = 39) ?_
          refine zr_icmp_ne (tgt := 46) dX7_claim_39 (by decide) (rfl : 39 + 3 = 42) (jI_eq (by first | omega | (simp only [bset, reduceIte, Nat.reduceEqDiff]; omega)) (by first | omega | (simp only [bset, reduceIte, Nat.reduceEqDiff]; omega)) (by first | omega | (simp only [bset, reduceIte, Nat.reduceEqDiff]; omega)) (by first | omega | (simp only [bset, reduceIte, Nat.reduceEqDiff]; omega))) (fun h39 => ?_) (fun h39 => ?_)
          · first
            | (exfalso; omega)
            | (
              refine zr_iconst dX7_claim_46 (rfl : 46 + 1 = 47) ?_
              refine zr_iconst dX7_claim_47 (rfl : 47 + 1 = 48) ?_
              refine zr_fnV dX7_claim_48 (rfl : 48 + 3 = 51) l_X7_60 (m_go2 _) (by first | assumption | exact mw_167 | exact mw_168 | exact mw_169 | exact mw_170 | exact bk_0 | exact bk_1 | exact bk_2 | exact bk_3 | exact bk_4 | exact bk_5 | exact bk_6 | exact bk_7 | exact bk_8 | exact bk_9 | exact bk_10 | exact bk_11 | exact bk_12 | exact bk_13 | exact bk_14 | exact bk_15 | exact bk_16 | exact zup_self | exact (zup_ne (by first | assumption | omega)).trans (by first | assumption | exact zup_self) | exact (zup_ne (by first | assumption | omega)).trans ((zup_ne (by first | assumption | omega)).trans (by first | assumption | exact zup_self)) | exact (bk_out (by first | omega | (simp only [bset, reduceIte, Nat.reduceEqDiff]; omega))).trans (by first | exact bk_0 | exact bk_1 | exact bk_2 | exact bk_3 | exact bk_4 | exact bk_5 | exact bk_6 | exact bk_7 | exact bk_8 | exact bk_9 | exact bk_10 | exact bk_11 | exact bk_12 | exact bk_13 | exact bk_14 | exact bk_15 | exact bk_16 | exact cr_5 | exact cr_23 | exact cr_24 | exact cr_25 | exact cr_26 | exact cr_27 | exact cr_28 | exact cr_29 | exact cr_30 | assumption)) rfl rfl rfl (Nat.le_of_ble_eq_true rfl) ?_
              refine zr_if_ne (tgt := 56) dX7_claim_51 (by decide) (rfl : 51 + 3 = 54) (by first | exact jb_iff | exact jI_z (by first | omega | (simp only [bset, reduceIte, Nat.reduceEqDiff]; omega)) (by first | omega | (simp only [bset, reduceIte, Nat.reduceEqDiff]; omega))) (fun h51 => ?_) (fun h51 => ?_)
              · first
                | (exfalso; omega)
                | (
                  exfalso
                  omega)
              · first
                | (exfalso; omega)
                | (
                  refine zr_iconst dX7_claim_54 (rfl : 54 + 1 = 55) ?_
                  refine zr_ireE dX7_claim_55 rfl rfl ?_
                  exact ⟨rfl, S, ik, hR, rfl⟩))
          · first
            | (exfalso; omega)
            | (
              exfalso
              omega)))
  · first
    | (exfalso; omega)
    | (
      refine zr_iload_n dX7_claim_7 (rfl : 7 + 1 = 8) rfl ?_
      refine zr_iconst dX7_claim_8 (rfl : 8 + 1 = 9) ?_
      refine zr_iconst dX7_claim_9 (rfl : 9 + 1 = 10) ?_
      refine zr_fnS dX7_claim_10 (rfl : 10 + 3 = 13) l_X7_32 (m_in g 0 3 (by first | omega | (simp only [bset, reduceIte, Nat.reduceEqDiff]; omega)) (by first | omega | (simp only [bset, reduceIte, Nat.reduceEqDiff]; omega)) (by first | omega | (simp only [bset, reduceIte, Nat.reduceEqDiff]; omega))) rfl rfl (Nat.le_of_ble_eq_true rfl) ?_
      refine zr_if_eq (tgt := 20) dX7_claim_13 (by decide) (rfl : 13 + 3 = 16) (by first | exact jb_iff | exact jI_z (by first | omega | (simp only [bset, reduceIte, Nat.reduceEqDiff]; omega)) (by first | omega | (simp only [bset, reduceIte, Nat.reduceEqDiff]; omega))) (fun h13 => ?_) (fun h13 => ?_)
      · first
        | (exfalso; omega)
        | (
          refine zr_iconst dX7_claim_20 (rfl : 20 + 1 = 21) ?_
          refine zr_istore_n (lv' := [_, _, _, _]) dX7_claim_21 (rfl : 21 + 1 = 22) (Nat.le_of_ble_eq_true rfl) rfl ?_
          refine zr_aload_n dX7_claim_22 (rfl : 22 + 1 = 23) rfl ?_
          refine zr_iload_n dX7_claim_23 (rfl : 23 + 1 = 24) rfl ?_
          refine zr_iload_n dX7_claim_24 (rfl : 24 + 1 = 25) rfl ?_
          refine zr_if_eq (tgt := 46) dX7_claim_25 (by decide) (rfl : 25 + 3 = 28) (by first | exact jb_iff | exact jI_z (by first | omega | (simp only [bset, reduceIte, Nat.reduceEqDiff]; omega)) (by first | omega | (simp only [bset, reduceIte, Nat.reduceEqDiff]; omega))) (fun h25 => ?_) (fun h25 => ?_)
          · first
            | (exfalso; omega)
            | (
              refine zr_iconst dX7_claim_46 (rfl : 46 + 1 = 47) ?_
              refine zr_iconst dX7_claim_47 (rfl : 47 + 1 = 48) ?_
              refine zr_fnV dX7_claim_48 (rfl : 48 + 3 = 51) l_X7_60 (m_go2 _) (by first | assumption | exact mw_167 | exact mw_168 | exact mw_169 | exact mw_170 | exact bk_0 | exact bk_1 | exact bk_2 | exact bk_3 | exact bk_4 | exact bk_5 | exact bk_6 | exact bk_7 | exact bk_8 | exact bk_9 | exact bk_10 | exact bk_11 | exact bk_12 | exact bk_13 | exact bk_14 | exact bk_15 | exact bk_16 | exact zup_self | exact (zup_ne (by first | assumption | omega)).trans (by first | assumption | exact zup_self) | exact (zup_ne (by first | assumption | omega)).trans ((zup_ne (by first | assumption | omega)).trans (by first | assumption | exact zup_self)) | exact (bk_out (by first | omega | (simp only [bset, reduceIte, Nat.reduceEqDiff]; omega))).trans (by first | exact bk_0 | exact bk_1 | exact bk_2 | exact bk_3 | exact bk_4 | exact bk_5 | exact bk_6 | exact bk_7 | exact bk_8 | exact bk_9 | exact bk_10 | exact bk_11 | exact bk_12 | exact bk_13 | exact bk_14 | exact bk_15 | exact bk_16 | exact cr_5 | exact cr_23 | exact cr_24 | exact cr_25 | exact cr_26 | exact cr_27 | exact cr_28 | exact cr_29 | exact cr_30 | assumption)) rfl rfl rfl (Nat.le_of_ble_eq_true rfl) ?_
              refine zr_if_ne (tgt := 56) dX7_claim_51 (by decide) (rfl : 51 + 3 = 54) (by first | exact jb_iff | exact jI_z (by first | omega | (simp only [bset, reduceIte, Nat.reduceEqDiff]; omega)) (by first | omega | (simp only [bset, reduceIte, Nat.reduceEqDiff]; omega))) (fun h51 => ?_) (fun h51 => ?_)
              · first
                | (exfalso; omega)
                | (
                  exfalso
                  omega)
              · first
                | (exfalso; omega)
                | (
                  refine zr_iconst dX7_claim_54 (rfl : 54 + 1 = 55) ?_
                  refine zr_ireE dX7_claim_55 rfl rfl ?_
                  exact ⟨rfl, S, ik, hR, rfl⟩))
          · first
            | (exfalso; omega)
            | (
              refine zr_aload_n dX7_claim_28 (rfl : 28 + 1 = 29) rfl ?_
              refine zr_getf dX7_claim_29 (rfl : 29 + 3 = 32) f_X7_7 (by first | assumption | exact mw_167 | exact mw_168 | exact mw_169 | exact mw_170 | exact bk_0 | exact bk_1 | exact bk_2 | exact bk_3 | exact bk_4 | exact bk_5 | exact bk_6 | exact bk_7 | exact bk_8 | exact bk_9 | exact bk_10 | exact bk_11 | exact bk_12 | exact bk_13 | exact bk_14 | exact bk_15 | exact bk_16 | exact zup_self | exact (zup_ne (by first | assumption | omega)).trans (by first | assumption | exact zup_self) | exact (zup_ne (by first | assumption | omega)).trans ((zup_ne (by first | assumption | omega)).trans (by first | assumption | exact zup_self)) | exact (bk_out (by first | omega | (simp only [bset, reduceIte, Nat.reduceEqDiff]; omega))).trans (by first | exact bk_0 | exact bk_1 | exact bk_2 | exact bk_3 | exact bk_4 | exact bk_5 | exact bk_6 | exact bk_7 | exact bk_8 | exact bk_9 | exact bk_10 | exact bk_11 | exact bk_12 | exact bk_13 | exact bk_14 | exact bk_15 | exact bk_16 | exact cr_5 | exact cr_23 | exact cr_24 | exact cr_25 | exact cr_26 | exact cr_27 | exact cr_28 | exact cr_29 | exact cr_30 | assumption)) rfl ?_
              refine zr_sipush dX7_claim_32 (rfl : 32 + 3 = 35) (by decide) ?_
              refine zr_iload_n dX7_claim_35 (rfl : 35 + 1 = 36) rfl ?_
              refine zr_iadd dX7_claim_36 (rfl : 36 + 1 = 37) (by first | exact jI_add _ _ | rfl) ?_
              refine zr_iald dX7_claim_37 (rfl : 37 + 1 = 38) (by first | assumption | exact mw_167 | exact mw_168 | exact mw_169 | exact mw_170 | exact bk_0 | exact bk_1 | exact bk_2 | exact bk_3 | exact bk_4 | exact bk_5 | exact bk_6 | exact bk_7 | exact bk_8 | exact bk_9 | exact bk_10 | exact bk_11 | exact bk_12 | exact bk_13 | exact bk_14 | exact bk_15 | exact bk_16 | exact zup_self | exact (zup_ne (by first | assumption | omega)).trans (by first | assumption | exact zup_self) | exact (zup_ne (by first | assumption | omega)).trans ((zup_ne (by first | assumption | omega)).trans (by first | assumption | exact zup_self)) | exact (bk_out (by first | omega | (simp only [bset, reduceIte, Nat.reduceEqDiff]; omega))).trans (by first | exact bk_0 | exact bk_1 | exact bk_2 | exact bk_3 | exact bk_4 | exact bk_5 | exact bk_6 | exact bk_7 | exact bk_8 | exact bk_9 | exact bk_10 | exact bk_11 | exact bk_12 | exact bk_13 | exact bk_14 | exact bk_15 | exact bk_16 | exact cr_5 | exact cr_23 | exact cr_24 | exact cr_25 | exact cr_26 | exact cr_27 | exact cr_28 | exact cr_29 | exact cr_30 | assumption)) (by decide) (by first | omega | (simp only [bset, reduceIte, Nat.reduceEqDiff]; omega)) (by first | omega | (simp only [bset, reduceIte, Nat.reduceEqDiff]; omega)) ?_
              refine zr_iconst dX7_claim_38 (rfl : 38 + 1 = 39) ?_
              refine zr_icmp_ne (tgt := 46) dX7_claim_39 (by decide) (rfl : 39 + 3 = 42) (jI_eq (by first | omega | (simp only [bset, reduceIte, Nat.reduceEqDiff]; omega)) (by first | omega | (simp only [bset, reduceIte, Nat.reduceEqDiff]; omega)) (by first | omega | (simp only [bset, reduceIte, Nat.reduceEqDiff]; omega)) (by first | omega | (simp only [bset, reduceIte, Nat.reduceEqDiff]; omega))) (fun h39 => ?_) (fun h39 => ?_)
              · first
                | (exfalso; omega)
                | (
                  refine zr_iconst dX7_claim_46 (rfl : 46 + 1 = 47) ?_
                  refine zr_iconst dX7_claim_47 (rfl : 47 + 1 = 48) ?_
                  refine zr_fnV dX7_claim_48 (rfl : 48 + 3 = 51) l_X7_60 (m_go2 _) (by first | assumption | exact mw_167 | exact mw_168 | exact mw_169 | exact mw_170 | exact bk_0 | exact bk_1 | exact bk_2 | exact bk_3 | exact bk_4 | exact bk_5 | exact bk_6 | exact bk_7 | exact bk_8 | exact bk_9 | exact bk_10 | exact bk_11 | exact bk_12 | exact bk_13 | exact bk_14 | exact bk_15 | exact bk_16 | exact zup_self | exact (zup_ne (by first | assumption | omega)).trans (by first | assumption | exact zup_self) | exact (zup_ne (by first | assumption | omega)).trans ((zup_ne (by first | assumption | omega)).trans (by first | assumption | exact zup_self)) | exact (bk_out (by first | omega | (simp only [bset, reduceIte, Nat.reduceEqDiff]; omega))).trans (by first | exact bk_0 | exact bk_1 | exact bk_2 | exact bk_3 | exact bk_4 | exact bk_5 | exact bk_6 | exact bk_7 | exact bk_8 | exact bk_9 | exact bk_10 | exact bk_11 | exact bk_12 | exact bk_13 | exact bk_14 | exact bk_15 | exact bk_16 | exact cr_5 | exact cr_23 | exact cr_24 | exact cr_25 | exact cr_26 | exact cr_27 | exact cr_28 | exact cr_29 | exact cr_30 | assumption)) rfl rfl rfl (Nat.le_of_ble_eq_true rfl) ?_
                  refine zr_if_ne (tgt := 56) dX7_claim_51 (by decide) (rfl : 51 + 3 = 54) (by first | exact jb_iff | exact jI_z (by first | omega | (simp only [bset, reduceIte, Nat.reduceEqDiff]; omega)) (by first | omega | (simp only [bset, reduceIte, Nat.reduceEqDiff]; omega))) (fun h51 => ?_) (fun h51 => ?_)
                  · first
                    | (exfalso; omega)
                    | (
                      exfalso
                      omega)
                  · first
                    | (exfalso; omega)
                    | (
                      refine zr_iconst dX7_claim_54 (rfl : 54 + 1 = 55) ?_
                      refine zr_ireE dX7_claim_55 rfl rfl ?_
                      exact ⟨rfl, S, ik, hR, rfl⟩))
              · first
                | (exfalso; omega)
                | (
                  exfalso
                  omega)))
      · first
        | (exfalso; omega)
        | (
          refine zr_iconst dX7_claim_16 (rfl : 16 + 1 = 17) ?_
          refine zr_goto (tgt := 21) dX7_claim_17 (by decide) ?_
          refine zr_istore_n (lv' := [_, _, _, _]) dX7_claim_21 (rfl : 21 + 1 = 22) (Nat.le_of_ble_eq_true rfl) rfl ?_
          refine zr_aload_n dX7_claim_22 (rfl : 22 + 1 = 23) rfl ?_
          refine zr_iload_n dX7_claim_23 (rfl : 23 + 1 = 24) rfl ?_
          refine zr_iload_n dX7_claim_24 (rfl : 24 + 1 = 25) rfl ?_
          refine zr_if_eq (tgt := 46) dX7_claim_25 (by decide) (rfl : 25 + 3 = 28) (by first | exact jb_iff | exact jI_z (by first | omega | (simp only [bset, reduceIte, Nat.reduceEqDiff]; omega)) (by first | omega | (simp only [bset, reduceIte, Nat.reduceEqDiff]; omega))) (fun h25 => ?_) (fun h25 => ?_)
          · first
            | (exfalso; omega)
            | (
              refine zr_iconst dX7_claim_46 (rfl : 46 + 1 = 47) ?_
              refine zr_iconst dX7_claim_47 (rfl : 47 + 1 = 48) ?_
              refine zr_fnV dX7_claim_48 (rfl : 48 + 3 = 51) l_X7_60 (m_go2 _) (by first | assumption | exact mw_167 | exact mw_168 | exact mw_169 | exact mw_170 | exact bk_0 | exact bk_1 | exact bk_2 | exact bk_3 | exact bk_4 | exact bk_5 | exact bk_6 | exact bk_7 | exact bk_8 | exact bk_9 | exact bk_10 | exact bk_11 | exact bk_12 | exact bk_13 | exact bk_14 | exact bk_15 | exact bk_16 | exact zup_self | exact (zup_ne (by first | assumption | omega)).trans (by first | assumption | exact zup_self) | exact (zup_ne (by first | assumption | omega)).trans ((zup_ne (by first | assumption | omega)).trans (by first | assumption | exact zup_self)) | exact (bk_out (by first | omega | (simp only [bset, reduceIte, Nat.reduceEqDiff]; omega))).trans (by first | exact bk_0 | exact bk_1 | exact bk_2 | exact bk_3 | exact bk_4 | exact bk_5 | exact bk_6 | exact bk_7 | exact bk_8 | exact bk_9 | exact bk_10 | exact bk_11 | exact bk_12 | exact bk_13 | exact bk_14 | exact bk_15 | exact bk_16 | exact cr_5 | exact cr_23 | exact cr_24 | exact cr_25 | exact cr_26 | exact cr_27 | exact cr_28 | exact cr_29 | exact cr_30 | assumption)) rfl rfl rfl (Nat.le_of_ble_eq_true rfl) ?_
              refine zr_if_ne (tgt := 56) dX7_claim_51 (by decide) (rfl : 51 + 3 = 54) (by first | exact jb_iff | exact jI_z (by first | omega | (simp only [bset, reduceIte, Nat.reduceEqDiff]; omega)) (by first | omega | (simp only [bset, reduceIte, Nat.reduceEqDiff]; omega))) (fun h51 => ?_) (fun h51 => ?_)
              · first
                | (exfalso; omega)
                | (
                  exfalso
                  omega)
              · first
                | (exfalso; omega)
                | (
                  refine zr_iconst dX7_claim_54 (rfl : 54 + 1 = 55) ?_
                  refine zr_ireE dX7_claim_55 rfl rfl ?_
                  exact ⟨rfl, S, ik, hR, rfl⟩))
          · first
            | (exfalso; omega)
            | (
              refine zr_aload_n dX7_claim_28 (rfl : 28 + 1 = 29) rfl ?_
              refine zr_getf dX7_claim_29 (rfl : 29 + 3 = 32) f_X7_7 (by first | assumption | exact mw_167 | exact mw_168 | exact mw_169 | exact mw_170 | exact bk_0 | exact bk_1 | exact bk_2 | exact bk_3 | exact bk_4 | exact bk_5 | exact bk_6 | exact bk_7 | exact bk_8 | exact bk_9 | exact bk_10 | exact bk_11 | exact bk_12 | exact bk_13 | exact bk_14 | exact bk_15 | exact bk_16 | exact zup_self | exact (zup_ne (by first | assumption | omega)).trans (by first | assumption | exact zup_self) | exact (zup_ne (by first | assumption | omega)).trans ((zup_ne (by first | assumption | omega)).trans (by first | assumption | exact zup_self)) | exact (bk_out (by first | omega | (simp only [bset, reduceIte, Nat.reduceEqDiff]; omega))).trans (by first | exact bk_0 | exact bk_1 | exact bk_2 | exact bk_3 | exact bk_4 | exact bk_5 | exact bk_6 | exact bk_7 | exact bk_8 | exact bk_9 | exact bk_10 | exact bk_11 | exact bk_12 | exact bk_13 | exact bk_14 | exact bk_15 | exact bk_16 | exact cr_5 | exact cr_23 | exact cr_24 | exact cr_25 | exact cr_26 | exact cr_27 | exact cr_28 | exact cr_29 | exact cr_30 | assumption)) rfl ?_
              refine zr_sipush dX7_claim_32 (rfl : 32 + 3 = 35) (by decide) ?_
              refine zr_iload_n dX7_claim_35 (rfl : 35 + 1 = 36) rfl ?_
              refine zr_iadd dX7_claim_36 (rfl : 36 + 1 = 37) (by first | exact jI_add _ _ | rfl) ?_
              refine zr_iald dX7_claim_37 (rfl : 37 + 1 = 38) (by first | assumption | exact mw_167 | exact mw_168 | exact mw_169 | exact mw_170 | exact bk_0 | exact bk_1 | exact bk_2 | exact bk_3 | exact bk_4 | exact bk_5 | exact bk_6 | exact bk_7 | exact bk_8 | exact bk_9 | exact bk_10 | exact bk_11 | exact bk_12 | exact bk_13 | exact bk_14 | exact bk_15 | exact bk_16 | exact zup_self | exact (zup_ne (by first | assumption | omega)).trans (by first | assumption | exact zup_self) | exact (zup_ne (by first | assumption | omega)).trans ((zup_ne (by first | assumption | omega)).trans (by first | assumption | exact zup_self)) | exact (bk_out (by first | omega | (simp only [bset, reduceIte, Nat.reduceEqDiff]; omega))).trans (by first | exact bk_0 | exact bk_1 | exact bk_2 | exact bk_3 | exact bk_4 | exact bk_5 | exact bk_6 | exact bk_7 | exact bk_8 | exact bk_9 | exact bk_10 | exact bk_11 | exact bk_12 | exact bk_13 | exact bk_14 | exact bk_15 | exact bk_16 | exact cr_5 | exact cr_23 | exact cr_24 | exact cr_25 | exact cr_26 | exact cr_27 | exact cr_28 | exact cr_29 | exact cr_30 | assumption)) (by decide) (by first | omega | (simp only [bset, reduceIte, Nat.reduceEqDiff]; omega)) (by first | omega | (simp only [bset, reduceIte, Nat.reduceEqDiff]; omega)) ?_
              refine zr_iconst dX7_claim_38 (rfl : 38 + 1 = 39) ?_
              refine zr_icmp_ne (tgt := 46) dX7_claim_39 (by decide) (rfl : 39 + 3 = 42) (jI_eq (by first | omega | (simp only [bset, reduceIte, Nat.reduceEqDiff]; omega)) (by first | omega | (simp only [bset, reduceIte, Nat.reduceEqDiff]; omega)) (by first | omega | (simp only [bset, reduceIte, Nat.reduceEqDiff]; omega)) (by first | omega | (simp only [bset, reduceIte, Nat.reduceEqDiff]; omega))) (fun h39 => ?_) (fun h39 => ?_)
              · first
                | (exfalso; omega)
                | (
                  refine zr_iconst dX7_claim_46 (rfl : 46 + 1 = 47) ?_
                  refine zr_iconst dX7_claim_47 (rfl : 47 + 1 = 48) ?_
                  refine zr_fnV dX7_claim_48 (rfl : 48 + 3 = 51) l_X7_60 (m_go2 _) (by first | assumption | exact mw_167 | exact mw_168 | exact mw_169 | exact mw_170 | exact bk_0 | exact bk_1 | exact bk_2 | exact bk_3 | exact bk_4 | exact bk_5 | exact bk_6 | exact bk_7 | exact bk_8 | exact bk_9 | exact bk_10 | exact bk_11 | exact bk_12 | exact bk_13 | exact bk_14 | exact bk_15 | exact bk_16 | exact zup_self | exact (zup_ne (by first | assumption | omega)).trans (by first | assumption | exact zup_self) | exact (zup_ne (by first | assumption | omega)).trans ((zup_ne (by first | assumption | omega)).trans (by first | assumption | exact zup_self)) | exact (bk_out (by first | omega | (simp only [bset, reduceIte, Nat.reduceEqDiff]; omega))).trans (by first | exact bk_0 | exact bk_1 | exact bk_2 | exact bk_3 | exact bk_4 | exact bk_5 | exact bk_6 | exact bk_7 | exact bk_8 | exact bk_9 | exact bk_10 | exact bk_11 | exact bk_12 | exact bk_13 | exact bk_14 | exact bk_15 | exact bk_16 | exact cr_5 | exact cr_23 | exact cr_24 | exact cr_25 | exact cr_26 | exact cr_27 | exact cr_28 | exact cr_29 | exact cr_30 | assumption)) rfl rfl rfl (Nat.le_of_ble_eq_true rfl) ?_
                  refine zr_if_ne (tgt := 56) dX7_claim_51 (by decide) (rfl : 51 + 3 = 54) (by first | exact jb_iff | exact jI_z (by first | omega | (simp only [bset, reduceIte, Nat.reduceEqDiff]; omega)) (by first | omega | (simp only [bset, reduceIte, Nat.reduceEqDiff]; omega))) (fun h51 => ?_) (fun h51 => ?_)
                  · first
                    | (exfalso; omega)
                    | (
                      exfalso
                      omega)
                  · first
                    | (exfalso; omega)
                    | (
                      refine zr_iconst dX7_claim_54 (rfl : 54 + 1 = 55) ?_
                      refine zr_ireE dX7_claim_55 rfl rfl ?_
                      exact ⟨rfl, S, ik, hR, rfl⟩))
              · first
                | (exfalso; omega)
                | (
                  exfalso
                  omega))))
theorem p_claim (c g : Int) (hp : (0 ≤ c ∧ c < 6) ∧ 0 ≤ g ∧ g < 4) (h2 : jbit (B 11 0) c = 1)  (hR : zRel B σ S ik) : zFe Γ md_X7_claim (d + 8) [.ref 167, .int (jI c), .int (jI g)] (mw S σ.sc ik th σ.T σ.L w) (zMQ (some (.int (jI (jrc B c g)))) 0 (jsc B c g) (jsv σ B) w) := by
  obtain ⟨ok, lk, pk, ck, lx, h, hsv, hkp⟩ := hR
  have hR : zRel B σ S ik := ⟨ok, lk, pk, ck, lx, h, hsv, hkp⟩
  have hbo := h.bo0 c hp.1.1 hp.1.2
  have hbr := jbit_r (B 11 0) c
  have hm2 : mr (jsv2 S σ.sc) 0 B := (zRel_save hR).2.2.2.2.2.1
  refine zFe.of_run (lv := [some (.ref 167), some (.int (jI c)), some (.int (jI g)), none]) (by decide) rfl (Nat.le_of_ble_eq_true rfl) rfl (fun n9 g9 => ?_)
  refine zr_iload_n dX7_claim_0 (rfl : 0 + 1 = 1) rfl ?_
  refine zr_fnS dX7_claim_1 (rfl : 1 + 3 = 4) l_X7_50 (m_isCard c (by first | omega | (simp only [bset, reduceIte, Nat.reduceEqDiff]; omega))) rfl rfl (Nat.le_of_ble_eq_true rfl) ?_
  refine zr_if_eq (tgt := 20) dX7_claim_4 (by decide) (rfl : 4 + 3 = 7) (by first | exact jb_iff | exact jI_z (by first | omega | (simp only [bset, reduceIte, Nat.reduceEqDiff]; omega)) (by first | omega | (simp only [bset, reduceIte, Nat.reduceEqDiff]; omega))) (fun h4 => ?_) (fun h4 => ?_)
  · first
    | (exfalso; omega)
    | (
      refine zr_iconst dX7_claim_20 (rfl : 20 + 1 = 21) ?_
      refine zr_istore_n (lv' := [_, _, _, _]) dX7_claim_21 (rfl : 21 + 1 = 22) (Nat.le_of_ble_eq_true rfl) rfl ?_
      refine zr_aload_n dX7_claim_22 (rfl : 22 + 1 = 23) rfl ?_
      refine zr_iload_n dX7_claim_23 (rfl : 23 + 1 = 24) rfl ?_
      refine zr_iload_n dX7_claim_24 (rfl : 24 + 1 = 25) rfl ?_
      refine zr_if_eq (tgt := 46) dX7_claim_25 (by decide) (rfl : 25 + 3 = 28) (by first | exact jb_iff | exact jI_z (by first | omega | (simp only [bset, reduceIte, Nat.reduceEqDiff]; omega)) (by first | omega | (simp only [bset, reduceIte, Nat.reduceEqDiff]; omega))) (fun h25 => ?_) (fun h25 => ?_)
      · first
        | (exfalso; omega)
        | (
          exfalso
          omega)
      · first
        | (exfalso; omega)
        | (
          refine zr_aload_n dX7_claim_28 (rfl : 28 + 1 = 29) rfl ?_
          refine zr_getf dX7_claim_29 (rfl : 29 + 3 = 32) f_X7_7 (by first | assumption | exact mw_167 | exact mw_168 | exact mw_169 | exact mw_170 | exact bk_0 | exact bk_1 | exact bk_2 | exact bk_3 | exact bk_4 | exact bk_5 | exact bk_6 | exact bk_7 | exact bk_8 | exact bk_9 | exact bk_10 | exact bk_11 | exact bk_12 | exact bk_13 | exact bk_14 | exact bk_15 | exact bk_16 | exact zup_self | exact (zup_ne (by first | assumption | omega)).trans (by first | assumption | exact zup_self) | exact (zup_ne (by first | assumption | omega)).trans ((zup_ne (by first | assumption | omega)).trans (by first | assumption | exact zup_self)) | exact (bk_out (by first | omega | (simp only [bset, reduceIte, Nat.reduceEqDiff]; omega))).trans (by first | exact bk_0 | exact bk_1 | exact bk_2 | exact bk_3 | exact bk_4 | exact bk_5 | exact bk_6 | exact bk_7 | exact bk_8 | exact bk_9 | exact bk_10 | exact bk_11 | exact bk_12 | exact bk_13 | exact bk_14 | exact bk_15 | exact bk_16 | exact cr_5 | exact cr_23 | exact cr_24 | exact cr_25 | exact cr_26 | exact cr_27 | exact cr_28 | exact cr_29 | exact cr_30 | assumption)) rfl ?_
          refine zr_sipush dX7_claim_32 (rfl : 32 + 3 = 35) (by decide) ?_
          refine zr_iload_n dX7_claim_35 (rfl : 35 + 1 = 36) rfl ?_
          refine zr_iadd dX7_claim_36 (rfl : 36 + 1 = 37) (by first | exact jI_add _ _ | rfl) ?_
          refine zr_iald dX7_claim_37 (rfl : 37 + 1 = 38) (by first | assumption | exact mw_167 | exact mw_168 | exact mw_169 | exact mw_170 | exact bk_0 | exact bk_1 | exact bk_2 | exact bk_3 | exact bk_4 | exact bk_5 | exact bk_6 | exact bk_7 | exact bk_8 | exact bk_9 | exact bk_10 | exact bk_11 | exact bk_12 | exact bk_13 | exact bk_14 | exact bk_15 | exact bk_16 | exact zup_self | exact (zup_ne (by first | assumption | omega)).trans (by first | assumption | exact zup_self) | exact (zup_ne (by first | assumption | omega)).trans ((zup_ne (by first | assumption | omega)).trans (by first | assumption | exact zup_self)) | exact (bk_out (by first | omega | (simp only [bset, reduceIte, Nat.reduceEqDiff]; omega))).trans (by first | exact bk_0 | exact bk_1 | exact bk_2 | exact bk_3 | exact bk_4 | exact bk_5 | exact bk_6 | exact bk_7 | exact bk_8 | exact bk_9 | exact bk_10 | exact bk_11 | exact bk_12 | exact bk_13 | exact bk_14 | exact bk_15 | exact bk_16 | exact cr_5 | exact cr_23 | exact cr_24 | exact cr_25 | exact cr_26 | exact cr_27 | exact cr_28 | exact cr_29 | exact cr_30 | assumption)) (by decide) (by first | omega | (simp only [bset, reduceIte, Nat.reduceEqDiff]; omega)) (by first | omega | (simp only [bset, reduceIte, Nat.reduceEqDiff]; omega)) ?_
          refine zr_iconst dX7_claim_38 (rfl : 38 + 1 = 39) ?_
          refine zr_icmp_ne (tgt := 46) dX7_claim_39 (by decide) (rfl : 39 + 3 = 42) (jI_eq (by first | omega | (simp only [bset, reduceIte, Nat.reduceEqDiff]; omega)) (by first | omega | (simp only [bset, reduceIte, Nat.reduceEqDiff]; omega)) (by first | omega | (simp only [bset, reduceIte, Nat.reduceEqDiff]; omega)) (by first | omega | (simp only [bset, reduceIte, Nat.reduceEqDiff]; omega))) (fun h39 => ?_) (fun h39 => ?_)
          · first
            | (exfalso; omega)
            | (
              exfalso
              omega)
          · first
            | (exfalso; omega)
            | (
              refine zr_iconst dX7_claim_42 (rfl : 42 + 1 = 43) ?_
              refine zr_goto (tgt := 47) dX7_claim_43 (by decide) ?_
              refine zr_iconst dX7_claim_47 (rfl : 47 + 1 = 48) ?_
              refine zr_fnV dX7_claim_48 (rfl : 48 + 3 = 51) l_X7_60 (m_go) (by first | assumption | exact mw_167 | exact mw_168 | exact mw_169 | exact mw_170 | exact bk_0 | exact bk_1 | exact bk_2 | exact bk_3 | exact bk_4 | exact bk_5 | exact bk_6 | exact bk_7 | exact bk_8 | exact bk_9 | exact bk_10 | exact bk_11 | exact bk_12 | exact bk_13 | exact bk_14 | exact bk_15 | exact bk_16 | exact zup_self | exact (zup_ne (by first | assumption | omega)).trans (by first | assumption | exact zup_self) | exact (zup_ne (by first | assumption | omega)).trans ((zup_ne (by first | assumption | omega)).trans (by first | assumption | exact zup_self)) | exact (bk_out (by first | omega | (simp only [bset, reduceIte, Nat.reduceEqDiff]; omega))).trans (by first | exact bk_0 | exact bk_1 | exact bk_2 | exact bk_3 | exact bk_4 | exact bk_5 | exact bk_6 | exact bk_7 | exact bk_8 | exact bk_9 | exact bk_10 | exact bk_11 | exact bk_12 | exact bk_13 | exact bk_14 | exact bk_15 | exact bk_16 | exact cr_5 | exact cr_23 | exact cr_24 | exact cr_25 | exact cr_26 | exact cr_27 | exact cr_28 | exact cr_29 | exact cr_30 | assumption)) rfl rfl rfl (Nat.le_of_ble_eq_true rfl) ?_
              refine zr_if_ne (tgt := 56) dX7_claim_51 (by decide) (rfl : 51 + 3 = 54) (by first | exact jb_iff | exact jI_z (by first | omega | (simp only [bset, reduceIte, Nat.reduceEqDiff]; omega)) (by first | omega | (simp only [bset, reduceIte, Nat.reduceEqDiff]; omega))) (fun h51 => ?_) (fun h51 => ?_)
              · first
                | (exfalso; omega)
                | (
                  refine zr_aload_n dX7_claim_56 (rfl : 56 + 1 = 57) rfl ?_
                  refine zr_fnV dX7_claim_57 (rfl : 57 + 3 = 60) l_X7_64 (m_saves ck.sc) (by first | assumption | exact mw_167 | exact mw_168 | exact mw_169 | exact mw_170 | exact bk_0 | exact bk_1 | exact bk_2 | exact bk_3 | exact bk_4 | exact bk_5 | exact bk_6 | exact bk_7 | exact bk_8 | exact bk_9 | exact bk_10 | exact bk_11 | exact bk_12 | exact bk_13 | exact bk_14 | exact bk_15 | exact bk_16 | exact zup_self | exact (zup_ne (by first | assumption | omega)).trans (by first | assumption | exact zup_self) | exact (zup_ne (by first | assumption | omega)).trans ((zup_ne (by first | assumption | omega)).trans (by first | assumption | exact zup_self)) | exact (bk_out (by first | omega | (simp only [bset, reduceIte, Nat.reduceEqDiff]; omega))).trans (by first | exact bk_0 | exact bk_1 | exact bk_2 | exact bk_3 | exact bk_4 | exact bk_5 | exact bk_6 | exact bk_7 | exact bk_8 | exact bk_9 | exact bk_10 | exact bk_11 | exact bk_12 | exact bk_13 | exact bk_14 | exact bk_15 | exact bk_16 | exact cr_5 | exact cr_23 | exact cr_24 | exact cr_25 | exact cr_26 | exact cr_27 | exact cr_28 | exact cr_29 | exact cr_30 | assumption)) rfl rfl rfl (Nat.le_of_ble_eq_true rfl) ?_
                  refine zr_aload_n dX7_claim_60 (rfl : 60 + 1 = 61) rfl ?_
                  refine zr_iload_n dX7_claim_61 (rfl : 61 + 1 = 62) rfl ?_
                  refine zr_iload_n dX7_claim_62 (rfl : 62 + 1 = 63) rfl ?_
                  refine zr_feV dX7_claim_63 (rfl : 63 + 3 = 66) l_X7_109 (m_claims c g hp.1 hp.2 (lk.bw c hp.1.1 hp.1.2 h2) hm2 ok lk) (by first | assumption | exact mw_167 | exact mw_168 | exact mw_169 | exact mw_170 | exact bk_0 | exact bk_1 | exact bk_2 | exact bk_3 | exact bk_4 | exact bk_5 | exact bk_6 | exact bk_7 | exact bk_8 | exact bk_9 | exact bk_10 | exact bk_11 | exact bk_12 | exact bk_13 | exact bk_14 | exact bk_15 | exact bk_16 | exact zup_self | exact (zup_ne (by first | assumption | omega)).trans (by first | assumption | exact zup_self) | exact (zup_ne (by first | assumption | omega)).trans ((zup_ne (by first | assumption | omega)).trans (by first | assumption | exact zup_self)) | exact (bk_out (by first | omega | (simp only [bset, reduceIte, Nat.reduceEqDiff]; omega))).trans (by first | exact bk_0 | exact bk_1 | exact bk_2 | exact bk_3 | exact bk_4 | exact bk_5 | exact bk_6 | exact bk_7 | exact bk_8 | exact bk_9 | exact bk_10 | exact bk_11 | exact bk_12 | exact bk_13 | exact bk_14 | exact bk_15 | exact bk_16 | exact cr_5 | exact cr_23 | exact cr_24 | exact cr_25 | exact cr_26 | exact cr_27 | exact cr_28 | exact cr_29 | exact cr_30 | assumption)) rfl rfl rfl (Nat.le_of_ble_eq_true rfl) ?_
                  rintro _ _ ⟨rfl, S63, hS63, rfl⟩
                  refine zr_ireE dX7_claim_66 rfl rfl ?_
                  exact ⟨rfl, _, _, zRel_upd (zRel_save hR) (jok_sc ok hp.1) (jlk_sc ok lk hp.1 hp.2 h2) (jpk_sc pk) hS63.1 hS63.2, rfl⟩)
              · first
                | (exfalso; omega)
                | (
                  exfalso
                  omega))))
  · first
    | (exfalso; omega)
    | (
      refine zr_iload_n dX7_claim_7 (rfl : 7 + 1 = 8) rfl ?_
      refine zr_iconst dX7_claim_8 (rfl : 8 + 1 = 9) ?_
      refine zr_iconst dX7_claim_9 (rfl : 9 + 1 = 10) ?_
      refine zr_fnS dX7_claim_10 (rfl : 10 + 3 = 13) l_X7_32 (m_in g 0 3 (by first | omega | (simp only [bset, reduceIte, Nat.reduceEqDiff]; omega)) (by first | omega | (simp only [bset, reduceIte, Nat.reduceEqDiff]; omega)) (by first | omega | (simp only [bset, reduceIte, Nat.reduceEqDiff]; omega))) rfl rfl (Nat.le_of_ble_eq_true rfl) ?_
      refine zr_if_eq (tgt := 20) dX7_claim_13 (by decide) (rfl : 13 + 3 = 16) (by first | exact jb_iff | exact jI_z (by first | omega | (simp only [bset, reduceIte, Nat.reduceEqDiff]; omega)) (by first | omega | (simp only [bset, reduceIte, Nat.reduceEqDiff]; omega))) (fun h13 => ?_) (fun h13 => ?_)
      · first
        | (exfalso; omega)
        | (
          refine zr_iconst dX7_claim_20 (rfl : 20 + 1 = 21) ?_
          refine zr_istore_n (lv' := [_, _, _, _]) dX7_claim_21 (rfl : 21 + 1 = 22) (Nat.le_of_ble_eq_true rfl) rfl ?_
          refine zr_aload_n dX7_claim_22 (rfl : 22 + 1 = 23) rfl ?_
          refine zr_iload_n dX7_claim_23 (rfl : 23 + 1 = 24) rfl ?_
          refine zr_iload_n dX7_claim_24 (rfl : 24 + 1 = 25) rfl ?_
          refine zr_if_eq (tgt := 46) dX7_claim_25 (by decide) (rfl : 25 + 3 = 28) (by first | exact jb_iff | exact jI_z (by first | omega | (simp only [bset, reduceIte, Nat.reduceEqDiff]; omega)) (by first | omega | (simp only [bset, reduceIte, Nat.reduceEqDiff]; omega))) (fun h25 => ?_) (fun h25 => ?_)
          · first
            | (exfalso; omega)
            | (
              exfalso
              omega)
          · first
            | (exfalso; omega)
            | (
              refine zr_aload_n dX7_claim_28 (rfl : 28 + 1 = 29) rfl ?_
              refine zr_getf dX7_claim_29 (rfl : 29 + 3 = 32) f_X7_7 (by first | assumption | exact mw_167 | exact mw_168 | exact mw_169 | exact mw_170 | exact bk_0 | exact bk_1 | exact bk_2 | exact bk_3 | exact bk_4 | exact bk_5 | exact bk_6 | exact bk_7 | exact bk_8 | exact bk_9 | exact bk_10 | exact bk_11 | exact bk_12 | exact bk_13 | exact bk_14 | exact bk_15 | exact bk_16 | exact zup_self | exact (zup_ne (by first | assumption | omega)).trans (by first | assumption | exact zup_self) | exact (zup_ne (by first | assumption | omega)).trans ((zup_ne (by first | assumption | omega)).trans (by first | assumption | exact zup_self)) | exact (bk_out (by first | omega | (simp only [bset, reduceIte, Nat.reduceEqDiff]; omega))).trans (by first | exact bk_0 | exact bk_1 | exact bk_2 | exact bk_3 | exact bk_4 | exact bk_5 | exact bk_6 | exact bk_7 | exact bk_8 | exact bk_9 | exact bk_10 | exact bk_11 | exact bk_12 | exact bk_13 | exact bk_14 | exact bk_15 | exact bk_16 | exact cr_5 | exact cr_23 | exact cr_24 | exact cr_25 | exact cr_26 | exact cr_27 | exact cr_28 | exact cr_29 | exact cr_30 | assumption)) rfl ?_
              refine zr_sipush dX7_claim_32 (rfl : 32 + 3 = 35) (by decide) ?_
              refine zr_iload_n dX7_claim_35 (rfl : 35 + 1 = 36) rfl ?_
              refine zr_iadd dX7_claim_36 (rfl : 36 + 1 = 37) (by first | exact jI_add _ _ | rfl) ?_
              refine zr_iald dX7_claim_37 (rfl : 37 + 1 = 38) (by first | assumption | exact mw_167 | exact mw_168 | exact mw_169 | exact mw_170 | exact bk_0 | exact bk_1 | exact bk_2 | exact bk_3 | exact bk_4 | exact bk_5 | exact bk_6 | exact bk_7 | exact bk_8 | exact bk_9 | exact bk_10 | exact bk_11 | exact bk_12 | exact bk_13 | exact bk_14 | exact bk_15 | exact bk_16 | exact zup_self | exact (zup_ne (by first | assumption | omega)).trans (by first | assumption | exact zup_self) | exact (zup_ne (by first | assumption | omega)).trans ((zup_ne (by first | assumption | omega)).trans (by first | assumption | exact zup_self)) | exact (bk_out (by first | omega | (simp only [bset, reduceIte, Nat.reduceEqDiff]; omega))).trans (by first | exact bk_0 | exact bk_1 | exact bk_2 | exact bk_3 | exact bk_4 | exact bk_5 | exact bk_6 | exact bk_7 | exact bk_8 | exact bk_9 | exact bk_10 | exact bk_11 | exact bk_12 | exact bk_13 | exact bk_14 | exact bk_15 | exact bk_16 | exact cr_5 | exact cr_23 | exact cr_24 | exact cr_25 | exact cr_26 | exact cr_27 | exact cr_28 | exact cr_29 | exact cr_30 | assumption)) (by decide) (by first | omega | (simp only [bset, reduceIte, Nat.reduceEqDiff]; omega)) (by first | omega | (simp only [bset, reduceIte, Nat.reduceEqDiff]; omega)) ?_
              refine zr_iconst dX7_claim_38 (rfl : 38 + 1 = 39) ?_
              refine zr_icmp_ne (tgt := 46) dX7_claim_39 (by decide) (rfl : 39 + 3 = 42) (jI_eq (by first | omega | (simp only [bset, reduceIte, Nat.reduceEqDiff]; omega)) (by first | omega | (simp only [bset, reduceIte, Nat.reduceEqDiff]; omega)) (by first | omega | (simp only [bset, reduceIte, Nat.reduceEqDiff]; omega)) (by first | omega | (simp only [bset, reduceIte, Nat.reduceEqDiff]; omega))) (fun h39 => ?_) (fun h39 => ?_)
              · first
                | (exfalso; omega)
                | (
                  exfalso
                  omega)
              · first
                | (exfalso; omega)
                | (
                  refine zr_iconst dX7_claim_42 (rfl : 42 + 1 = 43) ?_
                  refine zr_goto (tgt := 47) dX7_claim_43 (by decide) ?_
                  refine zr_iconst dX7_claim_47 (rfl : 47 + 1 = 48) ?_
                  refine zr_fnV dX7_claim_48 (rfl : 48 + 3 = 51) l_X7_60 (m_go) (by first | assumption | exact mw_167 | exact mw_168 | exact mw_169 | exact mw_170 | exact bk_0 | exact bk_1 | exact bk_2 | exact bk_3 | exact bk_4 | exact bk_5 | exact bk_6 | exact bk_7 | exact bk_8 | exact bk_9 | exact bk_10 | exact bk_11 | exact bk_12 | exact bk_13 | exact bk_14 | exact bk_15 | exact bk_16 | exact zup_self | exact (zup_ne (by first | assumption | omega)).trans (by first | assumption | exact zup_self) | exact (zup_ne (by first | assumption | omega)).trans ((zup_ne (by first | assumption | omega)).trans (by first | assumption | exact zup_self)) | exact (bk_out (by first | omega | (simp only [bset, reduceIte, Nat.reduceEqDiff]; omega))).trans (by first | exact bk_0 | exact bk_1 | exact bk_2 | exact bk_3 | exact bk_4 | exact bk_5 | exact bk_6 | exact bk_7 | exact bk_8 | exact bk_9 | exact bk_10 | exact bk_11 | exact bk_12 | exact bk_13 | exact bk_14 | exact bk_15 | exact bk_16 | exact cr_5 | exact cr_23 | exact cr_24 | exact cr_25 | exact cr_26 | exact cr_27 | exact cr_28 | exact cr_29 | exact cr_30 | assumption)) rfl rfl rfl (Nat.le_of_ble_eq_true rfl) ?_
                  refine zr_if_ne (tgt := 56) dX7_claim_51 (by decide) (rfl : 51 + 3 = 54) (by first | exact jb_iff | exact jI_z (by first | omega | (simp only [bset, reduceIte, Nat.reduceEqDiff]; omega)) (by first | omega | (simp only [bset, reduceIte, Nat.reduceEqDiff]; omega))) (fun h51 => ?_) (fun h51 => ?_)
                  · first
                    | (exfalso; omega)
                    | (
                      refine zr_aload_n dX7_claim_56 (rfl : 56 + 1 = 57) rfl ?_
                      refine zr_fnV dX7_claim_57 (rfl : 57 + 3 = 60) l_X7_64 (m_saves ck.sc) (by first | assumption | exact mw_167 | exact mw_168 | exact mw_169 | exact mw_170 | exact bk_0 | exact bk_1 | exact bk_2 | exact bk_3 | exact bk_4 | exact bk_5 | exact bk_6 | exact bk_7 | exact bk_8 | exact bk_9 | exact bk_10 | exact bk_11 | exact bk_12 | exact bk_13 | exact bk_14 | exact bk_15 | exact bk_16 | exact zup_self | exact (zup_ne (by first | assumption | omega)).trans (by first | assumption | exact zup_self) | exact (zup_ne (by first | assumption | omega)).trans ((zup_ne (by first | assumption | omega)).trans (by first | assumption | exact zup_self)) | exact (bk_out (by first | omega | (simp only [bset, reduceIte, Nat.reduceEqDiff]; omega))).trans (by first | exact bk_0 | exact bk_1 | exact bk_2 | exact bk_3 | exact bk_4 | exact bk_5 | exact bk_6 | exact bk_7 | exact bk_8 | exact bk_9 | exact bk_10 | exact bk_11 | exact bk_12 | exact bk_13 | exact bk_14 | exact bk_15 | exact bk_16 | exact cr_5 | exact cr_23 | exact cr_24 | exact cr_25 | exact cr_26 | exact cr_27 | exact cr_28 | exact cr_29 | exact cr_30 | assumption)) rfl rfl rfl (Nat.le_of_ble_eq_true rfl) ?_
                      refine zr_aload_n dX7_claim_60 (rfl : 60 + 1 = 61) rfl ?_
                      refine zr_iload_n dX7_claim_61 (rfl : 61 + 1 = 62) rfl ?_
                      refine zr_iload_n dX7_claim_62 (rfl : 62 + 1 = 63) rfl ?_
                      refine zr_feV dX7_claim_63 (rfl : 63 + 3 = 66) l_X7_109 (m_claims c g hp.1 hp.2 (lk.bw c hp.1.1 hp.1.2 h2) hm2 ok lk) (by first | assumption | exact mw_167 | exact mw_168 | exact mw_169 | exact mw_170 | exact bk_0 | exact bk_1 | exact bk_2 | exact bk_3 | exact bk_4 | exact bk_5 | exact bk_6 | exact bk_7 | exact bk_8 | exact bk_9 | exact bk_10 | exact bk_11 | exact bk_12 | exact bk_13 | exact bk_14 | exact bk_15 | exact bk_16 | exact zup_self | exact (zup_ne (by first | assumption | omega)).trans (by first | assumption | exact zup_self) | exact (zup_ne (by first | assumption | omega)).trans ((zup_ne (by first | assumption | omega)).trans (by first | assumption | exact zup_self)) | exact (bk_out (by first | omega | (simp only [bset, reduceIte, Nat.reduceEqDiff]; omega))).trans (by first | exact bk_0 | exact bk_1 | exact bk_2 | exact bk_3 | exact bk_4 | exact bk_5 | exact bk_6 | exact bk_7 | exact bk_8 | exact bk_9 | exact bk_10 | exact bk_11 | exact bk_12 | exact bk_13 | exact bk_14 | exact bk_15 | exact bk_16 | exact cr_5 | exact cr_23 | exact cr_24 | exact cr_25 | exact cr_26 | exact cr_27 | exact cr_28 | exact cr_29 | exact cr_30 | assumption)) rfl rfl rfl (Nat.le_of_ble_eq_true rfl) ?_
                      rintro _ _ ⟨rfl, S63, hS63, rfl⟩
                      refine zr_ireE dX7_claim_66 rfl rfl ?_
                      exact ⟨rfl, _, _, zRel_upd (zRel_save hR) (jok_sc ok hp.1) (jlk_sc ok lk hp.1 hp.2 h2) (jpk_sc pk) hS63.1 hS63.2, rfl⟩)
                  · first
                    | (exfalso; omega)
                    | (
                      exfalso
                      omega))))
      · first
        | (exfalso; omega)
        | (
          refine zr_iconst dX7_claim_16 (rfl : 16 + 1 = 17) ?_
          refine zr_goto (tgt := 21) dX7_claim_17 (by decide) ?_
          refine zr_istore_n (lv' := [_, _, _, _]) dX7_claim_21 (rfl : 21 + 1 = 22) (Nat.le_of_ble_eq_true rfl) rfl ?_
          refine zr_aload_n dX7_claim_22 (rfl : 22 + 1 = 23) rfl ?_
          refine zr_iload_n dX7_claim_23 (rfl : 23 + 1 = 24) rfl ?_
          refine zr_iload_n dX7_claim_24 (rfl : 24 + 1 = 25) rfl ?_
          refine zr_if_eq (tgt := 46) dX7_claim_25 (by decide) (rfl : 25 + 3 = 28) (by first | exact jb_iff | exact jI_z (by first | omega | (simp only [bset, reduceIte, Nat.reduceEqDiff]; omega)) (by first | omega | (simp only [bset, reduceIte, Nat.reduceEqDiff]; omega))) (fun h25 => ?_) (fun h25 => ?_)
          · first
            | (exfalso; omega)
            | (
              exfalso
              omega)
          · first
            | (exfalso; omega)
            | (
              refine zr_aload_n dX7_claim_28 (rfl : 28 + 1 = 29) rfl ?_
              refine zr_getf dX7_claim_29 (rfl : 29 + 3 = 32) f_X7_7 (by first | assumption | exact mw_167 | exact mw_168 | exact mw_169 | exact mw_170 | exact bk_0 | exact bk_1 | exact bk_2 | exact bk_3 | exact bk_4 | exact bk_5 | exact bk_6 | exact bk_7 | exact bk_8 | exact bk_9 | exact bk_10 | exact bk_11 | exact bk_12 | exact bk_13 | exact bk_14 | exact bk_15 | exact bk_16 | exact zup_self | exact (zup_ne (by first | assumption | omega)).trans (by first | assumption | exact zup_self) | exact (zup_ne (by first | assumption | omega)).trans ((zup_ne (by first | assumption | omega)).trans (by first | assumption | exact zup_self)) | exact (bk_out (by first | omega | (simp only [bset, reduceIte, Nat.reduceEqDiff]; omega))).trans (by first | exact bk_0 | exact bk_1 | exact bk_2 | exact bk_3 | exact bk_4 | exact bk_5 | exact bk_6 | exact bk_7 | exact bk_8 | exact bk_9 | exact bk_10 | exact bk_11 | exact bk_12 | exact bk_13 | exact bk_14 | exact bk_15 | exact bk_16 | exact cr_5 | exact cr_23 | exact cr_24 | exact cr_25 | exact cr_26 | exact cr_27 | exact cr_28 | exact cr_29 | exact cr_30 | assumption)) rfl ?_
              refine zr_sipush dX7_claim_32 (rfl : 32 + 3 = 35) (by decide) ?_
              refine zr_iload_n dX7_claim_35 (rfl : 35 + 1 = 36) rfl ?_
              refine zr_iadd dX7_claim_36 (rfl : 36 + 1 = 37) (by first | exact jI_add _ _ | rfl) ?_
              refine zr_iald dX7_claim_37 (rfl : 37 + 1 = 38) (by first | assumption | exact mw_167 | exact mw_168 | exact mw_169 | exact mw_170 | exact bk_0 | exact bk_1 | exact bk_2 | exact bk_3 | exact bk_4 | exact bk_5 | exact bk_6 | exact bk_7 | exact bk_8 | exact bk_9 | exact bk_10 | exact bk_11 | exact bk_12 | exact bk_13 | exact bk_14 | exact bk_15 | exact bk_16 | exact zup_self | exact (zup_ne (by first | assumption | omega)).trans (by first | assumption | exact zup_self) | exact (zup_ne (by first | assumption | omega)).trans ((zup_ne (by first | assumption | omega)).trans (by first | assumption | exact zup_self)) | exact (bk_out (by first | omega | (simp only [bset, reduceIte, Nat.reduceEqDiff]; omega))).trans (by first | exact bk_0 | exact bk_1 | exact bk_2 | exact bk_3 | exact bk_4 | exact bk_5 | exact bk_6 | exact bk_7 | exact bk_8 | exact bk_9 | exact bk_10 | exact bk_11 | exact bk_12 | exact bk_13 | exact bk_14 | exact bk_15 | exact bk_16 | exact cr_5 | exact cr_23 | exact cr_24 | exact cr_25 | exact cr_26 | exact cr_27 | exact cr_28 | exact cr_29 | exact cr_30 | assumption)) (by decide) (by first | omega | (simp only [bset, reduceIte, Nat.reduceEqDiff]; omega)) (by first | omega | (simp only [bset, reduceIte, Nat.reduceEqDiff]; omega)) ?_
              refine zr_iconst dX7_claim_38 (rfl : 38 + 1 = 39) ?_
              refine zr_icmp_ne (tgt := 46) dX7_claim_39 (by decide) (rfl : 39 + 3 = 42) (jI_eq (by first | omega | (simp only [bset, reduceIte, Nat.reduceEqDiff]; omega)) (by first | omega | (simp only [bset, reduceIte, Nat.reduceEqDiff]; omega)) (by first | omega | (simp only [bset, reduceIte, Nat.reduceEqDiff]; omega)) (by first | omega | (simp only [bset, reduceIte, Nat.reduceEqDiff]; omega))) (fun h39 => ?_) (fun h39 => ?_)
              · first
                | (exfalso; omega)
                | (
                  exfalso
                  omega)
              · first
                | (exfalso; omega)
                | (
                  refine zr_iconst dX7_claim_42 (rfl : 42 + 1 = 43) ?_
                  refine zr_goto (tgt := 47) dX7_claim_43 (by decide) ?_
                  refine zr_iconst dX7_claim_47 (rfl : 47 + 1 = 48) ?_
                  refine zr_fnV dX7_claim_48 (rfl : 48 + 3 = 51) l_X7_60 (m_go) (by first | assumption | exact mw_167 | exact mw_168 | exact mw_169 | exact mw_170 | exact bk_0 | exact bk_1 | exact bk_2 | exact bk_3 | exact bk_4 | exact bk_5 | exact bk_6 | exact bk_7 | exact bk_8 | exact bk_9 | exact bk_10 | exact bk_11 | exact bk_12 | exact bk_13 | exact bk_14 | exact bk_15 | exact bk_16 | exact zup_self | exact (zup_ne (by first | assumption | omega)).trans (by first | assumption | exact zup_self) | exact (zup_ne (by first | assumption | omega)).trans ((zup_ne (by first | assumption | omega)).trans (by first | assumption | exact zup_self)) | exact (bk_out (by first | omega | (simp only [bset, reduceIte, Nat.reduceEqDiff]; omega))).trans (by first | exact bk_0 | exact bk_1 | exact bk_2 | exact bk_3 | exact bk_4 | exact bk_5 | exact bk_6 | exact bk_7 | exact bk_8 | exact bk_9 | exact bk_10 | exact bk_11 | exact bk_12 | exact bk_13 | exact bk_14 | exact bk_15 | exact bk_16 | exact cr_5 | exact cr_23 | exact cr_24 | exact cr_25 | exact cr_26 | exact cr_27 | exact cr_28 | exact cr_29 | exact cr_30 | assumption)) rfl rfl rfl (Nat.le_of_ble_eq_true rfl) ?_
                  refine zr_if_ne (tgt := 56) dX7_claim_51 (by decide) (rfl : 51 + 3 = 54) (by first | exact jb_iff | exact jI_z (by first | omega | (simp only [bset, reduceIte, Nat.reduceEqDiff]; omega)) (by first | omega | (simp only [bset, reduceIte, Nat.reduceEqDiff]; omega))) (fun h51 => ?_) (fun h51 => ?_)
                  · first
                    | (exfalso; omega)
                    | (
                      refine zr_aload_n dX7_claim_56 (rfl : 56 + 1 = 57) rfl ?_
                      refine zr_fnV dX7_claim_57 (rfl : 57 + 3 = 60) l_X7_64 (m_saves ck.sc) (by first | assumption | exact mw_167 | exact mw_168 | exact mw_169 | exact mw_170 | exact bk_0 | exact bk_1 | exact bk_2 | exact bk_3 | exact bk_4 | exact bk_5 | exact bk_6 | exact bk_7 | exact bk_8 | exact bk_9 | exact bk_10 | exact bk_11 | exact bk_12 | exact bk_13 | exact bk_14 | exact bk_15 | exact bk_16 | exact zup_self | exact (zup_ne (by first | assumption | omega)).trans (by first | assumption | exact zup_self) | exact (zup_ne (by first | assumption | omega)).trans ((zup_ne (by first | assumption | omega)).trans (by first | assumption | exact zup_self)) | exact (bk_out (by first | omega | (simp only [bset, reduceIte, Nat.reduceEqDiff]; omega))).trans (by first | exact bk_0 | exact bk_1 | exact bk_2 | exact bk_3 | exact bk_4 | exact bk_5 | exact bk_6 | exact bk_7 | exact bk_8 | exact bk_9 | exact bk_10 | exact bk_11 | exact bk_12 | exact bk_13 | exact bk_14 | exact bk_15 | exact bk_16 | exact cr_5 | exact cr_23 | exact cr_24 | exact cr_25 | exact cr_26 | exact cr_27 | exact cr_28 | exact cr_29 | exact cr_30 | assumption)) rfl rfl rfl (Nat.le_of_ble_eq_true rfl) ?_
                      refine zr_aload_n dX7_claim_60 (rfl : 60 + 1 = 61) rfl ?_
                      refine zr_iload_n dX7_claim_61 (rfl : 61 + 1 = 62) rfl ?_
                      refine zr_iload_n dX7_claim_62 (rfl : 62 + 1 = 63) rfl ?_
                      refine zr_feV dX7_claim_63 (rfl : 63 + 3 = 66) l_X7_109 (m_claims c g hp.1 hp.2 (lk.bw c hp.1.1 hp.1.2 h2) hm2 ok lk) (by first | assumption | exact mw_167 | exact mw_168 | exact mw_169 | exact mw_170 | exact bk_0 | exact bk_1 | exact bk_2 | exact bk_3 | exact bk_4 | exact bk_5 | exact bk_6 | exact bk_7 | exact bk_8 | exact bk_9 | exact bk_10 | exact bk_11 | exact bk_12 | exact bk_13 | exact bk_14 | exact bk_15 | exact bk_16 | exact zup_self | exact (zup_ne (by first | assumption | omega)).trans (by first | assumption | exact zup_self) | exact (zup_ne (by first | assumption | omega)).trans ((zup_ne (by first | assumption | omega)).trans (by first | assumption | exact zup_self)) | exact (bk_out (by first | omega | (simp only [bset, reduceIte, Nat.reduceEqDiff]; omega))).trans (by first | exact bk_0 | exact bk_1 | exact bk_2 | exact bk_3 | exact bk_4 | exact bk_5 | exact bk_6 | exact bk_7 | exact bk_8 | exact bk_9 | exact bk_10 | exact bk_11 | exact bk_12 | exact bk_13 | exact bk_14 | exact bk_15 | exact bk_16 | exact cr_5 | exact cr_23 | exact cr_24 | exact cr_25 | exact cr_26 | exact cr_27 | exact cr_28 | exact cr_29 | exact cr_30 | assumption)) rfl rfl rfl (Nat.le_of_ble_eq_true rfl) ?_
                      rintro _ _ ⟨rfl, S63, hS63, rfl⟩
                      refine zr_ireE dX7_claim_66 rfl rfl ?_
                      exact ⟨rfl, _, _, zRel_upd (zRel_save hR) (jok_sc ok hp.1) (jlk_sc ok lk hp.1 hp.2 h2) (jpk_sc pk) hS63.1 hS63.2, rfl⟩)
                  · first
                    | (exfalso; omega)
                    | (
                      exfalso
                      omega)))))
theorem p_append1 (x : Int) (hx : j32 x) (hp : ¬ (33 ≤ x ∧ x ≤ 126))  (hR : zRel B σ S ik) : zFe Γ md_X7_append (d + 8) [.ref 167, .int (jI x)] (mw S σ.sc ik th σ.T σ.L w) (zMQ (some (.int (jI 0))) 1 (B) (σ) w) := by
  obtain ⟨ok, lk, pk, ck, lx, h, hsv, hkp⟩ := hR
  have hR : zRel B σ S ik := ⟨ok, lk, pk, ck, lx, h, hsv, hkp⟩
  have hL := ck.L
  refine zFe.of_run (lv := [some (.ref 167), some (.int (jI x))]) (by decide) rfl (Nat.le_of_ble_eq_true rfl) rfl (fun n9 g9 => ?_)
  refine zr_aload_n dX7_append_0 (rfl : 0 + 1 = 1) rfl ?_
  refine zr_iload_n dX7_append_1 (rfl : 1 + 1 = 2) rfl ?_
  refine zr_bipush dX7_append_2 (rfl : 2 + 2 = 4) (by decide) ?_
  refine zr_bipush dX7_append_4 (rfl : 4 + 2 = 6) (by decide) ?_
  refine zr_fnS dX7_append_6 (rfl : 6 + 3 = 9) l_X7_32 (m_in x 33 126 hx (by first | omega | (simp only [bset, reduceIte, Nat.reduceEqDiff]; omega)) (by first | omega | (simp only [bset, reduceIte, Nat.reduceEqDiff]; omega))) rfl rfl (Nat.le_of_ble_eq_true rfl) ?_
  rw [jb_neg (by omega)]
  refine zr_aload_n dX7_append_9 (rfl : 9 + 1 = 10) rfl ?_
  refine zr_getf dX7_append_10 (rfl : 10 + 3 = 13) f_X7_121 (by first | assumption | exact mw_167 | exact mw_168 | exact mw_169 | exact mw_170 | exact bk_0 | exact bk_1 | exact bk_2 | exact bk_3 | exact bk_4 | exact bk_5 | exact bk_6 | exact bk_7 | exact bk_8 | exact bk_9 | exact bk_10 | exact bk_11 | exact bk_12 | exact bk_13 | exact bk_14 | exact bk_15 | exact bk_16 | exact zup_self | exact (zup_ne (by first | assumption | omega)).trans (by first | assumption | exact zup_self) | exact (zup_ne (by first | assumption | omega)).trans ((zup_ne (by first | assumption | omega)).trans (by first | assumption | exact zup_self)) | exact (bk_out (by first | omega | (simp only [bset, reduceIte, Nat.reduceEqDiff]; omega))).trans (by first | exact bk_0 | exact bk_1 | exact bk_2 | exact bk_3 | exact bk_4 | exact bk_5 | exact bk_6 | exact bk_7 | exact bk_8 | exact bk_9 | exact bk_10 | exact bk_11 | exact bk_12 | exact bk_13 | exact bk_14 | exact bk_15 | exact bk_16 | exact cr_5 | exact cr_23 | exact cr_24 | exact cr_25 | exact cr_26 | exact cr_27 | exact cr_28 | exact cr_29 | exact cr_30 | assumption)) rfl ?_
  refine zr_bipush dX7_append_13 (rfl : 13 + 2 = 15) (by decide) ?_
  refine zr_icmp_ge (tgt := 22) dX7_append_15 (by decide) (rfl : 15 + 3 = 18) (jI_le (by first | omega | (simp only [bset, reduceIte, Nat.reduceEqDiff]; omega)) (by first | omega | (simp only [bset, reduceIte, Nat.reduceEqDiff]; omega)) (by first | omega | (simp only [bset, reduceIte, Nat.reduceEqDiff]; omega)) (by first | omega | (simp only [bset, reduceIte, Nat.reduceEqDiff]; omega))) (fun h15 => ?_) (fun h15 => ?_)
  · first
    | (exfalso; omega)
    | (
      refine zr_iconst dX7_append_22 (rfl : 22 + 1 = 23) ?_
      refine zr_iconst dX7_append_23 (rfl : 23 + 1 = 24) ?_
      refine zr_fnV dX7_append_24 (rfl : 24 + 3 = 27) l_X7_60 (m_go1 _ _) (by first | assumption | exact mw_167 | exact mw_168 | exact mw_169 | exact mw_170 | exact bk_0 | exact bk_1 | exact bk_2 | exact bk_3 | exact bk_4 | exact bk_5 | exact bk_6 | exact bk_7 | exact bk_8 | exact bk_9 | exact bk_10 | exact bk_11 | exact bk_12 | exact bk_13 | exact bk_14 | exact bk_15 | exact bk_16 | exact zup_self | exact (zup_ne (by first | assumption | omega)).trans (by first | assumption | exact zup_self) | exact (zup_ne (by first | assumption | omega)).trans ((zup_ne (by first | assumption | omega)).trans (by first | assumption | exact zup_self)) | exact (bk_out (by first | omega | (simp only [bset, reduceIte, Nat.reduceEqDiff]; omega))).trans (by first | exact bk_0 | exact bk_1 | exact bk_2 | exact bk_3 | exact bk_4 | exact bk_5 | exact bk_6 | exact bk_7 | exact bk_8 | exact bk_9 | exact bk_10 | exact bk_11 | exact bk_12 | exact bk_13 | exact bk_14 | exact bk_15 | exact bk_16 | exact cr_5 | exact cr_23 | exact cr_24 | exact cr_25 | exact cr_26 | exact cr_27 | exact cr_28 | exact cr_29 | exact cr_30 | assumption)) rfl rfl rfl (Nat.le_of_ble_eq_true rfl) ?_
      refine zr_if_ne (tgt := 32) dX7_append_27 (by decide) (rfl : 27 + 3 = 30) (by first | exact jb_iff | exact jI_z (by first | omega | (simp only [bset, reduceIte, Nat.reduceEqDiff]; omega)) (by first | omega | (simp only [bset, reduceIte, Nat.reduceEqDiff]; omega))) (fun h27 => ?_) (fun h27 => ?_)
      · first
        | (exfalso; omega)
        | (
          exfalso
          omega)
      · first
        | (exfalso; omega)
        | (
          refine zr_iconst dX7_append_30 (rfl : 30 + 1 = 31) ?_
          refine zr_ireE dX7_append_31 rfl rfl ?_
          exact ⟨rfl, S, ik, hR, rfl⟩))
  · first
    | (exfalso; omega)
    | (
      refine zr_iconst dX7_append_18 (rfl : 18 + 1 = 19) ?_
      refine zr_goto (tgt := 23) dX7_append_19 (by decide) ?_
      refine zr_iconst dX7_append_23 (rfl : 23 + 1 = 24) ?_
      refine zr_fnV dX7_append_24 (rfl : 24 + 3 = 27) l_X7_60 (m_go1 _ _) (by first | assumption | exact mw_167 | exact mw_168 | exact mw_169 | exact mw_170 | exact bk_0 | exact bk_1 | exact bk_2 | exact bk_3 | exact bk_4 | exact bk_5 | exact bk_6 | exact bk_7 | exact bk_8 | exact bk_9 | exact bk_10 | exact bk_11 | exact bk_12 | exact bk_13 | exact bk_14 | exact bk_15 | exact bk_16 | exact zup_self | exact (zup_ne (by first | assumption | omega)).trans (by first | assumption | exact zup_self) | exact (zup_ne (by first | assumption | omega)).trans ((zup_ne (by first | assumption | omega)).trans (by first | assumption | exact zup_self)) | exact (bk_out (by first | omega | (simp only [bset, reduceIte, Nat.reduceEqDiff]; omega))).trans (by first | exact bk_0 | exact bk_1 | exact bk_2 | exact bk_3 | exact bk_4 | exact bk_5 | exact bk_6 | exact bk_7 | exact bk_8 | exact bk_9 | exact bk_10 | exact bk_11 | exact bk_12 | exact bk_13 | exact bk_14 | exact bk_15 | exact bk_16 | exact cr_5 | exact cr_23 | exact cr_24 | exact cr_25 | exact cr_26 | exact cr_27 | exact cr_28 | exact cr_29 | exact cr_30 | assumption)) rfl rfl rfl (Nat.le_of_ble_eq_true rfl) ?_
      refine zr_if_ne (tgt := 32) dX7_append_27 (by decide) (rfl : 27 + 3 = 30) (by first | exact jb_iff | exact jI_z (by first | omega | (simp only [bset, reduceIte, Nat.reduceEqDiff]; omega)) (by first | omega | (simp only [bset, reduceIte, Nat.reduceEqDiff]; omega))) (fun h27 => ?_) (fun h27 => ?_)
      · first
        | (exfalso; omega)
        | (
          exfalso
          omega)
      · first
        | (exfalso; omega)
        | (
          refine zr_iconst dX7_append_30 (rfl : 30 + 1 = 31) ?_
          refine zr_ireE dX7_append_31 rfl rfl ?_
          exact ⟨rfl, S, ik, hR, rfl⟩))
theorem p_append2 (x : Int) (hp : 33 ≤ x ∧ x ≤ 126) (h2 : ¬ σ.L < 60)  (hR : zRel B σ S ik) : zFe Γ md_X7_append (d + 8) [.ref 167, .int (jI x)] (mw S σ.sc ik th σ.T σ.L w) (zMQ (some (.int (jI 0))) 2 (B) (σ) w) := by
  obtain ⟨ok, lk, pk, ck, lx, h, hsv, hkp⟩ := hR
  have hR : zRel B σ S ik := ⟨ok, lk, pk, ck, lx, h, hsv, hkp⟩
  have hL := ck.L
  refine zFe.of_run (lv := [some (.ref 167), some (.int (jI x))]) (by decide) rfl (Nat.le_of_ble_eq_true rfl) rfl (fun n9 g9 => ?_)
  refine zr_aload_n dX7_append_0 (rfl : 0 + 1 = 1) rfl ?_
  refine zr_iload_n dX7_append_1 (rfl : 1 + 1 = 2) rfl ?_
  refine zr_bipush dX7_append_2 (rfl : 2 + 2 = 4) (by decide) ?_
  refine zr_bipush dX7_append_4 (rfl : 4 + 2 = 6) (by decide) ?_
  refine zr_fnS dX7_append_6 (rfl : 6 + 3 = 9) l_X7_32 (m_in x 33 126 (by first | omega | (simp only [bset, reduceIte, Nat.reduceEqDiff]; omega)) (by first | omega | (simp only [bset, reduceIte, Nat.reduceEqDiff]; omega)) (by first | omega | (simp only [bset, reduceIte, Nat.reduceEqDiff]; omega))) rfl rfl (Nat.le_of_ble_eq_true rfl) ?_
  rw [jb_pos (by omega)]
  refine zr_aload_n dX7_append_9 (rfl : 9 + 1 = 10) rfl ?_
  refine zr_getf dX7_append_10 (rfl : 10 + 3 = 13) f_X7_121 (by first | assumption | exact mw_167 | exact mw_168 | exact mw_169 | exact mw_170 | exact bk_0 | exact bk_1 | exact bk_2 | exact bk_3 | exact bk_4 | exact bk_5 | exact bk_6 | exact bk_7 | exact bk_8 | exact bk_9 | exact bk_10 | exact bk_11 | exact bk_12 | exact bk_13 | exact bk_14 | exact bk_15 | exact bk_16 | exact zup_self | exact (zup_ne (by first | assumption | omega)).trans (by first | assumption | exact zup_self) | exact (zup_ne (by first | assumption | omega)).trans ((zup_ne (by first | assumption | omega)).trans (by first | assumption | exact zup_self)) | exact (bk_out (by first | omega | (simp only [bset, reduceIte, Nat.reduceEqDiff]; omega))).trans (by first | exact bk_0 | exact bk_1 | exact bk_2 | exact bk_3 | exact bk_4 | exact bk_5 | exact bk_6 | exact bk_7 | exact bk_8 | exact bk_9 | exact bk_10 | exact bk_11 | exact bk_12 | exact bk_13 | exact bk_14 | exact bk_15 | exact bk_16 | exact cr_5 | exact cr_23 | exact cr_24 | exact cr_25 | exact cr_26 | exact cr_27 | exact cr_28 | exact cr_29 | exact cr_30 | assumption)) rfl ?_
  refine zr_bipush dX7_append_13 (rfl : 13 + 2 = 15) (by decide) ?_
  refine zr_icmp_ge (tgt := 22) dX7_append_15 (by decide) (rfl : 15 + 3 = 18) (jI_le (by first | omega | (simp only [bset, reduceIte, Nat.reduceEqDiff]; omega)) (by first | omega | (simp only [bset, reduceIte, Nat.reduceEqDiff]; omega)) (by first | omega | (simp only [bset, reduceIte, Nat.reduceEqDiff]; omega)) (by first | omega | (simp only [bset, reduceIte, Nat.reduceEqDiff]; omega))) (fun h15 => ?_) (fun h15 => ?_)
  · first
    | (exfalso; omega)
    | (
      refine zr_iconst dX7_append_22 (rfl : 22 + 1 = 23) ?_
      refine zr_iconst dX7_append_23 (rfl : 23 + 1 = 24) ?_
      refine zr_fnV dX7_append_24 (rfl : 24 + 3 = 27) l_X7_60 (m_go2 _) (by first | assumption | exact mw_167 | exact mw_168 | exact mw_169 | exact mw_170 | exact bk_0 | exact bk_1 | exact bk_2 | exact bk_3 | exact bk_4 | exact bk_5 | exact bk_6 | exact bk_7 | exact bk_8 | exact bk_9 | exact bk_10 | exact bk_11 | exact bk_12 | exact bk_13 | exact bk_14 | exact bk_15 | exact bk_16 | exact zup_self | exact (zup_ne (by first | assumption | omega)).trans (by first | assumption | exact zup_self) | exact (zup_ne (by first | assumption | omega)).trans ((zup_ne (by first | assumption | omega)).trans (by first | assumption | exact zup_self)) | exact (bk_out (by first | omega | (simp only [bset, reduceIte, Nat.reduceEqDiff]; omega))).trans (by first | exact bk_0 | exact bk_1 | exact bk_2 | exact bk_3 | exact bk_4 | exact bk_5 | exact bk_6 | exact bk_7 | exact bk_8 | exact bk_9 | exact bk_10 | exact bk_11 | exact bk_12 | exact bk_13 | exact bk_14 | exact bk_15 | exact bk_16 | exact cr_5 | exact cr_23 | exact cr_24 | exact cr_25 | exact cr_26 | exact cr_27 | exact cr_28 | exact cr_29 | exact cr_30 | assumption)) rfl rfl rfl (Nat.le_of_ble_eq_true rfl) ?_
      refine zr_if_ne (tgt := 32) dX7_append_27 (by decide) (rfl : 27 + 3 = 30) (by first | exact jb_iff | exact jI_z (by first | omega | (simp only [bset, reduceIte, Nat.reduceEqDiff]; omega)) (by first | omega | (simp only [bset, reduceIte, Nat.reduceEqDiff]; omega))) (fun h27 => ?_) (fun h27 => ?_)
      · first
        | (exfalso; omega)
        | (
          exfalso
          omega)
      · first
        | (exfalso; omega)
        | (
          refine zr_iconst dX7_append_30 (rfl : 30 + 1 = 31) ?_
          refine zr_ireE dX7_append_31 rfl rfl ?_
          exact ⟨rfl, S, ik, hR, rfl⟩))
  · first
    | (exfalso; omega)
    | (
      exfalso
      omega)
theorem p_append (x : Int) (hp : 33 ≤ x ∧ x ≤ 126) (h2 : σ.L < 60)  (hR : zRel B σ S ik) : zFe Γ md_X7_append (d + 8) [.ref 167, .int (jI x)] (mw S σ.sc ik th σ.T σ.L w) (zMQ (some (.int (jI (σ.L + 1)))) 0 (B) (zC.sL (zC.sT σ (jup σ.T σ.L x)) (σ.L + 1)) w) := by
  obtain ⟨ok, lk, pk, ck, lx, h, hsv, hkp⟩ := hR
  have hR : zRel B σ S ik := ⟨ok, lk, pk, ck, lx, h, hsv, hkp⟩
  have hL := ck.L
  refine zFe.of_run (lv := [some (.ref 167), some (.int (jI x))]) (by decide) rfl (Nat.le_of_ble_eq_true rfl) rfl (fun n9 g9 => ?_)
  refine zr_aload_n dX7_append_0 (rfl : 0 + 1 = 1) rfl ?_
  refine zr_iload_n dX7_append_1 (rfl : 1 + 1 = 2) rfl ?_
  refine zr_bipush dX7_append_2 (rfl : 2 + 2 = 4) (by decide) ?_
  refine zr_bipush dX7_append_4 (rfl : 4 + 2 = 6) (by decide) ?_
  refine zr_fnS dX7_append_6 (rfl : 6 + 3 = 9) l_X7_32 (m_in x 33 126 (by first | omega | (simp only [bset, reduceIte, Nat.reduceEqDiff]; omega)) (by first | omega | (simp only [bset, reduceIte, Nat.reduceEqDiff]; omega)) (by first | omega | (simp only [bset, reduceIte, Nat.reduceEqDiff]; omega))) rfl rfl (Nat.le_of_ble_eq_true rfl) ?_
  rw [jb_pos (by omega)]
  refine zr_aload_n dX7_append_9 (rfl : 9 + 1 = 10) rfl ?_
  refine zr_getf dX7_append_10 (rfl : 10 + 3 = 13) f_X7_121 (by first | assumption | exact mw_167 | exact mw_168 | exact mw_169 | exact mw_170 | exact bk_0 | exact bk_1 | exact bk_2 | exact bk_3 | exact bk_4 | exact bk_5 | exact bk_6 | exact bk_7 | exact bk_8 | exact bk_9 | exact bk_10 | exact bk_11 | exact bk_12 | exact bk_13 | exact bk_14 | exact bk_15 | exact bk_16 | exact zup_self | exact (zup_ne (by first | assumption | omega)).trans (by first | assumption | exact zup_self) | exact (zup_ne (by first | assumption | omega)).trans ((zup_ne (by first | assumption | omega)).trans (by first | assumption | exact zup_self)) | exact (bk_out (by first | omega | (simp only [bset, reduceIte, Nat.reduceEqDiff]; omega))).trans (by first | exact bk_0 | exact bk_1 | exact bk_2 | exact bk_3 | exact bk_4 | exact bk_5 | exact bk_6 | exact bk_7 | exact bk_8 | exact bk_9 | exact bk_10 | exact bk_11 | exact bk_12 | exact bk_13 | exact bk_14 | exact bk_15 | exact bk_16 | exact cr_5 | exact cr_23 | exact cr_24 | exact cr_25 | exact cr_26 | exact cr_27 | exact cr_28 | exact cr_29 | exact cr_30 | assumption)) rfl ?_
  refine zr_bipush dX7_append_13 (rfl : 13 + 2 = 15) (by decide) ?_
  refine zr_icmp_ge (tgt := 22) dX7_append_15 (by decide) (rfl : 15 + 3 = 18) (jI_le (by first | omega | (simp only [bset, reduceIte, Nat.reduceEqDiff]; omega)) (by first | omega | (simp only [bset, reduceIte, Nat.reduceEqDiff]; omega)) (by first | omega | (simp only [bset, reduceIte, Nat.reduceEqDiff]; omega)) (by first | omega | (simp only [bset, reduceIte, Nat.reduceEqDiff]; omega))) (fun h15 => ?_) (fun h15 => ?_)
  · first
    | (exfalso; omega)
    | (
      exfalso
      omega)
  · first
    | (exfalso; omega)
    | (
      refine zr_iconst dX7_append_18 (rfl : 18 + 1 = 19) ?_
      refine zr_goto (tgt := 23) dX7_append_19 (by decide) ?_
      refine zr_iconst dX7_append_23 (rfl : 23 + 1 = 24) ?_
      refine zr_fnV dX7_append_24 (rfl : 24 + 3 = 27) l_X7_60 (m_go) (by first | assumption | exact mw_167 | exact mw_168 | exact mw_169 | exact mw_170 | exact bk_0 | exact bk_1 | exact bk_2 | exact bk_3 | exact bk_4 | exact bk_5 | exact bk_6 | exact bk_7 | exact bk_8 | exact bk_9 | exact bk_10 | exact bk_11 | exact bk_12 | exact bk_13 | exact bk_14 | exact bk_15 | exact bk_16 | exact zup_self | exact (zup_ne (by first | assumption | omega)).trans (by first | assumption | exact zup_self) | exact (zup_ne (by first | assumption | omega)).trans ((zup_ne (by first | assumption | omega)).trans (by first | assumption | exact zup_self)) | exact (bk_out (by first | omega | (simp only [bset, reduceIte, Nat.reduceEqDiff]; omega))).trans (by first | exact bk_0 | exact bk_1 | exact bk_2 | exact bk_3 | exact bk_4 | exact bk_5 | exact bk_6 | exact bk_7 | exact bk_8 | exact bk_9 | exact bk_10 | exact bk_11 | exact bk_12 | exact bk_13 | exact bk_14 | exact bk_15 | exact bk_16 | exact cr_5 | exact cr_23 | exact cr_24 | exact cr_25 | exact cr_26 | exact cr_27 | exact cr_28 | exact cr_29 | exact cr_30 | assumption)) rfl rfl rfl (Nat.le_of_ble_eq_true rfl) ?_
      refine zr_if_ne (tgt := 32) dX7_append_27 (by decide) (rfl : 27 + 3 = 30) (by first | exact jb_iff | exact jI_z (by first | omega | (simp only [bset, reduceIte, Nat.reduceEqDiff]; omega)) (by first | omega | (simp only [bset, reduceIte, Nat.reduceEqDiff]; omega))) (fun h27 => ?_) (fun h27 => ?_)
      · first
        | (exfalso; omega)
        | (
          refine zr_aload_n dX7_append_32 (rfl : 32 + 1 = 33) rfl ?_
          refine zr_getf dX7_append_33 (rfl : 33 + 3 = 36) f_X7_17 (by first | assumption | exact mw_167 | exact mw_168 | exact mw_169 | exact mw_170 | exact bk_0 | exact bk_1 | exact bk_2 | exact bk_3 | exact bk_4 | exact bk_5 | exact bk_6 | exact bk_7 | exact bk_8 | exact bk_9 | exact bk_10 | exact bk_11 | exact bk_12 | exact bk_13 | exact bk_14 | exact bk_15 | exact bk_16 | exact zup_self | exact (zup_ne (by first | assumption | omega)).trans (by first | assumption | exact zup_self) | exact (zup_ne (by first | assumption | omega)).trans ((zup_ne (by first | assumption | omega)).trans (by first | assumption | exact zup_self)) | exact (bk_out (by first | omega | (simp only [bset, reduceIte, Nat.reduceEqDiff]; omega))).trans (by first | exact bk_0 | exact bk_1 | exact bk_2 | exact bk_3 | exact bk_4 | exact bk_5 | exact bk_6 | exact bk_7 | exact bk_8 | exact bk_9 | exact bk_10 | exact bk_11 | exact bk_12 | exact bk_13 | exact bk_14 | exact bk_15 | exact bk_16 | exact cr_5 | exact cr_23 | exact cr_24 | exact cr_25 | exact cr_26 | exact cr_27 | exact cr_28 | exact cr_29 | exact cr_30 | assumption)) rfl ?_
          refine zr_aload_n dX7_append_36 (rfl : 36 + 1 = 37) rfl ?_
          refine zr_getf dX7_append_37 (rfl : 37 + 3 = 40) f_X7_121 (by first | assumption | exact mw_167 | exact mw_168 | exact mw_169 | exact mw_170 | exact bk_0 | exact bk_1 | exact bk_2 | exact bk_3 | exact bk_4 | exact bk_5 | exact bk_6 | exact bk_7 | exact bk_8 | exact bk_9 | exact bk_10 | exact bk_11 | exact bk_12 | exact bk_13 | exact bk_14 | exact bk_15 | exact bk_16 | exact zup_self | exact (zup_ne (by first | assumption | omega)).trans (by first | assumption | exact zup_self) | exact (zup_ne (by first | assumption | omega)).trans ((zup_ne (by first | assumption | omega)).trans (by first | assumption | exact zup_self)) | exact (bk_out (by first | omega | (simp only [bset, reduceIte, Nat.reduceEqDiff]; omega))).trans (by first | exact bk_0 | exact bk_1 | exact bk_2 | exact bk_3 | exact bk_4 | exact bk_5 | exact bk_6 | exact bk_7 | exact bk_8 | exact bk_9 | exact bk_10 | exact bk_11 | exact bk_12 | exact bk_13 | exact bk_14 | exact bk_15 | exact bk_16 | exact cr_5 | exact cr_23 | exact cr_24 | exact cr_25 | exact cr_26 | exact cr_27 | exact cr_28 | exact cr_29 | exact cr_30 | assumption)) rfl ?_
          refine zr_iload_n dX7_append_40 (rfl : 40 + 1 = 41) rfl ?_
          refine zr_i2c dX7_append_41 (rfl : 41 + 1 = 42) (jch_c hp).1 ?_
          refine zr_cast dX7_append_42 (rfl : 42 + 1 = 43) mw_170 (by decide) (by first | omega | (simp only [bset, reduceIte, Nat.reduceEqDiff]; omega)) (by first | omega | (simp only [bset, reduceIte, Nat.reduceEqDiff]; omega)) (jch_c hp).2 rfl ?_
          rw [mwu_t]
          refine zr_aload_n dX7_append_43 (rfl : 43 + 1 = 44) rfl ?_
          refine zr_dup dX7_append_44 (rfl : 44 + 1 = 45) rfl ?_
          refine zr_getf dX7_append_45 (rfl : 45 + 3 = 48) f_X7_121 (by first | assumption | exact mw_167 | exact mw_168 | exact mw_169 | exact mw_170 | exact bk_0 | exact bk_1 | exact bk_2 | exact bk_3 | exact bk_4 | exact bk_5 | exact bk_6 | exact bk_7 | exact bk_8 | exact bk_9 | exact bk_10 | exact bk_11 | exact bk_12 | exact bk_13 | exact bk_14 | exact bk_15 | exact bk_16 | exact zup_self | exact (zup_ne (by first | assumption | omega)).trans (by first | assumption | exact zup_self) | exact (zup_ne (by first | assumption | omega)).trans ((zup_ne (by first | assumption | omega)).trans (by first | assumption | exact zup_self)) | exact (bk_out (by first | omega | (simp only [bset, reduceIte, Nat.reduceEqDiff]; omega))).trans (by first | exact bk_0 | exact bk_1 | exact bk_2 | exact bk_3 | exact bk_4 | exact bk_5 | exact bk_6 | exact bk_7 | exact bk_8 | exact bk_9 | exact bk_10 | exact bk_11 | exact bk_12 | exact bk_13 | exact bk_14 | exact bk_15 | exact bk_16 | exact cr_5 | exact cr_23 | exact cr_24 | exact cr_25 | exact cr_26 | exact cr_27 | exact cr_28 | exact cr_29 | exact cr_30 | assumption)) rfl ?_
          refine zr_iconst dX7_append_48 (rfl : 48 + 1 = 49) ?_
          refine zr_iadd dX7_append_49 (rfl : 49 + 1 = 50) (by first | exact jI_add _ _ | rfl) ?_
          refine zr_putf (fs' := [_, _, _, _, _, _]) dX7_append_50 (rfl : 50 + 3 = 53) f_X7_121 ft_7_5 (by first | assumption | exact mw_167 | exact mw_168 | exact mw_169 | exact mw_170 | exact bk_0 | exact bk_1 | exact bk_2 | exact bk_3 | exact bk_4 | exact bk_5 | exact bk_6 | exact bk_7 | exact bk_8 | exact bk_9 | exact bk_10 | exact bk_11 | exact bk_12 | exact bk_13 | exact bk_14 | exact bk_15 | exact bk_16 | exact zup_self | exact (zup_ne (by first | assumption | omega)).trans (by first | assumption | exact zup_self) | exact (zup_ne (by first | assumption | omega)).trans ((zup_ne (by first | assumption | omega)).trans (by first | assumption | exact zup_self)) | exact (bk_out (by first | omega | (simp only [bset, reduceIte, Nat.reduceEqDiff]; omega))).trans (by first | exact bk_0 | exact bk_1 | exact bk_2 | exact bk_3 | exact bk_4 | exact bk_5 | exact bk_6 | exact bk_7 | exact bk_8 | exact bk_9 | exact bk_10 | exact bk_11 | exact bk_12 | exact bk_13 | exact bk_14 | exact bk_15 | exact bk_16 | exact cr_5 | exact cr_23 | exact cr_24 | exact cr_25 | exact cr_26 | exact cr_27 | exact cr_28 | exact cr_29 | exact cr_30 | assumption)) (Nat.le_of_ble_eq_true rfl) rfl rfl rfl ?_
          rw [mwu_o]
          refine zr_aload_n dX7_append_53 (rfl : 53 + 1 = 54) rfl ?_
          refine zr_getf dX7_append_54 (rfl : 54 + 3 = 57) f_X7_121 (by first | assumption | exact mw_167 | exact mw_168 | exact mw_169 | exact mw_170 | exact bk_0 | exact bk_1 | exact bk_2 | exact bk_3 | exact bk_4 | exact bk_5 | exact bk_6 | exact bk_7 | exact bk_8 | exact bk_9 | exact bk_10 | exact bk_11 | exact bk_12 | exact bk_13 | exact bk_14 | exact bk_15 | exact bk_16 | exact zup_self | exact (zup_ne (by first | assumption | omega)).trans (by first | assumption | exact zup_self) | exact (zup_ne (by first | assumption | omega)).trans ((zup_ne (by first | assumption | omega)).trans (by first | assumption | exact zup_self)) | exact (bk_out (by first | omega | (simp only [bset, reduceIte, Nat.reduceEqDiff]; omega))).trans (by first | exact bk_0 | exact bk_1 | exact bk_2 | exact bk_3 | exact bk_4 | exact bk_5 | exact bk_6 | exact bk_7 | exact bk_8 | exact bk_9 | exact bk_10 | exact bk_11 | exact bk_12 | exact bk_13 | exact bk_14 | exact bk_15 | exact bk_16 | exact cr_5 | exact cr_23 | exact cr_24 | exact cr_25 | exact cr_26 | exact cr_27 | exact cr_28 | exact cr_29 | exact cr_30 | assumption)) rfl ?_
          refine zr_ireE dX7_append_57 rfl rfl ?_
          exact ⟨rfl, S, ik, zRel_app hR hp h2, rfl⟩)
      · first
        | (exfalso; omega)
        | (
          exfalso
          omega))
theorem p_clearBuffer  (hR : zRel B σ S ik) : zFe Γ md_X7_clearBuffer (d + 8) [.ref 167] (mw S σ.sc ik th σ.T σ.L w) (zMQ (some (.int (jI (σ.L)))) 0 (B) (zC.sL σ 0) w) := by
  obtain ⟨ok, lk, pk, ck, lx, h, hsv, hkp⟩ := hR
  have hR : zRel B σ S ik := ⟨ok, lk, pk, ck, lx, h, hsv, hkp⟩
  refine zFe.of_run (lv := [some (.ref 167), none]) (by decide) rfl (Nat.le_of_ble_eq_true rfl) rfl (fun n9 g9 => ?_)
  refine zr_aload_n dX7_clearBuffer_0 (rfl : 0 + 1 = 1) rfl ?_
  refine zr_iconst dX7_clearBuffer_1 (rfl : 1 + 1 = 2) ?_
  refine zr_putf (fs' := [_, _, _, _, _, _]) dX7_clearBuffer_2 (rfl : 2 + 3 = 5) f_X7_21 ft_7_3 (by first | assumption | exact mw_167 | exact mw_168 | exact mw_169 | exact mw_170 | exact bk_0 | exact bk_1 | exact bk_2 | exact bk_3 | exact bk_4 | exact bk_5 | exact bk_6 | exact bk_7 | exact bk_8 | exact bk_9 | exact bk_10 | exact bk_11 | exact bk_12 | exact bk_13 | exact bk_14 | exact bk_15 | exact bk_16 | exact zup_self | exact (zup_ne (by first | assumption | omega)).trans (by first | assumption | exact zup_self) | exact (zup_ne (by first | assumption | omega)).trans ((zup_ne (by first | assumption | omega)).trans (by first | assumption | exact zup_self)) | exact (bk_out (by first | omega | (simp only [bset, reduceIte, Nat.reduceEqDiff]; omega))).trans (by first | exact bk_0 | exact bk_1 | exact bk_2 | exact bk_3 | exact bk_4 | exact bk_5 | exact bk_6 | exact bk_7 | exact bk_8 | exact bk_9 | exact bk_10 | exact bk_11 | exact bk_12 | exact bk_13 | exact bk_14 | exact bk_15 | exact bk_16 | exact cr_5 | exact cr_23 | exact cr_24 | exact cr_25 | exact cr_26 | exact cr_27 | exact cr_28 | exact cr_29 | exact cr_30 | assumption)) (Nat.le_of_ble_eq_true rfl) rfl rfl rfl ?_
  rw [mwu_o]
  refine zr_aload_n dX7_clearBuffer_5 (rfl : 5 + 1 = 6) rfl ?_
  refine zr_getf dX7_clearBuffer_6 (rfl : 6 + 3 = 9) f_X7_121 (by first | assumption | exact mw_167 | exact mw_168 | exact mw_169 | exact mw_170 | exact bk_0 | exact bk_1 | exact bk_2 | exact bk_3 | exact bk_4 | exact bk_5 | exact bk_6 | exact bk_7 | exact bk_8 | exact bk_9 | exact bk_10 | exact bk_11 | exact bk_12 | exact bk_13 | exact bk_14 | exact bk_15 | exact bk_16 | exact zup_self | exact (zup_ne (by first | assumption | omega)).trans (by first | assumption | exact zup_self) | exact (zup_ne (by first | assumption | omega)).trans ((zup_ne (by first | assumption | omega)).trans (by first | assumption | exact zup_self)) | exact (bk_out (by first | omega | (simp only [bset, reduceIte, Nat.reduceEqDiff]; omega))).trans (by first | exact bk_0 | exact bk_1 | exact bk_2 | exact bk_3 | exact bk_4 | exact bk_5 | exact bk_6 | exact bk_7 | exact bk_8 | exact bk_9 | exact bk_10 | exact bk_11 | exact bk_12 | exact bk_13 | exact bk_14 | exact bk_15 | exact bk_16 | exact cr_5 | exact cr_23 | exact cr_24 | exact cr_25 | exact cr_26 | exact cr_27 | exact cr_28 | exact cr_29 | exact cr_30 | assumption)) rfl ?_
  refine zr_istore_n (lv' := [_, _]) dX7_clearBuffer_9 (rfl : 9 + 1 = 10) (Nat.le_of_ble_eq_true rfl) rfl ?_
  refine zr_aload_n dX7_clearBuffer_10 (rfl : 10 + 1 = 11) rfl ?_
  refine zr_iconst dX7_clearBuffer_11 (rfl : 11 + 1 = 12) ?_
  refine zr_putf (fs' := [_, _, _, _, _, _]) dX7_clearBuffer_12 (rfl : 12 + 3 = 15) f_X7_121 ft_7_5 (by first | assumption | exact mw_167 | exact mw_168 | exact mw_169 | exact mw_170 | exact bk_0 | exact bk_1 | exact bk_2 | exact bk_3 | exact bk_4 | exact bk_5 | exact bk_6 | exact bk_7 | exact bk_8 | exact bk_9 | exact bk_10 | exact bk_11 | exact bk_12 | exact bk_13 | exact bk_14 | exact bk_15 | exact bk_16 | exact zup_self | exact (zup_ne (by first | assumption | omega)).trans (by first | assumption | exact zup_self) | exact (zup_ne (by first | assumption | omega)).trans ((zup_ne (by first | assumption | omega)).trans (by first | assumption | exact zup_self)) | exact (bk_out (by first | omega | (simp only [bset, reduceIte, Nat.reduceEqDiff]; omega))).trans (by first | exact bk_0 | exact bk_1 | exact bk_2 | exact bk_3 | exact bk_4 | exact bk_5 | exact bk_6 | exact bk_7 | exact bk_8 | exact bk_9 | exact bk_10 | exact bk_11 | exact bk_12 | exact bk_13 | exact bk_14 | exact bk_15 | exact bk_16 | exact cr_5 | exact cr_23 | exact cr_24 | exact cr_25 | exact cr_26 | exact cr_27 | exact cr_28 | exact cr_29 | exact cr_30 | assumption)) (Nat.le_of_ble_eq_true rfl) rfl rfl rfl ?_
  rw [mwu_o]
  refine zr_iload_n dX7_clearBuffer_15 (rfl : 15 + 1 = 16) rfl ?_
  refine zr_ireE dX7_clearBuffer_16 rfl rfl ?_
  exact ⟨rfl, S, ik, zRel_clr hR, rfl⟩
theorem p_keep1 (s : Int) (hs : j32 s) (hp : ¬ (0 ≤ s ∧ s < 2))  (hR : zRel B σ S ik) : zFe Γ md_X7_keep (d + 8) [.ref 167, .int (jI s)] (mw S σ.sc ik th σ.T σ.L w) (zMQ (some (.int (jI 0))) 1 (B) (σ) w) := by
  obtain ⟨ok, lk, pk, ck, lx, h, hsv, hkp⟩ := hR
  have hR : zRel B σ S ik := ⟨ok, lk, pk, ck, lx, h, hsv, hkp⟩
  refine zFe.of_run (lv := [some (.ref 167), some (.int (jI s))]) (by decide) rfl (Nat.le_of_ble_eq_true rfl) rfl (fun n9 g9 => ?_)
  refine zr_aload_n dX7_keep_0 (rfl : 0 + 1 = 1) rfl ?_
  refine zr_iload_n dX7_keep_1 (rfl : 1 + 1 = 2) rfl ?_
  refine zr_iconst dX7_keep_2 (rfl : 2 + 1 = 3) ?_
  refine zr_iconst dX7_keep_3 (rfl : 3 + 1 = 4) ?_
  refine zr_fnS dX7_keep_4 (rfl : 4 + 3 = 7) l_X7_32 (m_in s 0 1 hs (by first | omega | (simp only [bset, reduceIte, Nat.reduceEqDiff]; omega)) (by first | omega | (simp only [bset, reduceIte, Nat.reduceEqDiff]; omega))) rfl rfl (Nat.le_of_ble_eq_true rfl) ?_
  rw [jb_neg (by omega)]
  refine zr_iconst dX7_keep_7 (rfl : 7 + 1 = 8) ?_
  refine zr_iconst dX7_keep_8 (rfl : 8 + 1 = 9) ?_
  refine zr_fnV dX7_keep_9 (rfl : 9 + 3 = 12) l_X7_60 (m_go1 _ _) (by first | assumption | exact mw_167 | exact mw_168 | exact mw_169 | exact mw_170 | exact bk_0 | exact bk_1 | exact bk_2 | exact bk_3 | exact bk_4 | exact bk_5 | exact bk_6 | exact bk_7 | exact bk_8 | exact bk_9 | exact bk_10 | exact bk_11 | exact bk_12 | exact bk_13 | exact bk_14 | exact bk_15 | exact bk_16 | exact zup_self | exact (zup_ne (by first | assumption | omega)).trans (by first | assumption | exact zup_self) | exact (zup_ne (by first | assumption | omega)).trans ((zup_ne (by first | assumption | omega)).trans (by first | assumption | exact zup_self)) | exact (bk_out (by first | omega | (simp only [bset, reduceIte, Nat.reduceEqDiff]; omega))).trans (by first | exact bk_0 | exact bk_1 | exact bk_2 | exact bk_3 | exact bk_4 | exact bk_5 | exact bk_6 | exact bk_7 | exact bk_8 | exact bk_9 | exact bk_10 | exact bk_11 | exact bk_12 | exact bk_13 | exact bk_14 | exact bk_15 | exact bk_16 | exact cr_5 | exact cr_23 | exact cr_24 | exact cr_25 | exact cr_26 | exact cr_27 | exact cr_28 | exact cr_29 | exact cr_30 | assumption)) rfl rfl rfl (Nat.le_of_ble_eq_true rfl) ?_
  refine zr_if_ne (tgt := 17) dX7_keep_12 (by decide) (rfl : 12 + 3 = 15) (by first | exact jb_iff | exact jI_z (by first | omega | (simp only [bset, reduceIte, Nat.reduceEqDiff]; omega)) (by first | omega | (simp only [bset, reduceIte, Nat.reduceEqDiff]; omega))) (fun h12 => ?_) (fun h12 => ?_)
  · first
    | (exfalso; omega)
    | (
      exfalso
      omega)
  · first
    | (exfalso; omega)
    | (
      refine zr_iconst dX7_keep_15 (rfl : 15 + 1 = 16) ?_
      refine zr_ireE dX7_keep_16 rfl rfl ?_
      exact ⟨rfl, S, ik, hR, rfl⟩)
theorem p_keep (s : Int) (hp : 0 ≤ s ∧ s < 2)  (hR : zRel B σ S ik) : zFe Γ md_X7_keep (d + 8) [.ref 167, .int (jI s)] (mw S σ.sc ik th σ.T σ.L w) (zMQ (some (.int (jI (B 2 0)))) 0 (B) (zC.sk (zC.sX σ (zxu σ.X s.toNat (jcp (σ.X s.toNat) B))) (jup σ.kp s 1)) w) := by
  obtain ⟨ok, lk, pk, ck, lx, h, hsv, hkp⟩ := hR
  have hR : zRel B σ S ik := ⟨ok, lk, pk, ck, lx, h, hsv, hkp⟩
  refine zFe.of_run (lv := [some (.ref 167), some (.int (jI s))]) (by decide) rfl (Nat.le_of_ble_eq_true rfl) rfl (fun n9 g9 => ?_)
  refine zr_aload_n dX7_keep_0 (rfl : 0 + 1 = 1) rfl ?_
  refine zr_iload_n dX7_keep_1 (rfl : 1 + 1 = 2) rfl ?_
  refine zr_iconst dX7_keep_2 (rfl : 2 + 1 = 3) ?_
  refine zr_iconst dX7_keep_3 (rfl : 3 + 1 = 4) ?_
  refine zr_fnS dX7_keep_4 (rfl : 4 + 3 = 7) l_X7_32 (m_in s 0 1 (by first | omega | (simp only [bset, reduceIte, Nat.reduceEqDiff]; omega)) (by first | omega | (simp only [bset, reduceIte, Nat.reduceEqDiff]; omega)) (by first | omega | (simp only [bset, reduceIte, Nat.reduceEqDiff]; omega))) rfl rfl (Nat.le_of_ble_eq_true rfl) ?_
  rw [jb_pos (by omega)]
  refine zr_iconst dX7_keep_7 (rfl : 7 + 1 = 8) ?_
  refine zr_iconst dX7_keep_8 (rfl : 8 + 1 = 9) ?_
  refine zr_fnV dX7_keep_9 (rfl : 9 + 3 = 12) l_X7_60 (m_go) (by first | assumption | exact mw_167 | exact mw_168 | exact mw_169 | exact mw_170 | exact bk_0 | exact bk_1 | exact bk_2 | exact bk_3 | exact bk_4 | exact bk_5 | exact bk_6 | exact bk_7 | exact bk_8 | exact bk_9 | exact bk_10 | exact bk_11 | exact bk_12 | exact bk_13 | exact bk_14 | exact bk_15 | exact bk_16 | exact zup_self | exact (zup_ne (by first | assumption | omega)).trans (by first | assumption | exact zup_self) | exact (zup_ne (by first | assumption | omega)).trans ((zup_ne (by first | assumption | omega)).trans (by first | assumption | exact zup_self)) | exact (bk_out (by first | omega | (simp only [bset, reduceIte, Nat.reduceEqDiff]; omega))).trans (by first | exact bk_0 | exact bk_1 | exact bk_2 | exact bk_3 | exact bk_4 | exact bk_5 | exact bk_6 | exact bk_7 | exact bk_8 | exact bk_9 | exact bk_10 | exact bk_11 | exact bk_12 | exact bk_13 | exact bk_14 | exact bk_15 | exact bk_16 | exact cr_5 | exact cr_23 | exact cr_24 | exact cr_25 | exact cr_26 | exact cr_27 | exact cr_28 | exact cr_29 | exact cr_30 | assumption)) rfl rfl rfl (Nat.le_of_ble_eq_true rfl) ?_
  refine zr_if_ne (tgt := 17) dX7_keep_12 (by decide) (rfl : 12 + 3 = 15) (by first | exact jb_iff | exact jI_z (by first | omega | (simp only [bset, reduceIte, Nat.reduceEqDiff]; omega)) (by first | omega | (simp only [bset, reduceIte, Nat.reduceEqDiff]; omega))) (fun h12 => ?_) (fun h12 => ?_)
  · first
    | (exfalso; omega)
    | (
      refine zr_aload_n dX7_keep_17 (rfl : 17 + 1 = 18) rfl ?_
      refine zr_iconst dX7_keep_18 (rfl : 18 + 1 = 19) ?_
      refine zr_bipush dX7_keep_19 (rfl : 19 + 2 = 21) (by decide) ?_
      refine zr_iload_n dX7_keep_21 (rfl : 21 + 1 = 22) rfl ?_
      refine zr_iadd dX7_keep_22 (rfl : 22 + 1 = 23) (by first | exact jI_add _ _ | rfl) ?_
      refine zr_fnV dX7_keep_23 (rfl : 23 + 3 = 26) l_X7_28 (m_copies 0 (7 + s) (by first | omega | (simp only [bset, reduceIte, Nat.reduceEqDiff]; omega)) (by first | omega | (simp only [bset, reduceIte, Nat.reduceEqDiff]; omega)) (by first | omega | (simp only [bset, reduceIte, Nat.reduceEqDiff]; omega))) (by first | assumption | exact mw_167 | exact mw_168 | exact mw_169 | exact mw_170 | exact bk_0 | exact bk_1 | exact bk_2 | exact bk_3 | exact bk_4 | exact bk_5 | exact bk_6 | exact bk_7 | exact bk_8 | exact bk_9 | exact bk_10 | exact bk_11 | exact bk_12 | exact bk_13 | exact bk_14 | exact bk_15 | exact bk_16 | exact zup_self | exact (zup_ne (by first | assumption | omega)).trans (by first | assumption | exact zup_self) | exact (zup_ne (by first | assumption | omega)).trans ((zup_ne (by first | assumption | omega)).trans (by first | assumption | exact zup_self)) | exact (bk_out (by first | omega | (simp only [bset, reduceIte, Nat.reduceEqDiff]; omega))).trans (by first | exact bk_0 | exact bk_1 | exact bk_2 | exact bk_3 | exact bk_4 | exact bk_5 | exact bk_6 | exact bk_7 | exact bk_8 | exact bk_9 | exact bk_10 | exact bk_11 | exact bk_12 | exact bk_13 | exact bk_14 | exact bk_15 | exact bk_16 | exact cr_5 | exact cr_23 | exact cr_24 | exact cr_25 | exact cr_26 | exact cr_27 | exact cr_28 | exact cr_29 | exact cr_30 | assumption)) rfl rfl rfl (Nat.le_of_ble_eq_true rfl) ?_
      refine zr_aload_n dX7_keep_26 (rfl : 26 + 1 = 27) rfl ?_
      refine zr_getf dX7_keep_27 (rfl : 27 + 3 = 30) f_X7_13 (by first | assumption | exact mw_167 | exact mw_168 | exact mw_169 | exact mw_170 | exact bk_0 | exact bk_1 | exact bk_2 | exact bk_3 | exact bk_4 | exact bk_5 | exact bk_6 | exact bk_7 | exact bk_8 | exact bk_9 | exact bk_10 | exact bk_11 | exact bk_12 | exact bk_13 | exact bk_14 | exact bk_15 | exact bk_16 | exact zup_self | exact (zup_ne (by first | assumption | omega)).trans (by first | assumption | exact zup_self) | exact (zup_ne (by first | assumption | omega)).trans ((zup_ne (by first | assumption | omega)).trans (by first | assumption | exact zup_self)) | exact (bk_out (by first | omega | (simp only [bset, reduceIte, Nat.reduceEqDiff]; omega))).trans (by first | exact bk_0 | exact bk_1 | exact bk_2 | exact bk_3 | exact bk_4 | exact bk_5 | exact bk_6 | exact bk_7 | exact bk_8 | exact bk_9 | exact bk_10 | exact bk_11 | exact bk_12 | exact bk_13 | exact bk_14 | exact bk_15 | exact bk_16 | exact cr_5 | exact cr_23 | exact cr_24 | exact cr_25 | exact cr_26 | exact cr_27 | exact cr_28 | exact cr_29 | exact cr_30 | assumption)) rfl ?_
      refine zr_iload_n dX7_keep_30 (rfl : 30 + 1 = 31) rfl ?_
      refine zr_iconst dX7_keep_31 (rfl : 31 + 1 = 32) ?_
      refine zr_zast dX7_keep_32 (rfl : 32 + 1 = 33) mw_169 (by decide) hp.1 (by first | omega | (simp only [bset, reduceIte, Nat.reduceEqDiff]; omega)) rfl rfl ?_
      rw [mwu_k]
      refine zr_aload_n dX7_keep_33 (rfl : 33 + 1 = 34) rfl ?_
      refine zr_fnV dX7_keep_34 (rfl : 34 + 3 = 37) l_X7_70 (m_inBook (zRel_keepm hR hp) ok lk) (by first | assumption | exact mw_167 | exact mw_168 | exact mw_169 | exact mw_170 | exact bk_0 | exact bk_1 | exact bk_2 | exact bk_3 | exact bk_4 | exact bk_5 | exact bk_6 | exact bk_7 | exact bk_8 | exact bk_9 | exact bk_10 | exact bk_11 | exact bk_12 | exact bk_13 | exact bk_14 | exact bk_15 | exact bk_16 | exact zup_self | exact (zup_ne (by first | assumption | omega)).trans (by first | assumption | exact zup_self) | exact (zup_ne (by first | assumption | omega)).trans ((zup_ne (by first | assumption | omega)).trans (by first | assumption | exact zup_self)) | exact (bk_out (by first | omega | (simp only [bset, reduceIte, Nat.reduceEqDiff]; omega))).trans (by first | exact bk_0 | exact bk_1 | exact bk_2 | exact bk_3 | exact bk_4 | exact bk_5 | exact bk_6 | exact bk_7 | exact bk_8 | exact bk_9 | exact bk_10 | exact bk_11 | exact bk_12 | exact bk_13 | exact bk_14 | exact bk_15 | exact bk_16 | exact cr_5 | exact cr_23 | exact cr_24 | exact cr_25 | exact cr_26 | exact cr_27 | exact cr_28 | exact cr_29 | exact cr_30 | assumption)) rfl rfl rfl (Nat.le_of_ble_eq_true rfl) ?_
      refine zr_ireE dX7_keep_37 rfl rfl ?_
      exact ⟨rfl, _, _, zRel_keep hR hp, rfl⟩)
  · first
    | (exfalso; omega)
    | (
      exfalso
      omega)
theorem p_goBack1 (s : Int) (hs : j32 s) (hp : ¬ (0 ≤ s ∧ s < 2))  (hR : zRel B σ S ik) : zFe Γ md_X7_goBack (d + 8) [.ref 167, .int (jI s)] (mw S σ.sc ik th σ.T σ.L w) (zMQ (some (.int (jI 0))) 1 (B) (σ) w) := by
  obtain ⟨ok, lk, pk, ck, lx, h, hsv, hkp⟩ := hR
  have hR : zRel B σ S ik := ⟨ok, lk, pk, ck, lx, h, hsv, hkp⟩
  refine zFe.of_run (lv := [some (.ref 167), some (.int (jI s))]) (by decide) rfl (Nat.le_of_ble_eq_true rfl) rfl (fun n9 g9 => ?_)
  refine zr_aload_n dX7_goBack_0 (rfl : 0 + 1 = 1) rfl ?_
  refine zr_iload_n dX7_goBack_1 (rfl : 1 + 1 = 2) rfl ?_
  refine zr_iconst dX7_goBack_2 (rfl : 2 + 1 = 3) ?_
  refine zr_iconst dX7_goBack_3 (rfl : 3 + 1 = 4) ?_
  refine zr_fnS dX7_goBack_4 (rfl : 4 + 3 = 7) l_X7_32 (m_in s 0 1 hs (by first | omega | (simp only [bset, reduceIte, Nat.reduceEqDiff]; omega)) (by first | omega | (simp only [bset, reduceIte, Nat.reduceEqDiff]; omega))) rfl rfl (Nat.le_of_ble_eq_true rfl) ?_
  rw [jb_neg (by omega)]
  refine zr_iload_n dX7_goBack_7 (rfl : 7 + 1 = 8) rfl ?_
  refine zr_iconst dX7_goBack_8 (rfl : 8 + 1 = 9) ?_
  refine zr_iconst dX7_goBack_9 (rfl : 9 + 1 = 10) ?_
  refine zr_fnS dX7_goBack_10 (rfl : 10 + 3 = 13) l_X7_32 (m_in s 0 1 hs (by first | omega | (simp only [bset, reduceIte, Nat.reduceEqDiff]; omega)) (by first | omega | (simp only [bset, reduceIte, Nat.reduceEqDiff]; omega))) rfl rfl (Nat.le_of_ble_eq_true rfl) ?_
  refine zr_if_eq (tgt := 29) dX7_goBack_13 (by decide) (rfl : 13 + 3 = 16) (by first | exact jb_iff | exact jI_z (by first | omega | (simp only [bset, reduceIte, Nat.reduceEqDiff]; omega)) (by first | omega | (simp only [bset, reduceIte, Nat.reduceEqDiff]; omega))) (fun h13 => ?_) (fun h13 => ?_)
  · first
    | (exfalso; omega)
    | (
      refine zr_iconst dX7_goBack_29 (rfl : 29 + 1 = 30) ?_
      refine zr_iconst dX7_goBack_30 (rfl : 30 + 1 = 31) ?_
      refine zr_fnV dX7_goBack_31 (rfl : 31 + 3 = 34) l_X7_60 (m_go1 _ _) (by first | assumption | exact mw_167 | exact mw_168 | exact mw_169 | exact mw_170 | exact bk_0 | exact bk_1 | exact bk_2 | exact bk_3 | exact bk_4 | exact bk_5 | exact bk_6 | exact bk_7 | exact bk_8 | exact bk_9 | exact bk_10 | exact bk_11 | exact bk_12 | exact bk_13 | exact bk_14 | exact bk_15 | exact bk_16 | exact zup_self | exact (zup_ne (by first | assumption | omega)).trans (by first | assumption | exact zup_self) | exact (zup_ne (by first | assumption | omega)).trans ((zup_ne (by first | assumption | omega)).trans (by first | assumption | exact zup_self)) | exact (bk_out (by first | omega | (simp only [bset, reduceIte, Nat.reduceEqDiff]; omega))).trans (by first | exact bk_0 | exact bk_1 | exact bk_2 | exact bk_3 | exact bk_4 | exact bk_5 | exact bk_6 | exact bk_7 | exact bk_8 | exact bk_9 | exact bk_10 | exact bk_11 | exact bk_12 | exact bk_13 | exact bk_14 | exact bk_15 | exact bk_16 | exact cr_5 | exact cr_23 | exact cr_24 | exact cr_25 | exact cr_26 | exact cr_27 | exact cr_28 | exact cr_29 | exact cr_30 | assumption)) rfl rfl rfl (Nat.le_of_ble_eq_true rfl) ?_
      refine zr_if_ne (tgt := 39) dX7_goBack_34 (by decide) (rfl : 34 + 3 = 37) (by first | exact jb_iff | exact jI_z (by first | omega | (simp only [bset, reduceIte, Nat.reduceEqDiff]; omega)) (by first | omega | (simp only [bset, reduceIte, Nat.reduceEqDiff]; omega))) (fun h34 => ?_) (fun h34 => ?_)
      · first
        | (exfalso; omega)
        | (
          exfalso
          omega)
      · first
        | (exfalso; omega)
        | (
          refine zr_iconst dX7_goBack_37 (rfl : 37 + 1 = 38) ?_
          refine zr_ireE dX7_goBack_38 rfl rfl ?_
          exact ⟨rfl, S, ik, hR, rfl⟩))
  · first
    | (exfalso; omega)
    | (
      exfalso
      omega)
theorem p_goBack2 (s : Int) (hp : 0 ≤ s ∧ s < 2) (h2 : σ.kp s = 0)  (hR : zRel B σ S ik) : zFe Γ md_X7_goBack (d + 8) [.ref 167, .int (jI s)] (mw S σ.sc ik th σ.T σ.L w) (zMQ (some (.int (jI 0))) 2 (B) (σ) w) := by
  obtain ⟨ok, lk, pk, ck, lx, h, hsv, hkp⟩ := hR
  have hR : zRel B σ S ik := ⟨ok, lk, pk, ck, lx, h, hsv, hkp⟩
  have hks := hkp s hp.1 hp.2
  have hkr := ck.kp s
  refine zFe.of_run (lv := [some (.ref 167), some (.int (jI s))]) (by decide) rfl (Nat.le_of_ble_eq_true rfl) rfl (fun n9 g9 => ?_)
  refine zr_aload_n dX7_goBack_0 (rfl : 0 + 1 = 1) rfl ?_
  refine zr_iload_n dX7_goBack_1 (rfl : 1 + 1 = 2) rfl ?_
  refine zr_iconst dX7_goBack_2 (rfl : 2 + 1 = 3) ?_
  refine zr_iconst dX7_goBack_3 (rfl : 3 + 1 = 4) ?_
  refine zr_fnS dX7_goBack_4 (rfl : 4 + 3 = 7) l_X7_32 (m_in s 0 1 (by first | omega | (simp only [bset, reduceIte, Nat.reduceEqDiff]; omega)) (by first | omega | (simp only [bset, reduceIte, Nat.reduceEqDiff]; omega)) (by first | omega | (simp only [bset, reduceIte, Nat.reduceEqDiff]; omega))) rfl rfl (Nat.le_of_ble_eq_true rfl) ?_
  rw [jb_pos (by omega)]
  refine zr_iload_n dX7_goBack_7 (rfl : 7 + 1 = 8) rfl ?_
  refine zr_iconst dX7_goBack_8 (rfl : 8 + 1 = 9) ?_
  refine zr_iconst dX7_goBack_9 (rfl : 9 + 1 = 10) ?_
  refine zr_fnS dX7_goBack_10 (rfl : 10 + 3 = 13) l_X7_32 (m_in s 0 1 (by first | omega | (simp only [bset, reduceIte, Nat.reduceEqDiff]; omega)) (by first | omega | (simp only [bset, reduceIte, Nat.reduceEqDiff]; omega)) (by first | omega | (simp only [bset, reduceIte, Nat.reduceEqDiff]; omega))) rfl rfl (Nat.le_of_ble_eq_true rfl) ?_
  refine zr_if_eq (tgt := 29) dX7_goBack_13 (by decide) (rfl : 13 + 3 = 16) (by first | exact jb_iff | exact jI_z (by first | omega | (simp only [bset, reduceIte, Nat.reduceEqDiff]; omega)) (by first | omega | (simp only [bset, reduceIte, Nat.reduceEqDiff]; omega))) (fun h13 => ?_) (fun h13 => ?_)
  · first
    | (exfalso; omega)
    | (
      refine zr_iconst dX7_goBack_29 (rfl : 29 + 1 = 30) ?_
      refine zr_iconst dX7_goBack_30 (rfl : 30 + 1 = 31) ?_
      refine zr_fnV dX7_goBack_31 (rfl : 31 + 3 = 34) l_X7_60 (m_go2 _) (by first | assumption | exact mw_167 | exact mw_168 | exact mw_169 | exact mw_170 | exact bk_0 | exact bk_1 | exact bk_2 | exact bk_3 | exact bk_4 | exact bk_5 | exact bk_6 | exact bk_7 | exact bk_8 | exact bk_9 | exact bk_10 | exact bk_11 | exact bk_12 | exact bk_13 | exact bk_14 | exact bk_15 | exact bk_16 | exact zup_self | exact (zup_ne (by first | assumption | omega)).trans (by first | assumption | exact zup_self) | exact (zup_ne (by first | assumption | omega)).trans ((zup_ne (by first | assumption | omega)).trans (by first | assumption | exact zup_self)) | exact (bk_out (by first | omega | (simp only [bset, reduceIte, Nat.reduceEqDiff]; omega))).trans (by first | exact bk_0 | exact bk_1 | exact bk_2 | exact bk_3 | exact bk_4 | exact bk_5 | exact bk_6 | exact bk_7 | exact bk_8 | exact bk_9 | exact bk_10 | exact bk_11 | exact bk_12 | exact bk_13 | exact bk_14 | exact bk_15 | exact bk_16 | exact cr_5 | exact cr_23 | exact cr_24 | exact cr_25 | exact cr_26 | exact cr_27 | exact cr_28 | exact cr_29 | exact cr_30 | assumption)) rfl rfl rfl (Nat.le_of_ble_eq_true rfl) ?_
      refine zr_if_ne (tgt := 39) dX7_goBack_34 (by decide) (rfl : 34 + 3 = 37) (by first | exact jb_iff | exact jI_z (by first | omega | (simp only [bset, reduceIte, Nat.reduceEqDiff]; omega)) (by first | omega | (simp only [bset, reduceIte, Nat.reduceEqDiff]; omega))) (fun h34 => ?_) (fun h34 => ?_)
      · first
        | (exfalso; omega)
        | (
          exfalso
          omega)
      · first
        | (exfalso; omega)
        | (
          refine zr_iconst dX7_goBack_37 (rfl : 37 + 1 = 38) ?_
          refine zr_ireE dX7_goBack_38 rfl rfl ?_
          exact ⟨rfl, S, ik, hR, rfl⟩))
  · first
    | (exfalso; omega)
    | (
      refine zr_aload_n dX7_goBack_16 (rfl : 16 + 1 = 17) rfl ?_
      refine zr_getf dX7_goBack_17 (rfl : 17 + 3 = 20) f_X7_13 (by first | assumption | exact mw_167 | exact mw_168 | exact mw_169 | exact mw_170 | exact bk_0 | exact bk_1 | exact bk_2 | exact bk_3 | exact bk_4 | exact bk_5 | exact bk_6 | exact bk_7 | exact bk_8 | exact bk_9 | exact bk_10 | exact bk_11 | exact bk_12 | exact bk_13 | exact bk_14 | exact bk_15 | exact bk_16 | exact zup_self | exact (zup_ne (by first | assumption | omega)).trans (by first | assumption | exact zup_self) | exact (zup_ne (by first | assumption | omega)).trans ((zup_ne (by first | assumption | omega)).trans (by first | assumption | exact zup_self)) | exact (bk_out (by first | omega | (simp only [bset, reduceIte, Nat.reduceEqDiff]; omega))).trans (by first | exact bk_0 | exact bk_1 | exact bk_2 | exact bk_3 | exact bk_4 | exact bk_5 | exact bk_6 | exact bk_7 | exact bk_8 | exact bk_9 | exact bk_10 | exact bk_11 | exact bk_12 | exact bk_13 | exact bk_14 | exact bk_15 | exact bk_16 | exact cr_5 | exact cr_23 | exact cr_24 | exact cr_25 | exact cr_26 | exact cr_27 | exact cr_28 | exact cr_29 | exact cr_30 | assumption)) rfl ?_
      refine zr_iload_n dX7_goBack_20 (rfl : 20 + 1 = 21) rfl ?_
      refine zr_zald dX7_goBack_21 (rfl : 21 + 1 = 22) (by first | assumption | exact mw_167 | exact mw_168 | exact mw_169 | exact mw_170 | exact bk_0 | exact bk_1 | exact bk_2 | exact bk_3 | exact bk_4 | exact bk_5 | exact bk_6 | exact bk_7 | exact bk_8 | exact bk_9 | exact bk_10 | exact bk_11 | exact bk_12 | exact bk_13 | exact bk_14 | exact bk_15 | exact bk_16 | exact zup_self | exact (zup_ne (by first | assumption | omega)).trans (by first | assumption | exact zup_self) | exact (zup_ne (by first | assumption | omega)).trans ((zup_ne (by first | assumption | omega)).trans (by first | assumption | exact zup_self)) | exact (bk_out (by first | omega | (simp only [bset, reduceIte, Nat.reduceEqDiff]; omega))).trans (by first | exact bk_0 | exact bk_1 | exact bk_2 | exact bk_3 | exact bk_4 | exact bk_5 | exact bk_6 | exact bk_7 | exact bk_8 | exact bk_9 | exact bk_10 | exact bk_11 | exact bk_12 | exact bk_13 | exact bk_14 | exact bk_15 | exact bk_16 | exact cr_5 | exact cr_23 | exact cr_24 | exact cr_25 | exact cr_26 | exact cr_27 | exact cr_28 | exact cr_29 | exact cr_30 | assumption)) (by decide) (by first | omega | (simp only [bset, reduceIte, Nat.reduceEqDiff]; omega)) (by first | omega | (simp only [bset, reduceIte, Nat.reduceEqDiff]; omega)) ?_
      refine zr_if_eq (tgt := 29) dX7_goBack_22 (by decide) (rfl : 22 + 3 = 25) (by first | exact jb_iff | exact jI_z (by first | omega | (simp only [bset, reduceIte, Nat.reduceEqDiff]; omega)) (by first | omega | (simp only [bset, reduceIte, Nat.reduceEqDiff]; omega))) (fun h22 => ?_) (fun h22 => ?_)
      · first
        | (exfalso; omega)
        | (
          refine zr_iconst dX7_goBack_29 (rfl : 29 + 1 = 30) ?_
          refine zr_iconst dX7_goBack_30 (rfl : 30 + 1 = 31) ?_
          refine zr_fnV dX7_goBack_31 (rfl : 31 + 3 = 34) l_X7_60 (m_go2 _) (by first | assumption | exact mw_167 | exact mw_168 | exact mw_169 | exact mw_170 | exact bk_0 | exact bk_1 | exact bk_2 | exact bk_3 | exact bk_4 | exact bk_5 | exact bk_6 | exact bk_7 | exact bk_8 | exact bk_9 | exact bk_10 | exact bk_11 | exact bk_12 | exact bk_13 | exact bk_14 | exact bk_15 | exact bk_16 | exact zup_self | exact (zup_ne (by first | assumption | omega)).trans (by first | assumption | exact zup_self) | exact (zup_ne (by first | assumption | omega)).trans ((zup_ne (by first | assumption | omega)).trans (by first | assumption | exact zup_self)) | exact (bk_out (by first | omega | (simp only [bset, reduceIte, Nat.reduceEqDiff]; omega))).trans (by first | exact bk_0 | exact bk_1 | exact bk_2 | exact bk_3 | exact bk_4 | exact bk_5 | exact bk_6 | exact bk_7 | exact bk_8 | exact bk_9 | exact bk_10 | exact bk_11 | exact bk_12 | exact bk_13 | exact bk_14 | exact bk_15 | exact bk_16 | exact cr_5 | exact cr_23 | exact cr_24 | exact cr_25 | exact cr_26 | exact cr_27 | exact cr_28 | exact cr_29 | exact cr_30 | assumption)) rfl rfl rfl (Nat.le_of_ble_eq_true rfl) ?_
          refine zr_if_ne (tgt := 39) dX7_goBack_34 (by decide) (rfl : 34 + 3 = 37) (by first | exact jb_iff | exact jI_z (by first | omega | (simp only [bset, reduceIte, Nat.reduceEqDiff]; omega)) (by first | omega | (simp only [bset, reduceIte, Nat.reduceEqDiff]; omega))) (fun h34 => ?_) (fun h34 => ?_)
          · first
            | (exfalso; omega)
            | (
              exfalso
              omega)
          · first
            | (exfalso; omega)
            | (
              refine zr_iconst dX7_goBack_37 (rfl : 37 + 1 = 38) ?_
              refine zr_ireE dX7_goBack_38 rfl rfl ?_
              exact ⟨rfl, S, ik, hR, rfl⟩))
      · first
        | (exfalso; omega)
        | (
          exfalso
          omega))
theorem p_goBack (s : Int) (hp : 0 ≤ s ∧ s < 2) (h2 : σ.kp s = 1)  (hR : zRel B σ S ik) : zFe Γ md_X7_goBack (d + 8) [.ref 167, .int (jI s)] (mw S σ.sc ik th σ.T σ.L w) (zMQ (some (.int (jI (σ.X s.toNat 2 0)))) 0 (jcp B (σ.X s.toNat)) (jsv σ B) w) := by
  obtain ⟨ok, lk, pk, ck, lx, h, hsv, hkp⟩ := hR
  have hR : zRel B σ S ik := ⟨ok, lk, pk, ck, lx, h, hsv, hkp⟩
  have hks := hkp s hp.1 hp.2
  have hkr := ck.kp s
  refine zFe.of_run (lv := [some (.ref 167), some (.int (jI s))]) (by decide) rfl (Nat.le_of_ble_eq_true rfl) rfl (fun n9 g9 => ?_)
  refine zr_aload_n dX7_goBack_0 (rfl : 0 + 1 = 1) rfl ?_
  refine zr_iload_n dX7_goBack_1 (rfl : 1 + 1 = 2) rfl ?_
  refine zr_iconst dX7_goBack_2 (rfl : 2 + 1 = 3) ?_
  refine zr_iconst dX7_goBack_3 (rfl : 3 + 1 = 4) ?_
  refine zr_fnS dX7_goBack_4 (rfl : 4 + 3 = 7) l_X7_32 (m_in s 0 1 (by first | omega | (simp only [bset, reduceIte, Nat.reduceEqDiff]; omega)) (by first | omega | (simp only [bset, reduceIte, Nat.reduceEqDiff]; omega)) (by first | omega | (simp only [bset, reduceIte, Nat.reduceEqDiff]; omega))) rfl rfl (Nat.le_of_ble_eq_true rfl) ?_
  rw [jb_pos (by omega)]
  refine zr_iload_n dX7_goBack_7 (rfl : 7 + 1 = 8) rfl ?_
  refine zr_iconst dX7_goBack_8 (rfl : 8 + 1 = 9) ?_
  refine zr_iconst dX7_goBack_9 (rfl : 9 + 1 = 10) ?_
  refine zr_fnS dX7_goBack_10 (rfl : 10 + 3 = 13) l_X7_32 (m_in s 0 1 (by first | omega | (simp only [bset, reduceIte, Nat.reduceEqDiff]; omega)) (by first | omega | (simp only [bset, reduceIte, Nat.reduceEqDiff]; omega)) (by first | omega | (simp only [bset, reduceIte, Nat.reduceEqDiff]; omega))) rfl rfl (Nat.le_of_ble_eq_true rfl) ?_
  refine zr_if_eq (tgt := 29) dX7_goBack_13 (by decide) (rfl : 13 + 3 = 16) (by first | exact jb_iff | exact jI_z (by first | omega | (simp only [bset, reduceIte, Nat.reduceEqDiff]; omega)) (by first | omega | (simp only [bset, reduceIte, Nat.reduceEqDiff]; omega))) (fun h13 => ?_) (fun h13 => ?_)
  · first
    | (exfalso; omega)
    | (
      exfalso
      omega)
  · first
    | (exfalso; omega)
    | (
      refine zr_aload_n dX7_goBack_16 (rfl : 16 + 1 = 17) rfl ?_
      refine zr_getf dX7_goBack_17 (rfl : 17 + 3 = 20) f_X7_13 (by first | assumption | exact mw_167 | exact mw_168 | exact mw_169 | exact mw_170 | exact bk_0 | exact bk_1 | exact bk_2 | exact bk_3 | exact bk_4 | exact bk_5 | exact bk_6 | exact bk_7 | exact bk_8 | exact bk_9 | exact bk_10 | exact bk_11 | exact bk_12 | exact bk_13 | exact bk_14 | exact bk_15 | exact bk_16 | exact zup_self | exact (zup_ne (by first | assumption | omega)).trans (by first | assumption | exact zup_self) | exact (zup_ne (by first | assumption | omega)).trans ((zup_ne (by first | assumption | omega)).trans (by first | assumption | exact zup_self)) | exact (bk_out (by first | omega | (simp only [bset, reduceIte, Nat.reduceEqDiff]; omega))).trans (by first | exact bk_0 | exact bk_1 | exact bk_2 | exact bk_3 | exact bk_4 | exact bk_5 | exact bk_6 | exact bk_7 | exact bk_8 | exact bk_9 | exact bk_10 | exact bk_11 | exact bk_12 | exact bk_13 | exact bk_14 | exact bk_15 | exact bk_16 | exact cr_5 | exact cr_23 | exact cr_24 | exact cr_25 | exact cr_26 | exact cr_27 | exact cr_28 | exact cr_29 | exact cr_30 | assumption)) rfl ?_
      refine zr_iload_n dX7_goBack_20 (rfl : 20 + 1 = 21) rfl ?_
      refine zr_zald dX7_goBack_21 (rfl : 21 + 1 = 22) (by first | assumption | exact mw_167 | exact mw_168 | exact mw_169 | exact mw_170 | exact bk_0 | exact bk_1 | exact bk_2 | exact bk_3 | exact bk_4 | exact bk_5 | exact bk_6 | exact bk_7 | exact bk_8 | exact bk_9 | exact bk_10 | exact bk_11 | exact bk_12 | exact bk_13 | exact bk_14 | exact bk_15 | exact bk_16 | exact zup_self | exact (zup_ne (by first | assumption | omega)).trans (by first | assumption | exact zup_self) | exact (zup_ne (by first | assumption | omega)).trans ((zup_ne (by first | assumption | omega)).trans (by first | assumption | exact zup_self)) | exact (bk_out (by first | omega | (simp only [bset, reduceIte, Nat.reduceEqDiff]; omega))).trans (by first | exact bk_0 | exact bk_1 | exact bk_2 | exact bk_3 | exact bk_4 | exact bk_5 | exact bk_6 | exact bk_7 | exact bk_8 | exact bk_9 | exact bk_10 | exact bk_11 | exact bk_12 | exact bk_13 | exact bk_14 | exact bk_15 | exact bk_16 | exact cr_5 | exact cr_23 | exact cr_24 | exact cr_25 | exact cr_26 | exact cr_27 | exact cr_28 | exact cr_29 | exact cr_30 | assumption)) (by decide) (by first | omega | (simp only [bset, reduceIte, Nat.reduceEqDiff]; omega)) (by first | omega | (simp only [bset, reduceIte, Nat.reduceEqDiff]; omega)) ?_
      refine zr_if_eq (tgt := 29) dX7_goBack_22 (by decide) (rfl : 22 + 3 = 25) (by first | exact jb_iff | exact jI_z (by first | omega | (simp only [bset, reduceIte, Nat.reduceEqDiff]; omega)) (by first | omega | (simp only [bset, reduceIte, Nat.reduceEqDiff]; omega))) (fun h22 => ?_) (fun h22 => ?_)
      · first
        | (exfalso; omega)
        | (
          exfalso
          omega)
      · first
        | (exfalso; omega)
        | (
          refine zr_iconst dX7_goBack_25 (rfl : 25 + 1 = 26) ?_
          refine zr_goto (tgt := 30) dX7_goBack_26 (by decide) ?_
          refine zr_iconst dX7_goBack_30 (rfl : 30 + 1 = 31) ?_
          refine zr_fnV dX7_goBack_31 (rfl : 31 + 3 = 34) l_X7_60 (m_go) (by first | assumption | exact mw_167 | exact mw_168 | exact mw_169 | exact mw_170 | exact bk_0 | exact bk_1 | exact bk_2 | exact bk_3 | exact bk_4 | exact bk_5 | exact bk_6 | exact bk_7 | exact bk_8 | exact bk_9 | exact bk_10 | exact bk_11 | exact bk_12 | exact bk_13 | exact bk_14 | exact bk_15 | exact bk_16 | exact zup_self | exact (zup_ne (by first | assumption | omega)).trans (by first | assumption | exact zup_self) | exact (zup_ne (by first | assumption | omega)).trans ((zup_ne (by first | assumption | omega)).trans (by first | assumption | exact zup_self)) | exact (bk_out (by first | omega | (simp only [bset, reduceIte, Nat.reduceEqDiff]; omega))).trans (by first | exact bk_0 | exact bk_1 | exact bk_2 | exact bk_3 | exact bk_4 | exact bk_5 | exact bk_6 | exact bk_7 | exact bk_8 | exact bk_9 | exact bk_10 | exact bk_11 | exact bk_12 | exact bk_13 | exact bk_14 | exact bk_15 | exact bk_16 | exact cr_5 | exact cr_23 | exact cr_24 | exact cr_25 | exact cr_26 | exact cr_27 | exact cr_28 | exact cr_29 | exact cr_30 | assumption)) rfl rfl rfl (Nat.le_of_ble_eq_true rfl) ?_
          refine zr_if_ne (tgt := 39) dX7_goBack_34 (by decide) (rfl : 34 + 3 = 37) (by first | exact jb_iff | exact jI_z (by first | omega | (simp only [bset, reduceIte, Nat.reduceEqDiff]; omega)) (by first | omega | (simp only [bset, reduceIte, Nat.reduceEqDiff]; omega))) (fun h34 => ?_) (fun h34 => ?_)
          · first
            | (exfalso; omega)
            | (
              refine zr_aload_n dX7_goBack_39 (rfl : 39 + 1 = 40) rfl ?_
              refine zr_fnV dX7_goBack_40 (rfl : 40 + 3 = 43) l_X7_64 (m_saves ck.sc) (by first | assumption | exact mw_167 | exact mw_168 | exact mw_169 | exact mw_170 | exact bk_0 | exact bk_1 | exact bk_2 | exact bk_3 | exact bk_4 | exact bk_5 | exact bk_6 | exact bk_7 | exact bk_8 | exact bk_9 | exact bk_10 | exact bk_11 | exact bk_12 | exact bk_13 | exact bk_14 | exact bk_15 | exact bk_16 | exact zup_self | exact (zup_ne (by first | assumption | omega)).trans (by first | assumption | exact zup_self) | exact (zup_ne (by first | assumption | omega)).trans ((zup_ne (by first | assumption | omega)).trans (by first | assumption | exact zup_self)) | exact (bk_out (by first | omega | (simp only [bset, reduceIte, Nat.reduceEqDiff]; omega))).trans (by first | exact bk_0 | exact bk_1 | exact bk_2 | exact bk_3 | exact bk_4 | exact bk_5 | exact bk_6 | exact bk_7 | exact bk_8 | exact bk_9 | exact bk_10 | exact bk_11 | exact bk_12 | exact bk_13 | exact bk_14 | exact bk_15 | exact bk_16 | exact cr_5 | exact cr_23 | exact cr_24 | exact cr_25 | exact cr_26 | exact cr_27 | exact cr_28 | exact cr_29 | exact cr_30 | assumption)) rfl rfl rfl (Nat.le_of_ble_eq_true rfl) ?_
              refine zr_aload_n dX7_goBack_43 (rfl : 43 + 1 = 44) rfl ?_
              refine zr_bipush dX7_goBack_44 (rfl : 44 + 2 = 46) (by decide) ?_
              refine zr_iload_n dX7_goBack_46 (rfl : 46 + 1 = 47) rfl ?_
              refine zr_iadd dX7_goBack_47 (rfl : 47 + 1 = 48) (by first | exact jI_add _ _ | rfl) ?_
              refine zr_iconst dX7_goBack_48 (rfl : 48 + 1 = 49) ?_
              refine zr_fnV dX7_goBack_49 (rfl : 49 + 3 = 52) l_X7_28 (m_copies (7 + s) 0 (by first | omega | (simp only [bset, reduceIte, Nat.reduceEqDiff]; omega)) (by decide) (by first | omega | (simp only [bset, reduceIte, Nat.reduceEqDiff]; omega))) (by first | assumption | exact mw_167 | exact mw_168 | exact mw_169 | exact mw_170 | exact bk_0 | exact bk_1 | exact bk_2 | exact bk_3 | exact bk_4 | exact bk_5 | exact bk_6 | exact bk_7 | exact bk_8 | exact bk_9 | exact bk_10 | exact bk_11 | exact bk_12 | exact bk_13 | exact bk_14 | exact bk_15 | exact bk_16 | exact zup_self | exact (zup_ne (by first | assumption | omega)).trans (by first | assumption | exact zup_self) | exact (zup_ne (by first | assumption | omega)).trans ((zup_ne (by first | assumption | omega)).trans (by first | assumption | exact zup_self)) | exact (bk_out (by first | omega | (simp only [bset, reduceIte, Nat.reduceEqDiff]; omega))).trans (by first | exact bk_0 | exact bk_1 | exact bk_2 | exact bk_3 | exact bk_4 | exact bk_5 | exact bk_6 | exact bk_7 | exact bk_8 | exact bk_9 | exact bk_10 | exact bk_11 | exact bk_12 | exact bk_13 | exact bk_14 | exact bk_15 | exact bk_16 | exact cr_5 | exact cr_23 | exact cr_24 | exact cr_25 | exact cr_26 | exact cr_27 | exact cr_28 | exact cr_29 | exact cr_30 | assumption)) rfl rfl rfl (Nat.le_of_ble_eq_true rfl) ?_
              refine zr_aload_n dX7_goBack_52 (rfl : 52 + 1 = 53) rfl ?_
              refine zr_fnV dX7_goBack_53 (rfl : 53 + 3 = 56) l_X7_70 (m_inBook (zRel_backm hR hp h2) (ck.X _ (by first | omega | (simp only [bset, reduceIte, Nat.reduceEqDiff]; omega))) (lx _ (by first | omega | (simp only [bset, reduceIte, Nat.reduceEqDiff]; omega))).1) (by first | assumption | exact mw_167 | exact mw_168 | exact mw_169 | exact mw_170 | exact bk_0 | exact bk_1 | exact bk_2 | exact bk_3 | exact bk_4 | exact bk_5 | exact bk_6 | exact bk_7 | exact bk_8 | exact bk_9 | exact bk_10 | exact bk_11 | exact bk_12 | exact bk_13 | exact bk_14 | exact bk_15 | exact bk_16 | exact zup_self | exact (zup_ne (by first | assumption | omega)).trans (by first | assumption | exact zup_self) | exact (zup_ne (by first | assumption | omega)).trans ((zup_ne (by first | assumption | omega)).trans (by first | assumption | exact zup_self)) | exact (bk_out (by first | omega | (simp only [bset, reduceIte, Nat.reduceEqDiff]; omega))).trans (by first | exact bk_0 | exact bk_1 | exact bk_2 | exact bk_3 | exact bk_4 | exact bk_5 | exact bk_6 | exact bk_7 | exact bk_8 | exact bk_9 | exact bk_10 | exact bk_11 | exact bk_12 | exact bk_13 | exact bk_14 | exact bk_15 | exact bk_16 | exact cr_5 | exact cr_23 | exact cr_24 | exact cr_25 | exact cr_26 | exact cr_27 | exact cr_28 | exact cr_29 | exact cr_30 | assumption)) rfl rfl rfl (Nat.le_of_ble_eq_true rfl) ?_
              refine zr_ireE dX7_goBack_56 rfl rfl ?_
              exact ⟨rfl, _, _, zRel_back hR hp h2, rfl⟩)
          · first
            | (exfalso; omega)
            | (
              exfalso
              omega)))
theorem p_undo1 (h2 : ¬ 0 < σ.sc)  (hR : zRel B σ S ik) : zFe Γ md_X7_undo (d + 8) [.ref 167] (mw S σ.sc ik th σ.T σ.L w) (zMQ (some (.int (jI 0))) 1 (B) (σ) w) := by
  obtain ⟨ok, lk, pk, ck, lx, h, hsv, hkp⟩ := hR
  have hR : zRel B σ S ik := ⟨ok, lk, pk, ck, lx, h, hsv, hkp⟩
  have hsc := ck.sc
  refine zFe.of_run (lv := [some (.ref 167)]) (by decide) rfl (Nat.le_of_ble_eq_true rfl) rfl (fun n9 g9 => ?_)
  refine zr_aload_n dX7_undo_0 (rfl : 0 + 1 = 1) rfl ?_
  refine zr_aload_n dX7_undo_1 (rfl : 1 + 1 = 2) rfl ?_
  refine zr_getf dX7_undo_2 (rfl : 2 + 3 = 5) f_X7_25 (by first | assumption | exact mw_167 | exact mw_168 | exact mw_169 | exact mw_170 | exact bk_0 | exact bk_1 | exact bk_2 | exact bk_3 | exact bk_4 | exact bk_5 | exact bk_6 | exact bk_7 | exact bk_8 | exact bk_9 | exact bk_10 | exact bk_11 | exact bk_12 | exact bk_13 | exact bk_14 | exact bk_15 | exact bk_16 | exact zup_self | exact (zup_ne (by first | assumption | omega)).trans (by first | assumption | exact zup_self) | exact (zup_ne (by first | assumption | omega)).trans ((zup_ne (by first | assumption | omega)).trans (by first | assumption | exact zup_self)) | exact (bk_out (by first | omega | (simp only [bset, reduceIte, Nat.reduceEqDiff]; omega))).trans (by first | exact bk_0 | exact bk_1 | exact bk_2 | exact bk_3 | exact bk_4 | exact bk_5 | exact bk_6 | exact bk_7 | exact bk_8 | exact bk_9 | exact bk_10 | exact bk_11 | exact bk_12 | exact bk_13 | exact bk_14 | exact bk_15 | exact bk_16 | exact cr_5 | exact cr_23 | exact cr_24 | exact cr_25 | exact cr_26 | exact cr_27 | exact cr_28 | exact cr_29 | exact cr_30 | assumption)) rfl ?_
  refine zr_if_le (tgt := 12) dX7_undo_5 (by decide) (rfl : 5 + 3 = 8) (jI_lez (by first | omega | (simp only [bset, reduceIte, Nat.reduceEqDiff]; omega)) (by first | omega | (simp only [bset, reduceIte, Nat.reduceEqDiff]; omega))) (fun h5 => ?_) (fun h5 => ?_)
  · first
    | (exfalso; omega)
    | (
      refine zr_iconst dX7_undo_12 (rfl : 12 + 1 = 13) ?_
      refine zr_iconst dX7_undo_13 (rfl : 13 + 1 = 14) ?_
      refine zr_iconst dX7_undo_14 (rfl : 14 + 1 = 15) ?_
      refine zr_fnV dX7_undo_15 (rfl : 15 + 3 = 18) l_X7_60 (m_go1 _ _) (by first | assumption | exact mw_167 | exact mw_168 | exact mw_169 | exact mw_170 | exact bk_0 | exact bk_1 | exact bk_2 | exact bk_3 | exact bk_4 | exact bk_5 | exact bk_6 | exact bk_7 | exact bk_8 | exact bk_9 | exact bk_10 | exact bk_11 | exact bk_12 | exact bk_13 | exact bk_14 | exact bk_15 | exact bk_16 | exact zup_self | exact (zup_ne (by first | assumption | omega)).trans (by first | assumption | exact zup_self) | exact (zup_ne (by first | assumption | omega)).trans ((zup_ne (by first | assumption | omega)).trans (by first | assumption | exact zup_self)) | exact (bk_out (by first | omega | (simp only [bset, reduceIte, Nat.reduceEqDiff]; omega))).trans (by first | exact bk_0 | exact bk_1 | exact bk_2 | exact bk_3 | exact bk_4 | exact bk_5 | exact bk_6 | exact bk_7 | exact bk_8 | exact bk_9 | exact bk_10 | exact bk_11 | exact bk_12 | exact bk_13 | exact bk_14 | exact bk_15 | exact bk_16 | exact cr_5 | exact cr_23 | exact cr_24 | exact cr_25 | exact cr_26 | exact cr_27 | exact cr_28 | exact cr_29 | exact cr_30 | assumption)) rfl rfl rfl (Nat.le_of_ble_eq_true rfl) ?_
      refine zr_if_ne (tgt := 23) dX7_undo_18 (by decide) (rfl : 18 + 3 = 21) (by first | exact jb_iff | exact jI_z (by first | omega | (simp only [bset, reduceIte, Nat.reduceEqDiff]; omega)) (by first | omega | (simp only [bset, reduceIte, Nat.reduceEqDiff]; omega))) (fun h18 => ?_) (fun h18 => ?_)
      · first
        | (exfalso; omega)
        | (
          exfalso
          omega)
      · first
        | (exfalso; omega)
        | (
          refine zr_iconst dX7_undo_21 (rfl : 21 + 1 = 22) ?_
          refine zr_ireE dX7_undo_22 rfl rfl ?_
          exact ⟨rfl, S, ik, hR, rfl⟩))
  · first
    | (exfalso; omega)
    | (
      refine zr_iconst dX7_undo_8 (rfl : 8 + 1 = 9) ?_
      refine zr_goto (tgt := 13) dX7_undo_9 (by decide) ?_
      refine zr_iconst dX7_undo_13 (rfl : 13 + 1 = 14) ?_
      refine zr_iconst dX7_undo_14 (rfl : 14 + 1 = 15) ?_
      refine zr_fnV dX7_undo_15 (rfl : 15 + 3 = 18) l_X7_60 (m_go1 _ _) (by first | assumption | exact mw_167 | exact mw_168 | exact mw_169 | exact mw_170 | exact bk_0 | exact bk_1 | exact bk_2 | exact bk_3 | exact bk_4 | exact bk_5 | exact bk_6 | exact bk_7 | exact bk_8 | exact bk_9 | exact bk_10 | exact bk_11 | exact bk_12 | exact bk_13 | exact bk_14 | exact bk_15 | exact bk_16 | exact zup_self | exact (zup_ne (by first | assumption | omega)).trans (by first | assumption | exact zup_self) | exact (zup_ne (by first | assumption | omega)).trans ((zup_ne (by first | assumption | omega)).trans (by first | assumption | exact zup_self)) | exact (bk_out (by first | omega | (simp only [bset, reduceIte, Nat.reduceEqDiff]; omega))).trans (by first | exact bk_0 | exact bk_1 | exact bk_2 | exact bk_3 | exact bk_4 | exact bk_5 | exact bk_6 | exact bk_7 | exact bk_8 | exact bk_9 | exact bk_10 | exact bk_11 | exact bk_12 | exact bk_13 | exact bk_14 | exact bk_15 | exact bk_16 | exact cr_5 | exact cr_23 | exact cr_24 | exact cr_25 | exact cr_26 | exact cr_27 | exact cr_28 | exact cr_29 | exact cr_30 | assumption)) rfl rfl rfl (Nat.le_of_ble_eq_true rfl) ?_
      refine zr_if_ne (tgt := 23) dX7_undo_18 (by decide) (rfl : 18 + 3 = 21) (by first | exact jb_iff | exact jI_z (by first | omega | (simp only [bset, reduceIte, Nat.reduceEqDiff]; omega)) (by first | omega | (simp only [bset, reduceIte, Nat.reduceEqDiff]; omega))) (fun h18 => ?_) (fun h18 => ?_)
      · first
        | (exfalso; omega)
        | (
          exfalso
          omega)
      · first
        | (exfalso; omega)
        | (
          refine zr_iconst dX7_undo_21 (rfl : 21 + 1 = 22) ?_
          refine zr_ireE dX7_undo_22 rfl rfl ?_
          exact ⟨rfl, S, ik, hR, rfl⟩))
theorem p_undo (h2 : 0 < σ.sc)  (hR : zRel B σ S ik) : zFe Γ md_X7_undo (d + 8) [.ref 167] (mw S σ.sc ik th σ.T σ.L w) (zMQ (some (.int (jI (σ.sc - 1)))) 0 (jcp B (σ.X (jui σ))) (zC.os σ σ.old (σ.sc - 1)) w) := by
  obtain ⟨ok, lk, pk, ck, lx, h, hsv, hkp⟩ := hR
  have hR : zRel B σ S ik := ⟨ok, lk, pk, ck, lx, h, hsv, hkp⟩
  have hsc := ck.sc
  refine zFe.of_run (lv := [some (.ref 167)]) (by decide) rfl (Nat.le_of_ble_eq_true rfl) rfl (fun n9 g9 => ?_)
  refine zr_aload_n dX7_undo_0 (rfl : 0 + 1 = 1) rfl ?_
  refine zr_aload_n dX7_undo_1 (rfl : 1 + 1 = 2) rfl ?_
  refine zr_getf dX7_undo_2 (rfl : 2 + 3 = 5) f_X7_25 (by first | assumption | exact mw_167 | exact mw_168 | exact mw_169 | exact mw_170 | exact bk_0 | exact bk_1 | exact bk_2 | exact bk_3 | exact bk_4 | exact bk_5 | exact bk_6 | exact bk_7 | exact bk_8 | exact bk_9 | exact bk_10 | exact bk_11 | exact bk_12 | exact bk_13 | exact bk_14 | exact bk_15 | exact bk_16 | exact zup_self | exact (zup_ne (by first | assumption | omega)).trans (by first | assumption | exact zup_self) | exact (zup_ne (by first | assumption | omega)).trans ((zup_ne (by first | assumption | omega)).trans (by first | assumption | exact zup_self)) | exact (bk_out (by first | omega | (simp only [bset, reduceIte, Nat.reduceEqDiff]; omega))).trans (by first | exact bk_0 | exact bk_1 | exact bk_2 | exact bk_3 | exact bk_4 | exact bk_5 | exact bk_6 | exact bk_7 | exact bk_8 | exact bk_9 | exact bk_10 | exact bk_11 | exact bk_12 | exact bk_13 | exact bk_14 | exact bk_15 | exact bk_16 | exact cr_5 | exact cr_23 | exact cr_24 | exact cr_25 | exact cr_26 | exact cr_27 | exact cr_28 | exact cr_29 | exact cr_30 | assumption)) rfl ?_
  refine zr_if_le (tgt := 12) dX7_undo_5 (by decide) (rfl : 5 + 3 = 8) (jI_lez (by first | omega | (simp only [bset, reduceIte, Nat.reduceEqDiff]; omega)) (by first | omega | (simp only [bset, reduceIte, Nat.reduceEqDiff]; omega))) (fun h5 => ?_) (fun h5 => ?_)
  · first
    | (exfalso; omega)
    | (
      refine zr_iconst dX7_undo_12 (rfl : 12 + 1 = 13) ?_
      refine zr_iconst dX7_undo_13 (rfl : 13 + 1 = 14) ?_
      refine zr_iconst dX7_undo_14 (rfl : 14 + 1 = 15) ?_
      refine zr_fnV dX7_undo_15 (rfl : 15 + 3 = 18) l_X7_60 (m_go) (by first | assumption | exact mw_167 | exact mw_168 | exact mw_169 | exact mw_170 | exact bk_0 | exact bk_1 | exact bk_2 | exact bk_3 | exact bk_4 | exact bk_5 | exact bk_6 | exact bk_7 | exact bk_8 | exact bk_9 | exact bk_10 | exact bk_11 | exact bk_12 | exact bk_13 | exact bk_14 | exact bk_15 | exact bk_16 | exact zup_self | exact (zup_ne (by first | assumption | omega)).trans (by first | assumption | exact zup_self) | exact (zup_ne (by first | assumption | omega)).trans ((zup_ne (by first | assumption | omega)).trans (by first | assumption | exact zup_self)) | exact (bk_out (by first | omega | (simp only [bset, reduceIte, Nat.reduceEqDiff]; omega))).trans (by first | exact bk_0 | exact bk_1 | exact bk_2 | exact bk_3 | exact bk_4 | exact bk_5 | exact bk_6 | exact bk_7 | exact bk_8 | exact bk_9 | exact bk_10 | exact bk_11 | exact bk_12 | exact bk_13 | exact bk_14 | exact bk_15 | exact bk_16 | exact cr_5 | exact cr_23 | exact cr_24 | exact cr_25 | exact cr_26 | exact cr_27 | exact cr_28 | exact cr_29 | exact cr_30 | assumption)) rfl rfl rfl (Nat.le_of_ble_eq_true rfl) ?_
      refine zr_if_ne (tgt := 23) dX7_undo_18 (by decide) (rfl : 18 + 3 = 21) (by first | exact jb_iff | exact jI_z (by first | omega | (simp only [bset, reduceIte, Nat.reduceEqDiff]; omega)) (by first | omega | (simp only [bset, reduceIte, Nat.reduceEqDiff]; omega))) (fun h18 => ?_) (fun h18 => ?_)
      · first
        | (exfalso; omega)
        | (
          refine zr_aload_n dX7_undo_23 (rfl : 23 + 1 = 24) rfl ?_
          refine zr_aload_n dX7_undo_24 (rfl : 24 + 1 = 25) rfl ?_
          refine zr_getf dX7_undo_25 (rfl : 25 + 3 = 28) f_X7_25 (by first | assumption | exact mw_167 | exact mw_168 | exact mw_169 | exact mw_170 | exact bk_0 | exact bk_1 | exact bk_2 | exact bk_3 | exact bk_4 | exact bk_5 | exact bk_6 | exact bk_7 | exact bk_8 | exact bk_9 | exact bk_10 | exact bk_11 | exact bk_12 | exact bk_13 | exact bk_14 | exact bk_15 | exact bk_16 | exact zup_self | exact (zup_ne (by first | assumption | omega)).trans (by first | assumption | exact zup_self) | exact (zup_ne (by first | assumption | omega)).trans ((zup_ne (by first | assumption | omega)).trans (by first | assumption | exact zup_self)) | exact (bk_out (by first | omega | (simp only [bset, reduceIte, Nat.reduceEqDiff]; omega))).trans (by first | exact bk_0 | exact bk_1 | exact bk_2 | exact bk_3 | exact bk_4 | exact bk_5 | exact bk_6 | exact bk_7 | exact bk_8 | exact bk_9 | exact bk_10 | exact bk_11 | exact bk_12 | exact bk_13 | exact bk_14 | exact bk_15 | exact bk_16 | exact cr_5 | exact cr_23 | exact cr_24 | exact cr_25 | exact cr_26 | exact cr_27 | exact cr_28 | exact cr_29 | exact cr_30 | assumption)) rfl ?_
          refine zr_iconst dX7_undo_28 (rfl : 28 + 1 = 29) ?_
          refine zr_fnV dX7_undo_29 (rfl : 29 + 3 = 32) l_X7_28 (m_copies σ.sc 0 (by first | omega | (simp only [bset, reduceIte, Nat.reduceEqDiff]; omega)) (by decide) (by first | omega | (simp only [bset, reduceIte, Nat.reduceEqDiff]; omega))) (by first | assumption | exact mw_167 | exact mw_168 | exact mw_169 | exact mw_170 | exact bk_0 | exact bk_1 | exact bk_2 | exact bk_3 | exact bk_4 | exact bk_5 | exact bk_6 | exact bk_7 | exact bk_8 | exact bk_9 | exact bk_10 | exact bk_11 | exact bk_12 | exact bk_13 | exact bk_14 | exact bk_15 | exact bk_16 | exact zup_self | exact (zup_ne (by first | assumption | omega)).trans (by first | assumption | exact zup_self) | exact (zup_ne (by first | assumption | omega)).trans ((zup_ne (by first | assumption | omega)).trans (by first | assumption | exact zup_self)) | exact (bk_out (by first | omega | (simp only [bset, reduceIte, Nat.reduceEqDiff]; omega))).trans (by first | exact bk_0 | exact bk_1 | exact bk_2 | exact bk_3 | exact bk_4 | exact bk_5 | exact bk_6 | exact bk_7 | exact bk_8 | exact bk_9 | exact bk_10 | exact bk_11 | exact bk_12 | exact bk_13 | exact bk_14 | exact bk_15 | exact bk_16 | exact cr_5 | exact cr_23 | exact cr_24 | exact cr_25 | exact cr_26 | exact cr_27 | exact cr_28 | exact cr_29 | exact cr_30 | assumption)) rfl rfl rfl (Nat.le_of_ble_eq_true rfl) ?_
          refine zr_aload_n dX7_undo_32 (rfl : 32 + 1 = 33) rfl ?_
          refine zr_dup dX7_undo_33 (rfl : 33 + 1 = 34) rfl ?_
          refine zr_getf dX7_undo_34 (rfl : 34 + 3 = 37) f_X7_25 (by first | assumption | exact mw_167 | exact mw_168 | exact mw_169 | exact mw_170 | exact bk_0 | exact bk_1 | exact bk_2 | exact bk_3 | exact bk_4 | exact bk_5 | exact bk_6 | exact bk_7 | exact bk_8 | exact bk_9 | exact bk_10 | exact bk_11 | exact bk_12 | exact bk_13 | exact bk_14 | exact bk_15 | exact bk_16 | exact zup_self | exact (zup_ne (by first | assumption | omega)).trans (by first | assumption | exact zup_self) | exact (zup_ne (by first | assumption | omega)).trans ((zup_ne (by first | assumption | omega)).trans (by first | assumption | exact zup_self)) | exact (bk_out (by first | omega | (simp only [bset, reduceIte, Nat.reduceEqDiff]; omega))).trans (by first | exact bk_0 | exact bk_1 | exact bk_2 | exact bk_3 | exact bk_4 | exact bk_5 | exact bk_6 | exact bk_7 | exact bk_8 | exact bk_9 | exact bk_10 | exact bk_11 | exact bk_12 | exact bk_13 | exact bk_14 | exact bk_15 | exact bk_16 | exact cr_5 | exact cr_23 | exact cr_24 | exact cr_25 | exact cr_26 | exact cr_27 | exact cr_28 | exact cr_29 | exact cr_30 | assumption)) rfl ?_
          refine zr_iconst dX7_undo_37 (rfl : 37 + 1 = 38) ?_
          refine zr_isub dX7_undo_38 (rfl : 38 + 1 = 39) (by first | exact jI_sub _ _ | rfl) ?_
          refine zr_putf (fs' := [_, _, _, _, _, _]) dX7_undo_39 (rfl : 39 + 3 = 42) f_X7_25 ft_7_1 (by first | assumption | exact mw_167 | exact mw_168 | exact mw_169 | exact mw_170 | exact bk_0 | exact bk_1 | exact bk_2 | exact bk_3 | exact bk_4 | exact bk_5 | exact bk_6 | exact bk_7 | exact bk_8 | exact bk_9 | exact bk_10 | exact bk_11 | exact bk_12 | exact bk_13 | exact bk_14 | exact bk_15 | exact bk_16 | exact zup_self | exact (zup_ne (by first | assumption | omega)).trans (by first | assumption | exact zup_self) | exact (zup_ne (by first | assumption | omega)).trans ((zup_ne (by first | assumption | omega)).trans (by first | assumption | exact zup_self)) | exact (bk_out (by first | omega | (simp only [bset, reduceIte, Nat.reduceEqDiff]; omega))).trans (by first | exact bk_0 | exact bk_1 | exact bk_2 | exact bk_3 | exact bk_4 | exact bk_5 | exact bk_6 | exact bk_7 | exact bk_8 | exact bk_9 | exact bk_10 | exact bk_11 | exact bk_12 | exact bk_13 | exact bk_14 | exact bk_15 | exact bk_16 | exact cr_5 | exact cr_23 | exact cr_24 | exact cr_25 | exact cr_26 | exact cr_27 | exact cr_28 | exact cr_29 | exact cr_30 | assumption)) (Nat.le_of_ble_eq_true rfl) rfl rfl rfl ?_
          rw [mwu_o]
          refine zr_aload_n dX7_undo_42 (rfl : 42 + 1 = 43) rfl ?_
          refine zr_getf dX7_undo_43 (rfl : 43 + 3 = 46) f_X7_25 (by first | assumption | exact mw_167 | exact mw_168 | exact mw_169 | exact mw_170 | exact bk_0 | exact bk_1 | exact bk_2 | exact bk_3 | exact bk_4 | exact bk_5 | exact bk_6 | exact bk_7 | exact bk_8 | exact bk_9 | exact bk_10 | exact bk_11 | exact bk_12 | exact bk_13 | exact bk_14 | exact bk_15 | exact bk_16 | exact zup_self | exact (zup_ne (by first | assumption | omega)).trans (by first | assumption | exact zup_self) | exact (zup_ne (by first | assumption | omega)).trans ((zup_ne (by first | assumption | omega)).trans (by first | assumption | exact zup_self)) | exact (bk_out (by first | omega | (simp only [bset, reduceIte, Nat.reduceEqDiff]; omega))).trans (by first | exact bk_0 | exact bk_1 | exact bk_2 | exact bk_3 | exact bk_4 | exact bk_5 | exact bk_6 | exact bk_7 | exact bk_8 | exact bk_9 | exact bk_10 | exact bk_11 | exact bk_12 | exact bk_13 | exact bk_14 | exact bk_15 | exact bk_16 | exact cr_5 | exact cr_23 | exact cr_24 | exact cr_25 | exact cr_26 | exact cr_27 | exact cr_28 | exact cr_29 | exact cr_30 | assumption)) rfl ?_
          refine zr_ireE dX7_undo_46 rfl rfl ?_
          exact ⟨rfl, _, _, zRel_undo hR h2, rfl⟩)
      · first
        | (exfalso; omega)
        | (
          exfalso
          omega))
  · first
    | (exfalso; omega)
    | (
      refine zr_iconst dX7_undo_8 (rfl : 8 + 1 = 9) ?_
      refine zr_goto (tgt := 13) dX7_undo_9 (by decide) ?_
      refine zr_iconst dX7_undo_13 (rfl : 13 + 1 = 14) ?_
      refine zr_iconst dX7_undo_14 (rfl : 14 + 1 = 15) ?_
      refine zr_fnV dX7_undo_15 (rfl : 15 + 3 = 18) l_X7_60 (m_go) (by first | assumption | exact mw_167 | exact mw_168 | exact mw_169 | exact mw_170 | exact bk_0 | exact bk_1 | exact bk_2 | exact bk_3 | exact bk_4 | exact bk_5 | exact bk_6 | exact bk_7 | exact bk_8 | exact bk_9 | exact bk_10 | exact bk_11 | exact bk_12 | exact bk_13 | exact bk_14 | exact bk_15 | exact bk_16 | exact zup_self | exact (zup_ne (by first | assumption | omega)).trans (by first | assumption | exact zup_self) | exact (zup_ne (by first | assumption | omega)).trans ((zup_ne (by first | assumption | omega)).trans (by first | assumption | exact zup_self)) | exact (bk_out (by first | omega | (simp only [bset, reduceIte, Nat.reduceEqDiff]; omega))).trans (by first | exact bk_0 | exact bk_1 | exact bk_2 | exact bk_3 | exact bk_4 | exact bk_5 | exact bk_6 | exact bk_7 | exact bk_8 | exact bk_9 | exact bk_10 | exact bk_11 | exact bk_12 | exact bk_13 | exact bk_14 | exact bk_15 | exact bk_16 | exact cr_5 | exact cr_23 | exact cr_24 | exact cr_25 | exact cr_26 | exact cr_27 | exact cr_28 | exact cr_29 | exact cr_30 | assumption)) rfl rfl rfl (Nat.le_of_ble_eq_true rfl) ?_
      refine zr_if_ne (tgt := 23) dX7_undo_18 (by decide) (rfl : 18 + 3 = 21) (by first | exact jb_iff | exact jI_z (by first | omega | (simp only [bset, reduceIte, Nat.reduceEqDiff]; omega)) (by first | omega | (simp only [bset, reduceIte, Nat.reduceEqDiff]; omega))) (fun h18 => ?_) (fun h18 => ?_)
      · first
        | (exfalso; omega)
        | (
          refine zr_aload_n dX7_undo_23 (rfl : 23 + 1 = 24) rfl ?_
          refine zr_aload_n dX7_undo_24 (rfl : 24 + 1 = 25) rfl ?_
          refine zr_getf dX7_undo_25 (rfl : 25 + 3 = 28) f_X7_25 (by first | assumption | exact mw_167 | exact mw_168 | exact mw_169 | exact mw_170 | exact bk_0 | exact bk_1 | exact bk_2 | exact bk_3 | exact bk_4 | exact bk_5 | exact bk_6 | exact bk_7 | exact bk_8 | exact bk_9 | exact bk_10 | exact bk_11 | exact bk_12 | exact bk_13 | exact bk_14 | exact bk_15 | exact bk_16 | exact zup_self | exact (zup_ne (by first | assumption | omega)).trans (by first | assumption | exact zup_self) | exact (zup_ne (by first | assumption | omega)).trans ((zup_ne (by first | assumption | omega)).trans (by first | assumption | exact zup_self)) | exact (bk_out (by first | omega | (simp only [bset, reduceIte, Nat.reduceEqDiff]; omega))).trans (by first | exact bk_0 | exact bk_1 | exact bk_2 | exact bk_3 | exact bk_4 | exact bk_5 | exact bk_6 | exact bk_7 | exact bk_8 | exact bk_9 | exact bk_10 | exact bk_11 | exact bk_12 | exact bk_13 | exact bk_14 | exact bk_15 | exact bk_16 | exact cr_5 | exact cr_23 | exact cr_24 | exact cr_25 | exact cr_26 | exact cr_27 | exact cr_28 | exact cr_29 | exact cr_30 | assumption)) rfl ?_
          refine zr_iconst dX7_undo_28 (rfl : 28 + 1 = 29) ?_
          refine zr_fnV dX7_undo_29 (rfl : 29 + 3 = 32) l_X7_28 (m_copies σ.sc 0 (by first | omega | (simp only [bset, reduceIte, Nat.reduceEqDiff]; omega)) (by decide) (by first | omega | (simp only [bset, reduceIte, Nat.reduceEqDiff]; omega))) (by first | assumption | exact mw_167 | exact mw_168 | exact mw_169 | exact mw_170 | exact bk_0 | exact bk_1 | exact bk_2 | exact bk_3 | exact bk_4 | exact bk_5 | exact bk_6 | exact bk_7 | exact bk_8 | exact bk_9 | exact bk_10 | exact bk_11 | exact bk_12 | exact bk_13 | exact bk_14 | exact bk_15 | exact bk_16 | exact zup_self | exact (zup_ne (by first | assumption | omega)).trans (by first | assumption | exact zup_self) | exact (zup_ne (by first | assumption | omega)).trans ((zup_ne (by first | assumption | omega)).trans (by first | assumption | exact zup_self)) | exact (bk_out (by first | omega | (simp only [bset, reduceIte, Nat.reduceEqDiff]; omega))).trans (by first | exact bk_0 | exact bk_1 | exact bk_2 | exact bk_3 | exact bk_4 | exact bk_5 | exact bk_6 | exact bk_7 | exact bk_8 | exact bk_9 | exact bk_10 | exact bk_11 | exact bk_12 | exact bk_13 | exact bk_14 | exact bk_15 | exact bk_16 | exact cr_5 | exact cr_23 | exact cr_24 | exact cr_25 | exact cr_26 | exact cr_27 | exact cr_28 | exact cr_29 | exact cr_30 | assumption)) rfl rfl rfl (Nat.le_of_ble_eq_true rfl) ?_
          refine zr_aload_n dX7_undo_32 (rfl : 32 + 1 = 33) rfl ?_
          refine zr_dup dX7_undo_33 (rfl : 33 + 1 = 34) rfl ?_
          refine zr_getf dX7_undo_34 (rfl : 34 + 3 = 37) f_X7_25 (by first | assumption | exact mw_167 | exact mw_168 | exact mw_169 | exact mw_170 | exact bk_0 | exact bk_1 | exact bk_2 | exact bk_3 | exact bk_4 | exact bk_5 | exact bk_6 | exact bk_7 | exact bk_8 | exact bk_9 | exact bk_10 | exact bk_11 | exact bk_12 | exact bk_13 | exact bk_14 | exact bk_15 | exact bk_16 | exact zup_self | exact (zup_ne (by first | assumption | omega)).trans (by first | assumption | exact zup_self) | exact (zup_ne (by first | assumption | omega)).trans ((zup_ne (by first | assumption | omega)).trans (by first | assumption | exact zup_self)) | exact (bk_out (by first | omega | (simp only [bset, reduceIte, Nat.reduceEqDiff]; omega))).trans (by first | exact bk_0 | exact bk_1 | exact bk_2 | exact bk_3 | exact bk_4 | exact bk_5 | exact bk_6 | exact bk_7 | exact bk_8 | exact bk_9 | exact bk_10 | exact bk_11 | exact bk_12 | exact bk_13 | exact bk_14 | exact bk_15 | exact bk_16 | exact cr_5 | exact cr_23 | exact cr_24 | exact cr_25 | exact cr_26 | exact cr_27 | exact cr_28 | exact cr_29 | exact cr_30 | assumption)) rfl ?_
          refine zr_iconst dX7_undo_37 (rfl : 37 + 1 = 38) ?_
          refine zr_isub dX7_undo_38 (rfl : 38 + 1 = 39) (by first | exact jI_sub _ _ | rfl) ?_
          refine zr_putf (fs' := [_, _, _, _, _, _]) dX7_undo_39 (rfl : 39 + 3 = 42) f_X7_25 ft_7_1 (by first | assumption | exact mw_167 | exact mw_168 | exact mw_169 | exact mw_170 | exact bk_0 | exact bk_1 | exact bk_2 | exact bk_3 | exact bk_4 | exact bk_5 | exact bk_6 | exact bk_7 | exact bk_8 | exact bk_9 | exact bk_10 | exact bk_11 | exact bk_12 | exact bk_13 | exact bk_14 | exact bk_15 | exact bk_16 | exact zup_self | exact (zup_ne (by first | assumption | omega)).trans (by first | assumption | exact zup_self) | exact (zup_ne (by first | assumption | omega)).trans ((zup_ne (by first | assumption | omega)).trans (by first | assumption | exact zup_self)) | exact (bk_out (by first | omega | (simp only [bset, reduceIte, Nat.reduceEqDiff]; omega))).trans (by first | exact bk_0 | exact bk_1 | exact bk_2 | exact bk_3 | exact bk_4 | exact bk_5 | exact bk_6 | exact bk_7 | exact bk_8 | exact bk_9 | exact bk_10 | exact bk_11 | exact bk_12 | exact bk_13 | exact bk_14 | exact bk_15 | exact bk_16 | exact cr_5 | exact cr_23 | exact cr_24 | exact cr_25 | exact cr_26 | exact cr_27 | exact cr_28 | exact cr_29 | exact cr_30 | assumption)) (Nat.le_of_ble_eq_true rfl) rfl rfl rfl ?_
          rw [mwu_o]
          refine zr_aload_n dX7_undo_42 (rfl : 42 + 1 = 43) rfl ?_
          refine zr_getf dX7_undo_43 (rfl : 43 + 3 = 46) f_X7_25 (by first | assumption | exact mw_167 | exact mw_168 | exact mw_169 | exact mw_170 | exact bk_0 | exact bk_1 | exact bk_2 | exact bk_3 | exact bk_4 | exact bk_5 | exact bk_6 | exact bk_7 | exact bk_8 | exact bk_9 | exact bk_10 | exact bk_11 | exact bk_12 | exact bk_13 | exact bk_14 | exact bk_15 | exact bk_16 | exact zup_self | exact (zup_ne (by first | assumption | omega)).trans (by first | assumption | exact zup_self) | exact (zup_ne (by first | assumption | omega)).trans ((zup_ne (by first | assumption | omega)).trans (by first | assumption | exact zup_self)) | exact (bk_out (by first | omega | (simp only [bset, reduceIte, Nat.reduceEqDiff]; omega))).trans (by first | exact bk_0 | exact bk_1 | exact bk_2 | exact bk_3 | exact bk_4 | exact bk_5 | exact bk_6 | exact bk_7 | exact bk_8 | exact bk_9 | exact bk_10 | exact bk_11 | exact bk_12 | exact bk_13 | exact bk_14 | exact bk_15 | exact bk_16 | exact cr_5 | exact cr_23 | exact cr_24 | exact cr_25 | exact cr_26 | exact cr_27 | exact cr_28 | exact cr_29 | exact cr_30 | assumption)) rfl ?_
          refine zr_ireE dX7_undo_46 rfl rfl ?_
          exact ⟨rfl, _, _, zRel_undo hR h2, rfl⟩)
      · first
        | (exfalso; omega)
        | (
          exfalso
          omega))
theorem p_at1 (c r k : Int) (hc : j32 c) (hr : j32 r) (hk : j32 k) (hp : ¬ ((0 ≤ c ∧ c < 6) ∧ (0 ≤ r ∧ r < 3) ∧ 0 ≤ k ∧ k < 9))  (hR : zRel B σ S ik) : zFe Γ md_X7_at (d + 8) [.ref 167, .int (jI c), .int (jI r), .int (jI k)] (mw S σ.sc ik th σ.T σ.L w) (zMQ (some (.int (jI 0))) 1 (B) (σ) w) := by
  obtain ⟨ok, lk, pk, ck, lx, h, hsv, hkp⟩ := hR
  have hR : zRel B σ S ik := ⟨ok, lk, pk, ck, lx, h, hsv, hkp⟩
  refine zFe.of_run (lv := [some (.ref 167), some (.int (jI c)), some (.int (jI r)), some (.int (jI k))]) (by decide) rfl (Nat.le_of_ble_eq_true rfl) rfl (fun n9 g9 => ?_)
  refine zr_aload_n dX7_at_0 (rfl : 0 + 1 = 1) rfl ?_
  refine zr_iload_n dX7_at_1 (rfl : 1 + 1 = 2) rfl ?_
  refine zr_fnS dX7_at_2 (rfl : 2 + 3 = 5) l_X7_50 (m_isCard c hc) rfl rfl (Nat.le_of_ble_eq_true rfl) ?_
  refine zr_if_eq (tgt := 29) dX7_at_5 (by decide) (rfl : 5 + 3 = 8) (by first | exact jb_iff | exact jI_z (by first | omega | (simp only [bset, reduceIte, Nat.reduceEqDiff]; omega)) (by first | omega | (simp only [bset, reduceIte, Nat.reduceEqDiff]; omega))) (fun h5 => ?_) (fun h5 => ?_)
  · first
    | (exfalso; omega)
    | (
      refine zr_iconst dX7_at_29 (rfl : 29 + 1 = 30) ?_
      refine zr_iconst dX7_at_30 (rfl : 30 + 1 = 31) ?_
      refine zr_iconst dX7_at_31 (rfl : 31 + 1 = 32) ?_
      refine zr_fnV dX7_at_32 (rfl : 32 + 3 = 35) l_X7_60 (m_go1 _ _) (by first | assumption | exact mw_167 | exact mw_168 | exact mw_169 | exact mw_170 | exact bk_0 | exact bk_1 | exact bk_2 | exact bk_3 | exact bk_4 | exact bk_5 | exact bk_6 | exact bk_7 | exact bk_8 | exact bk_9 | exact bk_10 | exact bk_11 | exact bk_12 | exact bk_13 | exact bk_14 | exact bk_15 | exact bk_16 | exact zup_self | exact (zup_ne (by first | assumption | omega)).trans (by first | assumption | exact zup_self) | exact (zup_ne (by first | assumption | omega)).trans ((zup_ne (by first | assumption | omega)).trans (by first | assumption | exact zup_self)) | exact (bk_out (by first | omega | (simp only [bset, reduceIte, Nat.reduceEqDiff]; omega))).trans (by first | exact bk_0 | exact bk_1 | exact bk_2 | exact bk_3 | exact bk_4 | exact bk_5 | exact bk_6 | exact bk_7 | exact bk_8 | exact bk_9 | exact bk_10 | exact bk_11 | exact bk_12 | exact bk_13 | exact bk_14 | exact bk_15 | exact bk_16 | exact cr_5 | exact cr_23 | exact cr_24 | exact cr_25 | exact cr_26 | exact cr_27 | exact cr_28 | exact cr_29 | exact cr_30 | assumption)) rfl rfl rfl (Nat.le_of_ble_eq_true rfl) ?_
      refine zr_if_eq (tgt := 48) dX7_at_35 (by decide) (rfl : 35 + 3 = 38) (by first | exact jb_iff | exact jI_z (by first | omega | (simp only [bset, reduceIte, Nat.reduceEqDiff]; omega)) (by first | omega | (simp only [bset, reduceIte, Nat.reduceEqDiff]; omega))) (fun h35 => ?_) (fun h35 => ?_)
      · first
        | (exfalso; omega)
        | (
          refine zr_iconst dX7_at_48 (rfl : 48 + 1 = 49) ?_
          refine zr_ireE dX7_at_49 rfl rfl ?_
          exact ⟨rfl, S, ik, hR, rfl⟩)
      · first
        | (exfalso; omega)
        | (
          exfalso
          omega))
  · first
    | (exfalso; omega)
    | (
      refine zr_iload_n dX7_at_8 (rfl : 8 + 1 = 9) rfl ?_
      refine zr_fnS dX7_at_9 (rfl : 9 + 3 = 12) l_X7_54 (m_isRow r hr) rfl rfl (Nat.le_of_ble_eq_true rfl) ?_
      refine zr_if_eq (tgt := 29) dX7_at_12 (by decide) (rfl : 12 + 3 = 15) (by first | exact jb_iff | exact jI_z (by first | omega | (simp only [bset, reduceIte, Nat.reduceEqDiff]; omega)) (by first | omega | (simp only [bset, reduceIte, Nat.reduceEqDiff]; omega))) (fun h12 => ?_) (fun h12 => ?_)
      · first
        | (exfalso; omega)
        | (
          refine zr_iconst dX7_at_29 (rfl : 29 + 1 = 30) ?_
          refine zr_iconst dX7_at_30 (rfl : 30 + 1 = 31) ?_
          refine zr_iconst dX7_at_31 (rfl : 31 + 1 = 32) ?_
          refine zr_fnV dX7_at_32 (rfl : 32 + 3 = 35) l_X7_60 (m_go1 _ _) (by first | assumption | exact mw_167 | exact mw_168 | exact mw_169 | exact mw_170 | exact bk_0 | exact bk_1 | exact bk_2 | exact bk_3 | exact bk_4 | exact bk_5 | exact bk_6 | exact bk_7 | exact bk_8 | exact bk_9 | exact bk_10 | exact bk_11 | exact bk_12 | exact bk_13 | exact bk_14 | exact bk_15 | exact bk_16 | exact zup_self | exact (zup_ne (by first | assumption | omega)).trans (by first | assumption | exact zup_self) | exact (zup_ne (by first | assumption | omega)).trans ((zup_ne (by first | assumption | omega)).trans (by first | assumption | exact zup_self)) | exact (bk_out (by first | omega | (simp only [bset, reduceIte, Nat.reduceEqDiff]; omega))).trans (by first | exact bk_0 | exact bk_1 | exact bk_2 | exact bk_3 | exact bk_4 | exact bk_5 | exact bk_6 | exact bk_7 | exact bk_8 | exact bk_9 | exact bk_10 | exact bk_11 | exact bk_12 | exact bk_13 | exact bk_14 | exact bk_15 | exact bk_16 | exact cr_5 | exact cr_23 | exact cr_24 | exact cr_25 | exact cr_26 | exact cr_27 | exact cr_28 | exact cr_29 | exact cr_30 | assumption)) rfl rfl rfl (Nat.le_of_ble_eq_true rfl) ?_
          refine zr_if_eq (tgt := 48) dX7_at_35 (by decide) (rfl : 35 + 3 = 38) (by first | exact jb_iff | exact jI_z (by first | omega | (simp only [bset, reduceIte, Nat.reduceEqDiff]; omega)) (by first | omega | (simp only [bset, reduceIte, Nat.reduceEqDiff]; omega))) (fun h35 => ?_) (fun h35 => ?_)
          · first
            | (exfalso; omega)
            | (
              refine zr_iconst dX7_at_48 (rfl : 48 + 1 = 49) ?_
              refine zr_ireE dX7_at_49 rfl rfl ?_
              exact ⟨rfl, S, ik, hR, rfl⟩)
          · first
            | (exfalso; omega)
            | (
              exfalso
              omega))
      · first
        | (exfalso; omega)
        | (
          refine zr_iload_n dX7_at_15 (rfl : 15 + 1 = 16) rfl ?_
          refine zr_iconst dX7_at_16 (rfl : 16 + 1 = 17) ?_
          refine zr_bipush dX7_at_17 (rfl : 17 + 2 = 19) (by decide) ?_
          refine zr_fnS dX7_at_19 (rfl : 19 + 3 = 22) l_X7_32 (m_in k 0 8 hk (by first | omega | (simp only [bset, reduceIte, Nat.reduceEqDiff]; omega)) (by first | omega | (simp only [bset, reduceIte, Nat.reduceEqDiff]; omega))) rfl rfl (Nat.le_of_ble_eq_true rfl) ?_
          refine zr_if_eq (tgt := 29) dX7_at_22 (by decide) (rfl : 22 + 3 = 25) (by first | exact jb_iff | exact jI_z (by first | omega | (simp only [bset, reduceIte, Nat.reduceEqDiff]; omega)) (by first | omega | (simp only [bset, reduceIte, Nat.reduceEqDiff]; omega))) (fun h22 => ?_) (fun h22 => ?_)
          · first
            | (exfalso; omega)
            | (
              refine zr_iconst dX7_at_29 (rfl : 29 + 1 = 30) ?_
              refine zr_iconst dX7_at_30 (rfl : 30 + 1 = 31) ?_
              refine zr_iconst dX7_at_31 (rfl : 31 + 1 = 32) ?_
              refine zr_fnV dX7_at_32 (rfl : 32 + 3 = 35) l_X7_60 (m_go1 _ _) (by first | assumption | exact mw_167 | exact mw_168 | exact mw_169 | exact mw_170 | exact bk_0 | exact bk_1 | exact bk_2 | exact bk_3 | exact bk_4 | exact bk_5 | exact bk_6 | exact bk_7 | exact bk_8 | exact bk_9 | exact bk_10 | exact bk_11 | exact bk_12 | exact bk_13 | exact bk_14 | exact bk_15 | exact bk_16 | exact zup_self | exact (zup_ne (by first | assumption | omega)).trans (by first | assumption | exact zup_self) | exact (zup_ne (by first | assumption | omega)).trans ((zup_ne (by first | assumption | omega)).trans (by first | assumption | exact zup_self)) | exact (bk_out (by first | omega | (simp only [bset, reduceIte, Nat.reduceEqDiff]; omega))).trans (by first | exact bk_0 | exact bk_1 | exact bk_2 | exact bk_3 | exact bk_4 | exact bk_5 | exact bk_6 | exact bk_7 | exact bk_8 | exact bk_9 | exact bk_10 | exact bk_11 | exact bk_12 | exact bk_13 | exact bk_14 | exact bk_15 | exact bk_16 | exact cr_5 | exact cr_23 | exact cr_24 | exact cr_25 | exact cr_26 | exact cr_27 | exact cr_28 | exact cr_29 | exact cr_30 | assumption)) rfl rfl rfl (Nat.le_of_ble_eq_true rfl) ?_
              refine zr_if_eq (tgt := 48) dX7_at_35 (by decide) (rfl : 35 + 3 = 38) (by first | exact jb_iff | exact jI_z (by first | omega | (simp only [bset, reduceIte, Nat.reduceEqDiff]; omega)) (by first | omega | (simp only [bset, reduceIte, Nat.reduceEqDiff]; omega))) (fun h35 => ?_) (fun h35 => ?_)
              · first
                | (exfalso; omega)
                | (
                  refine zr_iconst dX7_at_48 (rfl : 48 + 1 = 49) ?_
                  refine zr_ireE dX7_at_49 rfl rfl ?_
                  exact ⟨rfl, S, ik, hR, rfl⟩)
              · first
                | (exfalso; omega)
                | (
                  exfalso
                  omega))
          · first
            | (exfalso; omega)
            | (
              refine zr_iconst dX7_at_25 (rfl : 25 + 1 = 26) ?_
              refine zr_goto (tgt := 30) dX7_at_26 (by decide) ?_
              refine zr_iconst dX7_at_30 (rfl : 30 + 1 = 31) ?_
              refine zr_iconst dX7_at_31 (rfl : 31 + 1 = 32) ?_
              refine zr_fnV dX7_at_32 (rfl : 32 + 3 = 35) l_X7_60 (m_go1 _ _) (by first | assumption | exact mw_167 | exact mw_168 | exact mw_169 | exact mw_170 | exact bk_0 | exact bk_1 | exact bk_2 | exact bk_3 | exact bk_4 | exact bk_5 | exact bk_6 | exact bk_7 | exact bk_8 | exact bk_9 | exact bk_10 | exact bk_11 | exact bk_12 | exact bk_13 | exact bk_14 | exact bk_15 | exact bk_16 | exact zup_self | exact (zup_ne (by first | assumption | omega)).trans (by first | assumption | exact zup_self) | exact (zup_ne (by first | assumption | omega)).trans ((zup_ne (by first | assumption | omega)).trans (by first | assumption | exact zup_self)) | exact (bk_out (by first | omega | (simp only [bset, reduceIte, Nat.reduceEqDiff]; omega))).trans (by first | exact bk_0 | exact bk_1 | exact bk_2 | exact bk_3 | exact bk_4 | exact bk_5 | exact bk_6 | exact bk_7 | exact bk_8 | exact bk_9 | exact bk_10 | exact bk_11 | exact bk_12 | exact bk_13 | exact bk_14 | exact bk_15 | exact bk_16 | exact cr_5 | exact cr_23 | exact cr_24 | exact cr_25 | exact cr_26 | exact cr_27 | exact cr_28 | exact cr_29 | exact cr_30 | assumption)) rfl rfl rfl (Nat.le_of_ble_eq_true rfl) ?_
              refine zr_if_eq (tgt := 48) dX7_at_35 (by decide) (rfl : 35 + 3 = 38) (by first | exact jb_iff | exact jI_z (by first | omega | (simp only [bset, reduceIte, Nat.reduceEqDiff]; omega)) (by first | omega | (simp only [bset, reduceIte, Nat.reduceEqDiff]; omega))) (fun h35 => ?_) (fun h35 => ?_)
              · first
                | (exfalso; omega)
                | (
                  refine zr_iconst dX7_at_48 (rfl : 48 + 1 = 49) ?_
                  refine zr_ireE dX7_at_49 rfl rfl ?_
                  exact ⟨rfl, S, ik, hR, rfl⟩)
              · first
                | (exfalso; omega)
                | (
                  exfalso
                  omega))))
theorem p_at (c r k : Int) (hc : j32 c) (hr : j32 r) (hk : j32 k) (hp : (0 ≤ c ∧ c < 6) ∧ (0 ≤ r ∧ r < 3) ∧ 0 ≤ k ∧ k < 9)  (hR : zRel B σ S ik) : zFe Γ md_X7_at (d + 8) [.ref 167, .int (jI c), .int (jI r), .int (jI k)] (mw S σ.sc ik th σ.T σ.L w) (zMQ (some (.int (jI (B 0 ((c * 3 + r) * 9 + k))))) 0 (B) (σ) w) := by
  obtain ⟨ok, lk, pk, ck, lx, h, hsv, hkp⟩ := hR
  have hR : zRel B σ S ik := ⟨ok, lk, pk, ck, lx, h, hsv, hkp⟩
  refine zFe.of_run (lv := [some (.ref 167), some (.int (jI c)), some (.int (jI r)), some (.int (jI k))]) (by decide) rfl (Nat.le_of_ble_eq_true rfl) rfl (fun n9 g9 => ?_)
  refine zr_aload_n dX7_at_0 (rfl : 0 + 1 = 1) rfl ?_
  refine zr_iload_n dX7_at_1 (rfl : 1 + 1 = 2) rfl ?_
  refine zr_fnS dX7_at_2 (rfl : 2 + 3 = 5) l_X7_50 (m_isCard c hc) rfl rfl (Nat.le_of_ble_eq_true rfl) ?_
  refine zr_if_eq (tgt := 29) dX7_at_5 (by decide) (rfl : 5 + 3 = 8) (by first | exact jb_iff | exact jI_z (by first | omega | (simp only [bset, reduceIte, Nat.reduceEqDiff]; omega)) (by first | omega | (simp only [bset, reduceIte, Nat.reduceEqDiff]; omega))) (fun h5 => ?_) (fun h5 => ?_)
  · first
    | (exfalso; omega)
    | (
      refine zr_iconst dX7_at_29 (rfl : 29 + 1 = 30) ?_
      refine zr_iconst dX7_at_30 (rfl : 30 + 1 = 31) ?_
      refine zr_iconst dX7_at_31 (rfl : 31 + 1 = 32) ?_
      refine zr_fnV dX7_at_32 (rfl : 32 + 3 = 35) l_X7_60 (m_go) (by first | assumption | exact mw_167 | exact mw_168 | exact mw_169 | exact mw_170 | exact bk_0 | exact bk_1 | exact bk_2 | exact bk_3 | exact bk_4 | exact bk_5 | exact bk_6 | exact bk_7 | exact bk_8 | exact bk_9 | exact bk_10 | exact bk_11 | exact bk_12 | exact bk_13 | exact bk_14 | exact bk_15 | exact bk_16 | exact zup_self | exact (zup_ne (by first | assumption | omega)).trans (by first | assumption | exact zup_self) | exact (zup_ne (by first | assumption | omega)).trans ((zup_ne (by first | assumption | omega)).trans (by first | assumption | exact zup_self)) | exact (bk_out (by first | omega | (simp only [bset, reduceIte, Nat.reduceEqDiff]; omega))).trans (by first | exact bk_0 | exact bk_1 | exact bk_2 | exact bk_3 | exact bk_4 | exact bk_5 | exact bk_6 | exact bk_7 | exact bk_8 | exact bk_9 | exact bk_10 | exact bk_11 | exact bk_12 | exact bk_13 | exact bk_14 | exact bk_15 | exact bk_16 | exact cr_5 | exact cr_23 | exact cr_24 | exact cr_25 | exact cr_26 | exact cr_27 | exact cr_28 | exact cr_29 | exact cr_30 | assumption)) rfl rfl rfl (Nat.le_of_ble_eq_true rfl) ?_
      refine zr_if_eq (tgt := 48) dX7_at_35 (by decide) (rfl : 35 + 3 = 38) (by first | exact jb_iff | exact jI_z (by first | omega | (simp only [bset, reduceIte, Nat.reduceEqDiff]; omega)) (by first | omega | (simp only [bset, reduceIte, Nat.reduceEqDiff]; omega))) (fun h35 => ?_) (fun h35 => ?_)
      · first
        | (exfalso; omega)
        | (
          exfalso
          omega)
      · first
        | (exfalso; omega)
        | (
          refine zr_aload_n dX7_at_38 (rfl : 38 + 1 = 39) rfl ?_
          refine zr_iload_n dX7_at_39 (rfl : 39 + 1 = 40) rfl ?_
          refine zr_iload_n dX7_at_40 (rfl : 40 + 1 = 41) rfl ?_
          refine zr_iload_n dX7_at_41 (rfl : 41 + 1 = 42) rfl ?_
          refine zr_fnV dX7_at_42 (rfl : 42 + 3 = 45) l_X7_44 (m_numberAt c r k hp.1 hp.2.1 hp.2.2 h ok lk) (by first | assumption | exact mw_167 | exact mw_168 | exact mw_169 | exact mw_170 | exact bk_0 | exact bk_1 | exact bk_2 | exact bk_3 | exact bk_4 | exact bk_5 | exact bk_6 | exact bk_7 | exact bk_8 | exact bk_9 | exact bk_10 | exact bk_11 | exact bk_12 | exact bk_13 | exact bk_14 | exact bk_15 | exact bk_16 | exact zup_self | exact (zup_ne (by first | assumption | omega)).trans (by first | assumption | exact zup_self) | exact (zup_ne (by first | assumption | omega)).trans ((zup_ne (by first | assumption | omega)).trans (by first | assumption | exact zup_self)) | exact (bk_out (by first | omega | (simp only [bset, reduceIte, Nat.reduceEqDiff]; omega))).trans (by first | exact bk_0 | exact bk_1 | exact bk_2 | exact bk_3 | exact bk_4 | exact bk_5 | exact bk_6 | exact bk_7 | exact bk_8 | exact bk_9 | exact bk_10 | exact bk_11 | exact bk_12 | exact bk_13 | exact bk_14 | exact bk_15 | exact bk_16 | exact cr_5 | exact cr_23 | exact cr_24 | exact cr_25 | exact cr_26 | exact cr_27 | exact cr_28 | exact cr_29 | exact cr_30 | assumption)) rfl rfl rfl (Nat.le_of_ble_eq_true rfl) ?_
          refine zr_goto (tgt := 49) dX7_at_45 (by decide) ?_
          refine zr_ireE dX7_at_49 rfl rfl ?_
          exact ⟨rfl, S, ik, hR, rfl⟩))
  · first
    | (exfalso; omega)
    | (
      refine zr_iload_n dX7_at_8 (rfl : 8 + 1 = 9) rfl ?_
      refine zr_fnS dX7_at_9 (rfl : 9 + 3 = 12) l_X7_54 (m_isRow r hr) rfl rfl (Nat.le_of_ble_eq_true rfl) ?_
      refine zr_if_eq (tgt := 29) dX7_at_12 (by decide) (rfl : 12 + 3 = 15) (by first | exact jb_iff | exact jI_z (by first | omega | (simp only [bset, reduceIte, Nat.reduceEqDiff]; omega)) (by first | omega | (simp only [bset, reduceIte, Nat.reduceEqDiff]; omega))) (fun h12 => ?_) (fun h12 => ?_)
      · first
        | (exfalso; omega)
        | (
          refine zr_iconst dX7_at_29 (rfl : 29 + 1 = 30) ?_
          refine zr_iconst dX7_at_30 (rfl : 30 + 1 = 31) ?_
          refine zr_iconst dX7_at_31 (rfl : 31 + 1 = 32) ?_
          refine zr_fnV dX7_at_32 (rfl : 32 + 3 = 35) l_X7_60 (m_go) (by first | assumption | exact mw_167 | exact mw_168 | exact mw_169 | exact mw_170 | exact bk_0 | exact bk_1 | exact bk_2 | exact bk_3 | exact bk_4 | exact bk_5 | exact bk_6 | exact bk_7 | exact bk_8 | exact bk_9 | exact bk_10 | exact bk_11 | exact bk_12 | exact bk_13 | exact bk_14 | exact bk_15 | exact bk_16 | exact zup_self | exact (zup_ne (by first | assumption | omega)).trans (by first | assumption | exact zup_self) | exact (zup_ne (by first | assumption | omega)).trans ((zup_ne (by first | assumption | omega)).trans (by first | assumption | exact zup_self)) | exact (bk_out (by first | omega | (simp only [bset, reduceIte, Nat.reduceEqDiff]; omega))).trans (by first | exact bk_0 | exact bk_1 | exact bk_2 | exact bk_3 | exact bk_4 | exact bk_5 | exact bk_6 | exact bk_7 | exact bk_8 | exact bk_9 | exact bk_10 | exact bk_11 | exact bk_12 | exact bk_13 | exact bk_14 | exact bk_15 | exact bk_16 | exact cr_5 | exact cr_23 | exact cr_24 | exact cr_25 | exact cr_26 | exact cr_27 | exact cr_28 | exact cr_29 | exact cr_30 | assumption)) rfl rfl rfl (Nat.le_of_ble_eq_true rfl) ?_
          refine zr_if_eq (tgt := 48) dX7_at_35 (by decide) (rfl : 35 + 3 = 38) (by first | exact jb_iff | exact jI_z (by first | omega | (simp only [bset, reduceIte, Nat.reduceEqDiff]; omega)) (by first | omega | (simp only [bset, reduceIte, Nat.reduceEqDiff]; omega))) (fun h35 => ?_) (fun h35 => ?_)
          · first
            | (exfalso; omega)
            | (
              exfalso
              omega)
          · first
            | (exfalso; omega)
            | (
              refine zr_aload_n dX7_at_38 (rfl : 38 + 1 = 39) rfl ?_
              refine zr_iload_n dX7_at_39 (rfl : 39 + 1 = 40) rfl ?_
              refine zr_iload_n dX7_at_40 (rfl : 40 + 1 = 41) rfl ?_
              refine zr_iload_n dX7_at_41 (rfl : 41 + 1 = 42) rfl ?_
              refine zr_fnV dX7_at_42 (rfl : 42 + 3 = 45) l_X7_44 (m_numberAt c r k hp.1 hp.2.1 hp.2.2 h ok lk) (by first | assumption | exact mw_167 | exact mw_168 | exact mw_169 | exact mw_170 | exact bk_0 | exact bk_1 | exact bk_2 | exact bk_3 | exact bk_4 | exact bk_5 | exact bk_6 | exact bk_7 | exact bk_8 | exact bk_9 | exact bk_10 | exact bk_11 | exact bk_12 | exact bk_13 | exact bk_14 | exact bk_15 | exact bk_16 | exact zup_self | exact (zup_ne (by first | assumption | omega)).trans (by first | assumption | exact zup_self) | exact (zup_ne (by first | assumption | omega)).trans ((zup_ne (by first | assumption | omega)).trans (by first | assumption | exact zup_self)) | exact (bk_out (by first | omega | (simp only [bset, reduceIte, Nat.reduceEqDiff]; omega))).trans (by first | exact bk_0 | exact bk_1 | exact bk_2 | exact bk_3 | exact bk_4 | exact bk_5 | exact bk_6 | exact bk_7 | exact bk_8 | exact bk_9 | exact bk_10 | exact bk_11 | exact bk_12 | exact bk_13 | exact bk_14 | exact bk_15 | exact bk_16 | exact cr_5 | exact cr_23 | exact cr_24 | exact cr_25 | exact cr_26 | exact cr_27 | exact cr_28 | exact cr_29 | exact cr_30 | assumption)) rfl rfl rfl (Nat.le_of_ble_eq_true rfl) ?_
              refine zr_goto (tgt := 49) dX7_at_45 (by decide) ?_
              refine zr_ireE dX7_at_49 rfl rfl ?_
              exact ⟨rfl, S, ik, hR, rfl⟩))
      · first
        | (exfalso; omega)
        | (
          refine zr_iload_n dX7_at_15 (rfl : 15 + 1 = 16) rfl ?_
          refine zr_iconst dX7_at_16 (rfl : 16 + 1 = 17) ?_
          refine zr_bipush dX7_at_17 (rfl : 17 + 2 = 19) (by decide) ?_
          refine zr_fnS dX7_at_19 (rfl : 19 + 3 = 22) l_X7_32 (m_in k 0 8 hk (by first | omega | (simp only [bset, reduceIte, Nat.reduceEqDiff]; omega)) (by first | omega | (simp only [bset, reduceIte, Nat.reduceEqDiff]; omega))) rfl rfl (Nat.le_of_ble_eq_true rfl) ?_
          refine zr_if_eq (tgt := 29) dX7_at_22 (by decide) (rfl : 22 + 3 = 25) (by first | exact jb_iff | exact jI_z (by first | omega | (simp only [bset, reduceIte, Nat.reduceEqDiff]; omega)) (by first | omega | (simp only [bset, reduceIte, Nat.reduceEqDiff]; omega))) (fun h22 => ?_) (fun h22 => ?_)
          · first
            | (exfalso; omega)
            | (
              refine zr_iconst dX7_at_29 (rfl : 29 + 1 = 30) ?_
              refine zr_iconst dX7_at_30 (rfl : 30 + 1 = 31) ?_
              refine zr_iconst dX7_at_31 (rfl : 31 + 1 = 32) ?_
              refine zr_fnV dX7_at_32 (rfl : 32 + 3 = 35) l_X7_60 (m_go) (by first | assumption | exact mw_167 | exact mw_168 | exact mw_169 | exact mw_170 | exact bk_0 | exact bk_1 | exact bk_2 | exact bk_3 | exact bk_4 | exact bk_5 | exact bk_6 | exact bk_7 | exact bk_8 | exact bk_9 | exact bk_10 | exact bk_11 | exact bk_12 | exact bk_13 | exact bk_14 | exact bk_15 | exact bk_16 | exact zup_self | exact (zup_ne (by first | assumption | omega)).trans (by first | assumption | exact zup_self) | exact (zup_ne (by first | assumption | omega)).trans ((zup_ne (by first | assumption | omega)).trans (by first | assumption | exact zup_self)) | exact (bk_out (by first | omega | (simp only [bset, reduceIte, Nat.reduceEqDiff]; omega))).trans (by first | exact bk_0 | exact bk_1 | exact bk_2 | exact bk_3 | exact bk_4 | exact bk_5 | exact bk_6 | exact bk_7 | exact bk_8 | exact bk_9 | exact bk_10 | exact bk_11 | exact bk_12 | exact bk_13 | exact bk_14 | exact bk_15 | exact bk_16 | exact cr_5 | exact cr_23 | exact cr_24 | exact cr_25 | exact cr_26 | exact cr_27 | exact cr_28 | exact cr_29 | exact cr_30 | assumption)) rfl rfl rfl (Nat.le_of_ble_eq_true rfl) ?_
              refine zr_if_eq (tgt := 48) dX7_at_35 (by decide) (rfl : 35 + 3 = 38) (by first | exact jb_iff | exact jI_z (by first | omega | (simp only [bset, reduceIte, Nat.reduceEqDiff]; omega)) (by first | omega | (simp only [bset, reduceIte, Nat.reduceEqDiff]; omega))) (fun h35 => ?_) (fun h35 => ?_)
              · first
                | (exfalso; omega)
                | (
                  exfalso
                  omega)
              · first
                | (exfalso; omega)
                | (
                  refine zr_aload_n dX7_at_38 (rfl : 38 + 1 = 39) rfl ?_
                  refine zr_iload_n dX7_at_39 (rfl : 39 + 1 = 40) rfl ?_
                  refine zr_iload_n dX7_at_40 (rfl : 40 + 1 = 41) rfl ?_
                  refine zr_iload_n dX7_at_41 (rfl : 41 + 1 = 42) rfl ?_
                  refine zr_fnV dX7_at_42 (rfl : 42 + 3 = 45) l_X7_44 (m_numberAt c r k hp.1 hp.2.1 hp.2.2 h ok lk) (by first | assumption | exact mw_167 | exact mw_168 | exact mw_169 | exact mw_170 | exact bk_0 | exact bk_1 | exact bk_2 | exact bk_3 | exact bk_4 | exact bk_5 | exact bk_6 | exact bk_7 | exact bk_8 | exact bk_9 | exact bk_10 | exact bk_11 | exact bk_12 | exact bk_13 | exact bk_14 | exact bk_15 | exact bk_16 | exact zup_self | exact (zup_ne (by first | assumption | omega)).trans (by first | assumption | exact zup_self) | exact (zup_ne (by first | assumption | omega)).trans ((zup_ne (by first | assumption | omega)).trans (by first | assumption | exact zup_self)) | exact (bk_out (by first | omega | (simp only [bset, reduceIte, Nat.reduceEqDiff]; omega))).trans (by first | exact bk_0 | exact bk_1 | exact bk_2 | exact bk_3 | exact bk_4 | exact bk_5 | exact bk_6 | exact bk_7 | exact bk_8 | exact bk_9 | exact bk_10 | exact bk_11 | exact bk_12 | exact bk_13 | exact bk_14 | exact bk_15 | exact bk_16 | exact cr_5 | exact cr_23 | exact cr_24 | exact cr_25 | exact cr_26 | exact cr_27 | exact cr_28 | exact cr_29 | exact cr_30 | assumption)) rfl rfl rfl (Nat.le_of_ble_eq_true rfl) ?_
                  refine zr_goto (tgt := 49) dX7_at_45 (by decide) ?_
                  refine zr_ireE dX7_at_49 rfl rfl ?_
                  exact ⟨rfl, S, ik, hR, rfl⟩))
          · first
            | (exfalso; omega)
            | (
              refine zr_iconst dX7_at_25 (rfl : 25 + 1 = 26) ?_
              refine zr_goto (tgt := 30) dX7_at_26 (by decide) ?_
              refine zr_iconst dX7_at_30 (rfl : 30 + 1 = 31) ?_
              refine zr_iconst dX7_at_31 (rfl : 31 + 1 = 32) ?_
              refine zr_fnV dX7_at_32 (rfl : 32 + 3 = 35) l_X7_60 (m_go) (by first | assumption | exact mw_167 | exact mw_168 | exact mw_169 | exact mw_170 | exact bk_0 | exact bk_1 | exact bk_2 | exact bk_3 | exact bk_4 | exact bk_5 | exact bk_6 | exact bk_7 | exact bk_8 | exact bk_9 | exact bk_10 | exact bk_11 | exact bk_12 | exact bk_13 | exact bk_14 | exact bk_15 | exact bk_16 | exact zup_self | exact (zup_ne (by first | assumption | omega)).trans (by first | assumption | exact zup_self) | exact (zup_ne (by first | assumption | omega)).trans ((zup_ne (by first | assumption | omega)).trans (by first | assumption | exact zup_self)) | exact (bk_out (by first | omega | (simp only [bset, reduceIte, Nat.reduceEqDiff]; omega))).trans (by first | exact bk_0 | exact bk_1 | exact bk_2 | exact bk_3 | exact bk_4 | exact bk_5 | exact bk_6 | exact bk_7 | exact bk_8 | exact bk_9 | exact bk_10 | exact bk_11 | exact bk_12 | exact bk_13 | exact bk_14 | exact bk_15 | exact bk_16 | exact cr_5 | exact cr_23 | exact cr_24 | exact cr_25 | exact cr_26 | exact cr_27 | exact cr_28 | exact cr_29 | exact cr_30 | assumption)) rfl rfl rfl (Nat.le_of_ble_eq_true rfl) ?_
              refine zr_if_eq (tgt := 48) dX7_at_35 (by decide) (rfl : 35 + 3 = 38) (by first | exact jb_iff | exact jI_z (by first | omega | (simp only [bset, reduceIte, Nat.reduceEqDiff]; omega)) (by first | omega | (simp only [bset, reduceIte, Nat.reduceEqDiff]; omega))) (fun h35 => ?_) (fun h35 => ?_)
              · first
                | (exfalso; omega)
                | (
                  exfalso
                  omega)
              · first
                | (exfalso; omega)
                | (
                  refine zr_aload_n dX7_at_38 (rfl : 38 + 1 = 39) rfl ?_
                  refine zr_iload_n dX7_at_39 (rfl : 39 + 1 = 40) rfl ?_
                  refine zr_iload_n dX7_at_40 (rfl : 40 + 1 = 41) rfl ?_
                  refine zr_iload_n dX7_at_41 (rfl : 41 + 1 = 42) rfl ?_
                  refine zr_fnV dX7_at_42 (rfl : 42 + 3 = 45) l_X7_44 (m_numberAt c r k hp.1 hp.2.1 hp.2.2 h ok lk) (by first | assumption | exact mw_167 | exact mw_168 | exact mw_169 | exact mw_170 | exact bk_0 | exact bk_1 | exact bk_2 | exact bk_3 | exact bk_4 | exact bk_5 | exact bk_6 | exact bk_7 | exact bk_8 | exact bk_9 | exact bk_10 | exact bk_11 | exact bk_12 | exact bk_13 | exact bk_14 | exact bk_15 | exact bk_16 | exact zup_self | exact (zup_ne (by first | assumption | omega)).trans (by first | assumption | exact zup_self) | exact (zup_ne (by first | assumption | omega)).trans ((zup_ne (by first | assumption | omega)).trans (by first | assumption | exact zup_self)) | exact (bk_out (by first | omega | (simp only [bset, reduceIte, Nat.reduceEqDiff]; omega))).trans (by first | exact bk_0 | exact bk_1 | exact bk_2 | exact bk_3 | exact bk_4 | exact bk_5 | exact bk_6 | exact bk_7 | exact bk_8 | exact bk_9 | exact bk_10 | exact bk_11 | exact bk_12 | exact bk_13 | exact bk_14 | exact bk_15 | exact bk_16 | exact cr_5 | exact cr_23 | exact cr_24 | exact cr_25 | exact cr_26 | exact cr_27 | exact cr_28 | exact cr_29 | exact cr_30 | assumption)) rfl rfl rfl (Nat.le_of_ble_eq_true rfl) ?_
                  refine zr_goto (tgt := 49) dX7_at_45 (by decide) ?_
                  refine zr_ireE dX7_at_49 rfl rfl ?_
                  exact ⟨rfl, S, ik, hR, rfl⟩))))
theorem p_cardOf1 (c k : Int) (hc : j32 c) (hk : j32 k) (hp : ¬ (0 ≤ c ∧ c < 6))  (hR : zRel B σ S ik) : zFe Γ md_X7_cardOf (d + 8) [.ref 167, .int (jI c), .int (jI k)] (mw S σ.sc ik th σ.T σ.L w) (zMQ (some (.int (jI 0))) 1 (B) (σ) w) := by
  obtain ⟨ok, lk, pk, ck, lx, h, hsv, hkp⟩ := hR
  have hR : zRel B σ S ik := ⟨ok, lk, pk, ck, lx, h, hsv, hkp⟩
  refine zFe.of_run (lv := [some (.ref 167), some (.int (jI c)), some (.int (jI k))]) (by decide) rfl (Nat.le_of_ble_eq_true rfl) rfl (fun n9 g9 => ?_)
  refine zr_aload_n dX7_cardOf_0 (rfl : 0 + 1 = 1) rfl ?_
  refine zr_iload_n dX7_cardOf_1 (rfl : 1 + 1 = 2) rfl ?_
  refine zr_fnS dX7_cardOf_2 (rfl : 2 + 3 = 5) l_X7_50 (m_isCard c hc) rfl rfl (Nat.le_of_ble_eq_true rfl) ?_
  rw [jb_neg (by omega)]
  refine zr_iload_n dX7_cardOf_5 (rfl : 5 + 1 = 6) rfl ?_
  refine zr_iconst dX7_cardOf_6 (rfl : 6 + 1 = 7) ?_
  refine zr_bipush dX7_cardOf_7 (rfl : 7 + 2 = 9) (by decide) ?_
  refine zr_fnS dX7_cardOf_9 (rfl : 9 + 3 = 12) l_X7_32 (m_in k 0 8 hk (by first | omega | (simp only [bset, reduceIte, Nat.reduceEqDiff]; omega)) (by first | omega | (simp only [bset, reduceIte, Nat.reduceEqDiff]; omega))) rfl rfl (Nat.le_of_ble_eq_true rfl) ?_
  refine zr_iconst dX7_cardOf_12 (rfl : 12 + 1 = 13) ?_
  refine zr_fnV dX7_cardOf_13 (rfl : 13 + 3 = 16) l_X7_60 (m_go1 _ _) (by first | assumption | exact mw_167 | exact mw_168 | exact mw_169 | exact mw_170 | exact bk_0 | exact bk_1 | exact bk_2 | exact bk_3 | exact bk_4 | exact bk_5 | exact bk_6 | exact bk_7 | exact bk_8 | exact bk_9 | exact bk_10 | exact bk_11 | exact bk_12 | exact bk_13 | exact bk_14 | exact bk_15 | exact bk_16 | exact zup_self | exact (zup_ne (by first | assumption | omega)).trans (by first | assumption | exact zup_self) | exact (zup_ne (by first | assumption | omega)).trans ((zup_ne (by first | assumption | omega)).trans (by first | assumption | exact zup_self)) | exact (bk_out (by first | omega | (simp only [bset, reduceIte, Nat.reduceEqDiff]; omega))).trans (by first | exact bk_0 | exact bk_1 | exact bk_2 | exact bk_3 | exact bk_4 | exact bk_5 | exact bk_6 | exact bk_7 | exact bk_8 | exact bk_9 | exact bk_10 | exact bk_11 | exact bk_12 | exact bk_13 | exact bk_14 | exact bk_15 | exact bk_16 | exact cr_5 | exact cr_23 | exact cr_24 | exact cr_25 | exact cr_26 | exact cr_27 | exact cr_28 | exact cr_29 | exact cr_30 | assumption)) rfl rfl rfl (Nat.le_of_ble_eq_true rfl) ?_
  refine zr_if_eq (tgt := 28) dX7_cardOf_16 (by decide) (rfl : 16 + 3 = 19) (by first | exact jb_iff | exact jI_z (by first | omega | (simp only [bset, reduceIte, Nat.reduceEqDiff]; omega)) (by first | omega | (simp only [bset, reduceIte, Nat.reduceEqDiff]; omega))) (fun h16 => ?_) (fun h16 => ?_)
  · first
    | (exfalso; omega)
    | (
      refine zr_iconst dX7_cardOf_28 (rfl : 28 + 1 = 29) ?_
      refine zr_ireE dX7_cardOf_29 rfl rfl ?_
      exact ⟨rfl, S, ik, hR, rfl⟩)
  · first
    | (exfalso; omega)
    | (
      exfalso
      omega)
theorem p_cardOf2 (c k : Int) (hc : j32 c) (hk : j32 k) (hp : 0 ≤ c ∧ c < 6) (h2 : ¬ (0 ≤ k ∧ k < 9))  (hR : zRel B σ S ik) : zFe Γ md_X7_cardOf (d + 8) [.ref 167, .int (jI c), .int (jI k)] (mw S σ.sc ik th σ.T σ.L w) (zMQ (some (.int (jI 0))) 2 (B) (σ) w) := by
  obtain ⟨ok, lk, pk, ck, lx, h, hsv, hkp⟩ := hR
  have hR : zRel B σ S ik := ⟨ok, lk, pk, ck, lx, h, hsv, hkp⟩
  refine zFe.of_run (lv := [some (.ref 167), some (.int (jI c)), some (.int (jI k))]) (by decide) rfl (Nat.le_of_ble_eq_true rfl) rfl (fun n9 g9 => ?_)
  refine zr_aload_n dX7_cardOf_0 (rfl : 0 + 1 = 1) rfl ?_
  refine zr_iload_n dX7_cardOf_1 (rfl : 1 + 1 = 2) rfl ?_
  refine zr_fnS dX7_cardOf_2 (rfl : 2 + 3 = 5) l_X7_50 (m_isCard c hc) rfl rfl (Nat.le_of_ble_eq_true rfl) ?_
  rw [jb_pos (by omega)]
  refine zr_iload_n dX7_cardOf_5 (rfl : 5 + 1 = 6) rfl ?_
  refine zr_iconst dX7_cardOf_6 (rfl : 6 + 1 = 7) ?_
  refine zr_bipush dX7_cardOf_7 (rfl : 7 + 2 = 9) (by decide) ?_
  refine zr_fnS dX7_cardOf_9 (rfl : 9 + 3 = 12) l_X7_32 (m_in k 0 8 hk (by first | omega | (simp only [bset, reduceIte, Nat.reduceEqDiff]; omega)) (by first | omega | (simp only [bset, reduceIte, Nat.reduceEqDiff]; omega))) rfl rfl (Nat.le_of_ble_eq_true rfl) ?_
  rw [jb_neg (by omega)]
  refine zr_iconst dX7_cardOf_12 (rfl : 12 + 1 = 13) ?_
  refine zr_fnV dX7_cardOf_13 (rfl : 13 + 3 = 16) l_X7_60 (m_go2 _) (by first | assumption | exact mw_167 | exact mw_168 | exact mw_169 | exact mw_170 | exact bk_0 | exact bk_1 | exact bk_2 | exact bk_3 | exact bk_4 | exact bk_5 | exact bk_6 | exact bk_7 | exact bk_8 | exact bk_9 | exact bk_10 | exact bk_11 | exact bk_12 | exact bk_13 | exact bk_14 | exact bk_15 | exact bk_16 | exact zup_self | exact (zup_ne (by first | assumption | omega)).trans (by first | assumption | exact zup_self) | exact (zup_ne (by first | assumption | omega)).trans ((zup_ne (by first | assumption | omega)).trans (by first | assumption | exact zup_self)) | exact (bk_out (by first | omega | (simp only [bset, reduceIte, Nat.reduceEqDiff]; omega))).trans (by first | exact bk_0 | exact bk_1 | exact bk_2 | exact bk_3 | exact bk_4 | exact bk_5 | exact bk_6 | exact bk_7 | exact bk_8 | exact bk_9 | exact bk_10 | exact bk_11 | exact bk_12 | exact bk_13 | exact bk_14 | exact bk_15 | exact bk_16 | exact cr_5 | exact cr_23 | exact cr_24 | exact cr_25 | exact cr_26 | exact cr_27 | exact cr_28 | exact cr_29 | exact cr_30 | assumption)) rfl rfl rfl (Nat.le_of_ble_eq_true rfl) ?_
  refine zr_if_eq (tgt := 28) dX7_cardOf_16 (by decide) (rfl : 16 + 3 = 19) (by first | exact jb_iff | exact jI_z (by first | omega | (simp only [bset, reduceIte, Nat.reduceEqDiff]; omega)) (by first | omega | (simp only [bset, reduceIte, Nat.reduceEqDiff]; omega))) (fun h16 => ?_) (fun h16 => ?_)
  · first
    | (exfalso; omega)
    | (
      refine zr_iconst dX7_cardOf_28 (rfl : 28 + 1 = 29) ?_
      refine zr_ireE dX7_cardOf_29 rfl rfl ?_
      exact ⟨rfl, S, ik, hR, rfl⟩)
  · first
    | (exfalso; omega)
    | (
      exfalso
      omega)
theorem p_cardOf (c k : Int) (hc : j32 c) (hk : j32 k) (hp : 0 ≤ c ∧ c < 6) (h2 : 0 ≤ k ∧ k < 9)  (hR : zRel B σ S ik) : zFe Γ md_X7_cardOf (d + 8) [.ref 167, .int (jI c), .int (jI k)] (mw S σ.sc ik th σ.T σ.L w) (zMQ (some (.int (jI (jcd B c k)))) 0 (B) (σ) w) := by
  obtain ⟨ok, lk, pk, ck, lx, h, hsv, hkp⟩ := hR
  have hR : zRel B σ S ik := ⟨ok, lk, pk, ck, lx, h, hsv, hkp⟩
  refine zFe.of_run (lv := [some (.ref 167), some (.int (jI c)), some (.int (jI k))]) (by decide) rfl (Nat.le_of_ble_eq_true rfl) rfl (fun n9 g9 => ?_)
  refine zr_aload_n dX7_cardOf_0 (rfl : 0 + 1 = 1) rfl ?_
  refine zr_iload_n dX7_cardOf_1 (rfl : 1 + 1 = 2) rfl ?_
  refine zr_fnS dX7_cardOf_2 (rfl : 2 + 3 = 5) l_X7_50 (m_isCard c hc) rfl rfl (Nat.le_of_ble_eq_true rfl) ?_
  rw [jb_pos (by omega)]
  refine zr_iload_n dX7_cardOf_5 (rfl : 5 + 1 = 6) rfl ?_
  refine zr_iconst dX7_cardOf_6 (rfl : 6 + 1 = 7) ?_
  refine zr_bipush dX7_cardOf_7 (rfl : 7 + 2 = 9) (by decide) ?_
  refine zr_fnS dX7_cardOf_9 (rfl : 9 + 3 = 12) l_X7_32 (m_in k 0 8 hk (by first | omega | (simp only [bset, reduceIte, Nat.reduceEqDiff]; omega)) (by first | omega | (simp only [bset, reduceIte, Nat.reduceEqDiff]; omega))) rfl rfl (Nat.le_of_ble_eq_true rfl) ?_
  rw [jb_pos (by omega)]
  refine zr_iconst dX7_cardOf_12 (rfl : 12 + 1 = 13) ?_
  refine zr_fnV dX7_cardOf_13 (rfl : 13 + 3 = 16) l_X7_60 (m_go) (by first | assumption | exact mw_167 | exact mw_168 | exact mw_169 | exact mw_170 | exact bk_0 | exact bk_1 | exact bk_2 | exact bk_3 | exact bk_4 | exact bk_5 | exact bk_6 | exact bk_7 | exact bk_8 | exact bk_9 | exact bk_10 | exact bk_11 | exact bk_12 | exact bk_13 | exact bk_14 | exact bk_15 | exact bk_16 | exact zup_self | exact (zup_ne (by first | assumption | omega)).trans (by first | assumption | exact zup_self) | exact (zup_ne (by first | assumption | omega)).trans ((zup_ne (by first | assumption | omega)).trans (by first | assumption | exact zup_self)) | exact (bk_out (by first | omega | (simp only [bset, reduceIte, Nat.reduceEqDiff]; omega))).trans (by first | exact bk_0 | exact bk_1 | exact bk_2 | exact bk_3 | exact bk_4 | exact bk_5 | exact bk_6 | exact bk_7 | exact bk_8 | exact bk_9 | exact bk_10 | exact bk_11 | exact bk_12 | exact bk_13 | exact bk_14 | exact bk_15 | exact bk_16 | exact cr_5 | exact cr_23 | exact cr_24 | exact cr_25 | exact cr_26 | exact cr_27 | exact cr_28 | exact cr_29 | exact cr_30 | assumption)) rfl rfl rfl (Nat.le_of_ble_eq_true rfl) ?_
  refine zr_if_eq (tgt := 28) dX7_cardOf_16 (by decide) (rfl : 16 + 3 = 19) (by first | exact jb_iff | exact jI_z (by first | omega | (simp only [bset, reduceIte, Nat.reduceEqDiff]; omega)) (by first | omega | (simp only [bset, reduceIte, Nat.reduceEqDiff]; omega))) (fun h16 => ?_) (fun h16 => ?_)
  · first
    | (exfalso; omega)
    | (
      exfalso
      omega)
  · first
    | (exfalso; omega)
    | (
      refine zr_aload_n dX7_cardOf_19 (rfl : 19 + 1 = 20) rfl ?_
      refine zr_iload_n dX7_cardOf_20 (rfl : 20 + 1 = 21) rfl ?_
      refine zr_iload_n dX7_cardOf_21 (rfl : 21 + 1 = 22) rfl ?_
      refine zr_fnV dX7_cardOf_22 (rfl : 22 + 3 = 25) l_X7_149 (m_cards c k hp h2 h ok lk) (by first | assumption | exact mw_167 | exact mw_168 | exact mw_169 | exact mw_170 | exact bk_0 | exact bk_1 | exact bk_2 | exact bk_3 | exact bk_4 | exact bk_5 | exact bk_6 | exact bk_7 | exact bk_8 | exact bk_9 | exact bk_10 | exact bk_11 | exact bk_12 | exact bk_13 | exact bk_14 | exact bk_15 | exact bk_16 | exact zup_self | exact (zup_ne (by first | assumption | omega)).trans (by first | assumption | exact zup_self) | exact (zup_ne (by first | assumption | omega)).trans ((zup_ne (by first | assumption | omega)).trans (by first | assumption | exact zup_self)) | exact (bk_out (by first | omega | (simp only [bset, reduceIte, Nat.reduceEqDiff]; omega))).trans (by first | exact bk_0 | exact bk_1 | exact bk_2 | exact bk_3 | exact bk_4 | exact bk_5 | exact bk_6 | exact bk_7 | exact bk_8 | exact bk_9 | exact bk_10 | exact bk_11 | exact bk_12 | exact bk_13 | exact bk_14 | exact bk_15 | exact bk_16 | exact cr_5 | exact cr_23 | exact cr_24 | exact cr_25 | exact cr_26 | exact cr_27 | exact cr_28 | exact cr_29 | exact cr_30 | assumption)) rfl rfl rfl (Nat.le_of_ble_eq_true rfl) ?_
      refine zr_goto (tgt := 29) dX7_cardOf_25 (by decide) ?_
      refine zr_ireE dX7_cardOf_29 rfl rfl ?_
      exact ⟨rfl, S, ik, hR, rfl⟩)
theorem p_numberOf1 (n k : Int) (hn : j32 n) (hk : j32 k) (hp : ¬ ((1 ≤ n ∧ n ≤ 90) ∧ 0 ≤ k ∧ k < 4))  (hR : zRel B σ S ik) : zFe Γ md_X7_numberOf (d + 8) [.ref 167, .int (jI n), .int (jI k)] (mw S σ.sc ik th σ.T σ.L w) (zMQ (some (.int (jI 0))) 1 (B) (σ) w) := by
  obtain ⟨ok, lk, pk, ck, lx, h, hsv, hkp⟩ := hR
  have hR : zRel B σ S ik := ⟨ok, lk, pk, ck, lx, h, hsv, hkp⟩
  refine zFe.of_run (lv := [some (.ref 167), some (.int (jI n)), some (.int (jI k))]) (by decide) rfl (Nat.le_of_ble_eq_true rfl) rfl (fun n9 g9 => ?_)
  refine zr_aload_n dX7_numberOf_0 (rfl : 0 + 1 = 1) rfl ?_
  refine zr_iload_n dX7_numberOf_1 (rfl : 1 + 1 = 2) rfl ?_
  refine zr_fnS dX7_numberOf_2 (rfl : 2 + 3 = 5) l_X7_57 (m_isNumber n hn) rfl rfl (Nat.le_of_ble_eq_true rfl) ?_
  refine zr_if_eq (tgt := 21) dX7_numberOf_5 (by decide) (rfl : 5 + 3 = 8) (by first | exact jb_iff | exact jI_z (by first | omega | (simp only [bset, reduceIte, Nat.reduceEqDiff]; omega)) (by first | omega | (simp only [bset, reduceIte, Nat.reduceEqDiff]; omega))) (fun h5 => ?_) (fun h5 => ?_)
  · first
    | (exfalso; omega)
    | (
      refine zr_iconst dX7_numberOf_21 (rfl : 21 + 1 = 22) ?_
      refine zr_iconst dX7_numberOf_22 (rfl : 22 + 1 = 23) ?_
      refine zr_iconst dX7_numberOf_23 (rfl : 23 + 1 = 24) ?_
      refine zr_fnV dX7_numberOf_24 (rfl : 24 + 3 = 27) l_X7_60 (m_go1 _ _) (by first | assumption | exact mw_167 | exact mw_168 | exact mw_169 | exact mw_170 | exact bk_0 | exact bk_1 | exact bk_2 | exact bk_3 | exact bk_4 | exact bk_5 | exact bk_6 | exact bk_7 | exact bk_8 | exact bk_9 | exact bk_10 | exact bk_11 | exact bk_12 | exact bk_13 | exact bk_14 | exact bk_15 | exact bk_16 | exact zup_self | exact (zup_ne (by first | assumption | omega)).trans (by first | assumption | exact zup_self) | exact (zup_ne (by first | assumption | omega)).trans ((zup_ne (by first | assumption | omega)).trans (by first | assumption | exact zup_self)) | exact (bk_out (by first | omega | (simp only [bset, reduceIte, Nat.reduceEqDiff]; omega))).trans (by first | exact bk_0 | exact bk_1 | exact bk_2 | exact bk_3 | exact bk_4 | exact bk_5 | exact bk_6 | exact bk_7 | exact bk_8 | exact bk_9 | exact bk_10 | exact bk_11 | exact bk_12 | exact bk_13 | exact bk_14 | exact bk_15 | exact bk_16 | exact cr_5 | exact cr_23 | exact cr_24 | exact cr_25 | exact cr_26 | exact cr_27 | exact cr_28 | exact cr_29 | exact cr_30 | assumption)) rfl rfl rfl (Nat.le_of_ble_eq_true rfl) ?_
      refine zr_if_eq (tgt := 39) dX7_numberOf_27 (by decide) (rfl : 27 + 3 = 30) (by first | exact jb_iff | exact jI_z (by first | omega | (simp only [bset, reduceIte, Nat.reduceEqDiff]; omega)) (by first | omega | (simp only [bset, reduceIte, Nat.reduceEqDiff]; omega))) (fun h27 => ?_) (fun h27 => ?_)
      · first
        | (exfalso; omega)
        | (
          refine zr_iconst dX7_numberOf_39 (rfl : 39 + 1 = 40) ?_
          refine zr_ireE dX7_numberOf_40 rfl rfl ?_
          exact ⟨rfl, S, ik, hR, rfl⟩)
      · first
        | (exfalso; omega)
        | (
          exfalso
          omega))
  · first
    | (exfalso; omega)
    | (
      refine zr_iload_n dX7_numberOf_8 (rfl : 8 + 1 = 9) rfl ?_
      refine zr_iconst dX7_numberOf_9 (rfl : 9 + 1 = 10) ?_
      refine zr_iconst dX7_numberOf_10 (rfl : 10 + 1 = 11) ?_
      refine zr_fnS dX7_numberOf_11 (rfl : 11 + 3 = 14) l_X7_32 (m_in k 0 3 hk (by first | omega | (simp only [bset, reduceIte, Nat.reduceEqDiff]; omega)) (by first | omega | (simp only [bset, reduceIte, Nat.reduceEqDiff]; omega))) rfl rfl (Nat.le_of_ble_eq_true rfl) ?_
      refine zr_if_eq (tgt := 21) dX7_numberOf_14 (by decide) (rfl : 14 + 3 = 17) (by first | exact jb_iff | exact jI_z (by first | omega | (simp only [bset, reduceIte, Nat.reduceEqDiff]; omega)) (by first | omega | (simp only [bset, reduceIte, Nat.reduceEqDiff]; omega))) (fun h14 => ?_) (fun h14 => ?_)
      · first
        | (exfalso; omega)
        | (
          refine zr_iconst dX7_numberOf_21 (rfl : 21 + 1 = 22) ?_
          refine zr_iconst dX7_numberOf_22 (rfl : 22 + 1 = 23) ?_
          refine zr_iconst dX7_numberOf_23 (rfl : 23 + 1 = 24) ?_
          refine zr_fnV dX7_numberOf_24 (rfl : 24 + 3 = 27) l_X7_60 (m_go1 _ _) (by first | assumption | exact mw_167 | exact mw_168 | exact mw_169 | exact mw_170 | exact bk_0 | exact bk_1 | exact bk_2 | exact bk_3 | exact bk_4 | exact bk_5 | exact bk_6 | exact bk_7 | exact bk_8 | exact bk_9 | exact bk_10 | exact bk_11 | exact bk_12 | exact bk_13 | exact bk_14 | exact bk_15 | exact bk_16 | exact zup_self | exact (zup_ne (by first | assumption | omega)).trans (by first | assumption | exact zup_self) | exact (zup_ne (by first | assumption | omega)).trans ((zup_ne (by first | assumption | omega)).trans (by first | assumption | exact zup_self)) | exact (bk_out (by first | omega | (simp only [bset, reduceIte, Nat.reduceEqDiff]; omega))).trans (by first | exact bk_0 | exact bk_1 | exact bk_2 | exact bk_3 | exact bk_4 | exact bk_5 | exact bk_6 | exact bk_7 | exact bk_8 | exact bk_9 | exact bk_10 | exact bk_11 | exact bk_12 | exact bk_13 | exact bk_14 | exact bk_15 | exact bk_16 | exact cr_5 | exact cr_23 | exact cr_24 | exact cr_25 | exact cr_26 | exact cr_27 | exact cr_28 | exact cr_29 | exact cr_30 | assumption)) rfl rfl rfl (Nat.le_of_ble_eq_true rfl) ?_
          refine zr_if_eq (tgt := 39) dX7_numberOf_27 (by decide) (rfl : 27 + 3 = 30) (by first | exact jb_iff | exact jI_z (by first | omega | (simp only [bset, reduceIte, Nat.reduceEqDiff]; omega)) (by first | omega | (simp only [bset, reduceIte, Nat.reduceEqDiff]; omega))) (fun h27 => ?_) (fun h27 => ?_)
          · first
            | (exfalso; omega)
            | (
              refine zr_iconst dX7_numberOf_39 (rfl : 39 + 1 = 40) ?_
              refine zr_ireE dX7_numberOf_40 rfl rfl ?_
              exact ⟨rfl, S, ik, hR, rfl⟩)
          · first
            | (exfalso; omega)
            | (
              exfalso
              omega))
      · first
        | (exfalso; omega)
        | (
          refine zr_iconst dX7_numberOf_17 (rfl : 17 + 1 = 18) ?_
          refine zr_goto (tgt := 22) dX7_numberOf_18 (by decide) ?_
          refine zr_iconst dX7_numberOf_22 (rfl : 22 + 1 = 23) ?_
          refine zr_iconst dX7_numberOf_23 (rfl : 23 + 1 = 24) ?_
          refine zr_fnV dX7_numberOf_24 (rfl : 24 + 3 = 27) l_X7_60 (m_go1 _ _) (by first | assumption | exact mw_167 | exact mw_168 | exact mw_169 | exact mw_170 | exact bk_0 | exact bk_1 | exact bk_2 | exact bk_3 | exact bk_4 | exact bk_5 | exact bk_6 | exact bk_7 | exact bk_8 | exact bk_9 | exact bk_10 | exact bk_11 | exact bk_12 | exact bk_13 | exact bk_14 | exact bk_15 | exact bk_16 | exact zup_self | exact (zup_ne (by first | assumption | omega)).trans (by first | assumption | exact zup_self) | exact (zup_ne (by first | assumption | omega)).trans ((zup_ne (by first | assumption | omega)).trans (by first | assumption | exact zup_self)) | exact (bk_out (by first | omega | (simp only [bset, reduceIte, Nat.reduceEqDiff]; omega))).trans (by first | exact bk_0 | exact bk_1 | exact bk_2 | exact bk_3 | exact bk_4 | exact bk_5 | exact bk_6 | exact bk_7 | exact bk_8 | exact bk_9 | exact bk_10 | exact bk_11 | exact bk_12 | exact bk_13 | exact bk_14 | exact bk_15 | exact bk_16 | exact cr_5 | exact cr_23 | exact cr_24 | exact cr_25 | exact cr_26 | exact cr_27 | exact cr_28 | exact cr_29 | exact cr_30 | assumption)) rfl rfl rfl (Nat.le_of_ble_eq_true rfl) ?_
          refine zr_if_eq (tgt := 39) dX7_numberOf_27 (by decide) (rfl : 27 + 3 = 30) (by first | exact jb_iff | exact jI_z (by first | omega | (simp only [bset, reduceIte, Nat.reduceEqDiff]; omega)) (by first | omega | (simp only [bset, reduceIte, Nat.reduceEqDiff]; omega))) (fun h27 => ?_) (fun h27 => ?_)
          · first
            | (exfalso; omega)
            | (
              refine zr_iconst dX7_numberOf_39 (rfl : 39 + 1 = 40) ?_
              refine zr_ireE dX7_numberOf_40 rfl rfl ?_
              exact ⟨rfl, S, ik, hR, rfl⟩)
          · first
            | (exfalso; omega)
            | (
              exfalso
              omega)))
theorem p_numberOf (n k : Int) (hn : j32 n) (hk : j32 k) (hp : (1 ≤ n ∧ n ≤ 90) ∧ 0 ≤ k ∧ k < 4)  (hR : zRel B σ S ik) : zFe Γ md_X7_numberOf (d + 8) [.ref 167, .int (jI n), .int (jI k)] (mw S σ.sc ik th σ.T σ.L w) (zMQ (some (.int (jI (jno B n k)))) 0 (B) (σ) w) := by
  obtain ⟨ok, lk, pk, ck, lx, h, hsv, hkp⟩ := hR
  have hR : zRel B σ S ik := ⟨ok, lk, pk, ck, lx, h, hsv, hkp⟩
  refine zFe.of_run (lv := [some (.ref 167), some (.int (jI n)), some (.int (jI k))]) (by decide) rfl (Nat.le_of_ble_eq_true rfl) rfl (fun n9 g9 => ?_)
  refine zr_aload_n dX7_numberOf_0 (rfl : 0 + 1 = 1) rfl ?_
  refine zr_iload_n dX7_numberOf_1 (rfl : 1 + 1 = 2) rfl ?_
  refine zr_fnS dX7_numberOf_2 (rfl : 2 + 3 = 5) l_X7_57 (m_isNumber n hn) rfl rfl (Nat.le_of_ble_eq_true rfl) ?_
  refine zr_if_eq (tgt := 21) dX7_numberOf_5 (by decide) (rfl : 5 + 3 = 8) (by first | exact jb_iff | exact jI_z (by first | omega | (simp only [bset, reduceIte, Nat.reduceEqDiff]; omega)) (by first | omega | (simp only [bset, reduceIte, Nat.reduceEqDiff]; omega))) (fun h5 => ?_) (fun h5 => ?_)
  · first
    | (exfalso; omega)
    | (
      refine zr_iconst dX7_numberOf_21 (rfl : 21 + 1 = 22) ?_
      refine zr_iconst dX7_numberOf_22 (rfl : 22 + 1 = 23) ?_
      refine zr_iconst dX7_numberOf_23 (rfl : 23 + 1 = 24) ?_
      refine zr_fnV dX7_numberOf_24 (rfl : 24 + 3 = 27) l_X7_60 (m_go) (by first | assumption | exact mw_167 | exact mw_168 | exact mw_169 | exact mw_170 | exact bk_0 | exact bk_1 | exact bk_2 | exact bk_3 | exact bk_4 | exact bk_5 | exact bk_6 | exact bk_7 | exact bk_8 | exact bk_9 | exact bk_10 | exact bk_11 | exact bk_12 | exact bk_13 | exact bk_14 | exact bk_15 | exact bk_16 | exact zup_self | exact (zup_ne (by first | assumption | omega)).trans (by first | assumption | exact zup_self) | exact (zup_ne (by first | assumption | omega)).trans ((zup_ne (by first | assumption | omega)).trans (by first | assumption | exact zup_self)) | exact (bk_out (by first | omega | (simp only [bset, reduceIte, Nat.reduceEqDiff]; omega))).trans (by first | exact bk_0 | exact bk_1 | exact bk_2 | exact bk_3 | exact bk_4 | exact bk_5 | exact bk_6 | exact bk_7 | exact bk_8 | exact bk_9 | exact bk_10 | exact bk_11 | exact bk_12 | exact bk_13 | exact bk_14 | exact bk_15 | exact bk_16 | exact cr_5 | exact cr_23 | exact cr_24 | exact cr_25 | exact cr_26 | exact cr_27 | exact cr_28 | exact cr_29 | exact cr_30 | assumption)) rfl rfl rfl (Nat.le_of_ble_eq_true rfl) ?_
      refine zr_if_eq (tgt := 39) dX7_numberOf_27 (by decide) (rfl : 27 + 3 = 30) (by first | exact jb_iff | exact jI_z (by first | omega | (simp only [bset, reduceIte, Nat.reduceEqDiff]; omega)) (by first | omega | (simp only [bset, reduceIte, Nat.reduceEqDiff]; omega))) (fun h27 => ?_) (fun h27 => ?_)
      · first
        | (exfalso; omega)
        | (
          exfalso
          omega)
      · first
        | (exfalso; omega)
        | (
          refine zr_aload_n dX7_numberOf_30 (rfl : 30 + 1 = 31) rfl ?_
          refine zr_iload_n dX7_numberOf_31 (rfl : 31 + 1 = 32) rfl ?_
          refine zr_iload_n dX7_numberOf_32 (rfl : 32 + 1 = 33) rfl ?_
          refine zr_fnV dX7_numberOf_33 (rfl : 33 + 3 = 36) l_X7_152 (m_numbers n k hp.1 hp.2 h ok) (by first | assumption | exact mw_167 | exact mw_168 | exact mw_169 | exact mw_170 | exact bk_0 | exact bk_1 | exact bk_2 | exact bk_3 | exact bk_4 | exact bk_5 | exact bk_6 | exact bk_7 | exact bk_8 | exact bk_9 | exact bk_10 | exact bk_11 | exact bk_12 | exact bk_13 | exact bk_14 | exact bk_15 | exact bk_16 | exact zup_self | exact (zup_ne (by first | assumption | omega)).trans (by first | assumption | exact zup_self) | exact (zup_ne (by first | assumption | omega)).trans ((zup_ne (by first | assumption | omega)).trans (by first | assumption | exact zup_self)) | exact (bk_out (by first | omega | (simp only [bset, reduceIte, Nat.reduceEqDiff]; omega))).trans (by first | exact bk_0 | exact bk_1 | exact bk_2 | exact bk_3 | exact bk_4 | exact bk_5 | exact bk_6 | exact bk_7 | exact bk_8 | exact bk_9 | exact bk_10 | exact bk_11 | exact bk_12 | exact bk_13 | exact bk_14 | exact bk_15 | exact bk_16 | exact cr_5 | exact cr_23 | exact cr_24 | exact cr_25 | exact cr_26 | exact cr_27 | exact cr_28 | exact cr_29 | exact cr_30 | assumption)) rfl rfl rfl (Nat.le_of_ble_eq_true rfl) ?_
          refine zr_goto (tgt := 40) dX7_numberOf_36 (by decide) ?_
          refine zr_ireE dX7_numberOf_40 rfl rfl ?_
          exact ⟨rfl, S, ik, hR, rfl⟩))
  · first
    | (exfalso; omega)
    | (
      refine zr_iload_n dX7_numberOf_8 (rfl : 8 + 1 = 9) rfl ?_
      refine zr_iconst dX7_numberOf_9 (rfl : 9 + 1 = 10) ?_
      refine zr_iconst dX7_numberOf_10 (rfl : 10 + 1 = 11) ?_
      refine zr_fnS dX7_numberOf_11 (rfl : 11 + 3 = 14) l_X7_32 (m_in k 0 3 hk (by first | omega | (simp only [bset, reduceIte, Nat.reduceEqDiff]; omega)) (by first | omega | (simp only [bset, reduceIte, Nat.reduceEqDiff]; omega))) rfl rfl (Nat.le_of_ble_eq_true rfl) ?_
      refine zr_if_eq (tgt := 21) dX7_numberOf_14 (by decide) (rfl : 14 + 3 = 17) (by first | exact jb_iff | exact jI_z (by first | omega | (simp only [bset, reduceIte, Nat.reduceEqDiff]; omega)) (by first | omega | (simp only [bset, reduceIte, Nat.reduceEqDiff]; omega))) (fun h14 => ?_) (fun h14 => ?_)
      · first
        | (exfalso; omega)
        | (
          refine zr_iconst dX7_numberOf_21 (rfl : 21 + 1 = 22) ?_
          refine zr_iconst dX7_numberOf_22 (rfl : 22 + 1 = 23) ?_
          refine zr_iconst dX7_numberOf_23 (rfl : 23 + 1 = 24) ?_
          refine zr_fnV dX7_numberOf_24 (rfl : 24 + 3 = 27) l_X7_60 (m_go) (by first | assumption | exact mw_167 | exact mw_168 | exact mw_169 | exact mw_170 | exact bk_0 | exact bk_1 | exact bk_2 | exact bk_3 | exact bk_4 | exact bk_5 | exact bk_6 | exact bk_7 | exact bk_8 | exact bk_9 | exact bk_10 | exact bk_11 | exact bk_12 | exact bk_13 | exact bk_14 | exact bk_15 | exact bk_16 | exact zup_self | exact (zup_ne (by first | assumption | omega)).trans (by first | assumption | exact zup_self) | exact (zup_ne (by first | assumption | omega)).trans ((zup_ne (by first | assumption | omega)).trans (by first | assumption | exact zup_self)) | exact (bk_out (by first | omega | (simp only [bset, reduceIte, Nat.reduceEqDiff]; omega))).trans (by first | exact bk_0 | exact bk_1 | exact bk_2 | exact bk_3 | exact bk_4 | exact bk_5 | exact bk_6 | exact bk_7 | exact bk_8 | exact bk_9 | exact bk_10 | exact bk_11 | exact bk_12 | exact bk_13 | exact bk_14 | exact bk_15 | exact bk_16 | exact cr_5 | exact cr_23 | exact cr_24 | exact cr_25 | exact cr_26 | exact cr_27 | exact cr_28 | exact cr_29 | exact cr_30 | assumption)) rfl rfl rfl (Nat.le_of_ble_eq_true rfl) ?_
          refine zr_if_eq (tgt := 39) dX7_numberOf_27 (by decide) (rfl : 27 + 3 = 30) (by first | exact jb_iff | exact jI_z (by first | omega | (simp only [bset, reduceIte, Nat.reduceEqDiff]; omega)) (by first | omega | (simp only [bset, reduceIte, Nat.reduceEqDiff]; omega))) (fun h27 => ?_) (fun h27 => ?_)
          · first
            | (exfalso; omega)
            | (
              exfalso
              omega)
          · first
            | (exfalso; omega)
            | (
              refine zr_aload_n dX7_numberOf_30 (rfl : 30 + 1 = 31) rfl ?_
              refine zr_iload_n dX7_numberOf_31 (rfl : 31 + 1 = 32) rfl ?_
              refine zr_iload_n dX7_numberOf_32 (rfl : 32 + 1 = 33) rfl ?_
              refine zr_fnV dX7_numberOf_33 (rfl : 33 + 3 = 36) l_X7_152 (m_numbers n k hp.1 hp.2 h ok) (by first | assumption | exact mw_167 | exact mw_168 | exact mw_169 | exact mw_170 | exact bk_0 | exact bk_1 | exact bk_2 | exact bk_3 | exact bk_4 | exact bk_5 | exact bk_6 | exact bk_7 | exact bk_8 | exact bk_9 | exact bk_10 | exact bk_11 | exact bk_12 | exact bk_13 | exact bk_14 | exact bk_15 | exact bk_16 | exact zup_self | exact (zup_ne (by first | assumption | omega)).trans (by first | assumption | exact zup_self) | exact (zup_ne (by first | assumption | omega)).trans ((zup_ne (by first | assumption | omega)).trans (by first | assumption | exact zup_self)) | exact (bk_out (by first | omega | (simp only [bset, reduceIte, Nat.reduceEqDiff]; omega))).trans (by first | exact bk_0 | exact bk_1 | exact bk_2 | exact bk_3 | exact bk_4 | exact bk_5 | exact bk_6 | exact bk_7 | exact bk_8 | exact bk_9 | exact bk_10 | exact bk_11 | exact bk_12 | exact bk_13 | exact bk_14 | exact bk_15 | exact bk_16 | exact cr_5 | exact cr_23 | exact cr_24 | exact cr_25 | exact cr_26 | exact cr_27 | exact cr_28 | exact cr_29 | exact cr_30 | assumption)) rfl rfl rfl (Nat.le_of_ble_eq_true rfl) ?_
              refine zr_goto (tgt := 40) dX7_numberOf_36 (by decide) ?_
              refine zr_ireE dX7_numberOf_40 rfl rfl ?_
              exact ⟨rfl, S, ik, hR, rfl⟩))
      · first
        | (exfalso; omega)
        | (
          refine zr_iconst dX7_numberOf_17 (rfl : 17 + 1 = 18) ?_
          refine zr_goto (tgt := 22) dX7_numberOf_18 (by decide) ?_
          refine zr_iconst dX7_numberOf_22 (rfl : 22 + 1 = 23) ?_
          refine zr_iconst dX7_numberOf_23 (rfl : 23 + 1 = 24) ?_
          refine zr_fnV dX7_numberOf_24 (rfl : 24 + 3 = 27) l_X7_60 (m_go) (by first | assumption | exact mw_167 | exact mw_168 | exact mw_169 | exact mw_170 | exact bk_0 | exact bk_1 | exact bk_2 | exact bk_3 | exact bk_4 | exact bk_5 | exact bk_6 | exact bk_7 | exact bk_8 | exact bk_9 | exact bk_10 | exact bk_11 | exact bk_12 | exact bk_13 | exact bk_14 | exact bk_15 | exact bk_16 | exact zup_self | exact (zup_ne (by first | assumption | omega)).trans (by first | assumption | exact zup_self) | exact (zup_ne (by first | assumption | omega)).trans ((zup_ne (by first | assumption | omega)).trans (by first | assumption | exact zup_self)) | exact (bk_out (by first | omega | (simp only [bset, reduceIte, Nat.reduceEqDiff]; omega))).trans (by first | exact bk_0 | exact bk_1 | exact bk_2 | exact bk_3 | exact bk_4 | exact bk_5 | exact bk_6 | exact bk_7 | exact bk_8 | exact bk_9 | exact bk_10 | exact bk_11 | exact bk_12 | exact bk_13 | exact bk_14 | exact bk_15 | exact bk_16 | exact cr_5 | exact cr_23 | exact cr_24 | exact cr_25 | exact cr_26 | exact cr_27 | exact cr_28 | exact cr_29 | exact cr_30 | assumption)) rfl rfl rfl (Nat.le_of_ble_eq_true rfl) ?_
          refine zr_if_eq (tgt := 39) dX7_numberOf_27 (by decide) (rfl : 27 + 3 = 30) (by first | exact jb_iff | exact jI_z (by first | omega | (simp only [bset, reduceIte, Nat.reduceEqDiff]; omega)) (by first | omega | (simp only [bset, reduceIte, Nat.reduceEqDiff]; omega))) (fun h27 => ?_) (fun h27 => ?_)
          · first
            | (exfalso; omega)
            | (
              exfalso
              omega)
          · first
            | (exfalso; omega)
            | (
              refine zr_aload_n dX7_numberOf_30 (rfl : 30 + 1 = 31) rfl ?_
              refine zr_iload_n dX7_numberOf_31 (rfl : 31 + 1 = 32) rfl ?_
              refine zr_iload_n dX7_numberOf_32 (rfl : 32 + 1 = 33) rfl ?_
              refine zr_fnV dX7_numberOf_33 (rfl : 33 + 3 = 36) l_X7_152 (m_numbers n k hp.1 hp.2 h ok) (by first | assumption | exact mw_167 | exact mw_168 | exact mw_169 | exact mw_170 | exact bk_0 | exact bk_1 | exact bk_2 | exact bk_3 | exact bk_4 | exact bk_5 | exact bk_6 | exact bk_7 | exact bk_8 | exact bk_9 | exact bk_10 | exact bk_11 | exact bk_12 | exact bk_13 | exact bk_14 | exact bk_15 | exact bk_16 | exact zup_self | exact (zup_ne (by first | assumption | omega)).trans (by first | assumption | exact zup_self) | exact (zup_ne (by first | assumption | omega)).trans ((zup_ne (by first | assumption | omega)).trans (by first | assumption | exact zup_self)) | exact (bk_out (by first | omega | (simp only [bset, reduceIte, Nat.reduceEqDiff]; omega))).trans (by first | exact bk_0 | exact bk_1 | exact bk_2 | exact bk_3 | exact bk_4 | exact bk_5 | exact bk_6 | exact bk_7 | exact bk_8 | exact bk_9 | exact bk_10 | exact bk_11 | exact bk_12 | exact bk_13 | exact bk_14 | exact bk_15 | exact bk_16 | exact cr_5 | exact cr_23 | exact cr_24 | exact cr_25 | exact cr_26 | exact cr_27 | exact cr_28 | exact cr_29 | exact cr_30 | assumption)) rfl rfl rfl (Nat.le_of_ble_eq_true rfl) ?_
              refine zr_goto (tgt := 40) dX7_numberOf_36 (by decide) ?_
              refine zr_ireE dX7_numberOf_40 rfl rfl ?_
              exact ⟨rfl, S, ik, hR, rfl⟩)))
theorem p_call1 (a k : Int) (ha : j32 a) (hk : j32 k) (hp : ¬ (0 ≤ a ∧ 0 ≤ k ∧ k < 2))  (hR : zRel B σ S ik) : zFe Γ md_X7_call (d + 8) [.ref 167, .int (jI a), .int (jI k)] (mw S σ.sc ik th σ.T σ.L w) (zMQ (some (.int (jI 0))) 1 (B) (σ) w) := by
  obtain ⟨ok, lk, pk, ck, lx, h, hsv, hkp⟩ := hR
  have hR : zRel B σ S ik := ⟨ok, lk, pk, ck, lx, h, hsv, hkp⟩
  refine zFe.of_run (lv := [some (.ref 167), some (.int (jI a)), some (.int (jI k))]) (by decide) rfl (Nat.le_of_ble_eq_true rfl) rfl (fun n9 g9 => ?_)
  refine zr_aload_n dX7_call_0 (rfl : 0 + 1 = 1) rfl ?_
  refine zr_iload_n dX7_call_1 (rfl : 1 + 1 = 2) rfl ?_
  refine zr_if_lt (tgt := 18) dX7_call_2 (by decide) (rfl : 2 + 3 = 5) (jI_ltz (by first | omega | (simp only [bset, reduceIte, Nat.reduceEqDiff]; omega)) (by first | omega | (simp only [bset, reduceIte, Nat.reduceEqDiff]; omega))) (fun h2 => ?_) (fun h2 => ?_)
  · first
    | (exfalso; omega)
    | (
      refine zr_iconst dX7_call_18 (rfl : 18 + 1 = 19) ?_
      refine zr_iconst dX7_call_19 (rfl : 19 + 1 = 20) ?_
      refine zr_iconst dX7_call_20 (rfl : 20 + 1 = 21) ?_
      refine zr_fnV dX7_call_21 (rfl : 21 + 3 = 24) l_X7_60 (m_go1 _ _) (by first | assumption | exact mw_167 | exact mw_168 | exact mw_169 | exact mw_170 | exact bk_0 | exact bk_1 | exact bk_2 | exact bk_3 | exact bk_4 | exact bk_5 | exact bk_6 | exact bk_7 | exact bk_8 | exact bk_9 | exact bk_10 | exact bk_11 | exact bk_12 | exact bk_13 | exact bk_14 | exact bk_15 | exact bk_16 | exact zup_self | exact (zup_ne (by first | assumption | omega)).trans (by first | assumption | exact zup_self) | exact (zup_ne (by first | assumption | omega)).trans ((zup_ne (by first | assumption | omega)).trans (by first | assumption | exact zup_self)) | exact (bk_out (by first | omega | (simp only [bset, reduceIte, Nat.reduceEqDiff]; omega))).trans (by first | exact bk_0 | exact bk_1 | exact bk_2 | exact bk_3 | exact bk_4 | exact bk_5 | exact bk_6 | exact bk_7 | exact bk_8 | exact bk_9 | exact bk_10 | exact bk_11 | exact bk_12 | exact bk_13 | exact bk_14 | exact bk_15 | exact bk_16 | exact cr_5 | exact cr_23 | exact cr_24 | exact cr_25 | exact cr_26 | exact cr_27 | exact cr_28 | exact cr_29 | exact cr_30 | assumption)) rfl rfl rfl (Nat.le_of_ble_eq_true rfl) ?_
      refine zr_if_eq (tgt := 36) dX7_call_24 (by decide) (rfl : 24 + 3 = 27) (by first | exact jb_iff | exact jI_z (by first | omega | (simp only [bset, reduceIte, Nat.reduceEqDiff]; omega)) (by first | omega | (simp only [bset, reduceIte, Nat.reduceEqDiff]; omega))) (fun h24 => ?_) (fun h24 => ?_)
      · first
        | (exfalso; omega)
        | (
          refine zr_iconst dX7_call_36 (rfl : 36 + 1 = 37) ?_
          refine zr_ireE dX7_call_37 rfl rfl ?_
          exact ⟨rfl, S, ik, hR, rfl⟩)
      · first
        | (exfalso; omega)
        | (
          exfalso
          omega))
  · first
    | (exfalso; omega)
    | (
      refine zr_iload_n dX7_call_5 (rfl : 5 + 1 = 6) rfl ?_
      refine zr_iconst dX7_call_6 (rfl : 6 + 1 = 7) ?_
      refine zr_iconst dX7_call_7 (rfl : 7 + 1 = 8) ?_
      refine zr_fnS dX7_call_8 (rfl : 8 + 3 = 11) l_X7_32 (m_in k 0 1 hk (by first | omega | (simp only [bset, reduceIte, Nat.reduceEqDiff]; omega)) (by first | omega | (simp only [bset, reduceIte, Nat.reduceEqDiff]; omega))) rfl rfl (Nat.le_of_ble_eq_true rfl) ?_
      refine zr_if_eq (tgt := 18) dX7_call_11 (by decide) (rfl : 11 + 3 = 14) (by first | exact jb_iff | exact jI_z (by first | omega | (simp only [bset, reduceIte, Nat.reduceEqDiff]; omega)) (by first | omega | (simp only [bset, reduceIte, Nat.reduceEqDiff]; omega))) (fun h11 => ?_) (fun h11 => ?_)
      · first
        | (exfalso; omega)
        | (
          refine zr_iconst dX7_call_18 (rfl : 18 + 1 = 19) ?_
          refine zr_iconst dX7_call_19 (rfl : 19 + 1 = 20) ?_
          refine zr_iconst dX7_call_20 (rfl : 20 + 1 = 21) ?_
          refine zr_fnV dX7_call_21 (rfl : 21 + 3 = 24) l_X7_60 (m_go1 _ _) (by first | assumption | exact mw_167 | exact mw_168 | exact mw_169 | exact mw_170 | exact bk_0 | exact bk_1 | exact bk_2 | exact bk_3 | exact bk_4 | exact bk_5 | exact bk_6 | exact bk_7 | exact bk_8 | exact bk_9 | exact bk_10 | exact bk_11 | exact bk_12 | exact bk_13 | exact bk_14 | exact bk_15 | exact bk_16 | exact zup_self | exact (zup_ne (by first | assumption | omega)).trans (by first | assumption | exact zup_self) | exact (zup_ne (by first | assumption | omega)).trans ((zup_ne (by first | assumption | omega)).trans (by first | assumption | exact zup_self)) | exact (bk_out (by first | omega | (simp only [bset, reduceIte, Nat.reduceEqDiff]; omega))).trans (by first | exact bk_0 | exact bk_1 | exact bk_2 | exact bk_3 | exact bk_4 | exact bk_5 | exact bk_6 | exact bk_7 | exact bk_8 | exact bk_9 | exact bk_10 | exact bk_11 | exact bk_12 | exact bk_13 | exact bk_14 | exact bk_15 | exact bk_16 | exact cr_5 | exact cr_23 | exact cr_24 | exact cr_25 | exact cr_26 | exact cr_27 | exact cr_28 | exact cr_29 | exact cr_30 | assumption)) rfl rfl rfl (Nat.le_of_ble_eq_true rfl) ?_
          refine zr_if_eq (tgt := 36) dX7_call_24 (by decide) (rfl : 24 + 3 = 27) (by first | exact jb_iff | exact jI_z (by first | omega | (simp only [bset, reduceIte, Nat.reduceEqDiff]; omega)) (by first | omega | (simp only [bset, reduceIte, Nat.reduceEqDiff]; omega))) (fun h24 => ?_) (fun h24 => ?_)
          · first
            | (exfalso; omega)
            | (
              refine zr_iconst dX7_call_36 (rfl : 36 + 1 = 37) ?_
              refine zr_ireE dX7_call_37 rfl rfl ?_
              exact ⟨rfl, S, ik, hR, rfl⟩)
          · first
            | (exfalso; omega)
            | (
              exfalso
              omega))
      · first
        | (exfalso; omega)
        | (
          refine zr_iconst dX7_call_14 (rfl : 14 + 1 = 15) ?_
          refine zr_goto (tgt := 19) dX7_call_15 (by decide) ?_
          refine zr_iconst dX7_call_19 (rfl : 19 + 1 = 20) ?_
          refine zr_iconst dX7_call_20 (rfl : 20 + 1 = 21) ?_
          refine zr_fnV dX7_call_21 (rfl : 21 + 3 = 24) l_X7_60 (m_go1 _ _) (by first | assumption | exact mw_167 | exact mw_168 | exact mw_169 | exact mw_170 | exact bk_0 | exact bk_1 | exact bk_2 | exact bk_3 | exact bk_4 | exact bk_5 | exact bk_6 | exact bk_7 | exact bk_8 | exact bk_9 | exact bk_10 | exact bk_11 | exact bk_12 | exact bk_13 | exact bk_14 | exact bk_15 | exact bk_16 | exact zup_self | exact (zup_ne (by first | assumption | omega)).trans (by first | assumption | exact zup_self) | exact (zup_ne (by first | assumption | omega)).trans ((zup_ne (by first | assumption | omega)).trans (by first | assumption | exact zup_self)) | exact (bk_out (by first | omega | (simp only [bset, reduceIte, Nat.reduceEqDiff]; omega))).trans (by first | exact bk_0 | exact bk_1 | exact bk_2 | exact bk_3 | exact bk_4 | exact bk_5 | exact bk_6 | exact bk_7 | exact bk_8 | exact bk_9 | exact bk_10 | exact bk_11 | exact bk_12 | exact bk_13 | exact bk_14 | exact bk_15 | exact bk_16 | exact cr_5 | exact cr_23 | exact cr_24 | exact cr_25 | exact cr_26 | exact cr_27 | exact cr_28 | exact cr_29 | exact cr_30 | assumption)) rfl rfl rfl (Nat.le_of_ble_eq_true rfl) ?_
          refine zr_if_eq (tgt := 36) dX7_call_24 (by decide) (rfl : 24 + 3 = 27) (by first | exact jb_iff | exact jI_z (by first | omega | (simp only [bset, reduceIte, Nat.reduceEqDiff]; omega)) (by first | omega | (simp only [bset, reduceIte, Nat.reduceEqDiff]; omega))) (fun h24 => ?_) (fun h24 => ?_)
          · first
            | (exfalso; omega)
            | (
              refine zr_iconst dX7_call_36 (rfl : 36 + 1 = 37) ?_
              refine zr_ireE dX7_call_37 rfl rfl ?_
              exact ⟨rfl, S, ik, hR, rfl⟩)
          · first
            | (exfalso; omega)
            | (
              exfalso
              omega)))
theorem p_call (a k : Int) (ha : j32 a) (hk : j32 k) (hp : 0 ≤ a ∧ 0 ≤ k ∧ k < 2)  (hR : zRel B σ S ik) : zFe Γ md_X7_call (d + 8) [.ref 167, .int (jI a), .int (jI k)] (mw S σ.sc ik th σ.T σ.L w) (zMQ (some (.int (jI (jcl B a k)))) 0 (B) (σ) w) := by
  obtain ⟨ok, lk, pk, ck, lx, h, hsv, hkp⟩ := hR
  have hR : zRel B σ S ik := ⟨ok, lk, pk, ck, lx, h, hsv, hkp⟩
  refine zFe.of_run (lv := [some (.ref 167), some (.int (jI a)), some (.int (jI k))]) (by decide) rfl (Nat.le_of_ble_eq_true rfl) rfl (fun n9 g9 => ?_)
  refine zr_aload_n dX7_call_0 (rfl : 0 + 1 = 1) rfl ?_
  refine zr_iload_n dX7_call_1 (rfl : 1 + 1 = 2) rfl ?_
  refine zr_if_lt (tgt := 18) dX7_call_2 (by decide) (rfl : 2 + 3 = 5) (jI_ltz (by first | omega | (simp only [bset, reduceIte, Nat.reduceEqDiff]; omega)) (by first | omega | (simp only [bset, reduceIte, Nat.reduceEqDiff]; omega))) (fun h2 => ?_) (fun h2 => ?_)
  · first
    | (exfalso; omega)
    | (
      refine zr_iconst dX7_call_18 (rfl : 18 + 1 = 19) ?_
      refine zr_iconst dX7_call_19 (rfl : 19 + 1 = 20) ?_
      refine zr_iconst dX7_call_20 (rfl : 20 + 1 = 21) ?_
      refine zr_fnV dX7_call_21 (rfl : 21 + 3 = 24) l_X7_60 (m_go) (by first | assumption | exact mw_167 | exact mw_168 | exact mw_169 | exact mw_170 | exact bk_0 | exact bk_1 | exact bk_2 | exact bk_3 | exact bk_4 | exact bk_5 | exact bk_6 | exact bk_7 | exact bk_8 | exact bk_9 | exact bk_10 | exact bk_11 | exact bk_12 | exact bk_13 | exact bk_14 | exact bk_15 | exact bk_16 | exact zup_self | exact (zup_ne (by first | assumption | omega)).trans (by first | assumption | exact zup_self) | exact (zup_ne (by first | assumption | omega)).trans ((zup_ne (by first | assumption | omega)).trans (by first | assumption | exact zup_self)) | exact (bk_out (by first | omega | (simp only [bset, reduceIte, Nat.reduceEqDiff]; omega))).trans (by first | exact bk_0 | exact bk_1 | exact bk_2 | exact bk_3 | exact bk_4 | exact bk_5 | exact bk_6 | exact bk_7 | exact bk_8 | exact bk_9 | exact bk_10 | exact bk_11 | exact bk_12 | exact bk_13 | exact bk_14 | exact bk_15 | exact bk_16 | exact cr_5 | exact cr_23 | exact cr_24 | exact cr_25 | exact cr_26 | exact cr_27 | exact cr_28 | exact cr_29 | exact cr_30 | assumption)) rfl rfl rfl (Nat.le_of_ble_eq_true rfl) ?_
      refine zr_if_eq (tgt := 36) dX7_call_24 (by decide) (rfl : 24 + 3 = 27) (by first | exact jb_iff | exact jI_z (by first | omega | (simp only [bset, reduceIte, Nat.reduceEqDiff]; omega)) (by first | omega | (simp only [bset, reduceIte, Nat.reduceEqDiff]; omega))) (fun h24 => ?_) (fun h24 => ?_)
      · first
        | (exfalso; omega)
        | (
          exfalso
          omega)
      · first
        | (exfalso; omega)
        | (
          refine zr_aload_n dX7_call_27 (rfl : 27 + 1 = 28) rfl ?_
          refine zr_iload_n dX7_call_28 (rfl : 28 + 1 = 29) rfl ?_
          refine zr_iload_n dX7_call_29 (rfl : 29 + 1 = 30) rfl ?_
          refine zr_fnV dX7_call_30 (rfl : 30 + 3 = 33) l_X7_155 (m_calls a k ⟨hp.1, ha.2⟩ hp.2 h ok) (by first | assumption | exact mw_167 | exact mw_168 | exact mw_169 | exact mw_170 | exact bk_0 | exact bk_1 | exact bk_2 | exact bk_3 | exact bk_4 | exact bk_5 | exact bk_6 | exact bk_7 | exact bk_8 | exact bk_9 | exact bk_10 | exact bk_11 | exact bk_12 | exact bk_13 | exact bk_14 | exact bk_15 | exact bk_16 | exact zup_self | exact (zup_ne (by first | assumption | omega)).trans (by first | assumption | exact zup_self) | exact (zup_ne (by first | assumption | omega)).trans ((zup_ne (by first | assumption | omega)).trans (by first | assumption | exact zup_self)) | exact (bk_out (by first | omega | (simp only [bset, reduceIte, Nat.reduceEqDiff]; omega))).trans (by first | exact bk_0 | exact bk_1 | exact bk_2 | exact bk_3 | exact bk_4 | exact bk_5 | exact bk_6 | exact bk_7 | exact bk_8 | exact bk_9 | exact bk_10 | exact bk_11 | exact bk_12 | exact bk_13 | exact bk_14 | exact bk_15 | exact bk_16 | exact cr_5 | exact cr_23 | exact cr_24 | exact cr_25 | exact cr_26 | exact cr_27 | exact cr_28 | exact cr_29 | exact cr_30 | assumption)) rfl rfl rfl (Nat.le_of_ble_eq_true rfl) ?_
          refine zr_goto (tgt := 37) dX7_call_33 (by decide) ?_
          refine zr_ireE dX7_call_37 rfl rfl ?_
          exact ⟨rfl, S, ik, hR, rfl⟩))
  · first
    | (exfalso; omega)
    | (
      refine zr_iload_n dX7_call_5 (rfl : 5 + 1 = 6) rfl ?_
      refine zr_iconst dX7_call_6 (rfl : 6 + 1 = 7) ?_
      refine zr_iconst dX7_call_7 (rfl : 7 + 1 = 8) ?_
      refine zr_fnS dX7_call_8 (rfl : 8 + 3 = 11) l_X7_32 (m_in k 0 1 hk (by first | omega | (simp only [bset, reduceIte, Nat.reduceEqDiff]; omega)) (by first | omega | (simp only [bset, reduceIte, Nat.reduceEqDiff]; omega))) rfl rfl (Nat.le_of_ble_eq_true rfl) ?_
      refine zr_if_eq (tgt := 18) dX7_call_11 (by decide) (rfl : 11 + 3 = 14) (by first | exact jb_iff | exact jI_z (by first | omega | (simp only [bset, reduceIte, Nat.reduceEqDiff]; omega)) (by first | omega | (simp only [bset, reduceIte, Nat.reduceEqDiff]; omega))) (fun h11 => ?_) (fun h11 => ?_)
      · first
        | (exfalso; omega)
        | (
          refine zr_iconst dX7_call_18 (rfl : 18 + 1 = 19) ?_
          refine zr_iconst dX7_call_19 (rfl : 19 + 1 = 20) ?_
          refine zr_iconst dX7_call_20 (rfl : 20 + 1 = 21) ?_
          refine zr_fnV dX7_call_21 (rfl : 21 + 3 = 24) l_X7_60 (m_go) (by first | assumption | exact mw_167 | exact mw_168 | exact mw_169 | exact mw_170 | exact bk_0 | exact bk_1 | exact bk_2 | exact bk_3 | exact bk_4 | exact bk_5 | exact bk_6 | exact bk_7 | exact bk_8 | exact bk_9 | exact bk_10 | exact bk_11 | exact bk_12 | exact bk_13 | exact bk_14 | exact bk_15 | exact bk_16 | exact zup_self | exact (zup_ne (by first | assumption | omega)).trans (by first | assumption | exact zup_self) | exact (zup_ne (by first | assumption | omega)).trans ((zup_ne (by first | assumption | omega)).trans (by first | assumption | exact zup_self)) | exact (bk_out (by first | omega | (simp only [bset, reduceIte, Nat.reduceEqDiff]; omega))).trans (by first | exact bk_0 | exact bk_1 | exact bk_2 | exact bk_3 | exact bk_4 | exact bk_5 | exact bk_6 | exact bk_7 | exact bk_8 | exact bk_9 | exact bk_10 | exact bk_11 | exact bk_12 | exact bk_13 | exact bk_14 | exact bk_15 | exact bk_16 | exact cr_5 | exact cr_23 | exact cr_24 | exact cr_25 | exact cr_26 | exact cr_27 | exact cr_28 | exact cr_29 | exact cr_30 | assumption)) rfl rfl rfl (Nat.le_of_ble_eq_true rfl) ?_
          refine zr_if_eq (tgt := 36) dX7_call_24 (by decide) (rfl : 24 + 3 = 27) (by first | exact jb_iff | exact jI_z (by first | omega | (simp only [bset, reduceIte, Nat.reduceEqDiff]; omega)) (by first | omega | (simp only [bset, reduceIte, Nat.reduceEqDiff]; omega))) (fun h24 => ?_) (fun h24 => ?_)
          · first
            | (exfalso; omega)
            | (
              exfalso
              omega)
          · first
            | (exfalso; omega)
            | (
              refine zr_aload_n dX7_call_27 (rfl : 27 + 1 = 28) rfl ?_
              refine zr_iload_n dX7_call_28 (rfl : 28 + 1 = 29) rfl ?_
              refine zr_iload_n dX7_call_29 (rfl : 29 + 1 = 30) rfl ?_
              refine zr_fnV dX7_call_30 (rfl : 30 + 3 = 33) l_X7_155 (m_calls a k ⟨hp.1, ha.2⟩ hp.2 h ok) (by first | assumption | exact mw_167 | exact mw_168 | exact mw_169 | exact mw_170 | exact bk_0 | exact bk_1 | exact bk_2 | exact bk_3 | exact bk_4 | exact bk_5 | exact bk_6 | exact bk_7 | exact bk_8 | exact bk_9 | exact bk_10 | exact bk_11 | exact bk_12 | exact bk_13 | exact bk_14 | exact bk_15 | exact bk_16 | exact zup_self | exact (zup_ne (by first | assumption | omega)).trans (by first | assumption | exact zup_self) | exact (zup_ne (by first | assumption | omega)).trans ((zup_ne (by first | assumption | omega)).trans (by first | assumption | exact zup_self)) | exact (bk_out (by first | omega | (simp only [bset, reduceIte, Nat.reduceEqDiff]; omega))).trans (by first | exact bk_0 | exact bk_1 | exact bk_2 | exact bk_3 | exact bk_4 | exact bk_5 | exact bk_6 | exact bk_7 | exact bk_8 | exact bk_9 | exact bk_10 | exact bk_11 | exact bk_12 | exact bk_13 | exact bk_14 | exact bk_15 | exact bk_16 | exact cr_5 | exact cr_23 | exact cr_24 | exact cr_25 | exact cr_26 | exact cr_27 | exact cr_28 | exact cr_29 | exact cr_30 | assumption)) rfl rfl rfl (Nat.le_of_ble_eq_true rfl) ?_
              refine zr_goto (tgt := 37) dX7_call_33 (by decide) ?_
              refine zr_ireE dX7_call_37 rfl rfl ?_
              exact ⟨rfl, S, ik, hR, rfl⟩))
      · first
        | (exfalso; omega)
        | (
          refine zr_iconst dX7_call_14 (rfl : 14 + 1 = 15) ?_
          refine zr_goto (tgt := 19) dX7_call_15 (by decide) ?_
          refine zr_iconst dX7_call_19 (rfl : 19 + 1 = 20) ?_
          refine zr_iconst dX7_call_20 (rfl : 20 + 1 = 21) ?_
          refine zr_fnV dX7_call_21 (rfl : 21 + 3 = 24) l_X7_60 (m_go) (by first | assumption | exact mw_167 | exact mw_168 | exact mw_169 | exact mw_170 | exact bk_0 | exact bk_1 | exact bk_2 | exact bk_3 | exact bk_4 | exact bk_5 | exact bk_6 | exact bk_7 | exact bk_8 | exact bk_9 | exact bk_10 | exact bk_11 | exact bk_12 | exact bk_13 | exact bk_14 | exact bk_15 | exact bk_16 | exact zup_self | exact (zup_ne (by first | assumption | omega)).trans (by first | assumption | exact zup_self) | exact (zup_ne (by first | assumption | omega)).trans ((zup_ne (by first | assumption | omega)).trans (by first | assumption | exact zup_self)) | exact (bk_out (by first | omega | (simp only [bset, reduceIte, Nat.reduceEqDiff]; omega))).trans (by first | exact bk_0 | exact bk_1 | exact bk_2 | exact bk_3 | exact bk_4 | exact bk_5 | exact bk_6 | exact bk_7 | exact bk_8 | exact bk_9 | exact bk_10 | exact bk_11 | exact bk_12 | exact bk_13 | exact bk_14 | exact bk_15 | exact bk_16 | exact cr_5 | exact cr_23 | exact cr_24 | exact cr_25 | exact cr_26 | exact cr_27 | exact cr_28 | exact cr_29 | exact cr_30 | assumption)) rfl rfl rfl (Nat.le_of_ble_eq_true rfl) ?_
          refine zr_if_eq (tgt := 36) dX7_call_24 (by decide) (rfl : 24 + 3 = 27) (by first | exact jb_iff | exact jI_z (by first | omega | (simp only [bset, reduceIte, Nat.reduceEqDiff]; omega)) (by first | omega | (simp only [bset, reduceIte, Nat.reduceEqDiff]; omega))) (fun h24 => ?_) (fun h24 => ?_)
          · first
            | (exfalso; omega)
            | (
              exfalso
              omega)
          · first
            | (exfalso; omega)
            | (
              refine zr_aload_n dX7_call_27 (rfl : 27 + 1 = 28) rfl ?_
              refine zr_iload_n dX7_call_28 (rfl : 28 + 1 = 29) rfl ?_
              refine zr_iload_n dX7_call_29 (rfl : 29 + 1 = 30) rfl ?_
              refine zr_fnV dX7_call_30 (rfl : 30 + 3 = 33) l_X7_155 (m_calls a k ⟨hp.1, ha.2⟩ hp.2 h ok) (by first | assumption | exact mw_167 | exact mw_168 | exact mw_169 | exact mw_170 | exact bk_0 | exact bk_1 | exact bk_2 | exact bk_3 | exact bk_4 | exact bk_5 | exact bk_6 | exact bk_7 | exact bk_8 | exact bk_9 | exact bk_10 | exact bk_11 | exact bk_12 | exact bk_13 | exact bk_14 | exact bk_15 | exact bk_16 | exact zup_self | exact (zup_ne (by first | assumption | omega)).trans (by first | assumption | exact zup_self) | exact (zup_ne (by first | assumption | omega)).trans ((zup_ne (by first | assumption | omega)).trans (by first | assumption | exact zup_self)) | exact (bk_out (by first | omega | (simp only [bset, reduceIte, Nat.reduceEqDiff]; omega))).trans (by first | exact bk_0 | exact bk_1 | exact bk_2 | exact bk_3 | exact bk_4 | exact bk_5 | exact bk_6 | exact bk_7 | exact bk_8 | exact bk_9 | exact bk_10 | exact bk_11 | exact bk_12 | exact bk_13 | exact bk_14 | exact bk_15 | exact bk_16 | exact cr_5 | exact cr_23 | exact cr_24 | exact cr_25 | exact cr_26 | exact cr_27 | exact cr_28 | exact cr_29 | exact cr_30 | assumption)) rfl rfl rfl (Nat.le_of_ble_eq_true rfl) ?_
              refine zr_goto (tgt := 37) dX7_call_33 (by decide) ?_
              refine zr_ireE dX7_call_37 rfl rfl ?_
              exact ⟨rfl, S, ik, hR, rfl⟩)))
theorem p_gameOf1 (g k : Int) (hg : j32 g) (hk : j32 k) (hp : ¬ (0 ≤ g ∧ g < 4))  (hR : zRel B σ S ik) : zFe Γ md_X7_gameOf (d + 8) [.ref 167, .int (jI g), .int (jI k)] (mw S σ.sc ik th σ.T σ.L w) (zMQ (some (.int (jI 0))) 1 (B) (σ) w) := by
  obtain ⟨ok, lk, pk, ck, lx, h, hsv, hkp⟩ := hR
  have hR : zRel B σ S ik := ⟨ok, lk, pk, ck, lx, h, hsv, hkp⟩
  refine zFe.of_run (lv := [some (.ref 167), some (.int (jI g)), some (.int (jI k))]) (by decide) rfl (Nat.le_of_ble_eq_true rfl) rfl (fun n9 g9 => ?_)
  refine zr_aload_n dX7_gameOf_0 (rfl : 0 + 1 = 1) rfl ?_
  refine zr_iload_n dX7_gameOf_1 (rfl : 1 + 1 = 2) rfl ?_
  refine zr_iconst dX7_gameOf_2 (rfl : 2 + 1 = 3) ?_
  refine zr_iconst dX7_gameOf_3 (rfl : 3 + 1 = 4) ?_
  refine zr_fnS dX7_gameOf_4 (rfl : 4 + 3 = 7) l_X7_32 (m_in g 0 3 hg (by first | omega | (simp only [bset, reduceIte, Nat.reduceEqDiff]; omega)) (by first | omega | (simp only [bset, reduceIte, Nat.reduceEqDiff]; omega))) rfl rfl (Nat.le_of_ble_eq_true rfl) ?_
  rw [jb_neg (by omega)]
  refine zr_iload_n dX7_gameOf_7 (rfl : 7 + 1 = 8) rfl ?_
  refine zr_iconst dX7_gameOf_8 (rfl : 8 + 1 = 9) ?_
  refine zr_iconst dX7_gameOf_9 (rfl : 9 + 1 = 10) ?_
  refine zr_fnS dX7_gameOf_10 (rfl : 10 + 3 = 13) l_X7_32 (m_in k 0 3 hk (by first | omega | (simp only [bset, reduceIte, Nat.reduceEqDiff]; omega)) (by first | omega | (simp only [bset, reduceIte, Nat.reduceEqDiff]; omega))) rfl rfl (Nat.le_of_ble_eq_true rfl) ?_
  refine zr_iconst dX7_gameOf_13 (rfl : 13 + 1 = 14) ?_
  refine zr_fnV dX7_gameOf_14 (rfl : 14 + 3 = 17) l_X7_60 (m_go1 _ _) (by first | assumption | exact mw_167 | exact mw_168 | exact mw_169 | exact mw_170 | exact bk_0 | exact bk_1 | exact bk_2 | exact bk_3 | exact bk_4 | exact bk_5 | exact bk_6 | exact bk_7 | exact bk_8 | exact bk_9 | exact bk_10 | exact bk_11 | exact bk_12 | exact bk_13 | exact bk_14 | exact bk_15 | exact bk_16 | exact zup_self | exact (zup_ne (by first | assumption | omega)).trans (by first | assumption | exact zup_self) | exact (zup_ne (by first | assumption | omega)).trans ((zup_ne (by first | assumption | omega)).trans (by first | assumption | exact zup_self)) | exact (bk_out (by first | omega | (simp only [bset, reduceIte, Nat.reduceEqDiff]; omega))).trans (by first | exact bk_0 | exact bk_1 | exact bk_2 | exact bk_3 | exact bk_4 | exact bk_5 | exact bk_6 | exact bk_7 | exact bk_8 | exact bk_9 | exact bk_10 | exact bk_11 | exact bk_12 | exact bk_13 | exact bk_14 | exact bk_15 | exact bk_16 | exact cr_5 | exact cr_23 | exact cr_24 | exact cr_25 | exact cr_26 | exact cr_27 | exact cr_28 | exact cr_29 | exact cr_30 | assumption)) rfl rfl rfl (Nat.le_of_ble_eq_true rfl) ?_
  refine zr_if_eq (tgt := 29) dX7_gameOf_17 (by decide) (rfl : 17 + 3 = 20) (by first | exact jb_iff | exact jI_z (by first | omega | (simp only [bset, reduceIte, Nat.reduceEqDiff]; omega)) (by first | omega | (simp only [bset, reduceIte, Nat.reduceEqDiff]; omega))) (fun h17 => ?_) (fun h17 => ?_)
  · first
    | (exfalso; omega)
    | (
      refine zr_iconst dX7_gameOf_29 (rfl : 29 + 1 = 30) ?_
      refine zr_ireE dX7_gameOf_30 rfl rfl ?_
      exact ⟨rfl, S, ik, hR, rfl⟩)
  · first
    | (exfalso; omega)
    | (
      exfalso
      omega)
theorem p_gameOf2 (g k : Int) (hg : j32 g) (hk : j32 k) (hp : 0 ≤ g ∧ g < 4) (h2 : ¬ (0 ≤ k ∧ k < 4))  (hR : zRel B σ S ik) : zFe Γ md_X7_gameOf (d + 8) [.ref 167, .int (jI g), .int (jI k)] (mw S σ.sc ik th σ.T σ.L w) (zMQ (some (.int (jI 0))) 2 (B) (σ) w) := by
  obtain ⟨ok, lk, pk, ck, lx, h, hsv, hkp⟩ := hR
  have hR : zRel B σ S ik := ⟨ok, lk, pk, ck, lx, h, hsv, hkp⟩
  refine zFe.of_run (lv := [some (.ref 167), some (.int (jI g)), some (.int (jI k))]) (by decide) rfl (Nat.le_of_ble_eq_true rfl) rfl (fun n9 g9 => ?_)
  refine zr_aload_n dX7_gameOf_0 (rfl : 0 + 1 = 1) rfl ?_
  refine zr_iload_n dX7_gameOf_1 (rfl : 1 + 1 = 2) rfl ?_
  refine zr_iconst dX7_gameOf_2 (rfl : 2 + 1 = 3) ?_
  refine zr_iconst dX7_gameOf_3 (rfl : 3 + 1 = 4) ?_
  refine zr_fnS dX7_gameOf_4 (rfl : 4 + 3 = 7) l_X7_32 (m_in g 0 3 hg (by first | omega | (simp only [bset, reduceIte, Nat.reduceEqDiff]; omega)) (by first | omega | (simp only [bset, reduceIte, Nat.reduceEqDiff]; omega))) rfl rfl (Nat.le_of_ble_eq_true rfl) ?_
  rw [jb_pos (by omega)]
  refine zr_iload_n dX7_gameOf_7 (rfl : 7 + 1 = 8) rfl ?_
  refine zr_iconst dX7_gameOf_8 (rfl : 8 + 1 = 9) ?_
  refine zr_iconst dX7_gameOf_9 (rfl : 9 + 1 = 10) ?_
  refine zr_fnS dX7_gameOf_10 (rfl : 10 + 3 = 13) l_X7_32 (m_in k 0 3 hk (by first | omega | (simp only [bset, reduceIte, Nat.reduceEqDiff]; omega)) (by first | omega | (simp only [bset, reduceIte, Nat.reduceEqDiff]; omega))) rfl rfl (Nat.le_of_ble_eq_true rfl) ?_
  rw [jb_neg (by omega)]
  refine zr_iconst dX7_gameOf_13 (rfl : 13 + 1 = 14) ?_
  refine zr_fnV dX7_gameOf_14 (rfl : 14 + 3 = 17) l_X7_60 (m_go2 _) (by first | assumption | exact mw_167 | exact mw_168 | exact mw_169 | exact mw_170 | exact bk_0 | exact bk_1 | exact bk_2 | exact bk_3 | exact bk_4 | exact bk_5 | exact bk_6 | exact bk_7 | exact bk_8 | exact bk_9 | exact bk_10 | exact bk_11 | exact bk_12 | exact bk_13 | exact bk_14 | exact bk_15 | exact bk_16 | exact zup_self | exact (zup_ne (by first | assumption | omega)).trans (by first | assumption | exact zup_self) | exact (zup_ne (by first | assumption | omega)).trans ((zup_ne (by first | assumption | omega)).trans (by first | assumption | exact zup_self)) | exact (bk_out (by first | omega | (simp only [bset, reduceIte, Nat.reduceEqDiff]; omega))).trans (by first | exact bk_0 | exact bk_1 | exact bk_2 | exact bk_3 | exact bk_4 | exact bk_5 | exact bk_6 | exact bk_7 | exact bk_8 | exact bk_9 | exact bk_10 | exact bk_11 | exact bk_12 | exact bk_13 | exact bk_14 | exact bk_15 | exact bk_16 | exact cr_5 | exact cr_23 | exact cr_24 | exact cr_25 | exact cr_26 | exact cr_27 | exact cr_28 | exact cr_29 | exact cr_30 | assumption)) rfl rfl rfl (Nat.le_of_ble_eq_true rfl) ?_
  refine zr_if_eq (tgt := 29) dX7_gameOf_17 (by decide) (rfl : 17 + 3 = 20) (by first | exact jb_iff | exact jI_z (by first | omega | (simp only [bset, reduceIte, Nat.reduceEqDiff]; omega)) (by first | omega | (simp only [bset, reduceIte, Nat.reduceEqDiff]; omega))) (fun h17 => ?_) (fun h17 => ?_)
  · first
    | (exfalso; omega)
    | (
      refine zr_iconst dX7_gameOf_29 (rfl : 29 + 1 = 30) ?_
      refine zr_ireE dX7_gameOf_30 rfl rfl ?_
      exact ⟨rfl, S, ik, hR, rfl⟩)
  · first
    | (exfalso; omega)
    | (
      exfalso
      omega)
theorem p_gameOf (g k : Int) (hg : j32 g) (hk : j32 k) (hp : 0 ≤ g ∧ g < 4) (h2 : 0 ≤ k ∧ k < 4)  (hR : zRel B σ S ik) : zFe Γ md_X7_gameOf (d + 8) [.ref 167, .int (jI g), .int (jI k)] (mw S σ.sc ik th σ.T σ.L w) (zMQ (some (.int (jI (jga B g k)))) 0 (B) (σ) w) := by
  obtain ⟨ok, lk, pk, ck, lx, h, hsv, hkp⟩ := hR
  have hR : zRel B σ S ik := ⟨ok, lk, pk, ck, lx, h, hsv, hkp⟩
  refine zFe.of_run (lv := [some (.ref 167), some (.int (jI g)), some (.int (jI k))]) (by decide) rfl (Nat.le_of_ble_eq_true rfl) rfl (fun n9 g9 => ?_)
  refine zr_aload_n dX7_gameOf_0 (rfl : 0 + 1 = 1) rfl ?_
  refine zr_iload_n dX7_gameOf_1 (rfl : 1 + 1 = 2) rfl ?_
  refine zr_iconst dX7_gameOf_2 (rfl : 2 + 1 = 3) ?_
  refine zr_iconst dX7_gameOf_3 (rfl : 3 + 1 = 4) ?_
  refine zr_fnS dX7_gameOf_4 (rfl : 4 + 3 = 7) l_X7_32 (m_in g 0 3 hg (by first | omega | (simp only [bset, reduceIte, Nat.reduceEqDiff]; omega)) (by first | omega | (simp only [bset, reduceIte, Nat.reduceEqDiff]; omega))) rfl rfl (Nat.le_of_ble_eq_true rfl) ?_
  rw [jb_pos (by omega)]
  refine zr_iload_n dX7_gameOf_7 (rfl : 7 + 1 = 8) rfl ?_
  refine zr_iconst dX7_gameOf_8 (rfl : 8 + 1 = 9) ?_
  refine zr_iconst dX7_gameOf_9 (rfl : 9 + 1 = 10) ?_
  refine zr_fnS dX7_gameOf_10 (rfl : 10 + 3 = 13) l_X7_32 (m_in k 0 3 hk (by first | omega | (simp only [bset, reduceIte, Nat.reduceEqDiff]; omega)) (by first | omega | (simp only [bset, reduceIte, Nat.reduceEqDiff]; omega))) rfl rfl (Nat.le_of_ble_eq_true rfl) ?_
  rw [jb_pos (by omega)]
  refine zr_iconst dX7_gameOf_13 (rfl : 13 + 1 = 14) ?_
  refine zr_fnV dX7_gameOf_14 (rfl : 14 + 3 = 17) l_X7_60 (m_go) (by first | assumption | exact mw_167 | exact mw_168 | exact mw_169 | exact mw_170 | exact bk_0 | exact bk_1 | exact bk_2 | exact bk_3 | exact bk_4 | exact bk_5 | exact bk_6 | exact bk_7 | exact bk_8 | exact bk_9 | exact bk_10 | exact bk_11 | exact bk_12 | exact bk_13 | exact bk_14 | exact bk_15 | exact bk_16 | exact zup_self | exact (zup_ne (by first | assumption | omega)).trans (by first | assumption | exact zup_self) | exact (zup_ne (by first | assumption | omega)).trans ((zup_ne (by first | assumption | omega)).trans (by first | assumption | exact zup_self)) | exact (bk_out (by first | omega | (simp only [bset, reduceIte, Nat.reduceEqDiff]; omega))).trans (by first | exact bk_0 | exact bk_1 | exact bk_2 | exact bk_3 | exact bk_4 | exact bk_5 | exact bk_6 | exact bk_7 | exact bk_8 | exact bk_9 | exact bk_10 | exact bk_11 | exact bk_12 | exact bk_13 | exact bk_14 | exact bk_15 | exact bk_16 | exact cr_5 | exact cr_23 | exact cr_24 | exact cr_25 | exact cr_26 | exact cr_27 | exact cr_28 | exact cr_29 | exact cr_30 | assumption)) rfl rfl rfl (Nat.le_of_ble_eq_true rfl) ?_
  refine zr_if_eq (tgt := 29) dX7_gameOf_17 (by decide) (rfl : 17 + 3 = 20) (by first | exact jb_iff | exact jI_z (by first | omega | (simp only [bset, reduceIte, Nat.reduceEqDiff]; omega)) (by first | omega | (simp only [bset, reduceIte, Nat.reduceEqDiff]; omega))) (fun h17 => ?_) (fun h17 => ?_)
  · first
    | (exfalso; omega)
    | (
      exfalso
      omega)
  · first
    | (exfalso; omega)
    | (
      refine zr_aload_n dX7_gameOf_20 (rfl : 20 + 1 = 21) rfl ?_
      refine zr_iload_n dX7_gameOf_21 (rfl : 21 + 1 = 22) rfl ?_
      refine zr_iload_n dX7_gameOf_22 (rfl : 22 + 1 = 23) rfl ?_
      refine zr_fnV dX7_gameOf_23 (rfl : 23 + 3 = 26) l_X7_158 (m_games g k hp h2 h ok) (by first | assumption | exact mw_167 | exact mw_168 | exact mw_169 | exact mw_170 | exact bk_0 | exact bk_1 | exact bk_2 | exact bk_3 | exact bk_4 | exact bk_5 | exact bk_6 | exact bk_7 | exact bk_8 | exact bk_9 | exact bk_10 | exact bk_11 | exact bk_12 | exact bk_13 | exact bk_14 | exact bk_15 | exact bk_16 | exact zup_self | exact (zup_ne (by first | assumption | omega)).trans (by first | assumption | exact zup_self) | exact (zup_ne (by first | assumption | omega)).trans ((zup_ne (by first | assumption | omega)).trans (by first | assumption | exact zup_self)) | exact (bk_out (by first | omega | (simp only [bset, reduceIte, Nat.reduceEqDiff]; omega))).trans (by first | exact bk_0 | exact bk_1 | exact bk_2 | exact bk_3 | exact bk_4 | exact bk_5 | exact bk_6 | exact bk_7 | exact bk_8 | exact bk_9 | exact bk_10 | exact bk_11 | exact bk_12 | exact bk_13 | exact bk_14 | exact bk_15 | exact bk_16 | exact cr_5 | exact cr_23 | exact cr_24 | exact cr_25 | exact cr_26 | exact cr_27 | exact cr_28 | exact cr_29 | exact cr_30 | assumption)) rfl rfl rfl (Nat.le_of_ble_eq_true rfl) ?_
      refine zr_goto (tgt := 30) dX7_gameOf_26 (by decide) ?_
      refine zr_ireE dX7_gameOf_30 rfl rfl ?_
      exact ⟨rfl, S, ik, hR, rfl⟩)
theorem p_count1 (k : Int) (hk : j32 k) (hp : ¬ (0 ≤ k ∧ k < 15))  (hR : zRel B σ S ik) : zFe Γ md_X7_count (d + 8) [.ref 167, .int (jI k)] (mw S σ.sc ik th σ.T σ.L w) (zMQ (some (.int (jI 0))) 1 (B) (σ) w) := by
  obtain ⟨ok, lk, pk, ck, lx, h, hsv, hkp⟩ := hR
  have hR : zRel B σ S ik := ⟨ok, lk, pk, ck, lx, h, hsv, hkp⟩
  refine zFe.of_run (lv := [some (.ref 167), some (.int (jI k))]) (by decide) rfl (Nat.le_of_ble_eq_true rfl) rfl (fun n9 g9 => ?_)
  refine zr_aload_n dX7_count_0 (rfl : 0 + 1 = 1) rfl ?_
  refine zr_iload_n dX7_count_1 (rfl : 1 + 1 = 2) rfl ?_
  refine zr_iconst dX7_count_2 (rfl : 2 + 1 = 3) ?_
  refine zr_bipush dX7_count_3 (rfl : 3 + 2 = 5) (by decide) ?_
  refine zr_fnS dX7_count_5 (rfl : 5 + 3 = 8) l_X7_32 (m_in k 0 14 hk (by first | omega | (simp only [bset, reduceIte, Nat.reduceEqDiff]; omega)) (by first | omega | (simp only [bset, reduceIte, Nat.reduceEqDiff]; omega))) rfl rfl (Nat.le_of_ble_eq_true rfl) ?_
  rw [jb_neg (by omega)]
  refine zr_iconst dX7_count_8 (rfl : 8 + 1 = 9) ?_
  refine zr_iconst dX7_count_9 (rfl : 9 + 1 = 10) ?_
  refine zr_fnV dX7_count_10 (rfl : 10 + 3 = 13) l_X7_60 (m_go1 _ _) (by first | assumption | exact mw_167 | exact mw_168 | exact mw_169 | exact mw_170 | exact bk_0 | exact bk_1 | exact bk_2 | exact bk_3 | exact bk_4 | exact bk_5 | exact bk_6 | exact bk_7 | exact bk_8 | exact bk_9 | exact bk_10 | exact bk_11 | exact bk_12 | exact bk_13 | exact bk_14 | exact bk_15 | exact bk_16 | exact zup_self | exact (zup_ne (by first | assumption | omega)).trans (by first | assumption | exact zup_self) | exact (zup_ne (by first | assumption | omega)).trans ((zup_ne (by first | assumption | omega)).trans (by first | assumption | exact zup_self)) | exact (bk_out (by first | omega | (simp only [bset, reduceIte, Nat.reduceEqDiff]; omega))).trans (by first | exact bk_0 | exact bk_1 | exact bk_2 | exact bk_3 | exact bk_4 | exact bk_5 | exact bk_6 | exact bk_7 | exact bk_8 | exact bk_9 | exact bk_10 | exact bk_11 | exact bk_12 | exact bk_13 | exact bk_14 | exact bk_15 | exact bk_16 | exact cr_5 | exact cr_23 | exact cr_24 | exact cr_25 | exact cr_26 | exact cr_27 | exact cr_28 | exact cr_29 | exact cr_30 | assumption)) rfl rfl rfl (Nat.le_of_ble_eq_true rfl) ?_
  refine zr_if_eq (tgt := 24) dX7_count_13 (by decide) (rfl : 13 + 3 = 16) (by first | exact jb_iff | exact jI_z (by first | omega | (simp only [bset, reduceIte, Nat.reduceEqDiff]; omega)) (by first | omega | (simp only [bset, reduceIte, Nat.reduceEqDiff]; omega))) (fun h13 => ?_) (fun h13 => ?_)
  · first
    | (exfalso; omega)
    | (
      refine zr_iconst dX7_count_24 (rfl : 24 + 1 = 25) ?_
      refine zr_ireE dX7_count_25 rfl rfl ?_
      exact ⟨rfl, S, ik, hR, rfl⟩)
  · first
    | (exfalso; omega)
    | (
      exfalso
      omega)
theorem p_count (k : Int) (hk : j32 k) (hp : 0 ≤ k ∧ k < 15)  (hR : zRel B σ S ik) : zFe Γ md_X7_count (d + 8) [.ref 167, .int (jI k)] (mw S σ.sc ik th σ.T σ.L w) (zMQ (some (.int (jI (jct B σ.sc k)))) 0 (B) (σ) w) := by
  obtain ⟨ok, lk, pk, ck, lx, h, hsv, hkp⟩ := hR
  have hR : zRel B σ S ik := ⟨ok, lk, pk, ck, lx, h, hsv, hkp⟩
  refine zFe.of_run (lv := [some (.ref 167), some (.int (jI k))]) (by decide) rfl (Nat.le_of_ble_eq_true rfl) rfl (fun n9 g9 => ?_)
  refine zr_aload_n dX7_count_0 (rfl : 0 + 1 = 1) rfl ?_
  refine zr_iload_n dX7_count_1 (rfl : 1 + 1 = 2) rfl ?_
  refine zr_iconst dX7_count_2 (rfl : 2 + 1 = 3) ?_
  refine zr_bipush dX7_count_3 (rfl : 3 + 2 = 5) (by decide) ?_
  refine zr_fnS dX7_count_5 (rfl : 5 + 3 = 8) l_X7_32 (m_in k 0 14 hk (by first | omega | (simp only [bset, reduceIte, Nat.reduceEqDiff]; omega)) (by first | omega | (simp only [bset, reduceIte, Nat.reduceEqDiff]; omega))) rfl rfl (Nat.le_of_ble_eq_true rfl) ?_
  rw [jb_pos (by omega)]
  refine zr_iconst dX7_count_8 (rfl : 8 + 1 = 9) ?_
  refine zr_iconst dX7_count_9 (rfl : 9 + 1 = 10) ?_
  refine zr_fnV dX7_count_10 (rfl : 10 + 3 = 13) l_X7_60 (m_go) (by first | assumption | exact mw_167 | exact mw_168 | exact mw_169 | exact mw_170 | exact bk_0 | exact bk_1 | exact bk_2 | exact bk_3 | exact bk_4 | exact bk_5 | exact bk_6 | exact bk_7 | exact bk_8 | exact bk_9 | exact bk_10 | exact bk_11 | exact bk_12 | exact bk_13 | exact bk_14 | exact bk_15 | exact bk_16 | exact zup_self | exact (zup_ne (by first | assumption | omega)).trans (by first | assumption | exact zup_self) | exact (zup_ne (by first | assumption | omega)).trans ((zup_ne (by first | assumption | omega)).trans (by first | assumption | exact zup_self)) | exact (bk_out (by first | omega | (simp only [bset, reduceIte, Nat.reduceEqDiff]; omega))).trans (by first | exact bk_0 | exact bk_1 | exact bk_2 | exact bk_3 | exact bk_4 | exact bk_5 | exact bk_6 | exact bk_7 | exact bk_8 | exact bk_9 | exact bk_10 | exact bk_11 | exact bk_12 | exact bk_13 | exact bk_14 | exact bk_15 | exact bk_16 | exact cr_5 | exact cr_23 | exact cr_24 | exact cr_25 | exact cr_26 | exact cr_27 | exact cr_28 | exact cr_29 | exact cr_30 | assumption)) rfl rfl rfl (Nat.le_of_ble_eq_true rfl) ?_
  refine zr_if_eq (tgt := 24) dX7_count_13 (by decide) (rfl : 13 + 3 = 16) (by first | exact jb_iff | exact jI_z (by first | omega | (simp only [bset, reduceIte, Nat.reduceEqDiff]; omega)) (by first | omega | (simp only [bset, reduceIte, Nat.reduceEqDiff]; omega))) (fun h13 => ?_) (fun h13 => ?_)
  · first
    | (exfalso; omega)
    | (
      exfalso
      omega)
  · first
    | (exfalso; omega)
    | (
      refine zr_aload_n dX7_count_16 (rfl : 16 + 1 = 17) rfl ?_
      refine zr_iload_n dX7_count_17 (rfl : 17 + 1 = 18) rfl ?_
      refine zr_fnV dX7_count_18 (rfl : 18 + 3 = 21) l_X7_165 (m_counted k hp h ok lk) (by first | assumption | exact mw_167 | exact mw_168 | exact mw_169 | exact mw_170 | exact bk_0 | exact bk_1 | exact bk_2 | exact bk_3 | exact bk_4 | exact bk_5 | exact bk_6 | exact bk_7 | exact bk_8 | exact bk_9 | exact bk_10 | exact bk_11 | exact bk_12 | exact bk_13 | exact bk_14 | exact bk_15 | exact bk_16 | exact zup_self | exact (zup_ne (by first | assumption | omega)).trans (by first | assumption | exact zup_self) | exact (zup_ne (by first | assumption | omega)).trans ((zup_ne (by first | assumption | omega)).trans (by first | assumption | exact zup_self)) | exact (bk_out (by first | omega | (simp only [bset, reduceIte, Nat.reduceEqDiff]; omega))).trans (by first | exact bk_0 | exact bk_1 | exact bk_2 | exact bk_3 | exact bk_4 | exact bk_5 | exact bk_6 | exact bk_7 | exact bk_8 | exact bk_9 | exact bk_10 | exact bk_11 | exact bk_12 | exact bk_13 | exact bk_14 | exact bk_15 | exact bk_16 | exact cr_5 | exact cr_23 | exact cr_24 | exact cr_25 | exact cr_26 | exact cr_27 | exact cr_28 | exact cr_29 | exact cr_30 | assumption)) rfl rfl rfl (Nat.le_of_ble_eq_true rfl) ?_
      refine zr_goto (tgt := 25) dX7_count_21 (by decide) ?_
      refine zr_ireE dX7_count_25 rfl rfl ?_
      exact ⟨rfl, S, ik, hR, rfl⟩)
theorem p_setting1 (s : Int) (hs : j32 s) (hp : ¬ (0 ≤ s ∧ s < 3))  (hR : zRel B σ S ik) : zFe Γ md_X7_setting (d + 8) [.ref 167, .int (jI s)] (mw S σ.sc ik th σ.T σ.L w) (zMQ (some (.int (jI 0))) 1 (B) (σ) w) := by
  obtain ⟨ok, lk, pk, ck, lx, h, hsv, hkp⟩ := hR
  have hR : zRel B σ S ik := ⟨ok, lk, pk, ck, lx, h, hsv, hkp⟩
  refine zFe.of_run (lv := [some (.ref 167), some (.int (jI s))]) (by decide) rfl (Nat.le_of_ble_eq_true rfl) rfl (fun n9 g9 => ?_)
  refine zr_aload_n dX7_setting_0 (rfl : 0 + 1 = 1) rfl ?_
  refine zr_iload_n dX7_setting_1 (rfl : 1 + 1 = 2) rfl ?_
  refine zr_iconst dX7_setting_2 (rfl : 2 + 1 = 3) ?_
  refine zr_iconst dX7_setting_3 (rfl : 3 + 1 = 4) ?_
  refine zr_fnS dX7_setting_4 (rfl : 4 + 3 = 7) l_X7_32 (m_in s 0 2 hs (by first | omega | (simp only [bset, reduceIte, Nat.reduceEqDiff]; omega)) (by first | omega | (simp only [bset, reduceIte, Nat.reduceEqDiff]; omega))) rfl rfl (Nat.le_of_ble_eq_true rfl) ?_
  rw [jb_neg (by omega)]
  refine zr_iconst dX7_setting_7 (rfl : 7 + 1 = 8) ?_
  refine zr_iconst dX7_setting_8 (rfl : 8 + 1 = 9) ?_
  refine zr_fnV dX7_setting_9 (rfl : 9 + 3 = 12) l_X7_60 (m_go1 _ _) (by first | assumption | exact mw_167 | exact mw_168 | exact mw_169 | exact mw_170 | exact bk_0 | exact bk_1 | exact bk_2 | exact bk_3 | exact bk_4 | exact bk_5 | exact bk_6 | exact bk_7 | exact bk_8 | exact bk_9 | exact bk_10 | exact bk_11 | exact bk_12 | exact bk_13 | exact bk_14 | exact bk_15 | exact bk_16 | exact zup_self | exact (zup_ne (by first | assumption | omega)).trans (by first | assumption | exact zup_self) | exact (zup_ne (by first | assumption | omega)).trans ((zup_ne (by first | assumption | omega)).trans (by first | assumption | exact zup_self)) | exact (bk_out (by first | omega | (simp only [bset, reduceIte, Nat.reduceEqDiff]; omega))).trans (by first | exact bk_0 | exact bk_1 | exact bk_2 | exact bk_3 | exact bk_4 | exact bk_5 | exact bk_6 | exact bk_7 | exact bk_8 | exact bk_9 | exact bk_10 | exact bk_11 | exact bk_12 | exact bk_13 | exact bk_14 | exact bk_15 | exact bk_16 | exact cr_5 | exact cr_23 | exact cr_24 | exact cr_25 | exact cr_26 | exact cr_27 | exact cr_28 | exact cr_29 | exact cr_30 | assumption)) rfl rfl rfl (Nat.le_of_ble_eq_true rfl) ?_
  refine zr_if_eq (tgt := 24) dX7_setting_12 (by decide) (rfl : 12 + 3 = 15) (by first | exact jb_iff | exact jI_z (by first | omega | (simp only [bset, reduceIte, Nat.reduceEqDiff]; omega)) (by first | omega | (simp only [bset, reduceIte, Nat.reduceEqDiff]; omega))) (fun h12 => ?_) (fun h12 => ?_)
  · first
    | (exfalso; omega)
    | (
      refine zr_iconst dX7_setting_24 (rfl : 24 + 1 = 25) ?_
      refine zr_ireE dX7_setting_25 rfl rfl ?_
      exact ⟨rfl, S, ik, hR, rfl⟩)
  · first
    | (exfalso; omega)
    | (
      exfalso
      omega)
theorem p_setting (s : Int) (hs : j32 s) (hp : 0 ≤ s ∧ s < 3)  (hR : zRel B σ S ik) : zFe Γ md_X7_setting (d + 8) [.ref 167, .int (jI s)] (mw S σ.sc ik th σ.T σ.L w) (zMQ (some (.int (jI (B 23 s)))) 0 (B) (σ) w) := by
  obtain ⟨ok, lk, pk, ck, lx, h, hsv, hkp⟩ := hR
  have hR : zRel B σ S ik := ⟨ok, lk, pk, ck, lx, h, hsv, hkp⟩
  refine zFe.of_run (lv := [some (.ref 167), some (.int (jI s))]) (by decide) rfl (Nat.le_of_ble_eq_true rfl) rfl (fun n9 g9 => ?_)
  refine zr_aload_n dX7_setting_0 (rfl : 0 + 1 = 1) rfl ?_
  refine zr_iload_n dX7_setting_1 (rfl : 1 + 1 = 2) rfl ?_
  refine zr_iconst dX7_setting_2 (rfl : 2 + 1 = 3) ?_
  refine zr_iconst dX7_setting_3 (rfl : 3 + 1 = 4) ?_
  refine zr_fnS dX7_setting_4 (rfl : 4 + 3 = 7) l_X7_32 (m_in s 0 2 hs (by first | omega | (simp only [bset, reduceIte, Nat.reduceEqDiff]; omega)) (by first | omega | (simp only [bset, reduceIte, Nat.reduceEqDiff]; omega))) rfl rfl (Nat.le_of_ble_eq_true rfl) ?_
  rw [jb_pos (by omega)]
  refine zr_iconst dX7_setting_7 (rfl : 7 + 1 = 8) ?_
  refine zr_iconst dX7_setting_8 (rfl : 8 + 1 = 9) ?_
  refine zr_fnV dX7_setting_9 (rfl : 9 + 3 = 12) l_X7_60 (m_go) (by first | assumption | exact mw_167 | exact mw_168 | exact mw_169 | exact mw_170 | exact bk_0 | exact bk_1 | exact bk_2 | exact bk_3 | exact bk_4 | exact bk_5 | exact bk_6 | exact bk_7 | exact bk_8 | exact bk_9 | exact bk_10 | exact bk_11 | exact bk_12 | exact bk_13 | exact bk_14 | exact bk_15 | exact bk_16 | exact zup_self | exact (zup_ne (by first | assumption | omega)).trans (by first | assumption | exact zup_self) | exact (zup_ne (by first | assumption | omega)).trans ((zup_ne (by first | assumption | omega)).trans (by first | assumption | exact zup_self)) | exact (bk_out (by first | omega | (simp only [bset, reduceIte, Nat.reduceEqDiff]; omega))).trans (by first | exact bk_0 | exact bk_1 | exact bk_2 | exact bk_3 | exact bk_4 | exact bk_5 | exact bk_6 | exact bk_7 | exact bk_8 | exact bk_9 | exact bk_10 | exact bk_11 | exact bk_12 | exact bk_13 | exact bk_14 | exact bk_15 | exact bk_16 | exact cr_5 | exact cr_23 | exact cr_24 | exact cr_25 | exact cr_26 | exact cr_27 | exact cr_28 | exact cr_29 | exact cr_30 | assumption)) rfl rfl rfl (Nat.le_of_ble_eq_true rfl) ?_
  refine zr_if_eq (tgt := 24) dX7_setting_12 (by decide) (rfl : 12 + 3 = 15) (by first | exact jb_iff | exact jI_z (by first | omega | (simp only [bset, reduceIte, Nat.reduceEqDiff]; omega)) (by first | omega | (simp only [bset, reduceIte, Nat.reduceEqDiff]; omega))) (fun h12 => ?_) (fun h12 => ?_)
  · first
    | (exfalso; omega)
    | (
      exfalso
      omega)
  · first
    | (exfalso; omega)
    | (
      refine zr_aload_n dX7_setting_15 (rfl : 15 + 1 = 16) rfl ?_
      refine zr_getf dX7_setting_16 (rfl : 16 + 3 = 19) f_X7_7 (by first | assumption | exact mw_167 | exact mw_168 | exact mw_169 | exact mw_170 | exact bk_0 | exact bk_1 | exact bk_2 | exact bk_3 | exact bk_4 | exact bk_5 | exact bk_6 | exact bk_7 | exact bk_8 | exact bk_9 | exact bk_10 | exact bk_11 | exact bk_12 | exact bk_13 | exact bk_14 | exact bk_15 | exact bk_16 | exact zup_self | exact (zup_ne (by first | assumption | omega)).trans (by first | assumption | exact zup_self) | exact (zup_ne (by first | assumption | omega)).trans ((zup_ne (by first | assumption | omega)).trans (by first | assumption | exact zup_self)) | exact (bk_out (by first | omega | (simp only [bset, reduceIte, Nat.reduceEqDiff]; omega))).trans (by first | exact bk_0 | exact bk_1 | exact bk_2 | exact bk_3 | exact bk_4 | exact bk_5 | exact bk_6 | exact bk_7 | exact bk_8 | exact bk_9 | exact bk_10 | exact bk_11 | exact bk_12 | exact bk_13 | exact bk_14 | exact bk_15 | exact bk_16 | exact cr_5 | exact cr_23 | exact cr_24 | exact cr_25 | exact cr_26 | exact cr_27 | exact cr_28 | exact cr_29 | exact cr_30 | assumption)) rfl ?_
      refine zr_iload_n dX7_setting_19 (rfl : 19 + 1 = 20) rfl ?_
      refine zr_iald dX7_setting_20 (rfl : 20 + 1 = 21) (by first | assumption | exact mw_167 | exact mw_168 | exact mw_169 | exact mw_170 | exact bk_0 | exact bk_1 | exact bk_2 | exact bk_3 | exact bk_4 | exact bk_5 | exact bk_6 | exact bk_7 | exact bk_8 | exact bk_9 | exact bk_10 | exact bk_11 | exact bk_12 | exact bk_13 | exact bk_14 | exact bk_15 | exact bk_16 | exact zup_self | exact (zup_ne (by first | assumption | omega)).trans (by first | assumption | exact zup_self) | exact (zup_ne (by first | assumption | omega)).trans ((zup_ne (by first | assumption | omega)).trans (by first | assumption | exact zup_self)) | exact (bk_out (by first | omega | (simp only [bset, reduceIte, Nat.reduceEqDiff]; omega))).trans (by first | exact bk_0 | exact bk_1 | exact bk_2 | exact bk_3 | exact bk_4 | exact bk_5 | exact bk_6 | exact bk_7 | exact bk_8 | exact bk_9 | exact bk_10 | exact bk_11 | exact bk_12 | exact bk_13 | exact bk_14 | exact bk_15 | exact bk_16 | exact cr_5 | exact cr_23 | exact cr_24 | exact cr_25 | exact cr_26 | exact cr_27 | exact cr_28 | exact cr_29 | exact cr_30 | assumption)) (by decide) (by first | omega | (simp only [bset, reduceIte, Nat.reduceEqDiff]; omega)) (by first | omega | (simp only [bset, reduceIte, Nat.reduceEqDiff]; omega)) ?_
      rw [h.se0 s hp.1 hp.2]
      refine zr_goto (tgt := 25) dX7_setting_21 (by decide) ?_
      refine zr_ireE dX7_setting_25 rfl rfl ?_
      exact ⟨rfl, S, ik, hR, rfl⟩)
theorem p_whyNot1 (c r n : Int) (hc : j32 c) (hr : j32 r) (hn : j32 n) (hp : ¬ ((0 ≤ c ∧ c < 6) ∧ 0 ≤ r ∧ r < 3))  (hR : zRel B σ S ik) : zFe Γ md_X7_whyNot (d + 8) [.ref 167, .int (jI c), .int (jI r), .int (jI n)] (mw S σ.sc ik th σ.T σ.L w) (zMQ (some (.int (jI 0))) 1 (B) (σ) w) := by
  obtain ⟨ok, lk, pk, ck, lx, h, hsv, hkp⟩ := hR
  have hR : zRel B σ S ik := ⟨ok, lk, pk, ck, lx, h, hsv, hkp⟩
  refine zFe.of_run (lv := [some (.ref 167), some (.int (jI c)), some (.int (jI r)), some (.int (jI n))]) (by decide) rfl (Nat.le_of_ble_eq_true rfl) rfl (fun n9 g9 => ?_)
  refine zr_aload_n dX7_whyNot_0 (rfl : 0 + 1 = 1) rfl ?_
  refine zr_iload_n dX7_whyNot_1 (rfl : 1 + 1 = 2) rfl ?_
  refine zr_fnS dX7_whyNot_2 (rfl : 2 + 3 = 5) l_X7_50 (m_isCard c hc) rfl rfl (Nat.le_of_ble_eq_true rfl) ?_
  refine zr_if_eq (tgt := 19) dX7_whyNot_5 (by decide) (rfl : 5 + 3 = 8) (by first | exact jb_iff | exact jI_z (by first | omega | (simp only [bset, reduceIte, Nat.reduceEqDiff]; omega)) (by first | omega | (simp only [bset, reduceIte, Nat.reduceEqDiff]; omega))) (fun h5 => ?_) (fun h5 => ?_)
  · first
    | (exfalso; omega)
    | (
      refine zr_iconst dX7_whyNot_19 (rfl : 19 + 1 = 20) ?_
      refine zr_iload_n dX7_whyNot_20 (rfl : 20 + 1 = 21) rfl ?_
      refine zr_fnS dX7_whyNot_21 (rfl : 21 + 3 = 24) l_X7_57 (m_isNumber n hn) rfl rfl (Nat.le_of_ble_eq_true rfl) ?_
      refine zr_iconst dX7_whyNot_24 (rfl : 24 + 1 = 25) ?_
      refine zr_fnV dX7_whyNot_25 (rfl : 25 + 3 = 28) l_X7_60 (m_go1 _ _) (by first | assumption | exact mw_167 | exact mw_168 | exact mw_169 | exact mw_170 | exact bk_0 | exact bk_1 | exact bk_2 | exact bk_3 | exact bk_4 | exact bk_5 | exact bk_6 | exact bk_7 | exact bk_8 | exact bk_9 | exact bk_10 | exact bk_11 | exact bk_12 | exact bk_13 | exact bk_14 | exact bk_15 | exact bk_16 | exact zup_self | exact (zup_ne (by first | assumption | omega)).trans (by first | assumption | exact zup_self) | exact (zup_ne (by first | assumption | omega)).trans ((zup_ne (by first | assumption | omega)).trans (by first | assumption | exact zup_self)) | exact (bk_out (by first | omega | (simp only [bset, reduceIte, Nat.reduceEqDiff]; omega))).trans (by first | exact bk_0 | exact bk_1 | exact bk_2 | exact bk_3 | exact bk_4 | exact bk_5 | exact bk_6 | exact bk_7 | exact bk_8 | exact bk_9 | exact bk_10 | exact bk_11 | exact bk_12 | exact bk_13 | exact bk_14 | exact bk_15 | exact bk_16 | exact cr_5 | exact cr_23 | exact cr_24 | exact cr_25 | exact cr_26 | exact cr_27 | exact cr_28 | exact cr_29 | exact cr_30 | assumption)) rfl rfl rfl (Nat.le_of_ble_eq_true rfl) ?_
      refine zr_if_eq (tgt := 41) dX7_whyNot_28 (by decide) (rfl : 28 + 3 = 31) (by first | exact jb_iff | exact jI_z (by first | omega | (simp only [bset, reduceIte, Nat.reduceEqDiff]; omega)) (by first | omega | (simp only [bset, reduceIte, Nat.reduceEqDiff]; omega))) (fun h28 => ?_) (fun h28 => ?_)
      · first
        | (exfalso; omega)
        | (
          refine zr_iconst dX7_whyNot_41 (rfl : 41 + 1 = 42) ?_
          refine zr_ireE dX7_whyNot_42 rfl rfl ?_
          exact ⟨rfl, S, ik, hR, rfl⟩)
      · first
        | (exfalso; omega)
        | (
          exfalso
          omega))
  · first
    | (exfalso; omega)
    | (
      refine zr_iload_n dX7_whyNot_8 (rfl : 8 + 1 = 9) rfl ?_
      refine zr_fnS dX7_whyNot_9 (rfl : 9 + 3 = 12) l_X7_54 (m_isRow r hr) rfl rfl (Nat.le_of_ble_eq_true rfl) ?_
      refine zr_if_eq (tgt := 19) dX7_whyNot_12 (by decide) (rfl : 12 + 3 = 15) (by first | exact jb_iff | exact jI_z (by first | omega | (simp only [bset, reduceIte, Nat.reduceEqDiff]; omega)) (by first | omega | (simp only [bset, reduceIte, Nat.reduceEqDiff]; omega))) (fun h12 => ?_) (fun h12 => ?_)
      · first
        | (exfalso; omega)
        | (
          refine zr_iconst dX7_whyNot_19 (rfl : 19 + 1 = 20) ?_
          refine zr_iload_n dX7_whyNot_20 (rfl : 20 + 1 = 21) rfl ?_
          refine zr_fnS dX7_whyNot_21 (rfl : 21 + 3 = 24) l_X7_57 (m_isNumber n hn) rfl rfl (Nat.le_of_ble_eq_true rfl) ?_
          refine zr_iconst dX7_whyNot_24 (rfl : 24 + 1 = 25) ?_
          refine zr_fnV dX7_whyNot_25 (rfl : 25 + 3 = 28) l_X7_60 (m_go1 _ _) (by first | assumption | exact mw_167 | exact mw_168 | exact mw_169 | exact mw_170 | exact bk_0 | exact bk_1 | exact bk_2 | exact bk_3 | exact bk_4 | exact bk_5 | exact bk_6 | exact bk_7 | exact bk_8 | exact bk_9 | exact bk_10 | exact bk_11 | exact bk_12 | exact bk_13 | exact bk_14 | exact bk_15 | exact bk_16 | exact zup_self | exact (zup_ne (by first | assumption | omega)).trans (by first | assumption | exact zup_self) | exact (zup_ne (by first | assumption | omega)).trans ((zup_ne (by first | assumption | omega)).trans (by first | assumption | exact zup_self)) | exact (bk_out (by first | omega | (simp only [bset, reduceIte, Nat.reduceEqDiff]; omega))).trans (by first | exact bk_0 | exact bk_1 | exact bk_2 | exact bk_3 | exact bk_4 | exact bk_5 | exact bk_6 | exact bk_7 | exact bk_8 | exact bk_9 | exact bk_10 | exact bk_11 | exact bk_12 | exact bk_13 | exact bk_14 | exact bk_15 | exact bk_16 | exact cr_5 | exact cr_23 | exact cr_24 | exact cr_25 | exact cr_26 | exact cr_27 | exact cr_28 | exact cr_29 | exact cr_30 | assumption)) rfl rfl rfl (Nat.le_of_ble_eq_true rfl) ?_
          refine zr_if_eq (tgt := 41) dX7_whyNot_28 (by decide) (rfl : 28 + 3 = 31) (by first | exact jb_iff | exact jI_z (by first | omega | (simp only [bset, reduceIte, Nat.reduceEqDiff]; omega)) (by first | omega | (simp only [bset, reduceIte, Nat.reduceEqDiff]; omega))) (fun h28 => ?_) (fun h28 => ?_)
          · first
            | (exfalso; omega)
            | (
              refine zr_iconst dX7_whyNot_41 (rfl : 41 + 1 = 42) ?_
              refine zr_ireE dX7_whyNot_42 rfl rfl ?_
              exact ⟨rfl, S, ik, hR, rfl⟩)
          · first
            | (exfalso; omega)
            | (
              exfalso
              omega))
      · first
        | (exfalso; omega)
        | (
          refine zr_iconst dX7_whyNot_15 (rfl : 15 + 1 = 16) ?_
          refine zr_goto (tgt := 20) dX7_whyNot_16 (by decide) ?_
          refine zr_iload_n dX7_whyNot_20 (rfl : 20 + 1 = 21) rfl ?_
          refine zr_fnS dX7_whyNot_21 (rfl : 21 + 3 = 24) l_X7_57 (m_isNumber n hn) rfl rfl (Nat.le_of_ble_eq_true rfl) ?_
          refine zr_iconst dX7_whyNot_24 (rfl : 24 + 1 = 25) ?_
          refine zr_fnV dX7_whyNot_25 (rfl : 25 + 3 = 28) l_X7_60 (m_go1 _ _) (by first | assumption | exact mw_167 | exact mw_168 | exact mw_169 | exact mw_170 | exact bk_0 | exact bk_1 | exact bk_2 | exact bk_3 | exact bk_4 | exact bk_5 | exact bk_6 | exact bk_7 | exact bk_8 | exact bk_9 | exact bk_10 | exact bk_11 | exact bk_12 | exact bk_13 | exact bk_14 | exact bk_15 | exact bk_16 | exact zup_self | exact (zup_ne (by first | assumption | omega)).trans (by first | assumption | exact zup_self) | exact (zup_ne (by first | assumption | omega)).trans ((zup_ne (by first | assumption | omega)).trans (by first | assumption | exact zup_self)) | exact (bk_out (by first | omega | (simp only [bset, reduceIte, Nat.reduceEqDiff]; omega))).trans (by first | exact bk_0 | exact bk_1 | exact bk_2 | exact bk_3 | exact bk_4 | exact bk_5 | exact bk_6 | exact bk_7 | exact bk_8 | exact bk_9 | exact bk_10 | exact bk_11 | exact bk_12 | exact bk_13 | exact bk_14 | exact bk_15 | exact bk_16 | exact cr_5 | exact cr_23 | exact cr_24 | exact cr_25 | exact cr_26 | exact cr_27 | exact cr_28 | exact cr_29 | exact cr_30 | assumption)) rfl rfl rfl (Nat.le_of_ble_eq_true rfl) ?_
          refine zr_if_eq (tgt := 41) dX7_whyNot_28 (by decide) (rfl : 28 + 3 = 31) (by first | exact jb_iff | exact jI_z (by first | omega | (simp only [bset, reduceIte, Nat.reduceEqDiff]; omega)) (by first | omega | (simp only [bset, reduceIte, Nat.reduceEqDiff]; omega))) (fun h28 => ?_) (fun h28 => ?_)
          · first
            | (exfalso; omega)
            | (
              refine zr_iconst dX7_whyNot_41 (rfl : 41 + 1 = 42) ?_
              refine zr_ireE dX7_whyNot_42 rfl rfl ?_
              exact ⟨rfl, S, ik, hR, rfl⟩)
          · first
            | (exfalso; omega)
            | (
              exfalso
              omega)))
theorem p_whyNot2 (c r n : Int) (hc : j32 c) (hr : j32 r) (hn : j32 n) (hp : (0 ≤ c ∧ c < 6) ∧ 0 ≤ r ∧ r < 3) (h2 : ¬ (1 ≤ n ∧ n ≤ 90))  (hR : zRel B σ S ik) : zFe Γ md_X7_whyNot (d + 8) [.ref 167, .int (jI c), .int (jI r), .int (jI n)] (mw S σ.sc ik th σ.T σ.L w) (zMQ (some (.int (jI 0))) 2 (B) (σ) w) := by
  obtain ⟨ok, lk, pk, ck, lx, h, hsv, hkp⟩ := hR
  have hR : zRel B σ S ik := ⟨ok, lk, pk, ck, lx, h, hsv, hkp⟩
  refine zFe.of_run (lv := [some (.ref 167), some (.int (jI c)), some (.int (jI r)), some (.int (jI n))]) (by decide) rfl (Nat.le_of_ble_eq_true rfl) rfl (fun n9 g9 => ?_)
  refine zr_aload_n dX7_whyNot_0 (rfl : 0 + 1 = 1) rfl ?_
  refine zr_iload_n dX7_whyNot_1 (rfl : 1 + 1 = 2) rfl ?_
  refine zr_fnS dX7_whyNot_2 (rfl : 2 + 3 = 5) l_X7_50 (m_isCard c hc) rfl rfl (Nat.le_of_ble_eq_true rfl) ?_
  refine zr_if_eq (tgt := 19) dX7_whyNot_5 (by decide) (rfl : 5 + 3 = 8) (by first | exact jb_iff | exact jI_z (by first | omega | (simp only [bset, reduceIte, Nat.reduceEqDiff]; omega)) (by first | omega | (simp only [bset, reduceIte, Nat.reduceEqDiff]; omega))) (fun h5 => ?_) (fun h5 => ?_)
  · first
    | (exfalso; omega)
    | (
      refine zr_iconst dX7_whyNot_19 (rfl : 19 + 1 = 20) ?_
      refine zr_iload_n dX7_whyNot_20 (rfl : 20 + 1 = 21) rfl ?_
      refine zr_fnS dX7_whyNot_21 (rfl : 21 + 3 = 24) l_X7_57 (m_isNumber n hn) rfl rfl (Nat.le_of_ble_eq_true rfl) ?_
      rw [jb_neg (by omega)]
      refine zr_iconst dX7_whyNot_24 (rfl : 24 + 1 = 25) ?_
      refine zr_fnV dX7_whyNot_25 (rfl : 25 + 3 = 28) l_X7_60 (m_go2 _) (by first | assumption | exact mw_167 | exact mw_168 | exact mw_169 | exact mw_170 | exact bk_0 | exact bk_1 | exact bk_2 | exact bk_3 | exact bk_4 | exact bk_5 | exact bk_6 | exact bk_7 | exact bk_8 | exact bk_9 | exact bk_10 | exact bk_11 | exact bk_12 | exact bk_13 | exact bk_14 | exact bk_15 | exact bk_16 | exact zup_self | exact (zup_ne (by first | assumption | omega)).trans (by first | assumption | exact zup_self) | exact (zup_ne (by first | assumption | omega)).trans ((zup_ne (by first | assumption | omega)).trans (by first | assumption | exact zup_self)) | exact (bk_out (by first | omega | (simp only [bset, reduceIte, Nat.reduceEqDiff]; omega))).trans (by first | exact bk_0 | exact bk_1 | exact bk_2 | exact bk_3 | exact bk_4 | exact bk_5 | exact bk_6 | exact bk_7 | exact bk_8 | exact bk_9 | exact bk_10 | exact bk_11 | exact bk_12 | exact bk_13 | exact bk_14 | exact bk_15 | exact bk_16 | exact cr_5 | exact cr_23 | exact cr_24 | exact cr_25 | exact cr_26 | exact cr_27 | exact cr_28 | exact cr_29 | exact cr_30 | assumption)) rfl rfl rfl (Nat.le_of_ble_eq_true rfl) ?_
      refine zr_if_eq (tgt := 41) dX7_whyNot_28 (by decide) (rfl : 28 + 3 = 31) (by first | exact jb_iff | exact jI_z (by first | omega | (simp only [bset, reduceIte, Nat.reduceEqDiff]; omega)) (by first | omega | (simp only [bset, reduceIte, Nat.reduceEqDiff]; omega))) (fun h28 => ?_) (fun h28 => ?_)
      · first
        | (exfalso; omega)
        | (
          refine zr_iconst dX7_whyNot_41 (rfl : 41 + 1 = 42) ?_
          refine zr_ireE dX7_whyNot_42 rfl rfl ?_
          exact ⟨rfl, S, ik, hR, rfl⟩)
      · first
        | (exfalso; omega)
        | (
          exfalso
          omega))
  · first
    | (exfalso; omega)
    | (
      refine zr_iload_n dX7_whyNot_8 (rfl : 8 + 1 = 9) rfl ?_
      refine zr_fnS dX7_whyNot_9 (rfl : 9 + 3 = 12) l_X7_54 (m_isRow r hr) rfl rfl (Nat.le_of_ble_eq_true rfl) ?_
      refine zr_if_eq (tgt := 19) dX7_whyNot_12 (by decide) (rfl : 12 + 3 = 15) (by first | exact jb_iff | exact jI_z (by first | omega | (simp only [bset, reduceIte, Nat.reduceEqDiff]; omega)) (by first | omega | (simp only [bset, reduceIte, Nat.reduceEqDiff]; omega))) (fun h12 => ?_) (fun h12 => ?_)
      · first
        | (exfalso; omega)
        | (
          refine zr_iconst dX7_whyNot_19 (rfl : 19 + 1 = 20) ?_
          refine zr_iload_n dX7_whyNot_20 (rfl : 20 + 1 = 21) rfl ?_
          refine zr_fnS dX7_whyNot_21 (rfl : 21 + 3 = 24) l_X7_57 (m_isNumber n hn) rfl rfl (Nat.le_of_ble_eq_true rfl) ?_
          rw [jb_neg (by omega)]
          refine zr_iconst dX7_whyNot_24 (rfl : 24 + 1 = 25) ?_
          refine zr_fnV dX7_whyNot_25 (rfl : 25 + 3 = 28) l_X7_60 (m_go2 _) (by first | assumption | exact mw_167 | exact mw_168 | exact mw_169 | exact mw_170 | exact bk_0 | exact bk_1 | exact bk_2 | exact bk_3 | exact bk_4 | exact bk_5 | exact bk_6 | exact bk_7 | exact bk_8 | exact bk_9 | exact bk_10 | exact bk_11 | exact bk_12 | exact bk_13 | exact bk_14 | exact bk_15 | exact bk_16 | exact zup_self | exact (zup_ne (by first | assumption | omega)).trans (by first | assumption | exact zup_self) | exact (zup_ne (by first | assumption | omega)).trans ((zup_ne (by first | assumption | omega)).trans (by first | assumption | exact zup_self)) | exact (bk_out (by first | omega | (simp only [bset, reduceIte, Nat.reduceEqDiff]; omega))).trans (by first | exact bk_0 | exact bk_1 | exact bk_2 | exact bk_3 | exact bk_4 | exact bk_5 | exact bk_6 | exact bk_7 | exact bk_8 | exact bk_9 | exact bk_10 | exact bk_11 | exact bk_12 | exact bk_13 | exact bk_14 | exact bk_15 | exact bk_16 | exact cr_5 | exact cr_23 | exact cr_24 | exact cr_25 | exact cr_26 | exact cr_27 | exact cr_28 | exact cr_29 | exact cr_30 | assumption)) rfl rfl rfl (Nat.le_of_ble_eq_true rfl) ?_
          refine zr_if_eq (tgt := 41) dX7_whyNot_28 (by decide) (rfl : 28 + 3 = 31) (by first | exact jb_iff | exact jI_z (by first | omega | (simp only [bset, reduceIte, Nat.reduceEqDiff]; omega)) (by first | omega | (simp only [bset, reduceIte, Nat.reduceEqDiff]; omega))) (fun h28 => ?_) (fun h28 => ?_)
          · first
            | (exfalso; omega)
            | (
              refine zr_iconst dX7_whyNot_41 (rfl : 41 + 1 = 42) ?_
              refine zr_ireE dX7_whyNot_42 rfl rfl ?_
              exact ⟨rfl, S, ik, hR, rfl⟩)
          · first
            | (exfalso; omega)
            | (
              exfalso
              omega))
      · first
        | (exfalso; omega)
        | (
          refine zr_iconst dX7_whyNot_15 (rfl : 15 + 1 = 16) ?_
          refine zr_goto (tgt := 20) dX7_whyNot_16 (by decide) ?_
          refine zr_iload_n dX7_whyNot_20 (rfl : 20 + 1 = 21) rfl ?_
          refine zr_fnS dX7_whyNot_21 (rfl : 21 + 3 = 24) l_X7_57 (m_isNumber n hn) rfl rfl (Nat.le_of_ble_eq_true rfl) ?_
          rw [jb_neg (by omega)]
          refine zr_iconst dX7_whyNot_24 (rfl : 24 + 1 = 25) ?_
          refine zr_fnV dX7_whyNot_25 (rfl : 25 + 3 = 28) l_X7_60 (m_go2 _) (by first | assumption | exact mw_167 | exact mw_168 | exact mw_169 | exact mw_170 | exact bk_0 | exact bk_1 | exact bk_2 | exact bk_3 | exact bk_4 | exact bk_5 | exact bk_6 | exact bk_7 | exact bk_8 | exact bk_9 | exact bk_10 | exact bk_11 | exact bk_12 | exact bk_13 | exact bk_14 | exact bk_15 | exact bk_16 | exact zup_self | exact (zup_ne (by first | assumption | omega)).trans (by first | assumption | exact zup_self) | exact (zup_ne (by first | assumption | omega)).trans ((zup_ne (by first | assumption | omega)).trans (by first | assumption | exact zup_self)) | exact (bk_out (by first | omega | (simp only [bset, reduceIte, Nat.reduceEqDiff]; omega))).trans (by first | exact bk_0 | exact bk_1 | exact bk_2 | exact bk_3 | exact bk_4 | exact bk_5 | exact bk_6 | exact bk_7 | exact bk_8 | exact bk_9 | exact bk_10 | exact bk_11 | exact bk_12 | exact bk_13 | exact bk_14 | exact bk_15 | exact bk_16 | exact cr_5 | exact cr_23 | exact cr_24 | exact cr_25 | exact cr_26 | exact cr_27 | exact cr_28 | exact cr_29 | exact cr_30 | assumption)) rfl rfl rfl (Nat.le_of_ble_eq_true rfl) ?_
          refine zr_if_eq (tgt := 41) dX7_whyNot_28 (by decide) (rfl : 28 + 3 = 31) (by first | exact jb_iff | exact jI_z (by first | omega | (simp only [bset, reduceIte, Nat.reduceEqDiff]; omega)) (by first | omega | (simp only [bset, reduceIte, Nat.reduceEqDiff]; omega))) (fun h28 => ?_) (fun h28 => ?_)
          · first
            | (exfalso; omega)
            | (
              refine zr_iconst dX7_whyNot_41 (rfl : 41 + 1 = 42) ?_
              refine zr_ireE dX7_whyNot_42 rfl rfl ?_
              exact ⟨rfl, S, ik, hR, rfl⟩)
          · first
            | (exfalso; omega)
            | (
              exfalso
              omega)))
theorem p_whyNot (c r n : Int) (hc : j32 c) (hr : j32 r) (hn : j32 n) (hp : (0 ≤ c ∧ c < 6) ∧ 0 ≤ r ∧ r < 3) (h2 : 1 ≤ n ∧ n ≤ 90)  (hR : zRel B σ S ik) : zFe Γ md_X7_whyNot (d + 8) [.ref 167, .int (jI c), .int (jI r), .int (jI n)] (mw S σ.sc ik th σ.T σ.L w) (zMQ (some (.int (jI (jrap B (c * 3 + r) n)))) 0 (B) (σ) w) := by
  obtain ⟨ok, lk, pk, ck, lx, h, hsv, hkp⟩ := hR
  have hR : zRel B σ S ik := ⟨ok, lk, pk, ck, lx, h, hsv, hkp⟩
  refine zFe.of_run (lv := [some (.ref 167), some (.int (jI c)), some (.int (jI r)), some (.int (jI n))]) (by decide) rfl (Nat.le_of_ble_eq_true rfl) rfl (fun n9 g9 => ?_)
  refine zr_aload_n dX7_whyNot_0 (rfl : 0 + 1 = 1) rfl ?_
  refine zr_iload_n dX7_whyNot_1 (rfl : 1 + 1 = 2) rfl ?_
  refine zr_fnS dX7_whyNot_2 (rfl : 2 + 3 = 5) l_X7_50 (m_isCard c hc) rfl rfl (Nat.le_of_ble_eq_true rfl) ?_
  refine zr_if_eq (tgt := 19) dX7_whyNot_5 (by decide) (rfl : 5 + 3 = 8) (by first | exact jb_iff | exact jI_z (by first | omega | (simp only [bset, reduceIte, Nat.reduceEqDiff]; omega)) (by first | omega | (simp only [bset, reduceIte, Nat.reduceEqDiff]; omega))) (fun h5 => ?_) (fun h5 => ?_)
  · first
    | (exfalso; omega)
    | (
      refine zr_iconst dX7_whyNot_19 (rfl : 19 + 1 = 20) ?_
      refine zr_iload_n dX7_whyNot_20 (rfl : 20 + 1 = 21) rfl ?_
      refine zr_fnS dX7_whyNot_21 (rfl : 21 + 3 = 24) l_X7_57 (m_isNumber n hn) rfl rfl (Nat.le_of_ble_eq_true rfl) ?_
      rw [jb_pos (by omega)]
      refine zr_iconst dX7_whyNot_24 (rfl : 24 + 1 = 25) ?_
      refine zr_fnV dX7_whyNot_25 (rfl : 25 + 3 = 28) l_X7_60 (m_go) (by first | assumption | exact mw_167 | exact mw_168 | exact mw_169 | exact mw_170 | exact bk_0 | exact bk_1 | exact bk_2 | exact bk_3 | exact bk_4 | exact bk_5 | exact bk_6 | exact bk_7 | exact bk_8 | exact bk_9 | exact bk_10 | exact bk_11 | exact bk_12 | exact bk_13 | exact bk_14 | exact bk_15 | exact bk_16 | exact zup_self | exact (zup_ne (by first | assumption | omega)).trans (by first | assumption | exact zup_self) | exact (zup_ne (by first | assumption | omega)).trans ((zup_ne (by first | assumption | omega)).trans (by first | assumption | exact zup_self)) | exact (bk_out (by first | omega | (simp only [bset, reduceIte, Nat.reduceEqDiff]; omega))).trans (by first | exact bk_0 | exact bk_1 | exact bk_2 | exact bk_3 | exact bk_4 | exact bk_5 | exact bk_6 | exact bk_7 | exact bk_8 | exact bk_9 | exact bk_10 | exact bk_11 | exact bk_12 | exact bk_13 | exact bk_14 | exact bk_15 | exact bk_16 | exact cr_5 | exact cr_23 | exact cr_24 | exact cr_25 | exact cr_26 | exact cr_27 | exact cr_28 | exact cr_29 | exact cr_30 | assumption)) rfl rfl rfl (Nat.le_of_ble_eq_true rfl) ?_
      refine zr_if_eq (tgt := 41) dX7_whyNot_28 (by decide) (rfl : 28 + 3 = 31) (by first | exact jb_iff | exact jI_z (by first | omega | (simp only [bset, reduceIte, Nat.reduceEqDiff]; omega)) (by first | omega | (simp only [bset, reduceIte, Nat.reduceEqDiff]; omega))) (fun h28 => ?_) (fun h28 => ?_)
      · first
        | (exfalso; omega)
        | (
          exfalso
          omega)
      · first
        | (exfalso; omega)
        | (
          refine zr_aload_n dX7_whyNot_31 (rfl : 31 + 1 = 32) rfl ?_
          refine zr_iload_n dX7_whyNot_32 (rfl : 32 + 1 = 33) rfl ?_
          refine zr_iload_n dX7_whyNot_33 (rfl : 33 + 1 = 34) rfl ?_
          refine zr_iload_n dX7_whyNot_34 (rfl : 34 + 1 = 35) rfl ?_
          refine zr_fnV dX7_whyNot_35 (rfl : 35 + 3 = 38) l_X7_47 (m_wrong c r n hp.1 hp.2 h2 h ok lk) (by first | assumption | exact mw_167 | exact mw_168 | exact mw_169 | exact mw_170 | exact bk_0 | exact bk_1 | exact bk_2 | exact bk_3 | exact bk_4 | exact bk_5 | exact bk_6 | exact bk_7 | exact bk_8 | exact bk_9 | exact bk_10 | exact bk_11 | exact bk_12 | exact bk_13 | exact bk_14 | exact bk_15 | exact bk_16 | exact zup_self | exact (zup_ne (by first | assumption | omega)).trans (by first | assumption | exact zup_self) | exact (zup_ne (by first | assumption | omega)).trans ((zup_ne (by first | assumption | omega)).trans (by first | assumption | exact zup_self)) | exact (bk_out (by first | omega | (simp only [bset, reduceIte, Nat.reduceEqDiff]; omega))).trans (by first | exact bk_0 | exact bk_1 | exact bk_2 | exact bk_3 | exact bk_4 | exact bk_5 | exact bk_6 | exact bk_7 | exact bk_8 | exact bk_9 | exact bk_10 | exact bk_11 | exact bk_12 | exact bk_13 | exact bk_14 | exact bk_15 | exact bk_16 | exact cr_5 | exact cr_23 | exact cr_24 | exact cr_25 | exact cr_26 | exact cr_27 | exact cr_28 | exact cr_29 | exact cr_30 | assumption)) rfl rfl rfl (Nat.le_of_ble_eq_true rfl) ?_
          refine zr_goto (tgt := 42) dX7_whyNot_38 (by decide) ?_
          refine zr_ireE dX7_whyNot_42 rfl rfl ?_
          exact ⟨rfl, S, ik, hR, rfl⟩))
  · first
    | (exfalso; omega)
    | (
      refine zr_iload_n dX7_whyNot_8 (rfl : 8 + 1 = 9) rfl ?_
      refine zr_fnS dX7_whyNot_9 (rfl : 9 + 3 = 12) l_X7_54 (m_isRow r hr) rfl rfl (Nat.le_of_ble_eq_true rfl) ?_
      refine zr_if_eq (tgt := 19) dX7_whyNot_12 (by decide) (rfl : 12 + 3 = 15) (by first | exact jb_iff | exact jI_z (by first | omega | (simp only [bset, reduceIte, Nat.reduceEqDiff]; omega)) (by first | omega | (simp only [bset, reduceIte, Nat.reduceEqDiff]; omega))) (fun h12 => ?_) (fun h12 => ?_)
      · first
        | (exfalso; omega)
        | (
          refine zr_iconst dX7_whyNot_19 (rfl : 19 + 1 = 20) ?_
          refine zr_iload_n dX7_whyNot_20 (rfl : 20 + 1 = 21) rfl ?_
          refine zr_fnS dX7_whyNot_21 (rfl : 21 + 3 = 24) l_X7_57 (m_isNumber n hn) rfl rfl (Nat.le_of_ble_eq_true rfl) ?_
          rw [jb_pos (by omega)]
          refine zr_iconst dX7_whyNot_24 (rfl : 24 + 1 = 25) ?_
          refine zr_fnV dX7_whyNot_25 (rfl : 25 + 3 = 28) l_X7_60 (m_go) (by first | assumption | exact mw_167 | exact mw_168 | exact mw_169 | exact mw_170 | exact bk_0 | exact bk_1 | exact bk_2 | exact bk_3 | exact bk_4 | exact bk_5 | exact bk_6 | exact bk_7 | exact bk_8 | exact bk_9 | exact bk_10 | exact bk_11 | exact bk_12 | exact bk_13 | exact bk_14 | exact bk_15 | exact bk_16 | exact zup_self | exact (zup_ne (by first | assumption | omega)).trans (by first | assumption | exact zup_self) | exact (zup_ne (by first | assumption | omega)).trans ((zup_ne (by first | assumption | omega)).trans (by first | assumption | exact zup_self)) | exact (bk_out (by first | omega | (simp only [bset, reduceIte, Nat.reduceEqDiff]; omega))).trans (by first | exact bk_0 | exact bk_1 | exact bk_2 | exact bk_3 | exact bk_4 | exact bk_5 | exact bk_6 | exact bk_7 | exact bk_8 | exact bk_9 | exact bk_10 | exact bk_11 | exact bk_12 | exact bk_13 | exact bk_14 | exact bk_15 | exact bk_16 | exact cr_5 | exact cr_23 | exact cr_24 | exact cr_25 | exact cr_26 | exact cr_27 | exact cr_28 | exact cr_29 | exact cr_30 | assumption)) rfl rfl rfl (Nat.le_of_ble_eq_true rfl) ?_
          refine zr_if_eq (tgt := 41) dX7_whyNot_28 (by decide) (rfl : 28 + 3 = 31) (by first | exact jb_iff | exact jI_z (by first | omega | (simp only [bset, reduceIte, Nat.reduceEqDiff]; omega)) (by first | omega | (simp only [bset, reduceIte, Nat.reduceEqDiff]; omega))) (fun h28 => ?_) (fun h28 => ?_)
          · first
            | (exfalso; omega)
            | (
              exfalso
              omega)
          · first
            | (exfalso; omega)
            | (
              refine zr_aload_n dX7_whyNot_31 (rfl : 31 + 1 = 32) rfl ?_
              refine zr_iload_n dX7_whyNot_32 (rfl : 32 + 1 = 33) rfl ?_
              refine zr_iload_n dX7_whyNot_33 (rfl : 33 + 1 = 34) rfl ?_
              refine zr_iload_n dX7_whyNot_34 (rfl : 34 + 1 = 35) rfl ?_
              refine zr_fnV dX7_whyNot_35 (rfl : 35 + 3 = 38) l_X7_47 (m_wrong c r n hp.1 hp.2 h2 h ok lk) (by first | assumption | exact mw_167 | exact mw_168 | exact mw_169 | exact mw_170 | exact bk_0 | exact bk_1 | exact bk_2 | exact bk_3 | exact bk_4 | exact bk_5 | exact bk_6 | exact bk_7 | exact bk_8 | exact bk_9 | exact bk_10 | exact bk_11 | exact bk_12 | exact bk_13 | exact bk_14 | exact bk_15 | exact bk_16 | exact zup_self | exact (zup_ne (by first | assumption | omega)).trans (by first | assumption | exact zup_self) | exact (zup_ne (by first | assumption | omega)).trans ((zup_ne (by first | assumption | omega)).trans (by first | assumption | exact zup_self)) | exact (bk_out (by first | omega | (simp only [bset, reduceIte, Nat.reduceEqDiff]; omega))).trans (by first | exact bk_0 | exact bk_1 | exact bk_2 | exact bk_3 | exact bk_4 | exact bk_5 | exact bk_6 | exact bk_7 | exact bk_8 | exact bk_9 | exact bk_10 | exact bk_11 | exact bk_12 | exact bk_13 | exact bk_14 | exact bk_15 | exact bk_16 | exact cr_5 | exact cr_23 | exact cr_24 | exact cr_25 | exact cr_26 | exact cr_27 | exact cr_28 | exact cr_29 | exact cr_30 | assumption)) rfl rfl rfl (Nat.le_of_ble_eq_true rfl) ?_
              refine zr_goto (tgt := 42) dX7_whyNot_38 (by decide) ?_
              refine zr_ireE dX7_whyNot_42 rfl rfl ?_
              exact ⟨rfl, S, ik, hR, rfl⟩))
      · first
        | (exfalso; omega)
        | (
          refine zr_iconst dX7_whyNot_15 (rfl : 15 + 1 = 16) ?_
          refine zr_goto (tgt := 20) dX7_whyNot_16 (by decide) ?_
          refine zr_iload_n dX7_whyNot_20 (rfl : 20 + 1 = 21) rfl ?_
          refine zr_fnS dX7_whyNot_21 (rfl : 21 + 3 = 24) l_X7_57 (m_isNumber n hn) rfl rfl (Nat.le_of_ble_eq_true rfl) ?_
          rw [jb_pos (by omega)]
          refine zr_iconst dX7_whyNot_24 (rfl : 24 + 1 = 25) ?_
          refine zr_fnV dX7_whyNot_25 (rfl : 25 + 3 = 28) l_X7_60 (m_go) (by first | assumption | exact mw_167 | exact mw_168 | exact mw_169 | exact mw_170 | exact bk_0 | exact bk_1 | exact bk_2 | exact bk_3 | exact bk_4 | exact bk_5 | exact bk_6 | exact bk_7 | exact bk_8 | exact bk_9 | exact bk_10 | exact bk_11 | exact bk_12 | exact bk_13 | exact bk_14 | exact bk_15 | exact bk_16 | exact zup_self | exact (zup_ne (by first | assumption | omega)).trans (by first | assumption | exact zup_self) | exact (zup_ne (by first | assumption | omega)).trans ((zup_ne (by first | assumption | omega)).trans (by first | assumption | exact zup_self)) | exact (bk_out (by first | omega | (simp only [bset, reduceIte, Nat.reduceEqDiff]; omega))).trans (by first | exact bk_0 | exact bk_1 | exact bk_2 | exact bk_3 | exact bk_4 | exact bk_5 | exact bk_6 | exact bk_7 | exact bk_8 | exact bk_9 | exact bk_10 | exact bk_11 | exact bk_12 | exact bk_13 | exact bk_14 | exact bk_15 | exact bk_16 | exact cr_5 | exact cr_23 | exact cr_24 | exact cr_25 | exact cr_26 | exact cr_27 | exact cr_28 | exact cr_29 | exact cr_30 | assumption)) rfl rfl rfl (Nat.le_of_ble_eq_true rfl) ?_
          refine zr_if_eq (tgt := 41) dX7_whyNot_28 (by decide) (rfl : 28 + 3 = 31) (by first | exact jb_iff | exact jI_z (by first | omega | (simp only [bset, reduceIte, Nat.reduceEqDiff]; omega)) (by first | omega | (simp only [bset, reduceIte, Nat.reduceEqDiff]; omega))) (fun h28 => ?_) (fun h28 => ?_)
          · first
            | (exfalso; omega)
            | (
              exfalso
              omega)
          · first
            | (exfalso; omega)
            | (
              refine zr_aload_n dX7_whyNot_31 (rfl : 31 + 1 = 32) rfl ?_
              refine zr_iload_n dX7_whyNot_32 (rfl : 32 + 1 = 33) rfl ?_
              refine zr_iload_n dX7_whyNot_33 (rfl : 33 + 1 = 34) rfl ?_
              refine zr_iload_n dX7_whyNot_34 (rfl : 34 + 1 = 35) rfl ?_
              refine zr_fnV dX7_whyNot_35 (rfl : 35 + 3 = 38) l_X7_47 (m_wrong c r n hp.1 hp.2 h2 h ok lk) (by first | assumption | exact mw_167 | exact mw_168 | exact mw_169 | exact mw_170 | exact bk_0 | exact bk_1 | exact bk_2 | exact bk_3 | exact bk_4 | exact bk_5 | exact bk_6 | exact bk_7 | exact bk_8 | exact bk_9 | exact bk_10 | exact bk_11 | exact bk_12 | exact bk_13 | exact bk_14 | exact bk_15 | exact bk_16 | exact zup_self | exact (zup_ne (by first | assumption | omega)).trans (by first | assumption | exact zup_self) | exact (zup_ne (by first | assumption | omega)).trans ((zup_ne (by first | assumption | omega)).trans (by first | assumption | exact zup_self)) | exact (bk_out (by first | omega | (simp only [bset, reduceIte, Nat.reduceEqDiff]; omega))).trans (by first | exact bk_0 | exact bk_1 | exact bk_2 | exact bk_3 | exact bk_4 | exact bk_5 | exact bk_6 | exact bk_7 | exact bk_8 | exact bk_9 | exact bk_10 | exact bk_11 | exact bk_12 | exact bk_13 | exact bk_14 | exact bk_15 | exact bk_16 | exact cr_5 | exact cr_23 | exact cr_24 | exact cr_25 | exact cr_26 | exact cr_27 | exact cr_28 | exact cr_29 | exact cr_30 | assumption)) rfl rfl rfl (Nat.le_of_ble_eq_true rfl) ?_
              refine zr_goto (tgt := 42) dX7_whyNot_38 (by decide) ?_
              refine zr_ireE dX7_whyNot_42 rfl rfl ?_
              exact ⟨rfl, S, ik, hR, rfl⟩)))
theorem p_ifClaimed1 (c g : Int) (hc : j32 c) (hg : j32 g) (hp : ¬ ((0 ≤ c ∧ c < 6) ∧ 0 ≤ g ∧ g < 4))  (hR : zRel B σ S ik) : zFe Γ md_X7_ifClaimed (d + 8) [.ref 167, .int (jI c), .int (jI g)] (mw S σ.sc ik th σ.T σ.L w) (zMQ (some (.int (jI 0))) 1 (B) (σ) w) := by
  obtain ⟨ok, lk, pk, ck, lx, h, hsv, hkp⟩ := hR
  have hR : zRel B σ S ik := ⟨ok, lk, pk, ck, lx, h, hsv, hkp⟩
  refine zFe.of_run (lv := [some (.ref 167), some (.int (jI c)), some (.int (jI g))]) (by decide) rfl (Nat.le_of_ble_eq_true rfl) rfl (fun n9 g9 => ?_)
  refine zr_aload_n dX7_ifClaimed_0 (rfl : 0 + 1 = 1) rfl ?_
  refine zr_iload_n dX7_ifClaimed_1 (rfl : 1 + 1 = 2) rfl ?_
  refine zr_fnS dX7_ifClaimed_2 (rfl : 2 + 3 = 5) l_X7_50 (m_isCard c hc) rfl rfl (Nat.le_of_ble_eq_true rfl) ?_
  refine zr_if_eq (tgt := 21) dX7_ifClaimed_5 (by decide) (rfl : 5 + 3 = 8) (by first | exact jb_iff | exact jI_z (by first | omega | (simp only [bset, reduceIte, Nat.reduceEqDiff]; omega)) (by first | omega | (simp only [bset, reduceIte, Nat.reduceEqDiff]; omega))) (fun h5 => ?_) (fun h5 => ?_)
  · first
    | (exfalso; omega)
    | (
      refine zr_iconst dX7_ifClaimed_21 (rfl : 21 + 1 = 22) ?_
      refine zr_iconst dX7_ifClaimed_22 (rfl : 22 + 1 = 23) ?_
      refine zr_iconst dX7_ifClaimed_23 (rfl : 23 + 1 = 24) ?_
      refine zr_fnV dX7_ifClaimed_24 (rfl : 24 + 3 = 27) l_X7_60 (m_go1 _ _) (by first | assumption | exact mw_167 | exact mw_168 | exact mw_169 | exact mw_170 | exact bk_0 | exact bk_1 | exact bk_2 | exact bk_3 | exact bk_4 | exact bk_5 | exact bk_6 | exact bk_7 | exact bk_8 | exact bk_9 | exact bk_10 | exact bk_11 | exact bk_12 | exact bk_13 | exact bk_14 | exact bk_15 | exact bk_16 | exact zup_self | exact (zup_ne (by first | assumption | omega)).trans (by first | assumption | exact zup_self) | exact (zup_ne (by first | assumption | omega)).trans ((zup_ne (by first | assumption | omega)).trans (by first | assumption | exact zup_self)) | exact (bk_out (by first | omega | (simp only [bset, reduceIte, Nat.reduceEqDiff]; omega))).trans (by first | exact bk_0 | exact bk_1 | exact bk_2 | exact bk_3 | exact bk_4 | exact bk_5 | exact bk_6 | exact bk_7 | exact bk_8 | exact bk_9 | exact bk_10 | exact bk_11 | exact bk_12 | exact bk_13 | exact bk_14 | exact bk_15 | exact bk_16 | exact cr_5 | exact cr_23 | exact cr_24 | exact cr_25 | exact cr_26 | exact cr_27 | exact cr_28 | exact cr_29 | exact cr_30 | assumption)) rfl rfl rfl (Nat.le_of_ble_eq_true rfl) ?_
      refine zr_if_eq (tgt := 39) dX7_ifClaimed_27 (by decide) (rfl : 27 + 3 = 30) (by first | exact jb_iff | exact jI_z (by first | omega | (simp only [bset, reduceIte, Nat.reduceEqDiff]; omega)) (by first | omega | (simp only [bset, reduceIte, Nat.reduceEqDiff]; omega))) (fun h27 => ?_) (fun h27 => ?_)
      · first
        | (exfalso; omega)
        | (
          refine zr_iconst dX7_ifClaimed_39 (rfl : 39 + 1 = 40) ?_
          refine zr_ireE dX7_ifClaimed_40 rfl rfl ?_
          exact ⟨rfl, S, ik, hR, rfl⟩)
      · first
        | (exfalso; omega)
        | (
          exfalso
          omega))
  · first
    | (exfalso; omega)
    | (
      refine zr_iload_n dX7_ifClaimed_8 (rfl : 8 + 1 = 9) rfl ?_
      refine zr_iconst dX7_ifClaimed_9 (rfl : 9 + 1 = 10) ?_
      refine zr_iconst dX7_ifClaimed_10 (rfl : 10 + 1 = 11) ?_
      refine zr_fnS dX7_ifClaimed_11 (rfl : 11 + 3 = 14) l_X7_32 (m_in g 0 3 hg (by first | omega | (simp only [bset, reduceIte, Nat.reduceEqDiff]; omega)) (by first | omega | (simp only [bset, reduceIte, Nat.reduceEqDiff]; omega))) rfl rfl (Nat.le_of_ble_eq_true rfl) ?_
      refine zr_if_eq (tgt := 21) dX7_ifClaimed_14 (by decide) (rfl : 14 + 3 = 17) (by first | exact jb_iff | exact jI_z (by first | omega | (simp only [bset, reduceIte, Nat.reduceEqDiff]; omega)) (by first | omega | (simp only [bset, reduceIte, Nat.reduceEqDiff]; omega))) (fun h14 => ?_) (fun h14 => ?_)
      · first
        | (exfalso; omega)
        | (
          refine zr_iconst dX7_ifClaimed_21 (rfl : 21 + 1 = 22) ?_
          refine zr_iconst dX7_ifClaimed_22 (rfl : 22 + 1 = 23) ?_
          refine zr_iconst dX7_ifClaimed_23 (rfl : 23 + 1 = 24) ?_
          refine zr_fnV dX7_ifClaimed_24 (rfl : 24 + 3 = 27) l_X7_60 (m_go1 _ _) (by first | assumption | exact mw_167 | exact mw_168 | exact mw_169 | exact mw_170 | exact bk_0 | exact bk_1 | exact bk_2 | exact bk_3 | exact bk_4 | exact bk_5 | exact bk_6 | exact bk_7 | exact bk_8 | exact bk_9 | exact bk_10 | exact bk_11 | exact bk_12 | exact bk_13 | exact bk_14 | exact bk_15 | exact bk_16 | exact zup_self | exact (zup_ne (by first | assumption | omega)).trans (by first | assumption | exact zup_self) | exact (zup_ne (by first | assumption | omega)).trans ((zup_ne (by first | assumption | omega)).trans (by first | assumption | exact zup_self)) | exact (bk_out (by first | omega | (simp only [bset, reduceIte, Nat.reduceEqDiff]; omega))).trans (by first | exact bk_0 | exact bk_1 | exact bk_2 | exact bk_3 | exact bk_4 | exact bk_5 | exact bk_6 | exact bk_7 | exact bk_8 | exact bk_9 | exact bk_10 | exact bk_11 | exact bk_12 | exact bk_13 | exact bk_14 | exact bk_15 | exact bk_16 | exact cr_5 | exact cr_23 | exact cr_24 | exact cr_25 | exact cr_26 | exact cr_27 | exact cr_28 | exact cr_29 | exact cr_30 | assumption)) rfl rfl rfl (Nat.le_of_ble_eq_true rfl) ?_
          refine zr_if_eq (tgt := 39) dX7_ifClaimed_27 (by decide) (rfl : 27 + 3 = 30) (by first | exact jb_iff | exact jI_z (by first | omega | (simp only [bset, reduceIte, Nat.reduceEqDiff]; omega)) (by first | omega | (simp only [bset, reduceIte, Nat.reduceEqDiff]; omega))) (fun h27 => ?_) (fun h27 => ?_)
          · first
            | (exfalso; omega)
            | (
              refine zr_iconst dX7_ifClaimed_39 (rfl : 39 + 1 = 40) ?_
              refine zr_ireE dX7_ifClaimed_40 rfl rfl ?_
              exact ⟨rfl, S, ik, hR, rfl⟩)
          · first
            | (exfalso; omega)
            | (
              exfalso
              omega))
      · first
        | (exfalso; omega)
        | (
          refine zr_iconst dX7_ifClaimed_17 (rfl : 17 + 1 = 18) ?_
          refine zr_goto (tgt := 22) dX7_ifClaimed_18 (by decide) ?_
          refine zr_iconst dX7_ifClaimed_22 (rfl : 22 + 1 = 23) ?_
          refine zr_iconst dX7_ifClaimed_23 (rfl : 23 + 1 = 24) ?_
          refine zr_fnV dX7_ifClaimed_24 (rfl : 24 + 3 = 27) l_X7_60 (m_go1 _ _) (by first | assumption | exact mw_167 | exact mw_168 | exact mw_169 | exact mw_170 | exact bk_0 | exact bk_1 | exact bk_2 | exact bk_3 | exact bk_4 | exact bk_5 | exact bk_6 | exact bk_7 | exact bk_8 | exact bk_9 | exact bk_10 | exact bk_11 | exact bk_12 | exact bk_13 | exact bk_14 | exact bk_15 | exact bk_16 | exact zup_self | exact (zup_ne (by first | assumption | omega)).trans (by first | assumption | exact zup_self) | exact (zup_ne (by first | assumption | omega)).trans ((zup_ne (by first | assumption | omega)).trans (by first | assumption | exact zup_self)) | exact (bk_out (by first | omega | (simp only [bset, reduceIte, Nat.reduceEqDiff]; omega))).trans (by first | exact bk_0 | exact bk_1 | exact bk_2 | exact bk_3 | exact bk_4 | exact bk_5 | exact bk_6 | exact bk_7 | exact bk_8 | exact bk_9 | exact bk_10 | exact bk_11 | exact bk_12 | exact bk_13 | exact bk_14 | exact bk_15 | exact bk_16 | exact cr_5 | exact cr_23 | exact cr_24 | exact cr_25 | exact cr_26 | exact cr_27 | exact cr_28 | exact cr_29 | exact cr_30 | assumption)) rfl rfl rfl (Nat.le_of_ble_eq_true rfl) ?_
          refine zr_if_eq (tgt := 39) dX7_ifClaimed_27 (by decide) (rfl : 27 + 3 = 30) (by first | exact jb_iff | exact jI_z (by first | omega | (simp only [bset, reduceIte, Nat.reduceEqDiff]; omega)) (by first | omega | (simp only [bset, reduceIte, Nat.reduceEqDiff]; omega))) (fun h27 => ?_) (fun h27 => ?_)
          · first
            | (exfalso; omega)
            | (
              refine zr_iconst dX7_ifClaimed_39 (rfl : 39 + 1 = 40) ?_
              refine zr_ireE dX7_ifClaimed_40 rfl rfl ?_
              exact ⟨rfl, S, ik, hR, rfl⟩)
          · first
            | (exfalso; omega)
            | (
              exfalso
              omega)))
theorem p_ifClaimed (c g : Int) (hc : j32 c) (hg : j32 g) (hp : (0 ≤ c ∧ c < 6) ∧ 0 ≤ g ∧ g < 4)  (hR : zRel B σ S ik) : zFe Γ md_X7_ifClaimed (d + 8) [.ref 167, .int (jI c), .int (jI g)] (mw S σ.sc ik th σ.T σ.L w) (zMQ (some (.int (jI (jic B c g)))) 0 (B) (σ) w) := by
  obtain ⟨ok, lk, pk, ck, lx, h, hsv, hkp⟩ := hR
  have hR : zRel B σ S ik := ⟨ok, lk, pk, ck, lx, h, hsv, hkp⟩
  refine zFe.of_run (lv := [some (.ref 167), some (.int (jI c)), some (.int (jI g))]) (by decide) rfl (Nat.le_of_ble_eq_true rfl) rfl (fun n9 g9 => ?_)
  refine zr_aload_n dX7_ifClaimed_0 (rfl : 0 + 1 = 1) rfl ?_
  refine zr_iload_n dX7_ifClaimed_1 (rfl : 1 + 1 = 2) rfl ?_
  refine zr_fnS dX7_ifClaimed_2 (rfl : 2 + 3 = 5) l_X7_50 (m_isCard c hc) rfl rfl (Nat.le_of_ble_eq_true rfl) ?_
  refine zr_if_eq (tgt := 21) dX7_ifClaimed_5 (by decide) (rfl : 5 + 3 = 8) (by first | exact jb_iff | exact jI_z (by first | omega | (simp only [bset, reduceIte, Nat.reduceEqDiff]; omega)) (by first | omega | (simp only [bset, reduceIte, Nat.reduceEqDiff]; omega))) (fun h5 => ?_) (fun h5 => ?_)
  · first
    | (exfalso; omega)
    | (
      refine zr_iconst dX7_ifClaimed_21 (rfl : 21 + 1 = 22) ?_
      refine zr_iconst dX7_ifClaimed_22 (rfl : 22 + 1 = 23) ?_
      refine zr_iconst dX7_ifClaimed_23 (rfl : 23 + 1 = 24) ?_
      refine zr_fnV dX7_ifClaimed_24 (rfl : 24 + 3 = 27) l_X7_60 (m_go) (by first | assumption | exact mw_167 | exact mw_168 | exact mw_169 | exact mw_170 | exact bk_0 | exact bk_1 | exact bk_2 | exact bk_3 | exact bk_4 | exact bk_5 | exact bk_6 | exact bk_7 | exact bk_8 | exact bk_9 | exact bk_10 | exact bk_11 | exact bk_12 | exact bk_13 | exact bk_14 | exact bk_15 | exact bk_16 | exact zup_self | exact (zup_ne (by first | assumption | omega)).trans (by first | assumption | exact zup_self) | exact (zup_ne (by first | assumption | omega)).trans ((zup_ne (by first | assumption | omega)).trans (by first | assumption | exact zup_self)) | exact (bk_out (by first | omega | (simp only [bset, reduceIte, Nat.reduceEqDiff]; omega))).trans (by first | exact bk_0 | exact bk_1 | exact bk_2 | exact bk_3 | exact bk_4 | exact bk_5 | exact bk_6 | exact bk_7 | exact bk_8 | exact bk_9 | exact bk_10 | exact bk_11 | exact bk_12 | exact bk_13 | exact bk_14 | exact bk_15 | exact bk_16 | exact cr_5 | exact cr_23 | exact cr_24 | exact cr_25 | exact cr_26 | exact cr_27 | exact cr_28 | exact cr_29 | exact cr_30 | assumption)) rfl rfl rfl (Nat.le_of_ble_eq_true rfl) ?_
      refine zr_if_eq (tgt := 39) dX7_ifClaimed_27 (by decide) (rfl : 27 + 3 = 30) (by first | exact jb_iff | exact jI_z (by first | omega | (simp only [bset, reduceIte, Nat.reduceEqDiff]; omega)) (by first | omega | (simp only [bset, reduceIte, Nat.reduceEqDiff]; omega))) (fun h27 => ?_) (fun h27 => ?_)
      · first
        | (exfalso; omega)
        | (
          exfalso
          omega)
      · first
        | (exfalso; omega)
        | (
          refine zr_aload_n dX7_ifClaimed_30 (rfl : 30 + 1 = 31) rfl ?_
          refine zr_iload_n dX7_ifClaimed_31 (rfl : 31 + 1 = 32) rfl ?_
          refine zr_iload_n dX7_ifClaimed_32 (rfl : 32 + 1 = 33) rfl ?_
          refine zr_fnV dX7_ifClaimed_33 (rfl : 33 + 3 = 36) l_X7_168 (m_claimed c g hp.1 hp.2 h ok lk) (by first | assumption | exact mw_167 | exact mw_168 | exact mw_169 | exact mw_170 | exact bk_0 | exact bk_1 | exact bk_2 | exact bk_3 | exact bk_4 | exact bk_5 | exact bk_6 | exact bk_7 | exact bk_8 | exact bk_9 | exact bk_10 | exact bk_11 | exact bk_12 | exact bk_13 | exact bk_14 | exact bk_15 | exact bk_16 | exact zup_self | exact (zup_ne (by first | assumption | omega)).trans (by first | assumption | exact zup_self) | exact (zup_ne (by first | assumption | omega)).trans ((zup_ne (by first | assumption | omega)).trans (by first | assumption | exact zup_self)) | exact (bk_out (by first | omega | (simp only [bset, reduceIte, Nat.reduceEqDiff]; omega))).trans (by first | exact bk_0 | exact bk_1 | exact bk_2 | exact bk_3 | exact bk_4 | exact bk_5 | exact bk_6 | exact bk_7 | exact bk_8 | exact bk_9 | exact bk_10 | exact bk_11 | exact bk_12 | exact bk_13 | exact bk_14 | exact bk_15 | exact bk_16 | exact cr_5 | exact cr_23 | exact cr_24 | exact cr_25 | exact cr_26 | exact cr_27 | exact cr_28 | exact cr_29 | exact cr_30 | assumption)) rfl rfl rfl (Nat.le_of_ble_eq_true rfl) ?_
          refine zr_goto (tgt := 40) dX7_ifClaimed_36 (by decide) ?_
          refine zr_ireE dX7_ifClaimed_40 rfl rfl ?_
          exact ⟨rfl, S, ik, hR, rfl⟩))
  · first
    | (exfalso; omega)
    | (
      refine zr_iload_n dX7_ifClaimed_8 (rfl : 8 + 1 = 9) rfl ?_
      refine zr_iconst dX7_ifClaimed_9 (rfl : 9 + 1 = 10) ?_
      refine zr_iconst dX7_ifClaimed_10 (rfl : 10 + 1 = 11) ?_
      refine zr_fnS dX7_ifClaimed_11 (rfl : 11 + 3 = 14) l_X7_32 (m_in g 0 3 hg (by first | omega | (simp only [bset, reduceIte, Nat.reduceEqDiff]; omega)) (by first | omega | (simp only [bset, reduceIte, Nat.reduceEqDiff]; omega))) rfl rfl (Nat.le_of_ble_eq_true rfl) ?_
      refine zr_if_eq (tgt := 21) dX7_ifClaimed_14 (by decide) (rfl : 14 + 3 = 17) (by first | exact jb_iff | exact jI_z (by first | omega | (simp only [bset, reduceIte, Nat.reduceEqDiff]; omega)) (by first | omega | (simp only [bset, reduceIte, Nat.reduceEqDiff]; omega))) (fun h14 => ?_) (fun h14 => ?_)
      · first
        | (exfalso; omega)
        | (
          refine zr_iconst dX7_ifClaimed_21 (rfl : 21 + 1 = 22) ?_
          refine zr_iconst dX7_ifClaimed_22 (rfl : 22 + 1 = 23) ?_
          refine zr_iconst dX7_ifClaimed_23 (rfl : 23 + 1 = 24) ?_
          refine zr_fnV dX7_ifClaimed_24 (rfl : 24 + 3 = 27) l_X7_60 (m_go) (by first | assumption | exact mw_167 | exact mw_168 | exact mw_169 | exact mw_170 | exact bk_0 | exact bk_1 | exact bk_2 | exact bk_3 | exact bk_4 | exact bk_5 | exact bk_6 | exact bk_7 | exact bk_8 | exact bk_9 | exact bk_10 | exact bk_11 | exact bk_12 | exact bk_13 | exact bk_14 | exact bk_15 | exact bk_16 | exact zup_self | exact (zup_ne (by first | assumption | omega)).trans (by first | assumption | exact zup_self) | exact (zup_ne (by first | assumption | omega)).trans ((zup_ne (by first | assumption | omega)).trans (by first | assumption | exact zup_self)) | exact (bk_out (by first | omega | (simp only [bset, reduceIte, Nat.reduceEqDiff]; omega))).trans (by first | exact bk_0 | exact bk_1 | exact bk_2 | exact bk_3 | exact bk_4 | exact bk_5 | exact bk_6 | exact bk_7 | exact bk_8 | exact bk_9 | exact bk_10 | exact bk_11 | exact bk_12 | exact bk_13 | exact bk_14 | exact bk_15 | exact bk_16 | exact cr_5 | exact cr_23 | exact cr_24 | exact cr_25 | exact cr_26 | exact cr_27 | exact cr_28 | exact cr_29 | exact cr_30 | assumption)) rfl rfl rfl (Nat.le_of_ble_eq_true rfl) ?_
          refine zr_if_eq (tgt := 39) dX7_ifClaimed_27 (by decide) (rfl : 27 + 3 = 30) (by first | exact jb_iff | exact jI_z (by first | omega | (simp only [bset, reduceIte, Nat.reduceEqDiff]; omega)) (by first | omega | (simp only [bset, reduceIte, Nat.reduceEqDiff]; omega))) (fun h27 => ?_) (fun h27 => ?_)
          · first
            | (exfalso; omega)
            | (
              exfalso
              omega)
          · first
            | (exfalso; omega)
            | (
              refine zr_aload_n dX7_ifClaimed_30 (rfl : 30 + 1 = 31) rfl ?_
              refine zr_iload_n dX7_ifClaimed_31 (rfl : 31 + 1 = 32) rfl ?_
              refine zr_iload_n dX7_ifClaimed_32 (rfl : 32 + 1 = 33) rfl ?_
              refine zr_fnV dX7_ifClaimed_33 (rfl : 33 + 3 = 36) l_X7_168 (m_claimed c g hp.1 hp.2 h ok lk) (by first | assumption | exact mw_167 | exact mw_168 | exact mw_169 | exact mw_170 | exact bk_0 | exact bk_1 | exact bk_2 | exact bk_3 | exact bk_4 | exact bk_5 | exact bk_6 | exact bk_7 | exact bk_8 | exact bk_9 | exact bk_10 | exact bk_11 | exact bk_12 | exact bk_13 | exact bk_14 | exact bk_15 | exact bk_16 | exact zup_self | exact (zup_ne (by first | assumption | omega)).trans (by first | assumption | exact zup_self) | exact (zup_ne (by first | assumption | omega)).trans ((zup_ne (by first | assumption | omega)).trans (by first | assumption | exact zup_self)) | exact (bk_out (by first | omega | (simp only [bset, reduceIte, Nat.reduceEqDiff]; omega))).trans (by first | exact bk_0 | exact bk_1 | exact bk_2 | exact bk_3 | exact bk_4 | exact bk_5 | exact bk_6 | exact bk_7 | exact bk_8 | exact bk_9 | exact bk_10 | exact bk_11 | exact bk_12 | exact bk_13 | exact bk_14 | exact bk_15 | exact bk_16 | exact cr_5 | exact cr_23 | exact cr_24 | exact cr_25 | exact cr_26 | exact cr_27 | exact cr_28 | exact cr_29 | exact cr_30 | assumption)) rfl rfl rfl (Nat.le_of_ble_eq_true rfl) ?_
              refine zr_goto (tgt := 40) dX7_ifClaimed_36 (by decide) ?_
              refine zr_ireE dX7_ifClaimed_40 rfl rfl ?_
              exact ⟨rfl, S, ik, hR, rfl⟩))
      · first
        | (exfalso; omega)
        | (
          refine zr_iconst dX7_ifClaimed_17 (rfl : 17 + 1 = 18) ?_
          refine zr_goto (tgt := 22) dX7_ifClaimed_18 (by decide) ?_
          refine zr_iconst dX7_ifClaimed_22 (rfl : 22 + 1 = 23) ?_
          refine zr_iconst dX7_ifClaimed_23 (rfl : 23 + 1 = 24) ?_
          refine zr_fnV dX7_ifClaimed_24 (rfl : 24 + 3 = 27) l_X7_60 (m_go) (by first | assumption | exact mw_167 | exact mw_168 | exact mw_169 | exact mw_170 | exact bk_0 | exact bk_1 | exact bk_2 | exact bk_3 | exact bk_4 | exact bk_5 | exact bk_6 | exact bk_7 | exact bk_8 | exact bk_9 | exact bk_10 | exact bk_11 | exact bk_12 | exact bk_13 | exact bk_14 | exact bk_15 | exact bk_16 | exact zup_self | exact (zup_ne (by first | assumption | omega)).trans (by first | assumption | exact zup_self) | exact (zup_ne (by first | assumption | omega)).trans ((zup_ne (by first | assumption | omega)).trans (by first | assumption | exact zup_self)) | exact (bk_out (by first | omega | (simp only [bset, reduceIte, Nat.reduceEqDiff]; omega))).trans (by first | exact bk_0 | exact bk_1 | exact bk_2 | exact bk_3 | exact bk_4 | exact bk_5 | exact bk_6 | exact bk_7 | exact bk_8 | exact bk_9 | exact bk_10 | exact bk_11 | exact bk_12 | exact bk_13 | exact bk_14 | exact bk_15 | exact bk_16 | exact cr_5 | exact cr_23 | exact cr_24 | exact cr_25 | exact cr_26 | exact cr_27 | exact cr_28 | exact cr_29 | exact cr_30 | assumption)) rfl rfl rfl (Nat.le_of_ble_eq_true rfl) ?_
          refine zr_if_eq (tgt := 39) dX7_ifClaimed_27 (by decide) (rfl : 27 + 3 = 30) (by first | exact jb_iff | exact jI_z (by first | omega | (simp only [bset, reduceIte, Nat.reduceEqDiff]; omega)) (by first | omega | (simp only [bset, reduceIte, Nat.reduceEqDiff]; omega))) (fun h27 => ?_) (fun h27 => ?_)
          · first
            | (exfalso; omega)
            | (
              exfalso
              omega)
          · first
            | (exfalso; omega)
            | (
              refine zr_aload_n dX7_ifClaimed_30 (rfl : 30 + 1 = 31) rfl ?_
              refine zr_iload_n dX7_ifClaimed_31 (rfl : 31 + 1 = 32) rfl ?_
              refine zr_iload_n dX7_ifClaimed_32 (rfl : 32 + 1 = 33) rfl ?_
              refine zr_fnV dX7_ifClaimed_33 (rfl : 33 + 3 = 36) l_X7_168 (m_claimed c g hp.1 hp.2 h ok lk) (by first | assumption | exact mw_167 | exact mw_168 | exact mw_169 | exact mw_170 | exact bk_0 | exact bk_1 | exact bk_2 | exact bk_3 | exact bk_4 | exact bk_5 | exact bk_6 | exact bk_7 | exact bk_8 | exact bk_9 | exact bk_10 | exact bk_11 | exact bk_12 | exact bk_13 | exact bk_14 | exact bk_15 | exact bk_16 | exact zup_self | exact (zup_ne (by first | assumption | omega)).trans (by first | assumption | exact zup_self) | exact (zup_ne (by first | assumption | omega)).trans ((zup_ne (by first | assumption | omega)).trans (by first | assumption | exact zup_self)) | exact (bk_out (by first | omega | (simp only [bset, reduceIte, Nat.reduceEqDiff]; omega))).trans (by first | exact bk_0 | exact bk_1 | exact bk_2 | exact bk_3 | exact bk_4 | exact bk_5 | exact bk_6 | exact bk_7 | exact bk_8 | exact bk_9 | exact bk_10 | exact bk_11 | exact bk_12 | exact bk_13 | exact bk_14 | exact bk_15 | exact bk_16 | exact cr_5 | exact cr_23 | exact cr_24 | exact cr_25 | exact cr_26 | exact cr_27 | exact cr_28 | exact cr_29 | exact cr_30 | assumption)) rfl rfl rfl (Nat.le_of_ble_eq_true rfl) ?_
              refine zr_goto (tgt := 40) dX7_ifClaimed_36 (by decide) ?_
              refine zr_ireE dX7_ifClaimed_40 rfl rfl ?_
              exact ⟨rfl, S, ik, hR, rfl⟩)))
theorem p_missing1 (c g k : Int) (hc : j32 c) (hg : j32 g) (hk : j32 k) (hp : ¬ ((0 ≤ c ∧ c < 6) ∧ 0 ≤ g ∧ g < 4))  (hR : zRel B σ S ik) : zFe Γ md_X7_missing (d + 8) [.ref 167, .int (jI c), .int (jI g), .int (jI k)] (mw S σ.sc ik th σ.T σ.L w) (zMQ (some (.int (jI 0))) 1 (B) (σ) w) := by
  obtain ⟨ok, lk, pk, ck, lx, h, hsv, hkp⟩ := hR
  have hR : zRel B σ S ik := ⟨ok, lk, pk, ck, lx, h, hsv, hkp⟩
  refine zFe.of_run (lv := [some (.ref 167), some (.int (jI c)), some (.int (jI g)), some (.int (jI k))]) (by decide) rfl (Nat.le_of_ble_eq_true rfl) rfl (fun n9 g9 => ?_)
  refine zr_aload_n dX7_missing_0 (rfl : 0 + 1 = 1) rfl ?_
  refine zr_iload_n dX7_missing_1 (rfl : 1 + 1 = 2) rfl ?_
  refine zr_fnS dX7_missing_2 (rfl : 2 + 3 = 5) l_X7_50 (m_isCard c hc) rfl rfl (Nat.le_of_ble_eq_true rfl) ?_
  refine zr_if_eq (tgt := 21) dX7_missing_5 (by decide) (rfl : 5 + 3 = 8) (by first | exact jb_iff | exact jI_z (by first | omega | (simp only [bset, reduceIte, Nat.reduceEqDiff]; omega)) (by first | omega | (simp only [bset, reduceIte, Nat.reduceEqDiff]; omega))) (fun h5 => ?_) (fun h5 => ?_)
  · first
    | (exfalso; omega)
    | (
      refine zr_iconst dX7_missing_21 (rfl : 21 + 1 = 22) ?_
      refine zr_iload_n dX7_missing_22 (rfl : 22 + 1 = 23) rfl ?_
      refine zr_iconst dX7_missing_23 (rfl : 23 + 1 = 24) ?_
      refine zr_iconst dX7_missing_24 (rfl : 24 + 1 = 25) ?_
      refine zr_fnS dX7_missing_25 (rfl : 25 + 3 = 28) l_X7_32 (m_in k 0 1 hk (by first | omega | (simp only [bset, reduceIte, Nat.reduceEqDiff]; omega)) (by first | omega | (simp only [bset, reduceIte, Nat.reduceEqDiff]; omega))) rfl rfl (Nat.le_of_ble_eq_true rfl) ?_
      refine zr_iconst dX7_missing_28 (rfl : 28 + 1 = 29) ?_
      refine zr_fnV dX7_missing_29 (rfl : 29 + 3 = 32) l_X7_60 (m_go1 _ _) (by first | assumption | exact mw_167 | exact mw_168 | exact mw_169 | exact mw_170 | exact bk_0 | exact bk_1 | exact bk_2 | exact bk_3 | exact bk_4 | exact bk_5 | exact bk_6 | exact bk_7 | exact bk_8 | exact bk_9 | exact bk_10 | exact bk_11 | exact bk_12 | exact bk_13 | exact bk_14 | exact bk_15 | exact bk_16 | exact zup_self | exact (zup_ne (by first | assumption | omega)).trans (by first | assumption | exact zup_self) | exact (zup_ne (by first | assumption | omega)).trans ((zup_ne (by first | assumption | omega)).trans (by first | assumption | exact zup_self)) | exact (bk_out (by first | omega | (simp only [bset, reduceIte, Nat.reduceEqDiff]; omega))).trans (by first | exact bk_0 | exact bk_1 | exact bk_2 | exact bk_3 | exact bk_4 | exact bk_5 | exact bk_6 | exact bk_7 | exact bk_8 | exact bk_9 | exact bk_10 | exact bk_11 | exact bk_12 | exact bk_13 | exact bk_14 | exact bk_15 | exact bk_16 | exact cr_5 | exact cr_23 | exact cr_24 | exact cr_25 | exact cr_26 | exact cr_27 | exact cr_28 | exact cr_29 | exact cr_30 | assumption)) rfl rfl rfl (Nat.le_of_ble_eq_true rfl) ?_
      refine zr_if_eq (tgt := 45) dX7_missing_32 (by decide) (rfl : 32 + 3 = 35) (by first | exact jb_iff | exact jI_z (by first | omega | (simp only [bset, reduceIte, Nat.reduceEqDiff]; omega)) (by first | omega | (simp only [bset, reduceIte, Nat.reduceEqDiff]; omega))) (fun h32 => ?_) (fun h32 => ?_)
      · first
        | (exfalso; omega)
        | (
          refine zr_iconst dX7_missing_45 (rfl : 45 + 1 = 46) ?_
          refine zr_ireE dX7_missing_46 rfl rfl ?_
          exact ⟨rfl, S, ik, hR, rfl⟩)
      · first
        | (exfalso; omega)
        | (
          exfalso
          omega))
  · first
    | (exfalso; omega)
    | (
      refine zr_iload_n dX7_missing_8 (rfl : 8 + 1 = 9) rfl ?_
      refine zr_iconst dX7_missing_9 (rfl : 9 + 1 = 10) ?_
      refine zr_iconst dX7_missing_10 (rfl : 10 + 1 = 11) ?_
      refine zr_fnS dX7_missing_11 (rfl : 11 + 3 = 14) l_X7_32 (m_in g 0 3 hg (by first | omega | (simp only [bset, reduceIte, Nat.reduceEqDiff]; omega)) (by first | omega | (simp only [bset, reduceIte, Nat.reduceEqDiff]; omega))) rfl rfl (Nat.le_of_ble_eq_true rfl) ?_
      refine zr_if_eq (tgt := 21) dX7_missing_14 (by decide) (rfl : 14 + 3 = 17) (by first | exact jb_iff | exact jI_z (by first | omega | (simp only [bset, reduceIte, Nat.reduceEqDiff]; omega)) (by first | omega | (simp only [bset, reduceIte, Nat.reduceEqDiff]; omega))) (fun h14 => ?_) (fun h14 => ?_)
      · first
        | (exfalso; omega)
        | (
          refine zr_iconst dX7_missing_21 (rfl : 21 + 1 = 22) ?_
          refine zr_iload_n dX7_missing_22 (rfl : 22 + 1 = 23) rfl ?_
          refine zr_iconst dX7_missing_23 (rfl : 23 + 1 = 24) ?_
          refine zr_iconst dX7_missing_24 (rfl : 24 + 1 = 25) ?_
          refine zr_fnS dX7_missing_25 (rfl : 25 + 3 = 28) l_X7_32 (m_in k 0 1 hk (by first | omega | (simp only [bset, reduceIte, Nat.reduceEqDiff]; omega)) (by first | omega | (simp only [bset, reduceIte, Nat.reduceEqDiff]; omega))) rfl rfl (Nat.le_of_ble_eq_true rfl) ?_
          refine zr_iconst dX7_missing_28 (rfl : 28 + 1 = 29) ?_
          refine zr_fnV dX7_missing_29 (rfl : 29 + 3 = 32) l_X7_60 (m_go1 _ _) (by first | assumption | exact mw_167 | exact mw_168 | exact mw_169 | exact mw_170 | exact bk_0 | exact bk_1 | exact bk_2 | exact bk_3 | exact bk_4 | exact bk_5 | exact bk_6 | exact bk_7 | exact bk_8 | exact bk_9 | exact bk_10 | exact bk_11 | exact bk_12 | exact bk_13 | exact bk_14 | exact bk_15 | exact bk_16 | exact zup_self | exact (zup_ne (by first | assumption | omega)).trans (by first | assumption | exact zup_self) | exact (zup_ne (by first | assumption | omega)).trans ((zup_ne (by first | assumption | omega)).trans (by first | assumption | exact zup_self)) | exact (bk_out (by first | omega | (simp only [bset, reduceIte, Nat.reduceEqDiff]; omega))).trans (by first | exact bk_0 | exact bk_1 | exact bk_2 | exact bk_3 | exact bk_4 | exact bk_5 | exact bk_6 | exact bk_7 | exact bk_8 | exact bk_9 | exact bk_10 | exact bk_11 | exact bk_12 | exact bk_13 | exact bk_14 | exact bk_15 | exact bk_16 | exact cr_5 | exact cr_23 | exact cr_24 | exact cr_25 | exact cr_26 | exact cr_27 | exact cr_28 | exact cr_29 | exact cr_30 | assumption)) rfl rfl rfl (Nat.le_of_ble_eq_true rfl) ?_
          refine zr_if_eq (tgt := 45) dX7_missing_32 (by decide) (rfl : 32 + 3 = 35) (by first | exact jb_iff | exact jI_z (by first | omega | (simp only [bset, reduceIte, Nat.reduceEqDiff]; omega)) (by first | omega | (simp only [bset, reduceIte, Nat.reduceEqDiff]; omega))) (fun h32 => ?_) (fun h32 => ?_)
          · first
            | (exfalso; omega)
            | (
              refine zr_iconst dX7_missing_45 (rfl : 45 + 1 = 46) ?_
              refine zr_ireE dX7_missing_46 rfl rfl ?_
              exact ⟨rfl, S, ik, hR, rfl⟩)
          · first
            | (exfalso; omega)
            | (
              exfalso
              omega))
      · first
        | (exfalso; omega)
        | (
          refine zr_iconst dX7_missing_17 (rfl : 17 + 1 = 18) ?_
          refine zr_goto (tgt := 22) dX7_missing_18 (by decide) ?_
          refine zr_iload_n dX7_missing_22 (rfl : 22 + 1 = 23) rfl ?_
          refine zr_iconst dX7_missing_23 (rfl : 23 + 1 = 24) ?_
          refine zr_iconst dX7_missing_24 (rfl : 24 + 1 = 25) ?_
          refine zr_fnS dX7_missing_25 (rfl : 25 + 3 = 28) l_X7_32 (m_in k 0 1 hk (by first | omega | (simp only [bset, reduceIte, Nat.reduceEqDiff]; omega)) (by first | omega | (simp only [bset, reduceIte, Nat.reduceEqDiff]; omega))) rfl rfl (Nat.le_of_ble_eq_true rfl) ?_
          refine zr_iconst dX7_missing_28 (rfl : 28 + 1 = 29) ?_
          refine zr_fnV dX7_missing_29 (rfl : 29 + 3 = 32) l_X7_60 (m_go1 _ _) (by first | assumption | exact mw_167 | exact mw_168 | exact mw_169 | exact mw_170 | exact bk_0 | exact bk_1 | exact bk_2 | exact bk_3 | exact bk_4 | exact bk_5 | exact bk_6 | exact bk_7 | exact bk_8 | exact bk_9 | exact bk_10 | exact bk_11 | exact bk_12 | exact bk_13 | exact bk_14 | exact bk_15 | exact bk_16 | exact zup_self | exact (zup_ne (by first | assumption | omega)).trans (by first | assumption | exact zup_self) | exact (zup_ne (by first | assumption | omega)).trans ((zup_ne (by first | assumption | omega)).trans (by first | assumption | exact zup_self)) | exact (bk_out (by first | omega | (simp only [bset, reduceIte, Nat.reduceEqDiff]; omega))).trans (by first | exact bk_0 | exact bk_1 | exact bk_2 | exact bk_3 | exact bk_4 | exact bk_5 | exact bk_6 | exact bk_7 | exact bk_8 | exact bk_9 | exact bk_10 | exact bk_11 | exact bk_12 | exact bk_13 | exact bk_14 | exact bk_15 | exact bk_16 | exact cr_5 | exact cr_23 | exact cr_24 | exact cr_25 | exact cr_26 | exact cr_27 | exact cr_28 | exact cr_29 | exact cr_30 | assumption)) rfl rfl rfl (Nat.le_of_ble_eq_true rfl) ?_
          refine zr_if_eq (tgt := 45) dX7_missing_32 (by decide) (rfl : 32 + 3 = 35) (by first | exact jb_iff | exact jI_z (by first | omega | (simp only [bset, reduceIte, Nat.reduceEqDiff]; omega)) (by first | omega | (simp only [bset, reduceIte, Nat.reduceEqDiff]; omega))) (fun h32 => ?_) (fun h32 => ?_)
          · first
            | (exfalso; omega)
            | (
              refine zr_iconst dX7_missing_45 (rfl : 45 + 1 = 46) ?_
              refine zr_ireE dX7_missing_46 rfl rfl ?_
              exact ⟨rfl, S, ik, hR, rfl⟩)
          · first
            | (exfalso; omega)
            | (
              exfalso
              omega)))
theorem p_missing2 (c g k : Int) (hc : j32 c) (hg : j32 g) (hk : j32 k) (hp : (0 ≤ c ∧ c < 6) ∧ 0 ≤ g ∧ g < 4) (h2 : ¬ (0 ≤ k ∧ k < 2))  (hR : zRel B σ S ik) : zFe Γ md_X7_missing (d + 8) [.ref 167, .int (jI c), .int (jI g), .int (jI k)] (mw S σ.sc ik th σ.T σ.L w) (zMQ (some (.int (jI 0))) 2 (B) (σ) w) := by
  obtain ⟨ok, lk, pk, ck, lx, h, hsv, hkp⟩ := hR
  have hR : zRel B σ S ik := ⟨ok, lk, pk, ck, lx, h, hsv, hkp⟩
  refine zFe.of_run (lv := [some (.ref 167), some (.int (jI c)), some (.int (jI g)), some (.int (jI k))]) (by decide) rfl (Nat.le_of_ble_eq_true rfl) rfl (fun n9 g9 => ?_)
  refine zr_aload_n dX7_missing_0 (rfl : 0 + 1 = 1) rfl ?_
  refine zr_iload_n dX7_missing_1 (rfl : 1 + 1 = 2) rfl ?_
  refine zr_fnS dX7_missing_2 (rfl : 2 + 3 = 5) l_X7_50 (m_isCard c hc) rfl rfl (Nat.le_of_ble_eq_true rfl) ?_
  refine zr_if_eq (tgt := 21) dX7_missing_5 (by decide) (rfl : 5 + 3 = 8) (by first | exact jb_iff | exact jI_z (by first | omega | (simp only [bset, reduceIte, Nat.reduceEqDiff]; omega)) (by first | omega | (simp only [bset, reduceIte, Nat.reduceEqDiff]; omega))) (fun h5 => ?_) (fun h5 => ?_)
  · first
    | (exfalso; omega)
    | (
      refine zr_iconst dX7_missing_21 (rfl : 21 + 1 = 22) ?_
      refine zr_iload_n dX7_missing_22 (rfl : 22 + 1 = 23) rfl ?_
      refine zr_iconst dX7_missing_23 (rfl : 23 + 1 = 24) ?_
      refine zr_iconst dX7_missing_24 (rfl : 24 + 1 = 25) ?_
      refine zr_fnS dX7_missing_25 (rfl : 25 + 3 = 28) l_X7_32 (m_in k 0 1 hk (by first | omega | (simp only [bset, reduceIte, Nat.reduceEqDiff]; omega)) (by first | omega | (simp only [bset, reduceIte, Nat.reduceEqDiff]; omega))) rfl rfl (Nat.le_of_ble_eq_true rfl) ?_
      rw [jb_neg (by omega)]
      refine zr_iconst dX7_missing_28 (rfl : 28 + 1 = 29) ?_
      refine zr_fnV dX7_missing_29 (rfl : 29 + 3 = 32) l_X7_60 (m_go2 _) (by first | assumption | exact mw_167 | exact mw_168 | exact mw_169 | exact mw_170 | exact bk_0 | exact bk_1 | exact bk_2 | exact bk_3 | exact bk_4 | exact bk_5 | exact bk_6 | exact bk_7 | exact bk_8 | exact bk_9 | exact bk_10 | exact bk_11 | exact bk_12 | exact bk_13 | exact bk_14 | exact bk_15 | exact bk_16 | exact zup_self | exact (zup_ne (by first | assumption | omega)).trans (by first | assumption | exact zup_self) | exact (zup_ne (by first | assumption | omega)).trans ((zup_ne (by first | assumption | omega)).trans (by first | assumption | exact zup_self)) | exact (bk_out (by first | omega | (simp only [bset, reduceIte, Nat.reduceEqDiff]; omega))).trans (by first | exact bk_0 | exact bk_1 | exact bk_2 | exact bk_3 | exact bk_4 | exact bk_5 | exact bk_6 | exact bk_7 | exact bk_8 | exact bk_9 | exact bk_10 | exact bk_11 | exact bk_12 | exact bk_13 | exact bk_14 | exact bk_15 | exact bk_16 | exact cr_5 | exact cr_23 | exact cr_24 | exact cr_25 | exact cr_26 | exact cr_27 | exact cr_28 | exact cr_29 | exact cr_30 | assumption)) rfl rfl rfl (Nat.le_of_ble_eq_true rfl) ?_
      refine zr_if_eq (tgt := 45) dX7_missing_32 (by decide) (rfl : 32 + 3 = 35) (by first | exact jb_iff | exact jI_z (by first | omega | (simp only [bset, reduceIte, Nat.reduceEqDiff]; omega)) (by first | omega | (simp only [bset, reduceIte, Nat.reduceEqDiff]; omega))) (fun h32 => ?_) (fun h32 => ?_)
      · first
        | (exfalso; omega)
        | (
          refine zr_iconst dX7_missing_45 (rfl : 45 + 1 = 46) ?_
          refine zr_ireE dX7_missing_46 rfl rfl ?_
          exact ⟨rfl, S, ik, hR, rfl⟩)
      · first
        | (exfalso; omega)
        | (
          exfalso
          omega))
  · first
    | (exfalso; omega)
    | (
      refine zr_iload_n dX7_missing_8 (rfl : 8 + 1 = 9) rfl ?_
      refine zr_iconst dX7_missing_9 (rfl : 9 + 1 = 10) ?_
      refine zr_iconst dX7_missing_10 (rfl : 10 + 1 = 11) ?_
      refine zr_fnS dX7_missing_11 (rfl : 11 + 3 = 14) l_X7_32 (m_in g 0 3 hg (by first | omega | (simp only [bset, reduceIte, Nat.reduceEqDiff]; omega)) (by first | omega | (simp only [bset, reduceIte, Nat.reduceEqDiff]; omega))) rfl rfl (Nat.le_of_ble_eq_true rfl) ?_
      refine zr_if_eq (tgt := 21) dX7_missing_14 (by decide) (rfl : 14 + 3 = 17) (by first | exact jb_iff | exact jI_z (by first | omega | (simp only [bset, reduceIte, Nat.reduceEqDiff]; omega)) (by first | omega | (simp only [bset, reduceIte, Nat.reduceEqDiff]; omega))) (fun h14 => ?_) (fun h14 => ?_)
      · first
        | (exfalso; omega)
        | (
          refine zr_iconst dX7_missing_21 (rfl : 21 + 1 = 22) ?_
          refine zr_iload_n dX7_missing_22 (rfl : 22 + 1 = 23) rfl ?_
          refine zr_iconst dX7_missing_23 (rfl : 23 + 1 = 24) ?_
          refine zr_iconst dX7_missing_24 (rfl : 24 + 1 = 25) ?_
          refine zr_fnS dX7_missing_25 (rfl : 25 + 3 = 28) l_X7_32 (m_in k 0 1 hk (by first | omega | (simp only [bset, reduceIte, Nat.reduceEqDiff]; omega)) (by first | omega | (simp only [bset, reduceIte, Nat.reduceEqDiff]; omega))) rfl rfl (Nat.le_of_ble_eq_true rfl) ?_
          rw [jb_neg (by omega)]
          refine zr_iconst dX7_missing_28 (rfl : 28 + 1 = 29) ?_
          refine zr_fnV dX7_missing_29 (rfl : 29 + 3 = 32) l_X7_60 (m_go2 _) (by first | assumption | exact mw_167 | exact mw_168 | exact mw_169 | exact mw_170 | exact bk_0 | exact bk_1 | exact bk_2 | exact bk_3 | exact bk_4 | exact bk_5 | exact bk_6 | exact bk_7 | exact bk_8 | exact bk_9 | exact bk_10 | exact bk_11 | exact bk_12 | exact bk_13 | exact bk_14 | exact bk_15 | exact bk_16 | exact zup_self | exact (zup_ne (by first | assumption | omega)).trans (by first | assumption | exact zup_self) | exact (zup_ne (by first | assumption | omega)).trans ((zup_ne (by first | assumption | omega)).trans (by first | assumption | exact zup_self)) | exact (bk_out (by first | omega | (simp only [bset, reduceIte, Nat.reduceEqDiff]; omega))).trans (by first | exact bk_0 | exact bk_1 | exact bk_2 | exact bk_3 | exact bk_4 | exact bk_5 | exact bk_6 | exact bk_7 | exact bk_8 | exact bk_9 | exact bk_10 | exact bk_11 | exact bk_12 | exact bk_13 | exact bk_14 | exact bk_15 | exact bk_16 | exact cr_5 | exact cr_23 | exact cr_24 | exact cr_25 | exact cr_26 | exact cr_27 | exact cr_28 | exact cr_29 | exact cr_30 | assumption)) rfl rfl rfl (Nat.le_of_ble_eq_true rfl) ?_
          refine zr_if_eq (tgt := 45) dX7_missing_32 (by decide) (rfl : 32 + 3 = 35) (by first | exact jb_iff | exact jI_z (by first | omega | (simp only [bset, reduceIte, Nat.reduceEqDiff]; omega)) (by first | omega | (simp only [bset, reduceIte, Nat.reduceEqDiff]; omega))) (fun h32 => ?_) (fun h32 => ?_)
          · first
            | (exfalso; omega)
            | (
              refine zr_iconst dX7_missing_45 (rfl : 45 + 1 = 46) ?_
              refine zr_ireE dX7_missing_46 rfl rfl ?_
              exact ⟨rfl, S, ik, hR, rfl⟩)
          · first
            | (exfalso; omega)
            | (
              exfalso
              omega))
      · first
        | (exfalso; omega)
        | (
          refine zr_iconst dX7_missing_17 (rfl : 17 + 1 = 18) ?_
          refine zr_goto (tgt := 22) dX7_missing_18 (by decide) ?_
          refine zr_iload_n dX7_missing_22 (rfl : 22 + 1 = 23) rfl ?_
          refine zr_iconst dX7_missing_23 (rfl : 23 + 1 = 24) ?_
          refine zr_iconst dX7_missing_24 (rfl : 24 + 1 = 25) ?_
          refine zr_fnS dX7_missing_25 (rfl : 25 + 3 = 28) l_X7_32 (m_in k 0 1 hk (by first | omega | (simp only [bset, reduceIte, Nat.reduceEqDiff]; omega)) (by first | omega | (simp only [bset, reduceIte, Nat.reduceEqDiff]; omega))) rfl rfl (Nat.le_of_ble_eq_true rfl) ?_
          rw [jb_neg (by omega)]
          refine zr_iconst dX7_missing_28 (rfl : 28 + 1 = 29) ?_
          refine zr_fnV dX7_missing_29 (rfl : 29 + 3 = 32) l_X7_60 (m_go2 _) (by first | assumption | exact mw_167 | exact mw_168 | exact mw_169 | exact mw_170 | exact bk_0 | exact bk_1 | exact bk_2 | exact bk_3 | exact bk_4 | exact bk_5 | exact bk_6 | exact bk_7 | exact bk_8 | exact bk_9 | exact bk_10 | exact bk_11 | exact bk_12 | exact bk_13 | exact bk_14 | exact bk_15 | exact bk_16 | exact zup_self | exact (zup_ne (by first | assumption | omega)).trans (by first | assumption | exact zup_self) | exact (zup_ne (by first | assumption | omega)).trans ((zup_ne (by first | assumption | omega)).trans (by first | assumption | exact zup_self)) | exact (bk_out (by first | omega | (simp only [bset, reduceIte, Nat.reduceEqDiff]; omega))).trans (by first | exact bk_0 | exact bk_1 | exact bk_2 | exact bk_3 | exact bk_4 | exact bk_5 | exact bk_6 | exact bk_7 | exact bk_8 | exact bk_9 | exact bk_10 | exact bk_11 | exact bk_12 | exact bk_13 | exact bk_14 | exact bk_15 | exact bk_16 | exact cr_5 | exact cr_23 | exact cr_24 | exact cr_25 | exact cr_26 | exact cr_27 | exact cr_28 | exact cr_29 | exact cr_30 | assumption)) rfl rfl rfl (Nat.le_of_ble_eq_true rfl) ?_
          refine zr_if_eq (tgt := 45) dX7_missing_32 (by decide) (rfl : 32 + 3 = 35) (by first | exact jb_iff | exact jI_z (by first | omega | (simp only [bset, reduceIte, Nat.reduceEqDiff]; omega)) (by first | omega | (simp only [bset, reduceIte, Nat.reduceEqDiff]; omega))) (fun h32 => ?_) (fun h32 => ?_)
          · first
            | (exfalso; omega)
            | (
              refine zr_iconst dX7_missing_45 (rfl : 45 + 1 = 46) ?_
              refine zr_ireE dX7_missing_46 rfl rfl ?_
              exact ⟨rfl, S, ik, hR, rfl⟩)
          · first
            | (exfalso; omega)
            | (
              exfalso
              omega)))
theorem p_missing (c g k : Int) (hc : j32 c) (hg : j32 g) (hk : j32 k) (hp : (0 ≤ c ∧ c < 6) ∧ 0 ≤ g ∧ g < 4) (h2 : 0 ≤ k ∧ k < 2)  (hR : zRel B σ S ik) : zFe Γ md_X7_missing (d + 8) [.ref 167, .int (jI c), .int (jI g), .int (jI k)] (mw S σ.sc ik th σ.T σ.L w) (zMQ (some (.int (jI (jms B c g k)))) 0 (B) (σ) w) := by
  obtain ⟨ok, lk, pk, ck, lx, h, hsv, hkp⟩ := hR
  have hR : zRel B σ S ik := ⟨ok, lk, pk, ck, lx, h, hsv, hkp⟩
  refine zFe.of_run (lv := [some (.ref 167), some (.int (jI c)), some (.int (jI g)), some (.int (jI k))]) (by decide) rfl (Nat.le_of_ble_eq_true rfl) rfl (fun n9 g9 => ?_)
  refine zr_aload_n dX7_missing_0 (rfl : 0 + 1 = 1) rfl ?_
  refine zr_iload_n dX7_missing_1 (rfl : 1 + 1 = 2) rfl ?_
  refine zr_fnS dX7_missing_2 (rfl : 2 + 3 = 5) l_X7_50 (m_isCard c hc) rfl rfl (Nat.le_of_ble_eq_true rfl) ?_
  refine zr_if_eq (tgt := 21) dX7_missing_5 (by decide) (rfl : 5 + 3 = 8) (by first | exact jb_iff | exact jI_z (by first | omega | (simp only [bset, reduceIte, Nat.reduceEqDiff]; omega)) (by first | omega | (simp only [bset, reduceIte, Nat.reduceEqDiff]; omega))) (fun h5 => ?_) (fun h5 => ?_)
  · first
    | (exfalso; omega)
    | (
      refine zr_iconst dX7_missing_21 (rfl : 21 + 1 = 22) ?_
      refine zr_iload_n dX7_missing_22 (rfl : 22 + 1 = 23) rfl ?_
      refine zr_iconst dX7_missing_23 (rfl : 23 + 1 = 24) ?_
      refine zr_iconst dX7_missing_24 (rfl : 24 + 1 = 25) ?_
      refine zr_fnS dX7_missing_25 (rfl : 25 + 3 = 28) l_X7_32 (m_in k 0 1 hk (by first | omega | (simp only [bset, reduceIte, Nat.reduceEqDiff]; omega)) (by first | omega | (simp only [bset, reduceIte, Nat.reduceEqDiff]; omega))) rfl rfl (Nat.le_of_ble_eq_true rfl) ?_
      rw [jb_pos (by omega)]
      refine zr_iconst dX7_missing_28 (rfl : 28 + 1 = 29) ?_
      refine zr_fnV dX7_missing_29 (rfl : 29 + 3 = 32) l_X7_60 (m_go) (by first | assumption | exact mw_167 | exact mw_168 | exact mw_169 | exact mw_170 | exact bk_0 | exact bk_1 | exact bk_2 | exact bk_3 | exact bk_4 | exact bk_5 | exact bk_6 | exact bk_7 | exact bk_8 | exact bk_9 | exact bk_10 | exact bk_11 | exact bk_12 | exact bk_13 | exact bk_14 | exact bk_15 | exact bk_16 | exact zup_self | exact (zup_ne (by first | assumption | omega)).trans (by first | assumption | exact zup_self) | exact (zup_ne (by first | assumption | omega)).trans ((zup_ne (by first | assumption | omega)).trans (by first | assumption | exact zup_self)) | exact (bk_out (by first | omega | (simp only [bset, reduceIte, Nat.reduceEqDiff]; omega))).trans (by first | exact bk_0 | exact bk_1 | exact bk_2 | exact bk_3 | exact bk_4 | exact bk_5 | exact bk_6 | exact bk_7 | exact bk_8 | exact bk_9 | exact bk_10 | exact bk_11 | exact bk_12 | exact bk_13 | exact bk_14 | exact bk_15 | exact bk_16 | exact cr_5 | exact cr_23 | exact cr_24 | exact cr_25 | exact cr_26 | exact cr_27 | exact cr_28 | exact cr_29 | exact cr_30 | assumption)) rfl rfl rfl (Nat.le_of_ble_eq_true rfl) ?_
      refine zr_if_eq (tgt := 45) dX7_missing_32 (by decide) (rfl : 32 + 3 = 35) (by first | exact jb_iff | exact jI_z (by first | omega | (simp only [bset, reduceIte, Nat.reduceEqDiff]; omega)) (by first | omega | (simp only [bset, reduceIte, Nat.reduceEqDiff]; omega))) (fun h32 => ?_) (fun h32 => ?_)
      · first
        | (exfalso; omega)
        | (
          exfalso
          omega)
      · first
        | (exfalso; omega)
        | (
          refine zr_aload_n dX7_missing_35 (rfl : 35 + 1 = 36) rfl ?_
          refine zr_iload_n dX7_missing_36 (rfl : 36 + 1 = 37) rfl ?_
          refine zr_iload_n dX7_missing_37 (rfl : 37 + 1 = 38) rfl ?_
          refine zr_iload_n dX7_missing_38 (rfl : 38 + 1 = 39) rfl ?_
          refine zr_fnV dX7_missing_39 (rfl : 39 + 3 = 42) l_X7_175 (m_misses c g k hp.1 hp.2 h2 h ok lk) (by first | assumption | exact mw_167 | exact mw_168 | exact mw_169 | exact mw_170 | exact bk_0 | exact bk_1 | exact bk_2 | exact bk_3 | exact bk_4 | exact bk_5 | exact bk_6 | exact bk_7 | exact bk_8 | exact bk_9 | exact bk_10 | exact bk_11 | exact bk_12 | exact bk_13 | exact bk_14 | exact bk_15 | exact bk_16 | exact zup_self | exact (zup_ne (by first | assumption | omega)).trans (by first | assumption | exact zup_self) | exact (zup_ne (by first | assumption | omega)).trans ((zup_ne (by first | assumption | omega)).trans (by first | assumption | exact zup_self)) | exact (bk_out (by first | omega | (simp only [bset, reduceIte, Nat.reduceEqDiff]; omega))).trans (by first | exact bk_0 | exact bk_1 | exact bk_2 | exact bk_3 | exact bk_4 | exact bk_5 | exact bk_6 | exact bk_7 | exact bk_8 | exact bk_9 | exact bk_10 | exact bk_11 | exact bk_12 | exact bk_13 | exact bk_14 | exact bk_15 | exact bk_16 | exact cr_5 | exact cr_23 | exact cr_24 | exact cr_25 | exact cr_26 | exact cr_27 | exact cr_28 | exact cr_29 | exact cr_30 | assumption)) rfl rfl rfl (Nat.le_of_ble_eq_true rfl) ?_
          refine zr_goto (tgt := 46) dX7_missing_42 (by decide) ?_
          refine zr_ireE dX7_missing_46 rfl rfl ?_
          exact ⟨rfl, S, ik, hR, rfl⟩))
  · first
    | (exfalso; omega)
    | (
      refine zr_iload_n dX7_missing_8 (rfl : 8 + 1 = 9) rfl ?_
      refine zr_iconst dX7_missing_9 (rfl : 9 + 1 = 10) ?_
      refine zr_iconst dX7_missing_10 (rfl : 10 + 1 = 11) ?_
      refine zr_fnS dX7_missing_11 (rfl : 11 + 3 = 14) l_X7_32 (m_in g 0 3 hg (by first | omega | (simp only [bset, reduceIte, Nat.reduceEqDiff]; omega)) (by first | omega | (simp only [bset, reduceIte, Nat.reduceEqDiff]; omega))) rfl rfl (Nat.le_of_ble_eq_true rfl) ?_
      refine zr_if_eq (tgt := 21) dX7_missing_14 (by decide) (rfl : 14 + 3 = 17) (by first | exact jb_iff | exact jI_z (by first | omega | (simp only [bset, reduceIte, Nat.reduceEqDiff]; omega)) (by first | omega | (simp only [bset, reduceIte, Nat.reduceEqDiff]; omega))) (fun h14 => ?_) (fun h14 => ?_)
      · first
        | (exfalso; omega)
        | (
          refine zr_iconst dX7_missing_21 (rfl : 21 + 1 = 22) ?_
          refine zr_iload_n dX7_missing_22 (rfl : 22 + 1 = 23) rfl ?_
          refine zr_iconst dX7_missing_23 (rfl : 23 + 1 = 24) ?_
          refine zr_iconst dX7_missing_24 (rfl : 24 + 1 = 25) ?_
          refine zr_fnS dX7_missing_25 (rfl : 25 + 3 = 28) l_X7_32 (m_in k 0 1 hk (by first | omega | (simp only [bset, reduceIte, Nat.reduceEqDiff]; omega)) (by first | omega | (simp only [bset, reduceIte, Nat.reduceEqDiff]; omega))) rfl rfl (Nat.le_of_ble_eq_true rfl) ?_
          rw [jb_pos (by omega)]
          refine zr_iconst dX7_missing_28 (rfl : 28 + 1 = 29) ?_
          refine zr_fnV dX7_missing_29 (rfl : 29 + 3 = 32) l_X7_60 (m_go) (by first | assumption | exact mw_167 | exact mw_168 | exact mw_169 | exact mw_170 | exact bk_0 | exact bk_1 | exact bk_2 | exact bk_3 | exact bk_4 | exact bk_5 | exact bk_6 | exact bk_7 | exact bk_8 | exact bk_9 | exact bk_10 | exact bk_11 | exact bk_12 | exact bk_13 | exact bk_14 | exact bk_15 | exact bk_16 | exact zup_self | exact (zup_ne (by first | assumption | omega)).trans (by first | assumption | exact zup_self) | exact (zup_ne (by first | assumption | omega)).trans ((zup_ne (by first | assumption | omega)).trans (by first | assumption | exact zup_self)) | exact (bk_out (by first | omega | (simp only [bset, reduceIte, Nat.reduceEqDiff]; omega))).trans (by first | exact bk_0 | exact bk_1 | exact bk_2 | exact bk_3 | exact bk_4 | exact bk_5 | exact bk_6 | exact bk_7 | exact bk_8 | exact bk_9 | exact bk_10 | exact bk_11 | exact bk_12 | exact bk_13 | exact bk_14 | exact bk_15 | exact bk_16 | exact cr_5 | exact cr_23 | exact cr_24 | exact cr_25 | exact cr_26 | exact cr_27 | exact cr_28 | exact cr_29 | exact cr_30 | assumption)) rfl rfl rfl (Nat.le_of_ble_eq_true rfl) ?_
          refine zr_if_eq (tgt := 45) dX7_missing_32 (by decide) (rfl : 32 + 3 = 35) (by first | exact jb_iff | exact jI_z (by first | omega | (simp only [bset, reduceIte, Nat.reduceEqDiff]; omega)) (by first | omega | (simp only [bset, reduceIte, Nat.reduceEqDiff]; omega))) (fun h32 => ?_) (fun h32 => ?_)
          · first
            | (exfalso; omega)
            | (
              exfalso
              omega)
          · first
            | (exfalso; omega)
            | (
              refine zr_aload_n dX7_missing_35 (rfl : 35 + 1 = 36) rfl ?_
              refine zr_iload_n dX7_missing_36 (rfl : 36 + 1 = 37) rfl ?_
              refine zr_iload_n dX7_missing_37 (rfl : 37 + 1 = 38) rfl ?_
              refine zr_iload_n dX7_missing_38 (rfl : 38 + 1 = 39) rfl ?_
              refine zr_fnV dX7_missing_39 (rfl : 39 + 3 = 42) l_X7_175 (m_misses c g k hp.1 hp.2 h2 h ok lk) (by first | assumption | exact mw_167 | exact mw_168 | exact mw_169 | exact mw_170 | exact bk_0 | exact bk_1 | exact bk_2 | exact bk_3 | exact bk_4 | exact bk_5 | exact bk_6 | exact bk_7 | exact bk_8 | exact bk_9 | exact bk_10 | exact bk_11 | exact bk_12 | exact bk_13 | exact bk_14 | exact bk_15 | exact bk_16 | exact zup_self | exact (zup_ne (by first | assumption | omega)).trans (by first | assumption | exact zup_self) | exact (zup_ne (by first | assumption | omega)).trans ((zup_ne (by first | assumption | omega)).trans (by first | assumption | exact zup_self)) | exact (bk_out (by first | omega | (simp only [bset, reduceIte, Nat.reduceEqDiff]; omega))).trans (by first | exact bk_0 | exact bk_1 | exact bk_2 | exact bk_3 | exact bk_4 | exact bk_5 | exact bk_6 | exact bk_7 | exact bk_8 | exact bk_9 | exact bk_10 | exact bk_11 | exact bk_12 | exact bk_13 | exact bk_14 | exact bk_15 | exact bk_16 | exact cr_5 | exact cr_23 | exact cr_24 | exact cr_25 | exact cr_26 | exact cr_27 | exact cr_28 | exact cr_29 | exact cr_30 | assumption)) rfl rfl rfl (Nat.le_of_ble_eq_true rfl) ?_
              refine zr_goto (tgt := 46) dX7_missing_42 (by decide) ?_
              refine zr_ireE dX7_missing_46 rfl rfl ?_
              exact ⟨rfl, S, ik, hR, rfl⟩))
      · first
        | (exfalso; omega)
        | (
          refine zr_iconst dX7_missing_17 (rfl : 17 + 1 = 18) ?_
          refine zr_goto (tgt := 22) dX7_missing_18 (by decide) ?_
          refine zr_iload_n dX7_missing_22 (rfl : 22 + 1 = 23) rfl ?_
          refine zr_iconst dX7_missing_23 (rfl : 23 + 1 = 24) ?_
          refine zr_iconst dX7_missing_24 (rfl : 24 + 1 = 25) ?_
          refine zr_fnS dX7_missing_25 (rfl : 25 + 3 = 28) l_X7_32 (m_in k 0 1 hk (by first | omega | (simp only [bset, reduceIte, Nat.reduceEqDiff]; omega)) (by first | omega | (simp only [bset, reduceIte, Nat.reduceEqDiff]; omega))) rfl rfl (Nat.le_of_ble_eq_true rfl) ?_
          rw [jb_pos (by omega)]
          refine zr_iconst dX7_missing_28 (rfl : 28 + 1 = 29) ?_
          refine zr_fnV dX7_missing_29 (rfl : 29 + 3 = 32) l_X7_60 (m_go) (by first | assumption | exact mw_167 | exact mw_168 | exact mw_169 | exact mw_170 | exact bk_0 | exact bk_1 | exact bk_2 | exact bk_3 | exact bk_4 | exact bk_5 | exact bk_6 | exact bk_7 | exact bk_8 | exact bk_9 | exact bk_10 | exact bk_11 | exact bk_12 | exact bk_13 | exact bk_14 | exact bk_15 | exact bk_16 | exact zup_self | exact (zup_ne (by first | assumption | omega)).trans (by first | assumption | exact zup_self) | exact (zup_ne (by first | assumption | omega)).trans ((zup_ne (by first | assumption | omega)).trans (by first | assumption | exact zup_self)) | exact (bk_out (by first | omega | (simp only [bset, reduceIte, Nat.reduceEqDiff]; omega))).trans (by first | exact bk_0 | exact bk_1 | exact bk_2 | exact bk_3 | exact bk_4 | exact bk_5 | exact bk_6 | exact bk_7 | exact bk_8 | exact bk_9 | exact bk_10 | exact bk_11 | exact bk_12 | exact bk_13 | exact bk_14 | exact bk_15 | exact bk_16 | exact cr_5 | exact cr_23 | exact cr_24 | exact cr_25 | exact cr_26 | exact cr_27 | exact cr_28 | exact cr_29 | exact cr_30 | assumption)) rfl rfl rfl (Nat.le_of_ble_eq_true rfl) ?_
          refine zr_if_eq (tgt := 45) dX7_missing_32 (by decide) (rfl : 32 + 3 = 35) (by first | exact jb_iff | exact jI_z (by first | omega | (simp only [bset, reduceIte, Nat.reduceEqDiff]; omega)) (by first | omega | (simp only [bset, reduceIte, Nat.reduceEqDiff]; omega))) (fun h32 => ?_) (fun h32 => ?_)
          · first
            | (exfalso; omega)
            | (
              exfalso
              omega)
          · first
            | (exfalso; omega)
            | (
              refine zr_aload_n dX7_missing_35 (rfl : 35 + 1 = 36) rfl ?_
              refine zr_iload_n dX7_missing_36 (rfl : 36 + 1 = 37) rfl ?_
              refine zr_iload_n dX7_missing_37 (rfl : 37 + 1 = 38) rfl ?_
              refine zr_iload_n dX7_missing_38 (rfl : 38 + 1 = 39) rfl ?_
              refine zr_fnV dX7_missing_39 (rfl : 39 + 3 = 42) l_X7_175 (m_misses c g k hp.1 hp.2 h2 h ok lk) (by first | assumption | exact mw_167 | exact mw_168 | exact mw_169 | exact mw_170 | exact bk_0 | exact bk_1 | exact bk_2 | exact bk_3 | exact bk_4 | exact bk_5 | exact bk_6 | exact bk_7 | exact bk_8 | exact bk_9 | exact bk_10 | exact bk_11 | exact bk_12 | exact bk_13 | exact bk_14 | exact bk_15 | exact bk_16 | exact zup_self | exact (zup_ne (by first | assumption | omega)).trans (by first | assumption | exact zup_self) | exact (zup_ne (by first | assumption | omega)).trans ((zup_ne (by first | assumption | omega)).trans (by first | assumption | exact zup_self)) | exact (bk_out (by first | omega | (simp only [bset, reduceIte, Nat.reduceEqDiff]; omega))).trans (by first | exact bk_0 | exact bk_1 | exact bk_2 | exact bk_3 | exact bk_4 | exact bk_5 | exact bk_6 | exact bk_7 | exact bk_8 | exact bk_9 | exact bk_10 | exact bk_11 | exact bk_12 | exact bk_13 | exact bk_14 | exact bk_15 | exact bk_16 | exact cr_5 | exact cr_23 | exact cr_24 | exact cr_25 | exact cr_26 | exact cr_27 | exact cr_28 | exact cr_29 | exact cr_30 | assumption)) rfl rfl rfl (Nat.le_of_ble_eq_true rfl) ?_
              refine zr_goto (tgt := 46) dX7_missing_42 (by decide) ?_
              refine zr_ireE dX7_missing_46 rfl rfl ?_
              exact ⟨rfl, S, ik, hR, rfl⟩)))
theorem p_fullAt1 (c k : Int) (hc : j32 c) (hk : j32 k) (hp : ¬ (0 ≤ c ∧ c < 6))  (hR : zRel B σ S ik) : zFe Γ md_X7_fullAt (d + 8) [.ref 167, .int (jI c), .int (jI k)] (mw S σ.sc ik th σ.T σ.L w) (zMQ (some (.int (jI 0))) 1 (B) (σ) w) := by
  obtain ⟨ok, lk, pk, ck, lx, h, hsv, hkp⟩ := hR
  have hR : zRel B σ S ik := ⟨ok, lk, pk, ck, lx, h, hsv, hkp⟩
  refine zFe.of_run (lv := [some (.ref 167), some (.int (jI c)), some (.int (jI k))]) (by decide) rfl (Nat.le_of_ble_eq_true rfl) rfl (fun n9 g9 => ?_)
  refine zr_aload_n dX7_fullAt_0 (rfl : 0 + 1 = 1) rfl ?_
  refine zr_iload_n dX7_fullAt_1 (rfl : 1 + 1 = 2) rfl ?_
  refine zr_fnS dX7_fullAt_2 (rfl : 2 + 3 = 5) l_X7_50 (m_isCard c hc) rfl rfl (Nat.le_of_ble_eq_true rfl) ?_
  rw [jb_neg (by omega)]
  refine zr_iload_n dX7_fullAt_5 (rfl : 5 + 1 = 6) rfl ?_
  refine zr_iconst dX7_fullAt_6 (rfl : 6 + 1 = 7) ?_
  refine zr_iconst dX7_fullAt_7 (rfl : 7 + 1 = 8) ?_
  refine zr_fnS dX7_fullAt_8 (rfl : 8 + 3 = 11) l_X7_32 (m_in k 0 1 hk (by first | omega | (simp only [bset, reduceIte, Nat.reduceEqDiff]; omega)) (by first | omega | (simp only [bset, reduceIte, Nat.reduceEqDiff]; omega))) rfl rfl (Nat.le_of_ble_eq_true rfl) ?_
  refine zr_iconst dX7_fullAt_11 (rfl : 11 + 1 = 12) ?_
  refine zr_fnV dX7_fullAt_12 (rfl : 12 + 3 = 15) l_X7_60 (m_go1 _ _) (by first | assumption | exact mw_167 | exact mw_168 | exact mw_169 | exact mw_170 | exact bk_0 | exact bk_1 | exact bk_2 | exact bk_3 | exact bk_4 | exact bk_5 | exact bk_6 | exact bk_7 | exact bk_8 | exact bk_9 | exact bk_10 | exact bk_11 | exact bk_12 | exact bk_13 | exact bk_14 | exact bk_15 | exact bk_16 | exact zup_self | exact (zup_ne (by first | assumption | omega)).trans (by first | assumption | exact zup_self) | exact (zup_ne (by first | assumption | omega)).trans ((zup_ne (by first | assumption | omega)).trans (by first | assumption | exact zup_self)) | exact (bk_out (by first | omega | (simp only [bset, reduceIte, Nat.reduceEqDiff]; omega))).trans (by first | exact bk_0 | exact bk_1 | exact bk_2 | exact bk_3 | exact bk_4 | exact bk_5 | exact bk_6 | exact bk_7 | exact bk_8 | exact bk_9 | exact bk_10 | exact bk_11 | exact bk_12 | exact bk_13 | exact bk_14 | exact bk_15 | exact bk_16 | exact cr_5 | exact cr_23 | exact cr_24 | exact cr_25 | exact cr_26 | exact cr_27 | exact cr_28 | exact cr_29 | exact cr_30 | assumption)) rfl rfl rfl (Nat.le_of_ble_eq_true rfl) ?_
  refine zr_if_eq (tgt := 26) dX7_fullAt_15 (by decide) (rfl : 15 + 3 = 18) (by first | exact jb_iff | exact jI_z (by first | omega | (simp only [bset, reduceIte, Nat.reduceEqDiff]; omega)) (by first | omega | (simp only [bset, reduceIte, Nat.reduceEqDiff]; omega))) (fun h15 => ?_) (fun h15 => ?_)
  · first
    | (exfalso; omega)
    | (
      refine zr_iconst dX7_fullAt_26 (rfl : 26 + 1 = 27) ?_
      refine zr_ireE dX7_fullAt_27 rfl rfl ?_
      exact ⟨rfl, S, ik, hR, rfl⟩)
  · first
    | (exfalso; omega)
    | (
      exfalso
      omega)
theorem p_fullAt2 (c k : Int) (hc : j32 c) (hk : j32 k) (hp : 0 ≤ c ∧ c < 6) (h2 : ¬ (0 ≤ k ∧ k < 2))  (hR : zRel B σ S ik) : zFe Γ md_X7_fullAt (d + 8) [.ref 167, .int (jI c), .int (jI k)] (mw S σ.sc ik th σ.T σ.L w) (zMQ (some (.int (jI 0))) 2 (B) (σ) w) := by
  obtain ⟨ok, lk, pk, ck, lx, h, hsv, hkp⟩ := hR
  have hR : zRel B σ S ik := ⟨ok, lk, pk, ck, lx, h, hsv, hkp⟩
  refine zFe.of_run (lv := [some (.ref 167), some (.int (jI c)), some (.int (jI k))]) (by decide) rfl (Nat.le_of_ble_eq_true rfl) rfl (fun n9 g9 => ?_)
  refine zr_aload_n dX7_fullAt_0 (rfl : 0 + 1 = 1) rfl ?_
  refine zr_iload_n dX7_fullAt_1 (rfl : 1 + 1 = 2) rfl ?_
  refine zr_fnS dX7_fullAt_2 (rfl : 2 + 3 = 5) l_X7_50 (m_isCard c hc) rfl rfl (Nat.le_of_ble_eq_true rfl) ?_
  rw [jb_pos (by omega)]
  refine zr_iload_n dX7_fullAt_5 (rfl : 5 + 1 = 6) rfl ?_
  refine zr_iconst dX7_fullAt_6 (rfl : 6 + 1 = 7) ?_
  refine zr_iconst dX7_fullAt_7 (rfl : 7 + 1 = 8) ?_
  refine zr_fnS dX7_fullAt_8 (rfl : 8 + 3 = 11) l_X7_32 (m_in k 0 1 hk (by first | omega | (simp only [bset, reduceIte, Nat.reduceEqDiff]; omega)) (by first | omega | (simp only [bset, reduceIte, Nat.reduceEqDiff]; omega))) rfl rfl (Nat.le_of_ble_eq_true rfl) ?_
  rw [jb_neg (by omega)]
  refine zr_iconst dX7_fullAt_11 (rfl : 11 + 1 = 12) ?_
  refine zr_fnV dX7_fullAt_12 (rfl : 12 + 3 = 15) l_X7_60 (m_go2 _) (by first | assumption | exact mw_167 | exact mw_168 | exact mw_169 | exact mw_170 | exact bk_0 | exact bk_1 | exact bk_2 | exact bk_3 | exact bk_4 | exact bk_5 | exact bk_6 | exact bk_7 | exact bk_8 | exact bk_9 | exact bk_10 | exact bk_11 | exact bk_12 | exact bk_13 | exact bk_14 | exact bk_15 | exact bk_16 | exact zup_self | exact (zup_ne (by first | assumption | omega)).trans (by first | assumption | exact zup_self) | exact (zup_ne (by first | assumption | omega)).trans ((zup_ne (by first | assumption | omega)).trans (by first | assumption | exact zup_self)) | exact (bk_out (by first | omega | (simp only [bset, reduceIte, Nat.reduceEqDiff]; omega))).trans (by first | exact bk_0 | exact bk_1 | exact bk_2 | exact bk_3 | exact bk_4 | exact bk_5 | exact bk_6 | exact bk_7 | exact bk_8 | exact bk_9 | exact bk_10 | exact bk_11 | exact bk_12 | exact bk_13 | exact bk_14 | exact bk_15 | exact bk_16 | exact cr_5 | exact cr_23 | exact cr_24 | exact cr_25 | exact cr_26 | exact cr_27 | exact cr_28 | exact cr_29 | exact cr_30 | assumption)) rfl rfl rfl (Nat.le_of_ble_eq_true rfl) ?_
  refine zr_if_eq (tgt := 26) dX7_fullAt_15 (by decide) (rfl : 15 + 3 = 18) (by first | exact jb_iff | exact jI_z (by first | omega | (simp only [bset, reduceIte, Nat.reduceEqDiff]; omega)) (by first | omega | (simp only [bset, reduceIte, Nat.reduceEqDiff]; omega))) (fun h15 => ?_) (fun h15 => ?_)
  · first
    | (exfalso; omega)
    | (
      refine zr_iconst dX7_fullAt_26 (rfl : 26 + 1 = 27) ?_
      refine zr_ireE dX7_fullAt_27 rfl rfl ?_
      exact ⟨rfl, S, ik, hR, rfl⟩)
  · first
    | (exfalso; omega)
    | (
      exfalso
      omega)
theorem p_fullAt (c k : Int) (hc : j32 c) (hk : j32 k) (hp : 0 ≤ c ∧ c < 6) (h2 : 0 ≤ k ∧ k < 2)  (hR : zRel B σ S ik) : zFe Γ md_X7_fullAt (d + 8) [.ref 167, .int (jI c), .int (jI k)] (mw S σ.sc ik th σ.T σ.L w) (zMQ (some (.int (jI (jfa B c k)))) 0 (B) (σ) w) := by
  obtain ⟨ok, lk, pk, ck, lx, h, hsv, hkp⟩ := hR
  have hR : zRel B σ S ik := ⟨ok, lk, pk, ck, lx, h, hsv, hkp⟩
  have hfa : jfa B c k = (if jcs (B 0) c = 15 then jlc B c else -1) := by
    unfold jfa
    by_cases hw : jcs (B 0) c = 15
    · rw [if_pos hw, if_pos hw]
      split
      · exact jfb_eq ok lk hp hw
      · rfl
    · rw [if_neg hw, if_neg hw]
  rw [hfa]
  refine zFe.of_run (lv := [some (.ref 167), some (.int (jI c)), some (.int (jI k))]) (by decide) rfl (Nat.le_of_ble_eq_true rfl) rfl (fun n9 g9 => ?_)
  refine zr_aload_n dX7_fullAt_0 (rfl : 0 + 1 = 1) rfl ?_
  refine zr_iload_n dX7_fullAt_1 (rfl : 1 + 1 = 2) rfl ?_
  refine zr_fnS dX7_fullAt_2 (rfl : 2 + 3 = 5) l_X7_50 (m_isCard c hc) rfl rfl (Nat.le_of_ble_eq_true rfl) ?_
  rw [jb_pos (by omega)]
  refine zr_iload_n dX7_fullAt_5 (rfl : 5 + 1 = 6) rfl ?_
  refine zr_iconst dX7_fullAt_6 (rfl : 6 + 1 = 7) ?_
  refine zr_iconst dX7_fullAt_7 (rfl : 7 + 1 = 8) ?_
  refine zr_fnS dX7_fullAt_8 (rfl : 8 + 3 = 11) l_X7_32 (m_in k 0 1 hk (by first | omega | (simp only [bset, reduceIte, Nat.reduceEqDiff]; omega)) (by first | omega | (simp only [bset, reduceIte, Nat.reduceEqDiff]; omega))) rfl rfl (Nat.le_of_ble_eq_true rfl) ?_
  rw [jb_pos (by omega)]
  refine zr_iconst dX7_fullAt_11 (rfl : 11 + 1 = 12) ?_
  refine zr_fnV dX7_fullAt_12 (rfl : 12 + 3 = 15) l_X7_60 (m_go) (by first | assumption | exact mw_167 | exact mw_168 | exact mw_169 | exact mw_170 | exact bk_0 | exact bk_1 | exact bk_2 | exact bk_3 | exact bk_4 | exact bk_5 | exact bk_6 | exact bk_7 | exact bk_8 | exact bk_9 | exact bk_10 | exact bk_11 | exact bk_12 | exact bk_13 | exact bk_14 | exact bk_15 | exact bk_16 | exact zup_self | exact (zup_ne (by first | assumption | omega)).trans (by first | assumption | exact zup_self) | exact (zup_ne (by first | assumption | omega)).trans ((zup_ne (by first | assumption | omega)).trans (by first | assumption | exact zup_self)) | exact (bk_out (by first | omega | (simp only [bset, reduceIte, Nat.reduceEqDiff]; omega))).trans (by first | exact bk_0 | exact bk_1 | exact bk_2 | exact bk_3 | exact bk_4 | exact bk_5 | exact bk_6 | exact bk_7 | exact bk_8 | exact bk_9 | exact bk_10 | exact bk_11 | exact bk_12 | exact bk_13 | exact bk_14 | exact bk_15 | exact bk_16 | exact cr_5 | exact cr_23 | exact cr_24 | exact cr_25 | exact cr_26 | exact cr_27 | exact cr_28 | exact cr_29 | exact cr_30 | assumption)) rfl rfl rfl (Nat.le_of_ble_eq_true rfl) ?_
  refine zr_if_eq (tgt := 26) dX7_fullAt_15 (by decide) (rfl : 15 + 3 = 18) (by first | exact jb_iff | exact jI_z (by first | omega | (simp only [bset, reduceIte, Nat.reduceEqDiff]; omega)) (by first | omega | (simp only [bset, reduceIte, Nat.reduceEqDiff]; omega))) (fun h15 => ?_) (fun h15 => ?_)
  · first
    | (exfalso; omega)
    | (
      exfalso
      omega)
  · first
    | (exfalso; omega)
    | (
      refine zr_aload_n dX7_fullAt_18 (rfl : 18 + 1 = 19) rfl ?_
      refine zr_iload_n dX7_fullAt_19 (rfl : 19 + 1 = 20) rfl ?_
      refine zr_feV dX7_fullAt_20 (rfl : 20 + 3 = 23) l_X7_181 (m_full c hp h ok lk) (by first | assumption | exact mw_167 | exact mw_168 | exact mw_169 | exact mw_170 | exact bk_0 | exact bk_1 | exact bk_2 | exact bk_3 | exact bk_4 | exact bk_5 | exact bk_6 | exact bk_7 | exact bk_8 | exact bk_9 | exact bk_10 | exact bk_11 | exact bk_12 | exact bk_13 | exact bk_14 | exact bk_15 | exact bk_16 | exact zup_self | exact (zup_ne (by first | assumption | omega)).trans (by first | assumption | exact zup_self) | exact (zup_ne (by first | assumption | omega)).trans ((zup_ne (by first | assumption | omega)).trans (by first | assumption | exact zup_self)) | exact (bk_out (by first | omega | (simp only [bset, reduceIte, Nat.reduceEqDiff]; omega))).trans (by first | exact bk_0 | exact bk_1 | exact bk_2 | exact bk_3 | exact bk_4 | exact bk_5 | exact bk_6 | exact bk_7 | exact bk_8 | exact bk_9 | exact bk_10 | exact bk_11 | exact bk_12 | exact bk_13 | exact bk_14 | exact bk_15 | exact bk_16 | exact cr_5 | exact cr_23 | exact cr_24 | exact cr_25 | exact cr_26 | exact cr_27 | exact cr_28 | exact cr_29 | exact cr_30 | assumption)) rfl rfl rfl (Nat.le_of_ble_eq_true rfl) ?_
      rintro _ _ ⟨rfl, S20, hS20, rfl⟩
      refine zr_goto (tgt := 27) dX7_fullAt_23 (by decide) ?_
      refine zr_ireE dX7_fullAt_27 rfl rfl ?_
      exact ⟨rfl, _, ik, zRel_try hR hS20, rfl⟩)
theorem p_firstFull  (hR : zRel B σ S ik) : zFe Γ md_X7_firstFull (d + 8) [.ref 167] (mw S σ.sc ik th σ.T σ.L w) (zMQ (some (.int (jI ((jff B 6).1)))) 0 (B) (σ) w) := by
  obtain ⟨ok, lk, pk, ck, lx, h, hsv, hkp⟩ := hR
  have hR : zRel B σ S ik := ⟨ok, lk, pk, ck, lx, h, hsv, hkp⟩
  refine zFe.of_run (lv := [some (.ref 167)]) (by decide) rfl (Nat.le_of_ble_eq_true rfl) rfl (fun n9 g9 => ?_)
  refine zr_aload_n dX7_firstFull_0 (rfl : 0 + 1 = 1) rfl ?_
  refine zr_iconst dX7_firstFull_1 (rfl : 1 + 1 = 2) ?_
  refine zr_putf (fs' := [_, _, _, _, _, _]) dX7_firstFull_2 (rfl : 2 + 3 = 5) f_X7_21 ft_7_3 (by first | assumption | exact mw_167 | exact mw_168 | exact mw_169 | exact mw_170 | exact bk_0 | exact bk_1 | exact bk_2 | exact bk_3 | exact bk_4 | exact bk_5 | exact bk_6 | exact bk_7 | exact bk_8 | exact bk_9 | exact bk_10 | exact bk_11 | exact bk_12 | exact bk_13 | exact bk_14 | exact bk_15 | exact bk_16 | exact zup_self | exact (zup_ne (by first | assumption | omega)).trans (by first | assumption | exact zup_self) | exact (zup_ne (by first | assumption | omega)).trans ((zup_ne (by first | assumption | omega)).trans (by first | assumption | exact zup_self)) | exact (bk_out (by first | omega | (simp only [bset, reduceIte, Nat.reduceEqDiff]; omega))).trans (by first | exact bk_0 | exact bk_1 | exact bk_2 | exact bk_3 | exact bk_4 | exact bk_5 | exact bk_6 | exact bk_7 | exact bk_8 | exact bk_9 | exact bk_10 | exact bk_11 | exact bk_12 | exact bk_13 | exact bk_14 | exact bk_15 | exact bk_16 | exact cr_5 | exact cr_23 | exact cr_24 | exact cr_25 | exact cr_26 | exact cr_27 | exact cr_28 | exact cr_29 | exact cr_30 | assumption)) (Nat.le_of_ble_eq_true rfl) rfl rfl rfl ?_
  rw [mwu_o]
  refine zr_aload_n dX7_firstFull_5 (rfl : 5 + 1 = 6) rfl ?_
  refine zr_feV dX7_firstFull_6 (rfl : 6 + 3 = 9) l_X7_184 (m_first h ok lk) (by first | assumption | exact mw_167 | exact mw_168 | exact mw_169 | exact mw_170 | exact bk_0 | exact bk_1 | exact bk_2 | exact bk_3 | exact bk_4 | exact bk_5 | exact bk_6 | exact bk_7 | exact bk_8 | exact bk_9 | exact bk_10 | exact bk_11 | exact bk_12 | exact bk_13 | exact bk_14 | exact bk_15 | exact bk_16 | exact zup_self | exact (zup_ne (by first | assumption | omega)).trans (by first | assumption | exact zup_self) | exact (zup_ne (by first | assumption | omega)).trans ((zup_ne (by first | assumption | omega)).trans (by first | assumption | exact zup_self)) | exact (bk_out (by first | omega | (simp only [bset, reduceIte, Nat.reduceEqDiff]; omega))).trans (by first | exact bk_0 | exact bk_1 | exact bk_2 | exact bk_3 | exact bk_4 | exact bk_5 | exact bk_6 | exact bk_7 | exact bk_8 | exact bk_9 | exact bk_10 | exact bk_11 | exact bk_12 | exact bk_13 | exact bk_14 | exact bk_15 | exact bk_16 | exact cr_5 | exact cr_23 | exact cr_24 | exact cr_25 | exact cr_26 | exact cr_27 | exact cr_28 | exact cr_29 | exact cr_30 | assumption)) rfl rfl rfl (Nat.le_of_ble_eq_true rfl) ?_
  rintro _ _ ⟨rfl, S6, hS6, rfl⟩
  refine zr_ireE dX7_firstFull_9 rfl rfl ?_
  exact ⟨rfl, _, ik, zRel_try hR hS6, rfl⟩
theorem p_next1 (m : Int) (hm : j32 m) (hp : ¬ (1 ≤ m ∧ m ≤ 90))  (hR : zRel B σ S ik) : zFe Γ md_X7_next (d + 8) [.ref 167, .int (jI m)] (mw S σ.sc ik th σ.T σ.L w) (zMQ (some (.int (jI 0))) 1 (B) (σ) w) := by
  obtain ⟨ok, lk, pk, ck, lx, h, hsv, hkp⟩ := hR
  have hR : zRel B σ S ik := ⟨ok, lk, pk, ck, lx, h, hsv, hkp⟩
  refine zFe.of_run (lv := [some (.ref 167), some (.int (jI m))]) (by decide) rfl (Nat.le_of_ble_eq_true rfl) rfl (fun n9 g9 => ?_)
  refine zr_aload_n dX7_next_0 (rfl : 0 + 1 = 1) rfl ?_
  refine zr_iload_n dX7_next_1 (rfl : 1 + 1 = 2) rfl ?_
  refine zr_iconst dX7_next_2 (rfl : 2 + 1 = 3) ?_
  refine zr_bipush dX7_next_3 (rfl : 3 + 2 = 5) (by decide) ?_
  refine zr_fnS dX7_next_5 (rfl : 5 + 3 = 8) l_X7_32 (m_in m 1 90 hm (by first | omega | (simp only [bset, reduceIte, Nat.reduceEqDiff]; omega)) (by first | omega | (simp only [bset, reduceIte, Nat.reduceEqDiff]; omega))) rfl rfl (Nat.le_of_ble_eq_true rfl) ?_
  rw [jb_neg (by omega)]
  refine zr_iconst dX7_next_8 (rfl : 8 + 1 = 9) ?_
  refine zr_iconst dX7_next_9 (rfl : 9 + 1 = 10) ?_
  refine zr_fnV dX7_next_10 (rfl : 10 + 3 = 13) l_X7_60 (m_go1 _ _) (by first | assumption | exact mw_167 | exact mw_168 | exact mw_169 | exact mw_170 | exact bk_0 | exact bk_1 | exact bk_2 | exact bk_3 | exact bk_4 | exact bk_5 | exact bk_6 | exact bk_7 | exact bk_8 | exact bk_9 | exact bk_10 | exact bk_11 | exact bk_12 | exact bk_13 | exact bk_14 | exact bk_15 | exact bk_16 | exact zup_self | exact (zup_ne (by first | assumption | omega)).trans (by first | assumption | exact zup_self) | exact (zup_ne (by first | assumption | omega)).trans ((zup_ne (by first | assumption | omega)).trans (by first | assumption | exact zup_self)) | exact (bk_out (by first | omega | (simp only [bset, reduceIte, Nat.reduceEqDiff]; omega))).trans (by first | exact bk_0 | exact bk_1 | exact bk_2 | exact bk_3 | exact bk_4 | exact bk_5 | exact bk_6 | exact bk_7 | exact bk_8 | exact bk_9 | exact bk_10 | exact bk_11 | exact bk_12 | exact bk_13 | exact bk_14 | exact bk_15 | exact bk_16 | exact cr_5 | exact cr_23 | exact cr_24 | exact cr_25 | exact cr_26 | exact cr_27 | exact cr_28 | exact cr_29 | exact cr_30 | assumption)) rfl rfl rfl (Nat.le_of_ble_eq_true rfl) ?_
  refine zr_if_eq (tgt := 24) dX7_next_13 (by decide) (rfl : 13 + 3 = 16) (by first | exact jb_iff | exact jI_z (by first | omega | (simp only [bset, reduceIte, Nat.reduceEqDiff]; omega)) (by first | omega | (simp only [bset, reduceIte, Nat.reduceEqDiff]; omega))) (fun h13 => ?_) (fun h13 => ?_)
  · first
    | (exfalso; omega)
    | (
      refine zr_iconst dX7_next_24 (rfl : 24 + 1 = 25) ?_
      refine zr_ireE dX7_next_25 rfl rfl ?_
      exact ⟨rfl, S, ik, hR, rfl⟩)
  · first
    | (exfalso; omega)
    | (
      exfalso
      omega)
theorem p_next (m : Int) (hm : j32 m) (hp : 1 ≤ m ∧ m ≤ 90)  (hR : zRel B σ S ik) : zFe Γ md_X7_next (d + 8) [.ref 167, .int (jI m)] (mw S σ.sc ik th σ.T σ.L w) (zMQ (some (.int (jI (jnb B m)))) 0 (B) (σ) w) := by
  obtain ⟨ok, lk, pk, ck, lx, h, hsv, hkp⟩ := hR
  have hR : zRel B σ S ik := ⟨ok, lk, pk, ck, lx, h, hsv, hkp⟩
  refine zFe.of_run (lv := [some (.ref 167), some (.int (jI m))]) (by decide) rfl (Nat.le_of_ble_eq_true rfl) rfl (fun n9 g9 => ?_)
  refine zr_aload_n dX7_next_0 (rfl : 0 + 1 = 1) rfl ?_
  refine zr_iload_n dX7_next_1 (rfl : 1 + 1 = 2) rfl ?_
  refine zr_iconst dX7_next_2 (rfl : 2 + 1 = 3) ?_
  refine zr_bipush dX7_next_3 (rfl : 3 + 2 = 5) (by decide) ?_
  refine zr_fnS dX7_next_5 (rfl : 5 + 3 = 8) l_X7_32 (m_in m 1 90 hm (by first | omega | (simp only [bset, reduceIte, Nat.reduceEqDiff]; omega)) (by first | omega | (simp only [bset, reduceIte, Nat.reduceEqDiff]; omega))) rfl rfl (Nat.le_of_ble_eq_true rfl) ?_
  rw [jb_pos (by omega)]
  refine zr_iconst dX7_next_8 (rfl : 8 + 1 = 9) ?_
  refine zr_iconst dX7_next_9 (rfl : 9 + 1 = 10) ?_
  refine zr_fnV dX7_next_10 (rfl : 10 + 3 = 13) l_X7_60 (m_go) (by first | assumption | exact mw_167 | exact mw_168 | exact mw_169 | exact mw_170 | exact bk_0 | exact bk_1 | exact bk_2 | exact bk_3 | exact bk_4 | exact bk_5 | exact bk_6 | exact bk_7 | exact bk_8 | exact bk_9 | exact bk_10 | exact bk_11 | exact bk_12 | exact bk_13 | exact bk_14 | exact bk_15 | exact bk_16 | exact zup_self | exact (zup_ne (by first | assumption | omega)).trans (by first | assumption | exact zup_self) | exact (zup_ne (by first | assumption | omega)).trans ((zup_ne (by first | assumption | omega)).trans (by first | assumption | exact zup_self)) | exact (bk_out (by first | omega | (simp only [bset, reduceIte, Nat.reduceEqDiff]; omega))).trans (by first | exact bk_0 | exact bk_1 | exact bk_2 | exact bk_3 | exact bk_4 | exact bk_5 | exact bk_6 | exact bk_7 | exact bk_8 | exact bk_9 | exact bk_10 | exact bk_11 | exact bk_12 | exact bk_13 | exact bk_14 | exact bk_15 | exact bk_16 | exact cr_5 | exact cr_23 | exact cr_24 | exact cr_25 | exact cr_26 | exact cr_27 | exact cr_28 | exact cr_29 | exact cr_30 | assumption)) rfl rfl rfl (Nat.le_of_ble_eq_true rfl) ?_
  refine zr_if_eq (tgt := 24) dX7_next_13 (by decide) (rfl : 13 + 3 = 16) (by first | exact jb_iff | exact jI_z (by first | omega | (simp only [bset, reduceIte, Nat.reduceEqDiff]; omega)) (by first | omega | (simp only [bset, reduceIte, Nat.reduceEqDiff]; omega))) (fun h13 => ?_) (fun h13 => ?_)
  · first
    | (exfalso; omega)
    | (
      exfalso
      omega)
  · first
    | (exfalso; omega)
    | (
      refine zr_aload_n dX7_next_16 (rfl : 16 + 1 = 17) rfl ?_
      refine zr_iload_n dX7_next_17 (rfl : 17 + 1 = 18) rfl ?_
      refine zr_feV dX7_next_18 (rfl : 18 + 3 = 21) l_X7_187 (m_nextBall m hp h ok lk) (by first | assumption | exact mw_167 | exact mw_168 | exact mw_169 | exact mw_170 | exact bk_0 | exact bk_1 | exact bk_2 | exact bk_3 | exact bk_4 | exact bk_5 | exact bk_6 | exact bk_7 | exact bk_8 | exact bk_9 | exact bk_10 | exact bk_11 | exact bk_12 | exact bk_13 | exact bk_14 | exact bk_15 | exact bk_16 | exact zup_self | exact (zup_ne (by first | assumption | omega)).trans (by first | assumption | exact zup_self) | exact (zup_ne (by first | assumption | omega)).trans ((zup_ne (by first | assumption | omega)).trans (by first | assumption | exact zup_self)) | exact (bk_out (by first | omega | (simp only [bset, reduceIte, Nat.reduceEqDiff]; omega))).trans (by first | exact bk_0 | exact bk_1 | exact bk_2 | exact bk_3 | exact bk_4 | exact bk_5 | exact bk_6 | exact bk_7 | exact bk_8 | exact bk_9 | exact bk_10 | exact bk_11 | exact bk_12 | exact bk_13 | exact bk_14 | exact bk_15 | exact bk_16 | exact cr_5 | exact cr_23 | exact cr_24 | exact cr_25 | exact cr_26 | exact cr_27 | exact cr_28 | exact cr_29 | exact cr_30 | assumption)) rfl rfl rfl (Nat.le_of_ble_eq_true rfl) ?_
      rintro _ _ ⟨rfl, S18, hS18, rfl⟩
      refine zr_goto (tgt := 25) dX7_next_21 (by decide) ?_
      refine zr_ireE dX7_next_25 rfl rfl ?_
      exact ⟨rfl, _, ik, zRel_try hR hS18, rfl⟩)
end PU

