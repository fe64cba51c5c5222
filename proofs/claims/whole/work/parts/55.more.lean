/-! the reference: filling, the evening's end, texts done, shares -/
section MO
variable {B : zB}
/-! what was drawn of the book is no more than the book -/
theorem jlt_succ (B : zB) {m : Int} (hm : 0 ≤ m) : jcnt 90 (fun z => decide (0 ≤ B 1 (z + 1) ∧ B 1 (z + 1) < m + 1)) = jcnt 90 (fun z => decide (0 ≤ B 1 (z + 1) ∧ B 1 (z + 1) < m)) + jcnt 90 (fun z => decide (B 1 (z + 1) = m)) := by
  refine jcnt_add 90 fun z _ _ => ?_
  generalize B 1 (z + 1) = x
  by_cases h1 : x = m
  · rw [jb_pos (decide_eq_true (by omega)), jb_neg (fun q => absurd (of_decide_eq_true q) (by omega)), jb_pos (decide_eq_true h1)]
    rfl
  · by_cases h2 : 0 ≤ x ∧ x < m
    · rw [jb_pos (decide_eq_true (by omega)), jb_pos (decide_eq_true h2), jb_neg (fun q => h1 (of_decide_eq_true q))]
      rfl
    · rw [jb_neg (fun q => absurd (of_decide_eq_true q) (by omega)), jb_neg (fun q => h2 (of_decide_eq_true q)), jb_neg (fun q => h1 (of_decide_eq_true q))]
      rfl
theorem jrs_num (ok : jok B) (lk : jlk B) {r : Int} (hr : 0 ≤ r ∧ r < 18) : jrs (B 0) r = jcnt 90 (fun z => decide (B 1 (z + 1) = r)) := by
  have h := jrow_cnt ok lk hr (fun _ => true)
  simp only [Bool.and_true] at h
  exact h.symm
theorem jdp_le (ok : jok B) (lk : jlk B) : ∀ n : Nat, n ≤ 6 → 0 ≤ jdp B n ∧ jdp B n ≤ jcnt 90 (fun z => decide (0 ≤ B 1 (z + 1) ∧ B 1 (z + 1) < (n : Int) * 3))
  | 0, _ => ⟨Int.le_refl 0, (jcnt_nn 90 _).1⟩
  | n + 1, h => by
    have ih := jdp_le ok lk n (by omega)
    have hP : ∀ z, 0 ≤ B 0 z := fun z => (ok.P z).1
    have l0 := jur_le (B 0) (B 7) hP ((n : Int) * 3)
    have l1 := jur_le (B 0) (B 7) hP ((n : Int) * 3 + 1)
    have l2 := jur_le (B 0) (B 7) hP ((n : Int) * 3 + 1 + 1)
    have u0 := (jur_r (B 0) (B 7) ((n : Int) * 3)).1
    have u1 := (jur_r (B 0) (B 7) ((n : Int) * 3 + 1)).1
    have u2 := (jur_r (B 0) (B 7) ((n : Int) * 3 + 1 + 1)).1
    have r0 := jrs_num ok lk (r := (n : Int) * 3) (by omega)
    have r1 := jrs_num ok lk (r := (n : Int) * 3 + 1) (by omega)
    have r2 := jrs_num ok lk (r := (n : Int) * 3 + 1 + 1) (by omega)
    have c0 := jlt_succ B (m := (n : Int) * 3) (by omega)
    have c1 := jlt_succ B (m := (n : Int) * 3 + 1) (by omega)
    have c2 := jlt_succ B (m := (n : Int) * 3 + 1 + 1) (by omega)
    have e : ((n + 1 : Nat) : Int) * 3 = (n : Int) * 3 + 1 + 1 + 1 := by omega
    rw [e]
    show 0 ≤ jdp B n + jmc (B 0) (B 7) n ∧ jdp B n + jmc (B 0) (B 7) n ≤ _
    unfold jmc
    omega
theorem jcnt_true : ∀ n : Nat, jcnt n (fun _ => true) = n
  | 0 => rfl
  | n + 1 => by
    rw [jcnt_succ, jcnt_true n, jb_pos rfl]
    omega
theorem jdn_le (ok : jok B) (lk : jlk B) : 0 ≤ jdn B ∧ jdn B ≤ B 2 0 := by
  have h := jdp_le ok lk 6 (Nat.le_refl 6)
  have hs := lk.sz
  have e : jcnt 90 (fun _ => true) = jcnt 90 (fun z => decide (0 ≤ B 1 (z + 1) ∧ B 1 (z + 1) < ((6 : Nat) : Int) * 3)) + jall (jfree B) := by
    refine jcnt_add 90 fun z _ _ => ?_
    have hR := ok.R (z + 1)
    show _ = _ + jb (decide (B 1 (z + 1) = -1) = true)
    generalize B 1 (z + 1) = x at hR
    by_cases h1 : x = -1
    · rw [jb_pos rfl, jb_neg (fun q => absurd (of_decide_eq_true q) (by omega)), jb_pos (decide_eq_true h1)]
      rfl
    · rw [jb_pos rfl, jb_pos (decide_eq_true (by omega)), jb_neg (fun q => h1 (of_decide_eq_true q))]
      rfl
  have e2 : jcnt 90 (fun _ => true) = 90 := jcnt_true 90
  unfold jdn
  omega
theorem jfrf_at {c n row : Int} (h0 : 0 ≤ row ∧ row < 3) (hp : ∀ j, 0 ≤ j → j < row → jrap B (c * 3 + j) n ≠ 0) (h : jrap B (c * 3 + row) n = 0) : jfrf B c n = c * 3 + row := by
  unfold jfrf
  rcases (by omega : row = 0 ∨ row = 1 ∨ row = 2) with rfl | rfl | rfl
  · rw [Int.add_zero] at h ⊢
    rw [if_pos h]
  · have h1 := hp 0 (by decide) (by decide)
    rw [Int.add_zero] at h1
    rw [if_neg h1, if_pos h]
  · have h1 := hp 0 (by decide) (by decide)
    have h2 := hp 1 (by decide) (by decide)
    rw [Int.add_zero] at h1
    rw [show c * 3 + 1 + 1 = c * 3 + 2 by omega, if_neg h1, if_neg h2, if_pos h]
theorem jfrf_no {c n : Int} (hp : ∀ j, 0 ≤ j → j < 3 → jrap B (c * 3 + j) n ≠ 0) : jfrf B c n = -1 := by
  unfold jfrf
  have h1 := hp 0 (by decide) (by decide)
  have h2 := hp 1 (by decide) (by decide)
  have h3 := hp 2 (by decide) (by decide)
  rw [Int.add_zero] at h1
  rw [show c * 3 + 1 + 1 = c * 3 + 2 by omega, if_neg h1, if_neg h2, if_neg h3]
end MO
section MF
variable {Γ : zΓ} {d : Nat} {S : Int → Int} {ik : Int → Int} {th : Int} {w : zW} {B : zB} {σ : zC}
theorem p_fill1 (c m : Int) (hc : j32 c) (hm : j32 m) (hp : ¬ (0 ≤ c ∧ c < 6)) (hR : zRel B σ S ik) : zFe Γ md_X7_fill (d + 8) [.ref 167, .int (jI c), .int (jI m)] (mw S σ.sc ik th σ.T σ.L w) (zMQ (some (.int (jI 0))) 1 B σ w) := by
  refine zFe.of_run (lv := [some (.ref 167), some (.int (jI c)), some (.int (jI m)), none, none, none, none, none, none]) (by decide) rfl (Nat.le_of_ble_eq_true rfl) rfl (fun n9 g9 => ?_)
  refine zr_iload_n dX7_fill_0 (rfl : 0 + 1 = 1) rfl ?_
  refine zr_fnS dX7_fill_1 (rfl : 1 + 3 = 4) l_X7_50 (m_isCard c hc) rfl rfl (Nat.le_of_ble_eq_true rfl) ?_
  rw [jb_neg (by omega)]
  refine zr_istore_n (lv' := [_, _, _, _, _, _, _, _, _]) dX7_fill_4 (rfl : 4 + 1 = 5) (Nat.le_of_ble_eq_true rfl) rfl ?_
  refine zr_aload_n dX7_fill_5 (rfl : 5 + 1 = 6) rfl ?_
  refine zr_iload_n dX7_fill_6 (rfl : 6 + 1 = 7) rfl ?_
  refine zr_iload_n dX7_fill_7 (rfl : 7 + 1 = 8) rfl ?_
  refine zr_iconst dX7_fill_8 (rfl : 8 + 1 = 9) ?_
  refine zr_bipush dX7_fill_9 (rfl : 9 + 2 = 11) (by decide) ?_
  refine zr_fnS dX7_fill_11 (rfl : 11 + 3 = 14) l_X7_32 (m_in m 1 60 hm (by first | omega | (simp only [bset, reduceIte, Nat.reduceEqDiff]; omega)) (by first | omega | (simp only [bset, reduceIte, Nat.reduceEqDiff]; omega))) rfl rfl (Nat.le_of_ble_eq_true rfl) ?_
  refine zr_iload_n dX7_fill_14 (rfl : 14 + 1 = 15) rfl ?_
  refine zr_if_eq (tgt := 35) dX7_fill_15 (by decide) (rfl : 15 + 3 = 18) (by first | exact jb_iff | exact jI_z (by first | omega | (simp only [bset, reduceIte, Nat.reduceEqDiff]; omega)) (by first | omega | (simp only [bset, reduceIte, Nat.reduceEqDiff]; omega))) (fun h15 => ?_) (fun h15 => ?_)
  · first
    | (exfalso; omega)
    | (
      refine zr_iconst dX7_fill_35 (rfl : 35 + 1 = 36) ?_
      refine zr_fnV dX7_fill_36 (rfl : 36 + 3 = 39) l_X7_60 (m_go1 _ _) (by first | assumption | exact mw_167 | exact mw_168 | exact mw_169 | exact mw_170 | exact bk_0 | exact bk_1 | exact bk_2 | exact bk_3 | exact bk_4 | exact bk_5 | exact bk_6 | exact bk_7 | exact bk_8 | exact bk_9 | exact bk_10 | exact bk_11 | exact bk_12 | exact bk_13 | exact bk_14 | exact bk_15 | exact bk_16 | exact zup_self | exact (zup_ne (by first | assumption | omega)).trans (by first | assumption | exact zup_self) | exact (zup_ne (by first | assumption | omega)).trans ((zup_ne (by first | assumption | omega)).trans (by first | assumption | exact zup_self)) | exact (bk_out (by first | omega | (simp only [bset, reduceIte, Nat.reduceEqDiff]; omega))).trans (by first | exact bk_0 | exact bk_1 | exact bk_2 | exact bk_3 | exact bk_4 | exact bk_5 | exact bk_6 | exact bk_7 | exact bk_8 | exact bk_9 | exact bk_10 | exact bk_11 | exact bk_12 | exact bk_13 | exact bk_14 | exact bk_15 | exact bk_16 | exact cr_5 | exact cr_23 | exact cr_24 | exact cr_25 | exact cr_26 | exact cr_27 | exact cr_28 | exact cr_29 | exact cr_30 | assumption)) rfl rfl rfl (Nat.le_of_ble_eq_true rfl) ?_
      refine zr_if_ne (tgt := 44) dX7_fill_39 (by decide) (rfl : 39 + 3 = 42) (by first | exact jb_iff | exact jI_z (by first | omega | (simp only [bset, reduceIte, Nat.reduceEqDiff]; omega)) (by first | omega | (simp only [bset, reduceIte, Nat.reduceEqDiff]; omega))) (fun h39 => ?_) (fun h39 => ?_)
      · first
        | (exfalso; omega)
        | (
          exfalso
          omega)
      · first
        | (exfalso; omega)
        | (
          refine zr_iconst dX7_fill_42 (rfl : 42 + 1 = 43) ?_
          refine zr_ireE dX7_fill_43 rfl rfl ?_
          exact ⟨rfl, S, ik, hR, rfl⟩))
  · first
    | (exfalso; omega)
    | (
      exfalso
      omega)
theorem p_fill2 (c m : Int) (hm : j32 m) (hp : 0 ≤ c ∧ c < 6) (h2 : ¬ (1 ≤ m ∧ m ≤ 60)) (hR : zRel B σ S ik) : zFe Γ md_X7_fill (d + 8) [.ref 167, .int (jI c), .int (jI m)] (mw S σ.sc ik th σ.T σ.L w) (zMQ (some (.int (jI 0))) 2 B σ w) := by
  obtain ⟨ok, lk, pk, ck, lx, h, hsv, hkp⟩ := hR
  have hR : zRel B σ S ik := ⟨ok, lk, pk, ck, lx, h, hsv, hkp⟩
  have hbo := h.bo0 c hp.1 hp.2
  have hbr := jbit_r (B 11 0) c
  refine zFe.of_run (lv := [some (.ref 167), some (.int (jI c)), some (.int (jI m)), none, none, none, none, none, none]) (by decide) rfl (Nat.le_of_ble_eq_true rfl) rfl (fun n9 g9 => ?_)
  refine zr_iload_n dX7_fill_0 (rfl : 0 + 1 = 1) rfl ?_
  refine zr_fnS dX7_fill_1 (rfl : 1 + 3 = 4) l_X7_50 (m_isCard c (by first | omega | (simp only [bset, reduceIte, Nat.reduceEqDiff]; omega))) rfl rfl (Nat.le_of_ble_eq_true rfl) ?_
  rw [jb_pos (by omega)]
  refine zr_istore_n (lv' := [_, _, _, _, _, _, _, _, _]) dX7_fill_4 (rfl : 4 + 1 = 5) (Nat.le_of_ble_eq_true rfl) rfl ?_
  refine zr_aload_n dX7_fill_5 (rfl : 5 + 1 = 6) rfl ?_
  refine zr_iload_n dX7_fill_6 (rfl : 6 + 1 = 7) rfl ?_
  refine zr_iload_n dX7_fill_7 (rfl : 7 + 1 = 8) rfl ?_
  refine zr_iconst dX7_fill_8 (rfl : 8 + 1 = 9) ?_
  refine zr_bipush dX7_fill_9 (rfl : 9 + 2 = 11) (by decide) ?_
  refine zr_fnS dX7_fill_11 (rfl : 11 + 3 = 14) l_X7_32 (m_in m 1 60 hm (by first | omega | (simp only [bset, reduceIte, Nat.reduceEqDiff]; omega)) (by first | omega | (simp only [bset, reduceIte, Nat.reduceEqDiff]; omega))) rfl rfl (Nat.le_of_ble_eq_true rfl) ?_
  rw [jb_neg (by omega)]
  refine zr_iload_n dX7_fill_14 (rfl : 14 + 1 = 15) rfl ?_
  refine zr_if_eq (tgt := 35) dX7_fill_15 (by decide) (rfl : 15 + 3 = 18) (by first | exact jb_iff | exact jI_z (by first | omega | (simp only [bset, reduceIte, Nat.reduceEqDiff]; omega)) (by first | omega | (simp only [bset, reduceIte, Nat.reduceEqDiff]; omega))) (fun h15 => ?_) (fun h15 => ?_)
  · first
    | (exfalso; omega)
    | (
      refine zr_iconst dX7_fill_35 (rfl : 35 + 1 = 36) ?_
      refine zr_fnV dX7_fill_36 (rfl : 36 + 3 = 39) l_X7_60 (m_go2 _) (by first | assumption | exact mw_167 | exact mw_168 | exact mw_169 | exact mw_170 | exact bk_0 | exact bk_1 | exact bk_2 | exact bk_3 | exact bk_4 | exact bk_5 | exact bk_6 | exact bk_7 | exact bk_8 | exact bk_9 | exact bk_10 | exact bk_11 | exact bk_12 | exact bk_13 | exact bk_14 | exact bk_15 | exact bk_16 | exact zup_self | exact (zup_ne (by first | assumption | omega)).trans (by first | assumption | exact zup_self) | exact (zup_ne (by first | assumption | omega)).trans ((zup_ne (by first | assumption | omega)).trans (by first | assumption | exact zup_self)) | exact (bk_out (by first | omega | (simp only [bset, reduceIte, Nat.reduceEqDiff]; omega))).trans (by first | exact bk_0 | exact bk_1 | exact bk_2 | exact bk_3 | exact bk_4 | exact bk_5 | exact bk_6 | exact bk_7 | exact bk_8 | exact bk_9 | exact bk_10 | exact bk_11 | exact bk_12 | exact bk_13 | exact bk_14 | exact bk_15 | exact bk_16 | exact cr_5 | exact cr_23 | exact cr_24 | exact cr_25 | exact cr_26 | exact cr_27 | exact cr_28 | exact cr_29 | exact cr_30 | assumption)) rfl rfl rfl (Nat.le_of_ble_eq_true rfl) ?_
      refine zr_if_ne (tgt := 44) dX7_fill_39 (by decide) (rfl : 39 + 3 = 42) (by first | exact jb_iff | exact jI_z (by first | omega | (simp only [bset, reduceIte, Nat.reduceEqDiff]; omega)) (by first | omega | (simp only [bset, reduceIte, Nat.reduceEqDiff]; omega))) (fun h39 => ?_) (fun h39 => ?_)
      · first
        | (exfalso; omega)
        | (
          exfalso
          omega)
      · first
        | (exfalso; omega)
        | (
          refine zr_iconst dX7_fill_42 (rfl : 42 + 1 = 43) ?_
          refine zr_ireE dX7_fill_43 rfl rfl ?_
          exact ⟨rfl, S, ik, hR, rfl⟩))
  · first
    | (exfalso; omega)
    | (
      refine zr_aload_n dX7_fill_18 (rfl : 18 + 1 = 19) rfl ?_
      refine zr_getf dX7_fill_19 (rfl : 19 + 3 = 22) f_X7_7 (by first | assumption | exact mw_167 | exact mw_168 | exact mw_169 | exact mw_170 | exact bk_0 | exact bk_1 | exact bk_2 | exact bk_3 | exact bk_4 | exact bk_5 | exact bk_6 | exact bk_7 | exact bk_8 | exact bk_9 | exact bk_10 | exact bk_11 | exact bk_12 | exact bk_13 | exact bk_14 | exact bk_15 | exact bk_16 | exact zup_self | exact (zup_ne (by first | assumption | omega)).trans (by first | assumption | exact zup_self) | exact (zup_ne (by first | assumption | omega)).trans ((zup_ne (by first | assumption | omega)).trans (by first | assumption | exact zup_self)) | exact (bk_out (by first | omega | (simp only [bset, reduceIte, Nat.reduceEqDiff]; omega))).trans (by first | exact bk_0 | exact bk_1 | exact bk_2 | exact bk_3 | exact bk_4 | exact bk_5 | exact bk_6 | exact bk_7 | exact bk_8 | exact bk_9 | exact bk_10 | exact bk_11 | exact bk_12 | exact bk_13 | exact bk_14 | exact bk_15 | exact bk_16 | exact cr_5 | exact cr_23 | exact cr_24 | exact cr_25 | exact cr_26 | exact cr_27 | exact cr_28 | exact cr_29 | exact cr_30 | assumption)) rfl ?_
      refine zr_sipush dX7_fill_22 (rfl : 22 + 3 = 25) (by decide) ?_
      refine zr_iload_n dX7_fill_25 (rfl : 25 + 1 = 26) rfl ?_
      refine zr_iadd dX7_fill_26 (rfl : 26 + 1 = 27) (by first | exact jI_add _ _ | rfl) ?_
      refine zr_iald dX7_fill_27 (rfl : 27 + 1 = 28) (by first | assumption | exact mw_167 | exact mw_168 | exact mw_169 | exact mw_170 | exact bk_0 | exact bk_1 | exact bk_2 | exact bk_3 | exact bk_4 | exact bk_5 | exact bk_6 | exact bk_7 | exact bk_8 | exact bk_9 | exact bk_10 | exact bk_11 | exact bk_12 | exact bk_13 | exact bk_14 | exact bk_15 | exact bk_16 | exact zup_self | exact (zup_ne (by first | assumption | omega)).trans (by first | assumption | exact zup_self) | exact (zup_ne (by first | assumption | omega)).trans ((zup_ne (by first | assumption | omega)).trans (by first | assumption | exact zup_self)) | exact (bk_out (by first | omega | (simp only [bset, reduceIte, Nat.reduceEqDiff]; omega))).trans (by first | exact bk_0 | exact bk_1 | exact bk_2 | exact bk_3 | exact bk_4 | exact bk_5 | exact bk_6 | exact bk_7 | exact bk_8 | exact bk_9 | exact bk_10 | exact bk_11 | exact bk_12 | exact bk_13 | exact bk_14 | exact bk_15 | exact bk_16 | exact cr_5 | exact cr_23 | exact cr_24 | exact cr_25 | exact cr_26 | exact cr_27 | exact cr_28 | exact cr_29 | exact cr_30 | assumption)) (by decide) (by first | omega | (simp only [bset, reduceIte, Nat.reduceEqDiff]; omega)) (by first | omega | (simp only [bset, reduceIte, Nat.reduceEqDiff]; omega)) ?_
      rw [hbo]
      refine zr_if_ne (tgt := 35) dX7_fill_28 (by decide) (rfl : 28 + 3 = 31) (by first | exact jb_iff | exact jI_z (by first | omega | (simp only [bset, reduceIte, Nat.reduceEqDiff]; omega)) (by first | omega | (simp only [bset, reduceIte, Nat.reduceEqDiff]; omega))) (fun h28 => ?_) (fun h28 => ?_)
      · first
        | (exfalso; omega)
        | (
          refine zr_iconst dX7_fill_35 (rfl : 35 + 1 = 36) ?_
          refine zr_fnV dX7_fill_36 (rfl : 36 + 3 = 39) l_X7_60 (m_go2 _) (by first | assumption | exact mw_167 | exact mw_168 | exact mw_169 | exact mw_170 | exact bk_0 | exact bk_1 | exact bk_2 | exact bk_3 | exact bk_4 | exact bk_5 | exact bk_6 | exact bk_7 | exact bk_8 | exact bk_9 | exact bk_10 | exact bk_11 | exact bk_12 | exact bk_13 | exact bk_14 | exact bk_15 | exact bk_16 | exact zup_self | exact (zup_ne (by first | assumption | omega)).trans (by first | assumption | exact zup_self) | exact (zup_ne (by first | assumption | omega)).trans ((zup_ne (by first | assumption | omega)).trans (by first | assumption | exact zup_self)) | exact (bk_out (by first | omega | (simp only [bset, reduceIte, Nat.reduceEqDiff]; omega))).trans (by first | exact bk_0 | exact bk_1 | exact bk_2 | exact bk_3 | exact bk_4 | exact bk_5 | exact bk_6 | exact bk_7 | exact bk_8 | exact bk_9 | exact bk_10 | exact bk_11 | exact bk_12 | exact bk_13 | exact bk_14 | exact bk_15 | exact bk_16 | exact cr_5 | exact cr_23 | exact cr_24 | exact cr_25 | exact cr_26 | exact cr_27 | exact cr_28 | exact cr_29 | exact cr_30 | assumption)) rfl rfl rfl (Nat.le_of_ble_eq_true rfl) ?_
          refine zr_if_ne (tgt := 44) dX7_fill_39 (by decide) (rfl : 39 + 3 = 42) (by first | exact jb_iff | exact jI_z (by first | omega | (simp only [bset, reduceIte, Nat.reduceEqDiff]; omega)) (by first | omega | (simp only [bset, reduceIte, Nat.reduceEqDiff]; omega))) (fun h39 => ?_) (fun h39 => ?_)
          · first
            | (exfalso; omega)
            | (
              exfalso
              omega)
          · first
            | (exfalso; omega)
            | (
              refine zr_iconst dX7_fill_42 (rfl : 42 + 1 = 43) ?_
              refine zr_ireE dX7_fill_43 rfl rfl ?_
              exact ⟨rfl, S, ik, hR, rfl⟩))
      · first
        | (exfalso; omega)
        | (
          refine zr_iconst dX7_fill_31 (rfl : 31 + 1 = 32) ?_
          refine zr_goto (tgt := 36) dX7_fill_32 (by decide) ?_
          refine zr_fnV dX7_fill_36 (rfl : 36 + 3 = 39) l_X7_60 (m_go2 _) (by first | assumption | exact mw_167 | exact mw_168 | exact mw_169 | exact mw_170 | exact bk_0 | exact bk_1 | exact bk_2 | exact bk_3 | exact bk_4 | exact bk_5 | exact bk_6 | exact bk_7 | exact bk_8 | exact bk_9 | exact bk_10 | exact bk_11 | exact bk_12 | exact bk_13 | exact bk_14 | exact bk_15 | exact bk_16 | exact zup_self | exact (zup_ne (by first | assumption | omega)).trans (by first | assumption | exact zup_self) | exact (zup_ne (by first | assumption | omega)).trans ((zup_ne (by first | assumption | omega)).trans (by first | assumption | exact zup_self)) | exact (bk_out (by first | omega | (simp only [bset, reduceIte, Nat.reduceEqDiff]; omega))).trans (by first | exact bk_0 | exact bk_1 | exact bk_2 | exact bk_3 | exact bk_4 | exact bk_5 | exact bk_6 | exact bk_7 | exact bk_8 | exact bk_9 | exact bk_10 | exact bk_11 | exact bk_12 | exact bk_13 | exact bk_14 | exact bk_15 | exact bk_16 | exact cr_5 | exact cr_23 | exact cr_24 | exact cr_25 | exact cr_26 | exact cr_27 | exact cr_28 | exact cr_29 | exact cr_30 | assumption)) rfl rfl rfl (Nat.le_of_ble_eq_true rfl) ?_
          refine zr_if_ne (tgt := 44) dX7_fill_39 (by decide) (rfl : 39 + 3 = 42) (by first | exact jb_iff | exact jI_z (by first | omega | (simp only [bset, reduceIte, Nat.reduceEqDiff]; omega)) (by first | omega | (simp only [bset, reduceIte, Nat.reduceEqDiff]; omega))) (fun h39 => ?_) (fun h39 => ?_)
          · first
            | (exfalso; omega)
            | (
              exfalso
              omega)
          · first
            | (exfalso; omega)
            | (
              refine zr_iconst dX7_fill_42 (rfl : 42 + 1 = 43) ?_
              refine zr_ireE dX7_fill_43 rfl rfl ?_
              exact ⟨rfl, S, ik, hR, rfl⟩)))
theorem p_fill3 (c m : Int) (hp : 0 ≤ c ∧ c < 6) (h2 : 1 ≤ m ∧ m ≤ 60) (h3 : jbit (B 11 0) c = 1) (hR : zRel B σ S ik) : zFe Γ md_X7_fill (d + 8) [.ref 167, .int (jI c), .int (jI m)] (mw S σ.sc ik th σ.T σ.L w) (zMQ (some (.int (jI 0))) 3 B σ w) := by
  obtain ⟨ok, lk, pk, ck, lx, h, hsv, hkp⟩ := hR
  have hR : zRel B σ S ik := ⟨ok, lk, pk, ck, lx, h, hsv, hkp⟩
  have hbo := h.bo0 c hp.1 hp.2
  have hbr := jbit_r (B 11 0) c
  refine zFe.of_run (lv := [some (.ref 167), some (.int (jI c)), some (.int (jI m)), none, none, none, none, none, none]) (by decide) rfl (Nat.le_of_ble_eq_true rfl) rfl (fun n9 g9 => ?_)
  refine zr_iload_n dX7_fill_0 (rfl : 0 + 1 = 1) rfl ?_
  refine zr_fnS dX7_fill_1 (rfl : 1 + 3 = 4) l_X7_50 (m_isCard c (by first | omega | (simp only [bset, reduceIte, Nat.reduceEqDiff]; omega))) rfl rfl (Nat.le_of_ble_eq_true rfl) ?_
  rw [jb_pos (by omega)]
  refine zr_istore_n (lv' := [_, _, _, _, _, _, _, _, _]) dX7_fill_4 (rfl : 4 + 1 = 5) (Nat.le_of_ble_eq_true rfl) rfl ?_
  refine zr_aload_n dX7_fill_5 (rfl : 5 + 1 = 6) rfl ?_
  refine zr_iload_n dX7_fill_6 (rfl : 6 + 1 = 7) rfl ?_
  refine zr_iload_n dX7_fill_7 (rfl : 7 + 1 = 8) rfl ?_
  refine zr_iconst dX7_fill_8 (rfl : 8 + 1 = 9) ?_
  refine zr_bipush dX7_fill_9 (rfl : 9 + 2 = 11) (by decide) ?_
  refine zr_fnS dX7_fill_11 (rfl : 11 + 3 = 14) l_X7_32 (m_in m 1 60 (by first | omega | (simp only [bset, reduceIte, Nat.reduceEqDiff]; omega)) (by first | omega | (simp only [bset, reduceIte, Nat.reduceEqDiff]; omega)) (by first | omega | (simp only [bset, reduceIte, Nat.reduceEqDiff]; omega))) rfl rfl (Nat.le_of_ble_eq_true rfl) ?_
  rw [jb_pos (by omega)]
  refine zr_iload_n dX7_fill_14 (rfl : 14 + 1 = 15) rfl ?_
  refine zr_if_eq (tgt := 35) dX7_fill_15 (by decide) (rfl : 15 + 3 = 18) (by first | exact jb_iff | exact jI_z (by first | omega | (simp only [bset, reduceIte, Nat.reduceEqDiff]; omega)) (by first | omega | (simp only [bset, reduceIte, Nat.reduceEqDiff]; omega))) (fun h15 => ?_) (fun h15 => ?_)
  · first
    | (exfalso; omega)
    | (
      refine zr_iconst dX7_fill_35 (rfl : 35 + 1 = 36) ?_
      refine zr_fnV dX7_fill_36 (rfl : 36 + 3 = 39) l_X7_60 (m_go3) (by first | assumption | exact mw_167 | exact mw_168 | exact mw_169 | exact mw_170 | exact bk_0 | exact bk_1 | exact bk_2 | exact bk_3 | exact bk_4 | exact bk_5 | exact bk_6 | exact bk_7 | exact bk_8 | exact bk_9 | exact bk_10 | exact bk_11 | exact bk_12 | exact bk_13 | exact bk_14 | exact bk_15 | exact bk_16 | exact zup_self | exact (zup_ne (by first | assumption | omega)).trans (by first | assumption | exact zup_self) | exact (zup_ne (by first | assumption | omega)).trans ((zup_ne (by first | assumption | omega)).trans (by first | assumption | exact zup_self)) | exact (bk_out (by first | omega | (simp only [bset, reduceIte, Nat.reduceEqDiff]; omega))).trans (by first | exact bk_0 | exact bk_1 | exact bk_2 | exact bk_3 | exact bk_4 | exact bk_5 | exact bk_6 | exact bk_7 | exact bk_8 | exact bk_9 | exact bk_10 | exact bk_11 | exact bk_12 | exact bk_13 | exact bk_14 | exact bk_15 | exact bk_16 | exact cr_5 | exact cr_23 | exact cr_24 | exact cr_25 | exact cr_26 | exact cr_27 | exact cr_28 | exact cr_29 | exact cr_30 | assumption)) rfl rfl rfl (Nat.le_of_ble_eq_true rfl) ?_
      refine zr_if_ne (tgt := 44) dX7_fill_39 (by decide) (rfl : 39 + 3 = 42) (by first | exact jb_iff | exact jI_z (by first | omega | (simp only [bset, reduceIte, Nat.reduceEqDiff]; omega)) (by first | omega | (simp only [bset, reduceIte, Nat.reduceEqDiff]; omega))) (fun h39 => ?_) (fun h39 => ?_)
      · first
        | (exfalso; omega)
        | (
          exfalso
          omega)
      · first
        | (exfalso; omega)
        | (
          refine zr_iconst dX7_fill_42 (rfl : 42 + 1 = 43) ?_
          refine zr_ireE dX7_fill_43 rfl rfl ?_
          exact ⟨rfl, S, ik, hR, rfl⟩))
  · first
    | (exfalso; omega)
    | (
      refine zr_aload_n dX7_fill_18 (rfl : 18 + 1 = 19) rfl ?_
      refine zr_getf dX7_fill_19 (rfl : 19 + 3 = 22) f_X7_7 (by first | assumption | exact mw_167 | exact mw_168 | exact mw_169 | exact mw_170 | exact bk_0 | exact bk_1 | exact bk_2 | exact bk_3 | exact bk_4 | exact bk_5 | exact bk_6 | exact bk_7 | exact bk_8 | exact bk_9 | exact bk_10 | exact bk_11 | exact bk_12 | exact bk_13 | exact bk_14 | exact bk_15 | exact bk_16 | exact zup_self | exact (zup_ne (by first | assumption | omega)).trans (by first | assumption | exact zup_self) | exact (zup_ne (by first | assumption | omega)).trans ((zup_ne (by first | assumption | omega)).trans (by first | assumption | exact zup_self)) | exact (bk_out (by first | omega | (simp only [bset, reduceIte, Nat.reduceEqDiff]; omega))).trans (by first | exact bk_0 | exact bk_1 | exact bk_2 | exact bk_3 | exact bk_4 | exact bk_5 | exact bk_6 | exact bk_7 | exact bk_8 | exact bk_9 | exact bk_10 | exact bk_11 | exact bk_12 | exact bk_13 | exact bk_14 | exact bk_15 | exact bk_16 | exact cr_5 | exact cr_23 | exact cr_24 | exact cr_25 | exact cr_26 | exact cr_27 | exact cr_28 | exact cr_29 | exact cr_30 | assumption)) rfl ?_
      refine zr_sipush dX7_fill_22 (rfl : 22 + 3 = 25) (by decide) ?_
      refine zr_iload_n dX7_fill_25 (rfl : 25 + 1 = 26) rfl ?_
      refine zr_iadd dX7_fill_26 (rfl : 26 + 1 = 27) (by first | exact jI_add _ _ | rfl) ?_
      refine zr_iald dX7_fill_27 (rfl : 27 + 1 = 28) (by first | assumption | exact mw_167 | exact mw_168 | exact mw_169 | exact mw_170 | exact bk_0 | exact bk_1 | exact bk_2 | exact bk_3 | exact bk_4 | exact bk_5 | exact bk_6 | exact bk_7 | exact bk_8 | exact bk_9 | exact bk_10 | exact bk_11 | exact bk_12 | exact bk_13 | exact bk_14 | exact bk_15 | exact bk_16 | exact zup_self | exact (zup_ne (by first | assumption | omega)).trans (by first | assumption | exact zup_self) | exact (zup_ne (by first | assumption | omega)).trans ((zup_ne (by first | assumption | omega)).trans (by first | assumption | exact zup_self)) | exact (bk_out (by first | omega | (simp only [bset, reduceIte, Nat.reduceEqDiff]; omega))).trans (by first | exact bk_0 | exact bk_1 | exact bk_2 | exact bk_3 | exact bk_4 | exact bk_5 | exact bk_6 | exact bk_7 | exact bk_8 | exact bk_9 | exact bk_10 | exact bk_11 | exact bk_12 | exact bk_13 | exact bk_14 | exact bk_15 | exact bk_16 | exact cr_5 | exact cr_23 | exact cr_24 | exact cr_25 | exact cr_26 | exact cr_27 | exact cr_28 | exact cr_29 | exact cr_30 | assumption)) (by decide) (by first | omega | (simp only [bset, reduceIte, Nat.reduceEqDiff]; omega)) (by first | omega | (simp only [bset, reduceIte, Nat.reduceEqDiff]; omega)) ?_
      rw [hbo]
      refine zr_if_ne (tgt := 35) dX7_fill_28 (by decide) (rfl : 28 + 3 = 31) (by first | exact jb_iff | exact jI_z (by first | omega | (simp only [bset, reduceIte, Nat.reduceEqDiff]; omega)) (by first | omega | (simp only [bset, reduceIte, Nat.reduceEqDiff]; omega))) (fun h28 => ?_) (fun h28 => ?_)
      · first
        | (exfalso; omega)
        | (
          refine zr_iconst dX7_fill_35 (rfl : 35 + 1 = 36) ?_
          refine zr_fnV dX7_fill_36 (rfl : 36 + 3 = 39) l_X7_60 (m_go3) (by first | assumption | exact mw_167 | exact mw_168 | exact mw_169 | exact mw_170 | exact bk_0 | exact bk_1 | exact bk_2 | exact bk_3 | exact bk_4 | exact bk_5 | exact bk_6 | exact bk_7 | exact bk_8 | exact bk_9 | exact bk_10 | exact bk_11 | exact bk_12 | exact bk_13 | exact bk_14 | exact bk_15 | exact bk_16 | exact zup_self | exact (zup_ne (by first | assumption | omega)).trans (by first | assumption | exact zup_self) | exact (zup_ne (by first | assumption | omega)).trans ((zup_ne (by first | assumption | omega)).trans (by first | assumption | exact zup_self)) | exact (bk_out (by first | omega | (simp only [bset, reduceIte, Nat.reduceEqDiff]; omega))).trans (by first | exact bk_0 | exact bk_1 | exact bk_2 | exact bk_3 | exact bk_4 | exact bk_5 | exact bk_6 | exact bk_7 | exact bk_8 | exact bk_9 | exact bk_10 | exact bk_11 | exact bk_12 | exact bk_13 | exact bk_14 | exact bk_15 | exact bk_16 | exact cr_5 | exact cr_23 | exact cr_24 | exact cr_25 | exact cr_26 | exact cr_27 | exact cr_28 | exact cr_29 | exact cr_30 | assumption)) rfl rfl rfl (Nat.le_of_ble_eq_true rfl) ?_
          refine zr_if_ne (tgt := 44) dX7_fill_39 (by decide) (rfl : 39 + 3 = 42) (by first | exact jb_iff | exact jI_z (by first | omega | (simp only [bset, reduceIte, Nat.reduceEqDiff]; omega)) (by first | omega | (simp only [bset, reduceIte, Nat.reduceEqDiff]; omega))) (fun h39 => ?_) (fun h39 => ?_)
          · first
            | (exfalso; omega)
            | (
              exfalso
              omega)
          · first
            | (exfalso; omega)
            | (
              refine zr_iconst dX7_fill_42 (rfl : 42 + 1 = 43) ?_
              refine zr_ireE dX7_fill_43 rfl rfl ?_
              exact ⟨rfl, S, ik, hR, rfl⟩))
      · first
        | (exfalso; omega)
        | (
          exfalso
          omega))
theorem p_fill (c m : Int) (hp : 0 ≤ c ∧ c < 6) (h2 : 1 ≤ m ∧ m ≤ 60) (h3 : jbit (B 11 0) c ≠ 1) (hR : zRel B σ S ik) : zFe Γ md_X7_fill (d + 8) [.ref 167, .int (jI c), .int (jI m)] (mw S σ.sc ik th σ.T σ.L w) (zMQ (some (.int (jI (jflB c m.toNat B).2))) 0 (jflB c m.toNat B).1 (jsv σ B) w) := by
  obtain ⟨ok, lk, pk, ck, lx, h, hsv, hkp⟩ := hR
  have hR : zRel B σ S ik := ⟨ok, lk, pk, ck, lx, h, hsv, hkp⟩
  have hbo := h.bo0 c hp.1 hp.2
  have hbr := jbit_r (B 11 0) c
  have hR2 := zRel_save hR
  have hm2 : mr (jsv2 S σ.sc) 0 B := hR2.2.2.2.2.2.1
  have stuck : ∀ i : Nat, i ≤ m.toNat → jall (jfree (jflB c i B).1) = 0 → jflB c m.toNat B = jflB c i B := fun i hi hs => by
    have := jflB_stuck (c := c) (n := i) (B := B) hs (m.toNat - i)
    rw [show i + (m.toNat - i) = m.toNat by omega] at this
    exact this
  refine zFe.of_run (lv := [some (.ref 167), some (.int (jI c)), some (.int (jI m)), none, none, none, none, none, none]) (by decide) rfl (Nat.le_of_ble_eq_true rfl) rfl (fun n9 g9 => ?_)
  have key : zRun Γ md_X7_fill (d + 8) none 54 [some (.ref 167), some (.int (jI c)), some (.int (jI m)), some (.int (jI 1)), some (.int (jI 0)), some (.int (jI 0)), none, none, none] [] (n9, g9, 0, 0) (mw (jsv2 S σ.sc) (jst2 σ.sc + 1) ik 0 σ.T σ.L w) (zPost md_X7_fill (zMQ (some (.int (jI (jflB c m.toNat B).2))) 0 (jflB c m.toNat B).1 (jsv σ B) w) n9 g9) := by
    refine zfor1 0 m.toNat (fun i (a : Int × (Int → Int) × Option Value × Option Value × Option Value) => a.1 = (jflB c i.toNat B).2 ∧ jagb 0 a.2.1 (jsv2 S σ.sc) ∧ mr a.2.1 0 (jflB c i.toNat B).1) (fun i a => [some (.ref 167), some (.int (jI c)), some (.int (jI m)), some (.int (jI 1)), some (.int (jI a.1)), some (.int (jI i)), a.2.2.1, a.2.2.2.1, a.2.2.2.2]) (fun _ a => mw a.2.1 (jst2 σ.sc + 1) ik 0 σ.T σ.L w) (0, jsv2 S σ.sc, none, none, none) ⟨rfl, jagb.refl, hm2⟩ ?_ ?_
    · intro i a i0 i1 hI hk
      obtain ⟨x, S1, o6, o7, o8⟩ := a
      obtain ⟨hx, ag, hm1⟩ := hI
      simp only at hx ag hm1 ⊢
      have hk2 := fun (x' : Int) (S' : Int → Int) (a b e : Option Value) => hk (x', S', a, b, e)
      simp only at hk2
      clear hk
      have ok1 := jok_flB ok hp i.toNat
      have lk1 := jlk_flB ok lk hp i.toNat
      have pk1 := jpk_flB (c := c) pk i.toNat
      have hst := stuck i.toNat (by omega)
      rw [show (i + 1).toNat = i.toNat + 1 by omega, jflB_succ] at hk2
      generalize hJ : jflB c i.toNat B = J at hx hm1 hk2 ok1 lk1 pk1 hst
      clear hJ
      obtain ⟨B1, k1⟩ := J
      simp only at hx hm1 hk2 ok1 lk1 pk1 hst
      subst hx
      have hsz1 := lk1.sz
      have ha := jall_r (jfree B1)
      refine zr_iload dX7_fill_54 (rfl : 54 + 2 = 56) rfl ?_
      refine zr_iload_n dX7_fill_56 (rfl : 56 + 1 = 57) rfl ?_
      refine zr_icmp_ge (tgt := 150) dX7_fill_57 (by decide) (rfl : 57 + 3 = 60) (jI_le (by first | omega | (simp only [bset, reduceIte, Nat.reduceEqDiff]; omega)) (by first | omega | (simp only [bset, reduceIte, Nat.reduceEqDiff]; omega)) (by first | omega | (simp only [bset, reduceIte, Nat.reduceEqDiff]; omega)) (by first | omega | (simp only [bset, reduceIte, Nat.reduceEqDiff]; omega))) (fun h57 => ?_) (fun h57 => ?_)
      · exfalso; omega
      · refine zr_aload_n dX7_fill_60 (rfl : 60 + 1 = 61) rfl ?_
        refine zr_fnV dX7_fill_61 (rfl : 61 + 3 = 64) l_X7_70 (m_inBook hm1 ok1 lk1) (by first | assumption | exact mw_167 | exact mw_168 | exact mw_169 | exact mw_170 | exact bk_0 | exact bk_1 | exact bk_2 | exact bk_3 | exact bk_4 | exact bk_5 | exact bk_6 | exact bk_7 | exact bk_8 | exact bk_9 | exact bk_10 | exact bk_11 | exact bk_12 | exact bk_13 | exact bk_14 | exact bk_15 | exact bk_16 | exact zup_self | exact (zup_ne (by first | assumption | omega)).trans (by first | assumption | exact zup_self) | exact (zup_ne (by first | assumption | omega)).trans ((zup_ne (by first | assumption | omega)).trans (by first | assumption | exact zup_self)) | exact (bk_out (by first | omega | (simp only [bset, reduceIte, Nat.reduceEqDiff]; omega))).trans (by first | exact bk_0 | exact bk_1 | exact bk_2 | exact bk_3 | exact bk_4 | exact bk_5 | exact bk_6 | exact bk_7 | exact bk_8 | exact bk_9 | exact bk_10 | exact bk_11 | exact bk_12 | exact bk_13 | exact bk_14 | exact bk_15 | exact bk_16 | exact cr_5 | exact cr_23 | exact cr_24 | exact cr_25 | exact cr_26 | exact cr_27 | exact cr_28 | exact cr_29 | exact cr_30 | assumption)) rfl rfl rfl (Nat.le_of_ble_eq_true rfl) ?_
        refine zr_bipush dX7_fill_64 (rfl : 64 + 2 = 66) (by decide) ?_
        refine zr_icmp_ge (tgt := 150) dX7_fill_66 (by decide) (rfl : 66 + 3 = 69) (jI_le (by first | omega | (simp only [bset, reduceIte, Nat.reduceEqDiff]; omega)) (by first | omega | (simp only [bset, reduceIte, Nat.reduceEqDiff]; omega)) (by first | omega | (simp only [bset, reduceIte, Nat.reduceEqDiff]; omega)) (by first | omega | (simp only [bset, reduceIte, Nat.reduceEqDiff]; omega))) (fun h66 => ?_) (fun h66 => ?_)
        · rw [hst (by omega)]
          refine zr_iload dX7_fill_150 (rfl : 150 + 2 = 152) rfl ?_
          refine zr_ireE dX7_fill_152 rfl rfl ?_
          exact ⟨rfl, _, _, zRel_upd hR2 ok1 lk1 pk1 ag hm1, rfl⟩
        · have eT : 90 - B1 2 0 = jall (jfree B1) := by omega
          have hl := jlot_r ok1.lo
          have hq0 : 0 ≤ jlot (B1 24 0) % jall (jfree B1) := Int.emod_nonneg _ (by omega)
          have hq1 : jlot (B1 24 0) % jall (jfree B1) < jall (jfree B1) := Int.emod_lt_of_pos _ (by omega)
          have hn := jnth_spec (q := jfree B1) hq0 hq1
          have ok2 := jok_lot ok1 hl
          have lk2 := jlk_lot (x := jlot (B1 24 0)) lk1
          unfold jfl1 at hk2
          rw [if_neg (by omega)] at hk2
          refine zr_aload_n dX7_fill_69 (rfl : 69 + 1 = 70) rfl ?_
          refine zr_aload_n dX7_fill_70 (rfl : 70 + 1 = 71) rfl ?_
          refine zr_iconst dX7_fill_71 (rfl : 71 + 1 = 72) ?_
          refine zr_bipush dX7_fill_72 (rfl : 72 + 2 = 74) (by decide) ?_
          refine zr_aload_n dX7_fill_74 (rfl : 74 + 1 = 75) rfl ?_
          refine zr_fnV dX7_fill_75 (rfl : 75 + 3 = 78) l_X7_70 (m_inBook hm1 ok1 lk1) (by first | assumption | exact mw_167 | exact mw_168 | exact mw_169 | exact mw_170 | exact bk_0 | exact bk_1 | exact bk_2 | exact bk_3 | exact bk_4 | exact bk_5 | exact bk_6 | exact bk_7 | exact bk_8 | exact bk_9 | exact bk_10 | exact bk_11 | exact bk_12 | exact bk_13 | exact bk_14 | exact bk_15 | exact bk_16 | exact zup_self | exact (zup_ne (by first | assumption | omega)).trans (by first | assumption | exact zup_self) | exact (zup_ne (by first | assumption | omega)).trans ((zup_ne (by first | assumption | omega)).trans (by first | assumption | exact zup_self)) | exact (bk_out (by first | omega | (simp only [bset, reduceIte, Nat.reduceEqDiff]; omega))).trans (by first | exact bk_0 | exact bk_1 | exact bk_2 | exact bk_3 | exact bk_4 | exact bk_5 | exact bk_6 | exact bk_7 | exact bk_8 | exact bk_9 | exact bk_10 | exact bk_11 | exact bk_12 | exact bk_13 | exact bk_14 | exact bk_15 | exact bk_16 | exact cr_5 | exact cr_23 | exact cr_24 | exact cr_25 | exact cr_26 | exact cr_27 | exact cr_28 | exact cr_29 | exact cr_30 | assumption)) rfl rfl rfl (Nat.le_of_ble_eq_true rfl) ?_
          refine zr_isub dX7_fill_78 (rfl : 78 + 1 = 79) (by first | exact jI_sub _ _ | rfl) ?_
          rw [eT]
          refine zr_feV dX7_fill_79 (rfl : 79 + 3 = 82) l_X7_74 (m_lot 0 (jall (jfree B1)) (by decide) (by first | omega | (simp only [bset, reduceIte, Nat.reduceEqDiff]; omega)) hm1 ok1) (by first | assumption | exact mw_167 | exact mw_168 | exact mw_169 | exact mw_170 | exact bk_0 | exact bk_1 | exact bk_2 | exact bk_3 | exact bk_4 | exact bk_5 | exact bk_6 | exact bk_7 | exact bk_8 | exact bk_9 | exact bk_10 | exact bk_11 | exact bk_12 | exact bk_13 | exact bk_14 | exact bk_15 | exact bk_16 | exact zup_self | exact (zup_ne (by first | assumption | omega)).trans (by first | assumption | exact zup_self) | exact (zup_ne (by first | assumption | omega)).trans ((zup_ne (by first | assumption | omega)).trans (by first | assumption | exact zup_self)) | exact (bk_out (by first | omega | (simp only [bset, reduceIte, Nat.reduceEqDiff]; omega))).trans (by first | exact bk_0 | exact bk_1 | exact bk_2 | exact bk_3 | exact bk_4 | exact bk_5 | exact bk_6 | exact bk_7 | exact bk_8 | exact bk_9 | exact bk_10 | exact bk_11 | exact bk_12 | exact bk_13 | exact bk_14 | exact bk_15 | exact bk_16 | exact cr_5 | exact cr_23 | exact cr_24 | exact cr_25 | exact cr_26 | exact cr_27 | exact cr_28 | exact cr_29 | exact cr_30 | assumption)) rfl rfl rfl (Nat.le_of_ble_eq_true rfl) ?_
          rintro _ _ ⟨rfl, S79, hS79, rfl⟩
          obtain ⟨ag2, hm3⟩ := hS79
          have ag3 := ag2.trans ag
          have hfr := m_free (Γ := Γ) (d := d + 7) (B := bset B1 24 (fun _ => jlot (B1 24 0))) (st := jst2 σ.sc + 1) (ik := ik) (th := 0) (tx := σ.T) (ty := σ.L) (w := w) (jlot (B1 24 0) % jall (jfree B1)) ⟨hq0, hq1⟩ hm3 ok2
          rw [show jfree (bset B1 24 (fun _ => jlot (B1 24 0))) = jfree B1 from rfl] at hfr
          generalize jnth (jfree B1) (jlot (B1 24 0) % jall (jfree B1)) = N at hn hk2 hfr
          refine zr_fnV dX7_fill_82 (rfl : 82 + 3 = 85) l_X7_78 (hfr) (by first | assumption | exact mw_167 | exact mw_168 | exact mw_169 | exact mw_170 | exact bk_0 | exact bk_1 | exact bk_2 | exact bk_3 | exact bk_4 | exact bk_5 | exact bk_6 | exact bk_7 | exact bk_8 | exact bk_9 | exact bk_10 | exact bk_11 | exact bk_12 | exact bk_13 | exact bk_14 | exact bk_15 | exact bk_16 | exact zup_self | exact (zup_ne (by first | assumption | omega)).trans (by first | assumption | exact zup_self) | exact (zup_ne (by first | assumption | omega)).trans ((zup_ne (by first | assumption | omega)).trans (by first | assumption | exact zup_self)) | exact (bk_out (by first | omega | (simp only [bset, reduceIte, Nat.reduceEqDiff]; omega))).trans (by first | exact bk_0 | exact bk_1 | exact bk_2 | exact bk_3 | exact bk_4 | exact bk_5 | exact bk_6 | exact bk_7 | exact bk_8 | exact bk_9 | exact bk_10 | exact bk_11 | exact bk_12 | exact bk_13 | exact bk_14 | exact bk_15 | exact bk_16 | exact cr_5 | exact cr_23 | exact cr_24 | exact cr_25 | exact cr_26 | exact cr_27 | exact cr_28 | exact cr_29 | exact cr_30 | assumption)) rfl rfl rfl (Nat.le_of_ble_eq_true rfl) ?_
          refine zr_istore (lv' := [_, _, _, _, _, _, _, _, _]) dX7_fill_85 (rfl : 85 + 2 = 87) (Nat.le_of_ble_eq_true rfl) rfl ?_
          refine zr_iconst dX7_fill_87 (rfl : 87 + 1 = 88) ?_
          refine zr_istore (lv' := [_, _, _, _, _, _, _, _, _]) dX7_fill_88 (rfl : 88 + 2 = 90) (Nat.le_of_ble_eq_true rfl) rfl ?_
          refine zr_iconst dX7_fill_90 (rfl : 90 + 1 = 91) ?_
          refine zr_istore (lv' := [_, _, _, _, _, _, _, _, _]) dX7_fill_91 (rfl : 91 + 2 = 93) (Nat.le_of_ble_eq_true rfl) rfl ?_
          clear hfr
          generalize bset B1 24 (fun _ => jlot (B1 24 0)) = B2 at hm3 ok2 lk2 hk2
          have fin : ∀ (row p : Int) (S2 : Int → Int), jagb 0 S2 (jsv2 S σ.sc) → ((p = 0 ∧ mr S2 0 B2 ∧ jfrf B2 c N = -1) ∨ (p = 1 ∧ mr S2 0 (jst B2 (jfrf B2 c N) N) ∧ jfrf B2 c N ≠ -1)) → zRun Γ md_X7_fill (d + 8) none 129 [some (.ref 167), some (.int (jI c)), some (.int (jI m)), some (.int (jI 1)), some (.int (jI x)), some (.int (jI i)), some (.int (jI N)), some (.int (jI p)), some (.int (jI row))] [] (n9, g9, 0, 0) (mw S2 (jst2 σ.sc + 1) ik 0 σ.T σ.L w) (zPost md_X7_fill (zMQ (some (.int (jI (jflB c m.toNat B).2))) 0 (jflB c m.toNat B).1 (jsv σ B) w) n9 g9) := by
            intro row p S2 ag4 hp4
            rcases hp4 with ⟨rfl, h4, h5⟩ | ⟨rfl, h4, h5⟩
            · rw [if_pos h5] at hk2
              refine zr_iload dX7_fill_129 (rfl : 129 + 2 = 131) rfl ?_
              refine zr_iload dX7_fill_131 (rfl : 131 + 2 = 133) rfl ?_
              refine zr_if_eq (tgt := 140) dX7_fill_133 (by decide) (rfl : 133 + 3 = 136) (by first | exact jb_iff | exact jI_z (by first | omega | (simp only [bset, reduceIte, Nat.reduceEqDiff]; omega)) (by first | omega | (simp only [bset, reduceIte, Nat.reduceEqDiff]; omega))) (fun h133 => ?_) (fun h133 => ?_)
              · refine zr_iconst dX7_fill_140 (rfl : 140 + 1 = 141) ?_
                refine zr_iadd dX7_fill_141 (rfl : 141 + 1 = 142) (by first | exact jI_add _ _ | rfl) ?_
                refine zr_istore (lv' := [_, _, _, _, _, _, _, _, _]) dX7_fill_142 (rfl : 142 + 2 = 144) (Nat.le_of_ble_eq_true rfl) rfl ?_
                refine zr_iinc (lv' := [_, _, _, _, _, _, _, _, _]) dX7_fill_144 (rfl : 144 + 3 = 147) (Nat.le_of_ble_eq_true rfl) rfl (by first | exact jI_add _ _ | rfl) rfl ?_
                refine zr_goto (tgt := 54) dX7_fill_147 (by decide) ?_
                exact hk2 _ _ _ _ _ ⟨Int.add_zero _, ag4, h4⟩
              · exfalso; omega
            · rw [if_neg h5] at hk2
              refine zr_iload dX7_fill_129 (rfl : 129 + 2 = 131) rfl ?_
              refine zr_iload dX7_fill_131 (rfl : 131 + 2 = 133) rfl ?_
              refine zr_if_eq (tgt := 140) dX7_fill_133 (by decide) (rfl : 133 + 3 = 136) (by first | exact jb_iff | exact jI_z (by first | omega | (simp only [bset, reduceIte, Nat.reduceEqDiff]; omega)) (by first | omega | (simp only [bset, reduceIte, Nat.reduceEqDiff]; omega))) (fun h133 => ?_) (fun h133 => ?_)
              · exfalso; omega
              · refine zr_iconst dX7_fill_136 (rfl : 136 + 1 = 137) ?_
                refine zr_goto (tgt := 141) dX7_fill_137 (by decide) ?_
                refine zr_iadd dX7_fill_141 (rfl : 141 + 1 = 142) (by first | exact jI_add _ _ | rfl) ?_
                refine zr_istore (lv' := [_, _, _, _, _, _, _, _, _]) dX7_fill_142 (rfl : 142 + 2 = 144) (Nat.le_of_ble_eq_true rfl) rfl ?_
                refine zr_iinc (lv' := [_, _, _, _, _, _, _, _, _]) dX7_fill_144 (rfl : 144 + 3 = 147) (Nat.le_of_ble_eq_true rfl) rfl (by first | exact jI_add _ _ | rfl) rfl ?_
                refine zr_goto (tgt := 54) dX7_fill_147 (by decide) ?_
                exact hk2 _ _ _ _ _ ⟨rfl, ag4, h4⟩
          refine zfor2 0 3 (fun row p S2 => jagb 0 S2 (jsv2 S σ.sc) ∧ ((p = 0 ∧ mr S2 0 B2 ∧ ∀ j, 0 ≤ j → j < row → jrap B2 (c * 3 + j) N ≠ 0) ∨ (p = 1 ∧ mr S2 0 (jst B2 (jfrf B2 c N) N) ∧ jfrf B2 c N ≠ -1))) (fun row p _ => [some (.ref 167), some (.int (jI c)), some (.int (jI m)), some (.int (jI 1)), some (.int (jI x)), some (.int (jI i)), some (.int (jI N)), some (.int (jI p)), some (.int (jI row))]) (fun _ _ S2 => mw S2 (jst2 σ.sc + 1) ik 0 σ.T σ.L w) 0 S79 ⟨ag3, Or.inl ⟨rfl, hm3, fun j j0 j1 => absurd j1 (by omega)⟩⟩ ?_ ?_
          · intro row p S2 r0 r1 hI hk
            obtain ⟨ag4, hp4⟩ := hI
            rcases hp4 with ⟨rfl, h4, h5⟩ | ⟨rfl, h4, h5⟩
            · have hjr := jrap_r B2 (c * 3 + row) N
              have hpu := m_puts (Γ := Γ) (d := d + 4) (st := jst2 σ.sc + 1) (ik := ik) (th := 0) (tx := σ.T) (ty := σ.L) (w := w) c row N hp ⟨r0, by omega⟩ ⟨hn.1, hn.2.1⟩ h4 ok2 lk2
              refine zr_iload dX7_fill_93 (rfl : 93 + 2 = 95) rfl ?_
              refine zr_iconst dX7_fill_95 (rfl : 95 + 1 = 96) ?_
              refine zr_icmp_ge (tgt := 129) dX7_fill_96 (by decide) (rfl : 96 + 3 = 99) (jI_le (by first | omega | (simp only [bset, reduceIte, Nat.reduceEqDiff]; omega)) (by first | omega | (simp only [bset, reduceIte, Nat.reduceEqDiff]; omega)) (by first | omega | (simp only [bset, reduceIte, Nat.reduceEqDiff]; omega)) (by first | omega | (simp only [bset, reduceIte, Nat.reduceEqDiff]; omega))) (fun h96 => ?_) (fun h96 => ?_)
              · exfalso; omega
              · refine zr_iload dX7_fill_99 (rfl : 99 + 2 = 101) rfl ?_
                refine zr_if_ne (tgt := 129) dX7_fill_101 (by decide) (rfl : 101 + 3 = 104) (by first | exact jb_iff | exact jI_z (by first | omega | (simp only [bset, reduceIte, Nat.reduceEqDiff]; omega)) (by first | omega | (simp only [bset, reduceIte, Nat.reduceEqDiff]; omega))) (fun h101 => ?_) (fun h101 => ?_)
                · exfalso; omega
                · refine zr_aload_n dX7_fill_104 (rfl : 104 + 1 = 105) rfl ?_
                  refine zr_iload_n dX7_fill_105 (rfl : 105 + 1 = 106) rfl ?_
                  refine zr_iload dX7_fill_106 (rfl : 106 + 2 = 108) rfl ?_
                  refine zr_iload dX7_fill_108 (rfl : 108 + 2 = 110) rfl ?_
                  refine zr_feV dX7_fill_110 (rfl : 110 + 3 = 113) l_X7_67 (hpu) (by first | assumption | exact mw_167 | exact mw_168 | exact mw_169 | exact mw_170 | exact bk_0 | exact bk_1 | exact bk_2 | exact bk_3 | exact bk_4 | exact bk_5 | exact bk_6 | exact bk_7 | exact bk_8 | exact bk_9 | exact bk_10 | exact bk_11 | exact bk_12 | exact bk_13 | exact bk_14 | exact bk_15 | exact bk_16 | exact zup_self | exact (zup_ne (by first | assumption | omega)).trans (by first | assumption | exact zup_self) | exact (zup_ne (by first | assumption | omega)).trans ((zup_ne (by first | assumption | omega)).trans (by first | assumption | exact zup_self)) | exact (bk_out (by first | omega | (simp only [bset, reduceIte, Nat.reduceEqDiff]; omega))).trans (by first | exact bk_0 | exact bk_1 | exact bk_2 | exact bk_3 | exact bk_4 | exact bk_5 | exact bk_6 | exact bk_7 | exact bk_8 | exact bk_9 | exact bk_10 | exact bk_11 | exact bk_12 | exact bk_13 | exact bk_14 | exact bk_15 | exact bk_16 | exact cr_5 | exact cr_23 | exact cr_24 | exact cr_25 | exact cr_26 | exact cr_27 | exact cr_28 | exact cr_29 | exact cr_30 | assumption)) rfl rfl rfl (Nat.le_of_ble_eq_true rfl) ?_
                  rintro _ _ ⟨rfl, S110, hS110, rfl⟩
                  obtain ⟨ag5, hm5⟩ := hS110
                  have ag6 := ag5.trans ag4
                  unfold jpl at hm5
                  refine zr_if_ne (tgt := 120) dX7_fill_113 (by decide) (rfl : 113 + 3 = 116) (by first | exact jb_iff | exact jI_z (by first | omega | (simp only [bset, reduceIte, Nat.reduceEqDiff]; omega)) (by first | omega | (simp only [bset, reduceIte, Nat.reduceEqDiff]; omega))) (fun h113 => ?_) (fun h113 => ?_)
                  · rw [if_neg (by omega)] at hm5
                    refine zr_iconst dX7_fill_120 (rfl : 120 + 1 = 121) ?_
                    refine zr_istore (lv' := [_, _, _, _, _, _, _, _, _]) dX7_fill_121 (rfl : 121 + 2 = 123) (Nat.le_of_ble_eq_true rfl) rfl ?_
                    refine zr_iinc (lv' := [_, _, _, _, _, _, _, _, _]) dX7_fill_123 (rfl : 123 + 3 = 126) (Nat.le_of_ble_eq_true rfl) rfl (by first | exact jI_add _ _ | rfl) rfl ?_
                    refine zr_goto (tgt := 93) dX7_fill_126 (by decide) ?_
                    refine hk _ _ ⟨ag6, Or.inl ⟨rfl, hm5, fun j j0 j1 => ?_⟩⟩
                    by_cases e : j = row
                    · rw [e]
                      omega
                    · exact h5 j j0 (by omega)
                  · have hz : jrap B2 (c * 3 + row) N = 0 := by omega
                    have hf := jfrf_at ⟨r0, by omega⟩ h5 hz
                    rw [if_pos hz, ← hf] at hm5
                    refine zr_iconst dX7_fill_116 (rfl : 116 + 1 = 117) ?_
                    refine zr_goto (tgt := 121) dX7_fill_117 (by decide) ?_
                    refine zr_istore (lv' := [_, _, _, _, _, _, _, _, _]) dX7_fill_121 (rfl : 121 + 2 = 123) (Nat.le_of_ble_eq_true rfl) rfl ?_
                    refine zr_iinc (lv' := [_, _, _, _, _, _, _, _, _]) dX7_fill_123 (rfl : 123 + 3 = 126) (Nat.le_of_ble_eq_true rfl) rfl (by first | exact jI_add _ _ | rfl) rfl ?_
                    refine zr_goto (tgt := 93) dX7_fill_126 (by decide) ?_
                    exact hk _ _ ⟨ag6, Or.inr ⟨rfl, hm5, by omega⟩⟩
            · refine zr_iload dX7_fill_93 (rfl : 93 + 2 = 95) rfl ?_
              refine zr_iconst dX7_fill_95 (rfl : 95 + 1 = 96) ?_
              refine zr_icmp_ge (tgt := 129) dX7_fill_96 (by decide) (rfl : 96 + 3 = 99) (jI_le (by first | omega | (simp only [bset, reduceIte, Nat.reduceEqDiff]; omega)) (by first | omega | (simp only [bset, reduceIte, Nat.reduceEqDiff]; omega)) (by first | omega | (simp only [bset, reduceIte, Nat.reduceEqDiff]; omega)) (by first | omega | (simp only [bset, reduceIte, Nat.reduceEqDiff]; omega))) (fun h96 => ?_) (fun h96 => ?_)
              · exfalso; omega
              · refine zr_iload dX7_fill_99 (rfl : 99 + 2 = 101) rfl ?_
                refine zr_if_ne (tgt := 129) dX7_fill_101 (by decide) (rfl : 101 + 3 = 104) (by first | exact jb_iff | exact jI_z (by first | omega | (simp only [bset, reduceIte, Nat.reduceEqDiff]; omega)) (by first | omega | (simp only [bset, reduceIte, Nat.reduceEqDiff]; omega))) (fun h101 => ?_) (fun h101 => ?_)
                · exact fin _ _ _ ag4 (Or.inr ⟨rfl, h4, h5⟩)
                · exfalso; omega
          · intro p S2 hI
            obtain ⟨ag4, hp4⟩ := hI
            refine zr_iload dX7_fill_93 (rfl : 93 + 2 = 95) rfl ?_
            refine zr_iconst dX7_fill_95 (rfl : 95 + 1 = 96) ?_
            refine zr_icmp_ge (tgt := 129) dX7_fill_96 (by decide) (rfl : 96 + 3 = 99) (jI_le (by first | omega | (simp only [bset, reduceIte, Nat.reduceEqDiff]; omega)) (by first | omega | (simp only [bset, reduceIte, Nat.reduceEqDiff]; omega)) (by first | omega | (simp only [bset, reduceIte, Nat.reduceEqDiff]; omega)) (by first | omega | (simp only [bset, reduceIte, Nat.reduceEqDiff]; omega))) (fun h96 => ?_) (fun h96 => ?_)
            · refine fin _ _ _ ag4 ?_
              rcases hp4 with ⟨h6, h4, h5⟩ | h6
              · exact Or.inl ⟨h6, h4, jfrf_no h5⟩
              · exact Or.inr h6
            · exfalso; omega
    · intro a hI
      obtain ⟨x, S1, o6, o7, o8⟩ := a
      obtain ⟨hx, ag, hm1⟩ := hI
      simp only at hx ag hm1 ⊢
      rw [show ((0 : Int) + (m.toNat : Int)) = m by omega] at hx hm1 ⊢
      have ok1 := jok_flB ok hp m.toNat
      have lk1 := jlk_flB ok lk hp m.toNat
      have pk1 := jpk_flB (c := c) pk m.toNat
      subst hx
      refine zr_iload dX7_fill_54 (rfl : 54 + 2 = 56) rfl ?_
      refine zr_iload_n dX7_fill_56 (rfl : 56 + 1 = 57) rfl ?_
      refine zr_icmp_ge (tgt := 150) dX7_fill_57 (by decide) (rfl : 57 + 3 = 60) (jI_le (by first | omega | (simp only [bset, reduceIte, Nat.reduceEqDiff]; omega)) (by first | omega | (simp only [bset, reduceIte, Nat.reduceEqDiff]; omega)) (by first | omega | (simp only [bset, reduceIte, Nat.reduceEqDiff]; omega)) (by first | omega | (simp only [bset, reduceIte, Nat.reduceEqDiff]; omega))) (fun h57 => ?_) (fun h57 => ?_)
      · refine zr_iload dX7_fill_150 (rfl : 150 + 2 = 152) rfl ?_
        refine zr_ireE dX7_fill_152 rfl rfl ?_
        exact ⟨rfl, _, _, zRel_upd hR2 ok1 lk1 pk1 ag hm1, rfl⟩
      · exfalso; omega
  refine zr_iload_n dX7_fill_0 (rfl : 0 + 1 = 1) rfl ?_
  refine zr_fnS dX7_fill_1 (rfl : 1 + 3 = 4) l_X7_50 (m_isCard c (by first | omega | (simp only [bset, reduceIte, Nat.reduceEqDiff]; omega))) rfl rfl (Nat.le_of_ble_eq_true rfl) ?_
  rw [jb_pos (by omega)]
  refine zr_istore_n (lv' := [_, _, _, _, _, _, _, _, _]) dX7_fill_4 (rfl : 4 + 1 = 5) (Nat.le_of_ble_eq_true rfl) rfl ?_
  refine zr_aload_n dX7_fill_5 (rfl : 5 + 1 = 6) rfl ?_
  refine zr_iload_n dX7_fill_6 (rfl : 6 + 1 = 7) rfl ?_
  refine zr_iload_n dX7_fill_7 (rfl : 7 + 1 = 8) rfl ?_
  refine zr_iconst dX7_fill_8 (rfl : 8 + 1 = 9) ?_
  refine zr_bipush dX7_fill_9 (rfl : 9 + 2 = 11) (by decide) ?_
  refine zr_fnS dX7_fill_11 (rfl : 11 + 3 = 14) l_X7_32 (m_in m 1 60 (by first | omega | (simp only [bset, reduceIte, Nat.reduceEqDiff]; omega)) (by first | omega | (simp only [bset, reduceIte, Nat.reduceEqDiff]; omega)) (by first | omega | (simp only [bset, reduceIte, Nat.reduceEqDiff]; omega))) rfl rfl (Nat.le_of_ble_eq_true rfl) ?_
  rw [jb_pos (by omega)]
  refine zr_iload_n dX7_fill_14 (rfl : 14 + 1 = 15) rfl ?_
  refine zr_if_eq (tgt := 35) dX7_fill_15 (by decide) (rfl : 15 + 3 = 18) (by first | exact jb_iff | exact jI_z (by first | omega | (simp only [bset, reduceIte, Nat.reduceEqDiff]; omega)) (by first | omega | (simp only [bset, reduceIte, Nat.reduceEqDiff]; omega))) (fun h15 => ?_) (fun h15 => ?_)
  · first
    | (exfalso; omega)
    | (
      exfalso
      omega)
  · first
    | (exfalso; omega)
    | (
      refine zr_aload_n dX7_fill_18 (rfl : 18 + 1 = 19) rfl ?_
      refine zr_getf dX7_fill_19 (rfl : 19 + 3 = 22) f_X7_7 (by first | assumption | exact mw_167 | exact mw_168 | exact mw_169 | exact mw_170 | exact bk_0 | exact bk_1 | exact bk_2 | exact bk_3 | exact bk_4 | exact bk_5 | exact bk_6 | exact bk_7 | exact bk_8 | exact bk_9 | exact bk_10 | exact bk_11 | exact bk_12 | exact bk_13 | exact bk_14 | exact bk_15 | exact bk_16 | exact zup_self | exact (zup_ne (by first | assumption | omega)).trans (by first | assumption | exact zup_self) | exact (zup_ne (by first | assumption | omega)).trans ((zup_ne (by first | assumption | omega)).trans (by first | assumption | exact zup_self)) | exact (bk_out (by first | omega | (simp only [bset, reduceIte, Nat.reduceEqDiff]; omega))).trans (by first | exact bk_0 | exact bk_1 | exact bk_2 | exact bk_3 | exact bk_4 | exact bk_5 | exact bk_6 | exact bk_7 | exact bk_8 | exact bk_9 | exact bk_10 | exact bk_11 | exact bk_12 | exact bk_13 | exact bk_14 | exact bk_15 | exact bk_16 | exact cr_5 | exact cr_23 | exact cr_24 | exact cr_25 | exact cr_26 | exact cr_27 | exact cr_28 | exact cr_29 | exact cr_30 | assumption)) rfl ?_
      refine zr_sipush dX7_fill_22 (rfl : 22 + 3 = 25) (by decide) ?_
      refine zr_iload_n dX7_fill_25 (rfl : 25 + 1 = 26) rfl ?_
      refine zr_iadd dX7_fill_26 (rfl : 26 + 1 = 27) (by first | exact jI_add _ _ | rfl) ?_
      refine zr_iald dX7_fill_27 (rfl : 27 + 1 = 28) (by first | assumption | exact mw_167 | exact mw_168 | exact mw_169 | exact mw_170 | exact bk_0 | exact bk_1 | exact bk_2 | exact bk_3 | exact bk_4 | exact bk_5 | exact bk_6 | exact bk_7 | exact bk_8 | exact bk_9 | exact bk_10 | exact bk_11 | exact bk_12 | exact bk_13 | exact bk_14 | exact bk_15 | exact bk_16 | exact zup_self | exact (zup_ne (by first | assumption | omega)).trans (by first | assumption | exact zup_self) | exact (zup_ne (by first | assumption | omega)).trans ((zup_ne (by first | assumption | omega)).trans (by first | assumption | exact zup_self)) | exact (bk_out (by first | omega | (simp only [bset, reduceIte, Nat.reduceEqDiff]; omega))).trans (by first | exact bk_0 | exact bk_1 | exact bk_2 | exact bk_3 | exact bk_4 | exact bk_5 | exact bk_6 | exact bk_7 | exact bk_8 | exact bk_9 | exact bk_10 | exact bk_11 | exact bk_12 | exact bk_13 | exact bk_14 | exact bk_15 | exact bk_16 | exact cr_5 | exact cr_23 | exact cr_24 | exact cr_25 | exact cr_26 | exact cr_27 | exact cr_28 | exact cr_29 | exact cr_30 | assumption)) (by decide) (by first | omega | (simp only [bset, reduceIte, Nat.reduceEqDiff]; omega)) (by first | omega | (simp only [bset, reduceIte, Nat.reduceEqDiff]; omega)) ?_
      rw [hbo]
      refine zr_if_ne (tgt := 35) dX7_fill_28 (by decide) (rfl : 28 + 3 = 31) (by first | exact jb_iff | exact jI_z (by first | omega | (simp only [bset, reduceIte, Nat.reduceEqDiff]; omega)) (by first | omega | (simp only [bset, reduceIte, Nat.reduceEqDiff]; omega))) (fun h28 => ?_) (fun h28 => ?_)
      · first
        | (exfalso; omega)
        | (
          exfalso
          omega)
      · first
        | (exfalso; omega)
        | (
          refine zr_iconst dX7_fill_31 (rfl : 31 + 1 = 32) ?_
          refine zr_goto (tgt := 36) dX7_fill_32 (by decide) ?_
          refine zr_fnV dX7_fill_36 (rfl : 36 + 3 = 39) l_X7_60 (m_go) (by first | assumption | exact mw_167 | exact mw_168 | exact mw_169 | exact mw_170 | exact bk_0 | exact bk_1 | exact bk_2 | exact bk_3 | exact bk_4 | exact bk_5 | exact bk_6 | exact bk_7 | exact bk_8 | exact bk_9 | exact bk_10 | exact bk_11 | exact bk_12 | exact bk_13 | exact bk_14 | exact bk_15 | exact bk_16 | exact zup_self | exact (zup_ne (by first | assumption | omega)).trans (by first | assumption | exact zup_self) | exact (zup_ne (by first | assumption | omega)).trans ((zup_ne (by first | assumption | omega)).trans (by first | assumption | exact zup_self)) | exact (bk_out (by first | omega | (simp only [bset, reduceIte, Nat.reduceEqDiff]; omega))).trans (by first | exact bk_0 | exact bk_1 | exact bk_2 | exact bk_3 | exact bk_4 | exact bk_5 | exact bk_6 | exact bk_7 | exact bk_8 | exact bk_9 | exact bk_10 | exact bk_11 | exact bk_12 | exact bk_13 | exact bk_14 | exact bk_15 | exact bk_16 | exact cr_5 | exact cr_23 | exact cr_24 | exact cr_25 | exact cr_26 | exact cr_27 | exact cr_28 | exact cr_29 | exact cr_30 | assumption)) rfl rfl rfl (Nat.le_of_ble_eq_true rfl) ?_
          refine zr_if_ne (tgt := 44) dX7_fill_39 (by decide) (rfl : 39 + 3 = 42) (by first | exact jb_iff | exact jI_z (by first | omega | (simp only [bset, reduceIte, Nat.reduceEqDiff]; omega)) (by first | omega | (simp only [bset, reduceIte, Nat.reduceEqDiff]; omega))) (fun h39 => ?_) (fun h39 => ?_)
          · first
            | (exfalso; omega)
            | (
              refine zr_aload_n dX7_fill_44 (rfl : 44 + 1 = 45) rfl ?_
              refine zr_fnV dX7_fill_45 (rfl : 45 + 3 = 48) l_X7_64 (m_saves ck.sc) (by first | assumption | exact mw_167 | exact mw_168 | exact mw_169 | exact mw_170 | exact bk_0 | exact bk_1 | exact bk_2 | exact bk_3 | exact bk_4 | exact bk_5 | exact bk_6 | exact bk_7 | exact bk_8 | exact bk_9 | exact bk_10 | exact bk_11 | exact bk_12 | exact bk_13 | exact bk_14 | exact bk_15 | exact bk_16 | exact zup_self | exact (zup_ne (by first | assumption | omega)).trans (by first | assumption | exact zup_self) | exact (zup_ne (by first | assumption | omega)).trans ((zup_ne (by first | assumption | omega)).trans (by first | assumption | exact zup_self)) | exact (bk_out (by first | omega | (simp only [bset, reduceIte, Nat.reduceEqDiff]; omega))).trans (by first | exact bk_0 | exact bk_1 | exact bk_2 | exact bk_3 | exact bk_4 | exact bk_5 | exact bk_6 | exact bk_7 | exact bk_8 | exact bk_9 | exact bk_10 | exact bk_11 | exact bk_12 | exact bk_13 | exact bk_14 | exact bk_15 | exact bk_16 | exact cr_5 | exact cr_23 | exact cr_24 | exact cr_25 | exact cr_26 | exact cr_27 | exact cr_28 | exact cr_29 | exact cr_30 | assumption)) rfl rfl rfl (Nat.le_of_ble_eq_true rfl) ?_
              refine zr_iconst dX7_fill_48 (rfl : 48 + 1 = 49) ?_
              refine zr_istore (lv' := [_, _, _, _, _, _, _, _, _]) dX7_fill_49 (rfl : 49 + 2 = 51) (Nat.le_of_ble_eq_true rfl) rfl ?_
              refine zr_iconst dX7_fill_51 (rfl : 51 + 1 = 52) ?_
              refine zr_istore (lv' := [_, _, _, _, _, _, _, _, _]) dX7_fill_52 (rfl : 52 + 2 = 54) (Nat.le_of_ble_eq_true rfl) rfl ?_
              exact key)
          · first
            | (exfalso; omega)
            | (
              exfalso
              omega)))
/-! the evening's end -/
theorem mr_coin {B1 : zB} {p q r k : Int} (h : mr S 0 (bset B1 18 (fun _ => q))) (hk : 0 ≤ k ∧ k < 6) (hca : B1 12 0 ≤ 90) : mr (jup S (470 + k) (B1 14 k + p)) 0 (bset (bset (bset B1 14 (jup (B1 14) k (B1 14 k + p))) 18 (fun _ => r)) 18 (fun _ => q)) := by
  have hcx : (bset B1 18 (fun _ => q)) 12 0 ≤ 90 := hca
  refine ⟨?_, ?_, ?_, ?_, ?_, ?_, ?_, ?_, ?_, ?_, ?_, ?_, ?_, ?_, ?_, ?_, ?_, ?_, ?_, ?_, ?_⟩
  · intro k h0 h1
    rw [jup_ne (by omega)]
    exact h.se k h0 h1
  · rw [jup_ne (by omega)]
    exact h.lo
  · intro n h0 h1
    rw [jup_ne (by omega)]
    exact h.pl n h0 h1
  · intro n h0 h1
    rw [jup_ne (by omega)]
    exact h.da n h0 h1
  · intro n h0 h1
    rw [jup_ne (by omega)]
    exact h.sa n h0 h1
  · intro k h0 h1
    have h1 : k < bset B1 18 (fun _ => q) 12 0 := h1
    rw [jup_ne (by omega)]
    exact h.dr k h0 h1
  · intro k h0 h1
    have h1 : k < bset B1 18 (fun _ => q) 12 0 := h1
    rw [jup_ne (by omega)]
    exact h.sd k h0 h1
  · rw [jup_ne (by omega)]
    exact h.ca
  · intro c h0 h1
    rw [jup_ne (by omega)]
    exact h.bo c h0 h1
  · intro c h0 h1
    rw [jup_ne (by omega)]
    exact h.wo c h0 h1
  · intro m h0 h1
    show _ = jup (B1 14) k (B1 14 k + p) m
    by_cases e : m = k
    · rw [jup_at (by omega), jup_at e]
    · rw [jup_ne (by omega), jup_ne e]
      exact h.co m h0 h1
  · intro c h0 h1
    rw [jup_ne (by omega)]
    exact h.dn c h0 h1
  · intro g h0 h1
    rw [jup_ne (by omega)]
    exact h.ga g h0 h1
  · rw [jup_ne (by omega)]
    exact h.po
  · rw [jup_ne (by omega)]
    exact h.ci
  · rw [jup_ne (by omega)]
    exact h.pa
  · rw [jup_ne (by omega)]
    exact h.ho
  · rw [jup_ne (by omega)]
    exact h.wi
  · rw [jup_ne (by omega)]
    exact h.tu
  · rw [jup_ne (by omega)]
    exact h.ev
  · rw [jup_ne (by omega)]
    exact h.sl
theorem mr_end {J : zB} {q x : Int} {S4 S' : Int → Int} (h : mr S4 0 (bset J 18 (fun _ => q))) (z1 : ∀ n, 0 ≤ n → n ≤ 90 → S' (95 + n) = 0 ∧ S' (186 + n) = 0) (z2 : ∀ c, 0 ≤ c → c < 6 → S' (458 + c) = 0 ∧ S' (464 + c) = 0) (z3 : ∀ g, 0 ≤ g → g < 4 → S' (482 + g) = 0) (z4 : S' 457 = 0) (z5 : S' 486 = 0) (z6 : S' 493 = 0) (a1 : S' 488 = S4 488 + (J 18 0 - q)) (a2 : S' 489 = S4 489 + x) (a3 : S' 492 = S4 492 + 1) (hr : ∀ z, (0 ≤ z ∧ z ≤ 94) ∨ (470 ≤ z ∧ z ≤ 481) ∨ z = 487 ∨ z = 490 ∨ z = 491 → S' z = S4 z) : mr S' 0 (jbeg (bset (bset (bset J 19 (fun _ => J 19 0 + x)) 16 (fun _ => 0)) 22 (fun _ => J 22 0 + 1))) := by
  refine ⟨?_, ?_, ?_, ?_, ?_, ?_, ?_, ?_, ?_, ?_, ?_, ?_, ?_, ?_, ?_, ?_, ?_, ?_, ?_, ?_, ?_⟩
  · intro k h0 h1
    rw [hr _ (by omega)]
    exact h.se k h0 h1
  · rw [hr _ (by omega)]
    exact h.lo
  · intro n h0 h1
    rw [hr _ (by omega)]
    exact h.pl n h0 h1
  · intro n h0 h1
    show _ = jfil 91 0 (J 7) n
    rw [show (0 : Int) + 95 + n = 95 + n by omega, (z1 n (by omega) h1).1, jfil_at (by omega)]
  · intro n h0 h1
    show _ = jfil 91 0 (J 8) n
    rw [show (0 : Int) + 186 + n = 186 + n by omega, (z1 n (by omega) h1).2, jfil_at (by omega)]
  · intro k h0 h1
    have h1 : k < 0 := h1
    omega
  · intro k h0 h1
    have h1 : k < 0 := h1
    omega
  · show _ = (0 : Int)
    rw [Int.zero_add, z4]
  · intro c h0 h1
    show _ = jbit 0 c
    rw [show (0 : Int) + 458 + c = 458 + c by omega, (z2 c h0 h1).1, jbit_0]
  · intro c h0 h1
    show _ = jgw (jfil 4 0 (J 9)) c
    rw [show (0 : Int) + 464 + c = 464 + c by omega, (z2 c h0 h1).2]
    unfold jgw
    rw [jfil_at (by decide), jfil_at (by decide), jfil_at (by decide), jfil_at (by decide), jbit_0]
    rfl
  · intro c h0 h1
    rw [hr _ (by omega)]
    exact h.co c h0 h1
  · intro c h0 h1
    rw [hr _ (by omega)]
    exact h.dn c h0 h1
  · intro g h0 h1
    show _ = jfil 4 0 (J 10) g
    rw [show (0 : Int) + 482 + g = 482 + g by omega, z3 g h0 h1, jfil_at (by omega)]
  · show _ = (0 : Int)
    rw [Int.zero_add, z5]
  · rw [hr _ (by omega)]
    exact h.ci
  · have e : S4 488 = q := h.pa0
    show _ = J 18 0
    rw [Int.zero_add, a1, e]
    omega
  · have e : S4 489 = J 19 0 := h.ho0
    show _ = J 19 0 + x
    rw [Int.zero_add, a2, e]
  · rw [hr _ (by omega)]
    exact h.wi
  · rw [hr _ (by omega)]
    exact h.tu
  · have e : S4 492 = J 22 0 := h.ev0
    show _ = J 22 0 + 1
    rw [Int.zero_add, a3, e]
  · show _ = (0 : Int)
    rw [Int.zero_add, z6]
def jS5 (S : Int → Int) (a b c : Int) : Int → Int := jup (jup (jup (jup (jup (jup S 488 a) 489 b) 492 c) 486 0) 457 0) 493 0
theorem jS5_eq {S : Int → Int} {a b c : Int} : jup (jup (jup (jup (jup (jup S 488 a) 489 b) 492 c) 486 0) 457 0) 493 0 = jS5 S a b c := rfl
theorem jS5_f (S : Int → Int) (a b c : Int) : (jS5 S a b c 457 = 0 ∧ jS5 S a b c 486 = 0 ∧ jS5 S a b c 493 = 0 ∧ jS5 S a b c 488 = a ∧ jS5 S a b c 489 = b ∧ jS5 S a b c 492 = c) ∧ ∀ z, z ≠ 457 → z ≠ 486 → z ≠ 493 → z ≠ 488 → z ≠ 489 → z ≠ 492 → jS5 S a b c z = S z := by
  unfold jS5
  refine ⟨⟨?_, ?_, ?_, ?_, ?_, ?_⟩, fun z z1 z2 z3 z4 z5 z6 => ?_⟩
  · rw [jup_ne (by decide), jup_at rfl]
  · rw [jup_ne (by decide), jup_ne (by decide), jup_at rfl]
  · rw [jup_at rfl]
  · rw [jup_ne (by decide), jup_ne (by decide), jup_ne (by decide), jup_ne (by decide), jup_ne (by decide), jup_at rfl]
  · rw [jup_ne (by decide), jup_ne (by decide), jup_ne (by decide), jup_ne (by decide), jup_at rfl]
  · rw [jup_ne (by decide), jup_ne (by decide), jup_ne (by decide), jup_at rfl]
  · rw [jup_ne z3, jup_ne z1, jup_ne z2, jup_ne z6, jup_ne z5, jup_ne z4]
theorem p_end (hR : zRel B σ S ik) : zFe Γ md_X7_end (d + 8) [.ref 167] (mw S σ.sc ik th σ.T σ.L w) (zMQ (some (.int (jI (jleft B)))) 0 (jend B) (jsv σ B) w) := by
  obtain ⟨ok, lk, pk, ck, lx, h, hsv, hkp⟩ := hR
  have hR : zRel B σ S ik := ⟨ok, lk, pk, ck, lx, h, hsv, hkp⟩
  have hR2 := zRel_save hR
  have hm2 : mr (jsv2 S σ.sc) 0 B := hR2.2.2.2.2.2.1
  have hfin := fun (S' : Int → Int) (ag : jagb 0 S' (jsv2 S σ.sc)) (hm : mr S' 0 (jend B)) => zRel_upd hR2 (jok_end ok) (jlk_end ok lk) (jpk_end pk) ag hm
  have hW := ok.W
  have hpot := ok.po2
  have hm3 : mr (jsv2 S σ.sc) 0 (bset (jpo 0 B) 18 (fun _ => B 18 0)) := by
    refine ⟨hm2.se, hm2.lo, hm2.pl, hm2.da, hm2.sa, hm2.dr, hm2.sd, hm2.ca, hm2.bo, hm2.wo, hm2.co, hm2.dn, hm2.ga, hm2.po, hm2.ci, hm2.pa, hm2.ho, hm2.wi, hm2.tu, hm2.ev, hm2.sl⟩
  refine zFe.of_run (lv := [some (.ref 167), none, none, none, none]) (by decide) rfl (Nat.le_of_ble_eq_true rfl) rfl (fun n9 g9 => ?_)
  refine zr_aload_n dX7_end_0 (rfl : 0 + 1 = 1) rfl ?_
  refine zr_iconst dX7_end_1 (rfl : 1 + 1 = 2) ?_
  refine zr_putf (fs' := [_, _, _, _, _, _]) dX7_end_2 (rfl : 2 + 3 = 5) f_X7_21 ft_7_3 (by first | assumption | exact mw_167 | exact mw_168 | exact mw_169 | exact mw_170 | exact bk_0 | exact bk_1 | exact bk_2 | exact bk_3 | exact bk_4 | exact bk_5 | exact bk_6 | exact bk_7 | exact bk_8 | exact bk_9 | exact bk_10 | exact bk_11 | exact bk_12 | exact bk_13 | exact bk_14 | exact bk_15 | exact bk_16 | exact zup_self | exact (zup_ne (by first | assumption | omega)).trans (by first | assumption | exact zup_self) | exact (zup_ne (by first | assumption | omega)).trans ((zup_ne (by first | assumption | omega)).trans (by first | assumption | exact zup_self)) | exact (bk_out (by first | omega | (simp only [bset, reduceIte, Nat.reduceEqDiff]; omega))).trans (by first | exact bk_0 | exact bk_1 | exact bk_2 | exact bk_3 | exact bk_4 | exact bk_5 | exact bk_6 | exact bk_7 | exact bk_8 | exact bk_9 | exact bk_10 | exact bk_11 | exact bk_12 | exact bk_13 | exact bk_14 | exact bk_15 | exact bk_16 | exact cr_5 | exact cr_23 | exact cr_24 | exact cr_25 | exact cr_26 | exact cr_27 | exact cr_28 | exact cr_29 | exact cr_30 | assumption)) (Nat.le_of_ble_eq_true rfl) rfl rfl rfl ?_
  rw [mwu_o]
  refine zr_aload_n dX7_end_5 (rfl : 5 + 1 = 6) rfl ?_
  refine zr_fnV dX7_end_6 (rfl : 6 + 3 = 9) l_X7_64 (m_saves ck.sc) (by first | assumption | exact mw_167 | exact mw_168 | exact mw_169 | exact mw_170 | exact bk_0 | exact bk_1 | exact bk_2 | exact bk_3 | exact bk_4 | exact bk_5 | exact bk_6 | exact bk_7 | exact bk_8 | exact bk_9 | exact bk_10 | exact bk_11 | exact bk_12 | exact bk_13 | exact bk_14 | exact bk_15 | exact bk_16 | exact zup_self | exact (zup_ne (by first | assumption | omega)).trans (by first | assumption | exact zup_self) | exact (zup_ne (by first | assumption | omega)).trans ((zup_ne (by first | assumption | omega)).trans (by first | assumption | exact zup_self)) | exact (bk_out (by first | omega | (simp only [bset, reduceIte, Nat.reduceEqDiff]; omega))).trans (by first | exact bk_0 | exact bk_1 | exact bk_2 | exact bk_3 | exact bk_4 | exact bk_5 | exact bk_6 | exact bk_7 | exact bk_8 | exact bk_9 | exact bk_10 | exact bk_11 | exact bk_12 | exact bk_13 | exact bk_14 | exact bk_15 | exact bk_16 | exact cr_5 | exact cr_23 | exact cr_24 | exact cr_25 | exact cr_26 | exact cr_27 | exact cr_28 | exact cr_29 | exact cr_30 | assumption)) rfl rfl rfl (Nat.le_of_ble_eq_true rfl) ?_
  generalize jsv2 S σ.sc = S0 at hfin hm3 ⊢
  clear hm2 hR2
  refine zr_iconst dX7_end_9 (rfl : 9 + 1 = 10) ?_
  refine zr_istore_n (lv' := [_, _, _, _, _]) dX7_end_10 (rfl : 10 + 1 = 11) (Nat.le_of_ble_eq_true rfl) rfl ?_
  refine zr_iconst dX7_end_11 (rfl : 11 + 1 = 12) ?_
  refine zr_istore_n (lv' := [_, _, _, _, _]) dX7_end_12 (rfl : 12 + 1 = 13) (Nat.le_of_ble_eq_true rfl) rfl ?_
  refine zfor1 0 4 (fun i (a : Int × (Int → Int) × Option Value × Option Value) => a.1 = jpo i.toNat B 18 0 - B 18 0 ∧ jagb 0 a.2.1 S0 ∧ mr a.2.1 0 (bset (jpo i.toNat B) 18 (fun _ => B 18 0))) (fun i a => [some (.ref 167), some (.int (jI a.1)), some (.int (jI i)), a.2.2.1, a.2.2.2]) (fun _ a => mw a.2.1 (jst2 σ.sc + 1) ik 0 σ.T σ.L w) (0, S0, none, none) ⟨by show (0 : Int) = B 18 0 - B 18 0; omega, jagb.refl, hm3⟩ ?_ ?_
  · intro i a i0 i1 hI hk
    obtain ⟨x, S1, o3, o4⟩ := a
    obtain ⟨hx, ag, hm⟩ := hI
    simp only at hx ag hm ⊢
    have hk2 := fun (x' : Int) (S' : Int → Int) (u v : Option Value) => hk (x', S', u, v)
    simp only at hk2
    clear hk
    have e9 : jpo i.toNat B 9 = B 9 := jpo_ne (by decide) (by decide) B _
    have e12 : jpo i.toNat B 12 = B 12 := jpo_ne (by decide) (by decide) B _
    have e16 : jpo i.toNat B 16 = B 16 := jpo_ne (by decide) (by decide) B _
    have hnx : jpo (i + 1).toNat B = jpi (jpz (jpo i.toNat B) i) i 6 (jpo i.toNat B) := by
      rw [show (i + 1).toNat = i.toNat + 1 by omega]
      show jpi (jpz (jpo i.toNat B) (i.toNat : Int)) (i.toNat : Int) 6 _ = _
      rw [show (i.toNat : Int) = i by omega]
    rw [hnx] at hk2
    clear hnx
    generalize jpo i.toNat B = B1 at hx hm hk2 e9 e12 e16
    have hpz : jpz B1 i = jpz B i := by
      unfold jpz
      rw [e9, e16]
    rw [hpz] at hk2
    refine zr_iload_n dX7_end_13 (rfl : 13 + 1 = 14) rfl ?_
    refine zr_iconst dX7_end_14 (rfl : 14 + 1 = 15) ?_
    refine zr_icmp_ge (tgt := 82) dX7_end_15 (by decide) (rfl : 15 + 3 = 18) (jI_le (by first | omega | (simp only [bset, reduceIte, Nat.reduceEqDiff]; omega)) (by first | omega | (simp only [bset, reduceIte, Nat.reduceEqDiff]; omega)) (by first | omega | (simp only [bset, reduceIte, Nat.reduceEqDiff]; omega)) (by first | omega | (simp only [bset, reduceIte, Nat.reduceEqDiff]; omega))) (fun h15 => ?_) (fun h15 => ?_)
    · exfalso; omega
    · refine zr_iconst dX7_end_18 (rfl : 18 + 1 = 19) ?_
      refine zr_istore_n (lv' := [_, _, _, _, _]) dX7_end_19 (rfl : 19 + 1 = 20) (Nat.le_of_ble_eq_true rfl) rfl ?_
      refine zfor1 0 6 (fun k (a : Int × (Int → Int) × Option Value) => a.1 = jpi (jpz B i) i k.toNat B1 18 0 - B 18 0 ∧ jagb 0 a.2.1 S0 ∧ mr a.2.1 0 (bset (jpi (jpz B i) i k.toNat B1) 18 (fun _ => B 18 0))) (fun k a => [some (.ref 167), some (.int (jI a.1)), some (.int (jI i)), some (.int (jI k)), a.2.2]) (fun _ a => mw a.2.1 (jst2 σ.sc + 1) ik 0 σ.T σ.L w) (x, S1, o4) ⟨hx, ag, hm⟩ ?_ ?_
      · intro k a k0 k1 hI hk
        obtain ⟨y, S2, o5⟩ := a
        obtain ⟨hy, ag2, hm2⟩ := hI
        simp only at hy ag2 hm2 ⊢
        have hk3 := fun (x' : Int) (S' : Int → Int) (u : Option Value) => hk (x', S', u)
        simp only at hk3
        clear hk hk2
        have f9 : jpi (jpz B i) i k.toNat B1 9 = B 9 := (jpi_ne (by decide) (by decide) B1 _).trans e9
        have f12 : jpi (jpz B i) i k.toNat B1 12 = B 12 := (jpi_ne (by decide) (by decide) B1 _).trans e12
        have f16 : jpi (jpz B i) i k.toNat B1 16 = B 16 := (jpi_ne (by decide) (by decide) B1 _).trans e16
        have hnx : jpi (jpz B i) i (k + 1).toNat B1 = if jbit (jpi (jpz B i) i k.toNat B1 9 i) k = 1 then bset (bset (jpi (jpz B i) i k.toNat B1) 14 (jup (jpi (jpz B i) i k.toNat B1 14) k (jpi (jpz B i) i k.toNat B1 14 k + jpz B i))) 18 (fun _ => jpi (jpz B i) i k.toNat B1 18 0 + jpz B i) else jpi (jpz B i) i k.toNat B1 := by
          rw [show (k + 1).toNat = k.toNat + 1 by omega]
          show (if jbit (jpi (jpz B i) i k.toNat B1 9 i) (k.toNat : Int) = 1 then bset (bset (jpi (jpz B i) i k.toNat B1) 14 (jup (jpi (jpz B i) i k.toNat B1 14) (k.toNat : Int) (jpi (jpz B i) i k.toNat B1 14 (k.toNat : Int) + jpz B i))) 18 (fun _ => jpi (jpz B i) i k.toNat B1 18 0 + jpz B i) else jpi (jpz B i) i k.toNat B1) = _
          rw [show (k.toNat : Int) = k by omega]
        rw [hnx, f9] at hk3
        clear hnx
        generalize jpi (jpz B i) i k.toNat B1 = B2 at hy hm2 hk3 f9 f12 f16
        have hc12 : B2 12 0 ≤ 90 := by
          rw [f12]
          exact ok.ca.2
        have hco : S2 (470 + k) = B2 14 k := hm2.co0 k k0 (by omega)
        have hW2 : ∀ z, 0 ≤ (bset B2 18 (fun _ => B 18 0)) 9 z ∧ (bset B2 18 (fun _ => B 18 0)) 9 z < 64 := by
          show ∀ z, 0 ≤ B2 9 z ∧ B2 9 z < 64
          rw [f9]
          exact hW
        have hp2 : 0 ≤ (bset B2 18 (fun _ => B 18 0)) 16 0 ∧ (bset B2 18 (fun _ => B 18 0)) 16 0 ≤ 594 := by
          show 0 ≤ B2 16 0 ∧ B2 16 0 ≤ 594
          rw [f16]
          exact hpot
        have hwi := m_winners (Γ := Γ) (d := d + 7) (st := jst2 σ.sc + 1) (ik := ik) (th := 0) (tx := σ.T) (ty := σ.L) (w := w) i ⟨i0, by omega⟩ hm2 hW2
        rw [show (bset B2 18 (fun _ => B 18 0)) 9 = B 9 from f9] at hwi
        have hea := m_each (Γ := Γ) (d := d + 6) (st := jst2 σ.sc + 1) (ik := ik) (th := 0) (tx := σ.T) (ty := σ.L) (w := w) i ⟨i0, by omega⟩ hm2 hW2 hp2
        have hpz2 : jpz (bset B2 18 (fun _ => B 18 0)) i = jpz B i := by
          unfold jpz
          rw [show (bset B2 18 (fun _ => B 18 0)) 9 = B 9 from f9, show (bset B2 18 (fun _ => B 18 0)) 16 = B 16 from f16]
        rw [hpz2] at hea
        have hb := jbit_r (B 9 i) k
        have fin : ∀ own : Int, own = (if jbit (B 9 i) k = 1 then jpz B i else 0) → zRun Γ md_X7_end (d + 8) none 48 [some (.ref 167), some (.int (jI y)), some (.int (jI i)), some (.int (jI k)), o5] [.int (jI own)] (n9, g9, 0, 0) (mw S2 (jst2 σ.sc + 1) ik 0 σ.T σ.L w) (zPost md_X7_end (zMQ (some (.int (jI (jleft B)))) 0 (jend B) (jsv σ B) w) n9 g9) := by
          intro own hown
          refine zr_istore (lv' := [_, _, _, _, _]) dX7_end_48 (rfl : 48 + 2 = 50) (Nat.le_of_ble_eq_true rfl) rfl ?_
          refine zr_aload_n dX7_end_50 (rfl : 50 + 1 = 51) rfl ?_
          refine zr_getf dX7_end_51 (rfl : 51 + 3 = 54) f_X7_7 (by first | assumption | exact mw_167 | exact mw_168 | exact mw_169 | exact mw_170 | exact bk_0 | exact bk_1 | exact bk_2 | exact bk_3 | exact bk_4 | exact bk_5 | exact bk_6 | exact bk_7 | exact bk_8 | exact bk_9 | exact bk_10 | exact bk_11 | exact bk_12 | exact bk_13 | exact bk_14 | exact bk_15 | exact bk_16 | exact zup_self | exact (zup_ne (by first | assumption | omega)).trans (by first | assumption | exact zup_self) | exact (zup_ne (by first | assumption | omega)).trans ((zup_ne (by first | assumption | omega)).trans (by first | assumption | exact zup_self)) | exact (bk_out (by first | omega | (simp only [bset, reduceIte, Nat.reduceEqDiff]; omega))).trans (by first | exact bk_0 | exact bk_1 | exact bk_2 | exact bk_3 | exact bk_4 | exact bk_5 | exact bk_6 | exact bk_7 | exact bk_8 | exact bk_9 | exact bk_10 | exact bk_11 | exact bk_12 | exact bk_13 | exact bk_14 | exact bk_15 | exact bk_16 | exact cr_5 | exact cr_23 | exact cr_24 | exact cr_25 | exact cr_26 | exact cr_27 | exact cr_28 | exact cr_29 | exact cr_30 | assumption)) rfl ?_
          refine zr_sipush dX7_end_54 (rfl : 54 + 3 = 57) (by decide) ?_
          refine zr_iload_n dX7_end_57 (rfl : 57 + 1 = 58) rfl ?_
          refine zr_iadd dX7_end_58 (rfl : 58 + 1 = 59) (by first | exact jI_add _ _ | rfl) ?_
          refine zr_dup2 dX7_end_59 (rfl : 59 + 1 = 60) rfl rfl ?_
          refine zr_iald dX7_end_60 (rfl : 60 + 1 = 61) (by first | assumption | exact mw_167 | exact mw_168 | exact mw_169 | exact mw_170 | exact bk_0 | exact bk_1 | exact bk_2 | exact bk_3 | exact bk_4 | exact bk_5 | exact bk_6 | exact bk_7 | exact bk_8 | exact bk_9 | exact bk_10 | exact bk_11 | exact bk_12 | exact bk_13 | exact bk_14 | exact bk_15 | exact bk_16 | exact zup_self | exact (zup_ne (by first | assumption | omega)).trans (by first | assumption | exact zup_self) | exact (zup_ne (by first | assumption | omega)).trans ((zup_ne (by first | assumption | omega)).trans (by first | assumption | exact zup_self)) | exact (bk_out (by first | omega | (simp only [bset, reduceIte, Nat.reduceEqDiff]; omega))).trans (by first | exact bk_0 | exact bk_1 | exact bk_2 | exact bk_3 | exact bk_4 | exact bk_5 | exact bk_6 | exact bk_7 | exact bk_8 | exact bk_9 | exact bk_10 | exact bk_11 | exact bk_12 | exact bk_13 | exact bk_14 | exact bk_15 | exact bk_16 | exact cr_5 | exact cr_23 | exact cr_24 | exact cr_25 | exact cr_26 | exact cr_27 | exact cr_28 | exact cr_29 | exact cr_30 | assumption)) (by decide) (by first | omega | (simp only [bset, reduceIte, Nat.reduceEqDiff]; omega)) (by first | omega | (simp only [bset, reduceIte, Nat.reduceEqDiff]; omega)) ?_
          rw [hco]
          refine zr_iload dX7_end_61 (rfl : 61 + 2 = 63) rfl ?_
          refine zr_iadd dX7_end_63 (rfl : 63 + 1 = 64) (by first | exact jI_add _ _ | rfl) ?_
          refine zr_iast dX7_end_64 (rfl : 64 + 1 = 65) (by first | assumption | exact mw_167 | exact mw_168 | exact mw_169 | exact mw_170 | exact bk_0 | exact bk_1 | exact bk_2 | exact bk_3 | exact bk_4 | exact bk_5 | exact bk_6 | exact bk_7 | exact bk_8 | exact bk_9 | exact bk_10 | exact bk_11 | exact bk_12 | exact bk_13 | exact bk_14 | exact bk_15 | exact bk_16 | exact zup_self | exact (zup_ne (by first | assumption | omega)).trans (by first | assumption | exact zup_self) | exact (zup_ne (by first | assumption | omega)).trans ((zup_ne (by first | assumption | omega)).trans (by first | assumption | exact zup_self)) | exact (bk_out (by first | omega | (simp only [bset, reduceIte, Nat.reduceEqDiff]; omega))).trans (by first | exact bk_0 | exact bk_1 | exact bk_2 | exact bk_3 | exact bk_4 | exact bk_5 | exact bk_6 | exact bk_7 | exact bk_8 | exact bk_9 | exact bk_10 | exact bk_11 | exact bk_12 | exact bk_13 | exact bk_14 | exact bk_15 | exact bk_16 | exact cr_5 | exact cr_23 | exact cr_24 | exact cr_25 | exact cr_26 | exact cr_27 | exact cr_28 | exact cr_29 | exact cr_30 | assumption)) (by decide) (by first | omega | (simp only [bset, reduceIte, Nat.reduceEqDiff]; omega)) (by first | omega | (simp only [bset, reduceIte, Nat.reduceEqDiff]; omega)) rfl ?_
          rw [mwu_S]
          refine zr_iload_n dX7_end_65 (rfl : 65 + 1 = 66) rfl ?_
          refine zr_iload dX7_end_66 (rfl : 66 + 2 = 68) rfl ?_
          refine zr_iadd dX7_end_68 (rfl : 68 + 1 = 69) (by first | exact jI_add _ _ | rfl) ?_
          refine zr_istore_n (lv' := [_, _, _, _, _]) dX7_end_69 (rfl : 69 + 1 = 70) (Nat.le_of_ble_eq_true rfl) rfl ?_
          refine zr_iinc (lv' := [_, _, _, _, _]) dX7_end_70 (rfl : 70 + 3 = 73) (Nat.le_of_ble_eq_true rfl) rfl (by first | exact jI_add _ _ | rfl) rfl ?_
          refine zr_goto (tgt := 20) dX7_end_73 (by decide) ?_
          have ag3 := (jagb_up (b := 0) (S := S2) (z := 470 + k) (v := B2 14 k + own) (by omega)).trans ag2
          by_cases hj : jbit (B 9 i) k = 1
          · rw [if_pos hj] at hown hk3
            subst hown
            refine hk3 _ _ _ ⟨?_, ag3, mr_coin hm2 ⟨k0, by omega⟩ hc12⟩
            show y + jpz B i = B2 18 0 + jpz B i - B 18 0
            omega
          · rw [if_neg hj] at hown hk3
            subst hown
            rw [show B2 14 k + 0 = S2 (470 + k) by omega, jup_same]
            exact hk3 _ _ _ ⟨by omega, ag2, hm2⟩
        refine zr_iload_n dX7_end_20 (rfl : 20 + 1 = 21) rfl ?_
        refine zr_bipush dX7_end_21 (rfl : 21 + 2 = 23) (by decide) ?_
        refine zr_icmp_ge (tgt := 76) dX7_end_23 (by decide) (rfl : 23 + 3 = 26) (jI_le (by first | omega | (simp only [bset, reduceIte, Nat.reduceEqDiff]; omega)) (by first | omega | (simp only [bset, reduceIte, Nat.reduceEqDiff]; omega)) (by first | omega | (simp only [bset, reduceIte, Nat.reduceEqDiff]; omega)) (by first | omega | (simp only [bset, reduceIte, Nat.reduceEqDiff]; omega))) (fun h23 => ?_) (fun h23 => ?_)
        · exfalso; omega
        · refine zr_aload_n dX7_end_26 (rfl : 26 + 1 = 27) rfl ?_
          refine zr_iload_n dX7_end_27 (rfl : 27 + 1 = 28) rfl ?_
          refine zr_fnV dX7_end_28 (rfl : 28 + 3 = 31) l_X7_112 (hwi) (by first | assumption | exact mw_167 | exact mw_168 | exact mw_169 | exact mw_170 | exact bk_0 | exact bk_1 | exact bk_2 | exact bk_3 | exact bk_4 | exact bk_5 | exact bk_6 | exact bk_7 | exact bk_8 | exact bk_9 | exact bk_10 | exact bk_11 | exact bk_12 | exact bk_13 | exact bk_14 | exact bk_15 | exact bk_16 | exact zup_self | exact (zup_ne (by first | assumption | omega)).trans (by first | assumption | exact zup_self) | exact (zup_ne (by first | assumption | omega)).trans ((zup_ne (by first | assumption | omega)).trans (by first | assumption | exact zup_self)) | exact (bk_out (by first | omega | (simp only [bset, reduceIte, Nat.reduceEqDiff]; omega))).trans (by first | exact bk_0 | exact bk_1 | exact bk_2 | exact bk_3 | exact bk_4 | exact bk_5 | exact bk_6 | exact bk_7 | exact bk_8 | exact bk_9 | exact bk_10 | exact bk_11 | exact bk_12 | exact bk_13 | exact bk_14 | exact bk_15 | exact bk_16 | exact cr_5 | exact cr_23 | exact cr_24 | exact cr_25 | exact cr_26 | exact cr_27 | exact cr_28 | exact cr_29 | exact cr_30 | assumption)) rfl rfl rfl (Nat.le_of_ble_eq_true rfl) ?_
          refine zr_iload_n dX7_end_31 (rfl : 31 + 1 = 32) rfl ?_
          refine zr_ishr dX7_end_32 (rfl : 32 + 1 = 33) rfl ?_
          refine zr_iconst dX7_end_33 (rfl : 33 + 1 = 34) ?_
          refine zr_iand dX7_end_34 (rfl : 34 + 1 = 35) rfl ?_
          rw [jbit_sh (hW i) ⟨k0, by omega⟩]
          refine zr_iconst dX7_end_35 (rfl : 35 + 1 = 36) ?_
          refine zr_icmp_ne (tgt := 47) dX7_end_36 (by decide) (rfl : 36 + 3 = 39) (jI_eq (by first | omega | (simp only [bset, reduceIte, Nat.reduceEqDiff]; omega)) (by first | omega | (simp only [bset, reduceIte, Nat.reduceEqDiff]; omega)) (by first | omega | (simp only [bset, reduceIte, Nat.reduceEqDiff]; omega)) (by first | omega | (simp only [bset, reduceIte, Nat.reduceEqDiff]; omega))) (fun h36 => ?_) (fun h36 => ?_)
          · refine zr_iconst dX7_end_47 (rfl : 47 + 1 = 48) ?_
            exact fin 0 (if_neg (by omega)).symm
          · refine zr_aload_n dX7_end_39 (rfl : 39 + 1 = 40) rfl ?_
            refine zr_iload_n dX7_end_40 (rfl : 40 + 1 = 41) rfl ?_
            refine zr_fnV dX7_end_41 (rfl : 41 + 3 = 44) l_X7_118 (hea) (by first | assumption | exact mw_167 | exact mw_168 | exact mw_169 | exact mw_170 | exact bk_0 | exact bk_1 | exact bk_2 | exact bk_3 | exact bk_4 | exact bk_5 | exact bk_6 | exact bk_7 | exact bk_8 | exact bk_9 | exact bk_10 | exact bk_11 | exact bk_12 | exact bk_13 | exact bk_14 | exact bk_15 | exact bk_16 | exact zup_self | exact (zup_ne (by first | assumption | omega)).trans (by first | assumption | exact zup_self) | exact (zup_ne (by first | assumption | omega)).trans ((zup_ne (by first | assumption | omega)).trans (by first | assumption | exact zup_self)) | exact (bk_out (by first | omega | (simp only [bset, reduceIte, Nat.reduceEqDiff]; omega))).trans (by first | exact bk_0 | exact bk_1 | exact bk_2 | exact bk_3 | exact bk_4 | exact bk_5 | exact bk_6 | exact bk_7 | exact bk_8 | exact bk_9 | exact bk_10 | exact bk_11 | exact bk_12 | exact bk_13 | exact bk_14 | exact bk_15 | exact bk_16 | exact cr_5 | exact cr_23 | exact cr_24 | exact cr_25 | exact cr_26 | exact cr_27 | exact cr_28 | exact cr_29 | exact cr_30 | assumption)) rfl rfl rfl (Nat.le_of_ble_eq_true rfl) ?_
            refine zr_goto (tgt := 48) dX7_end_44 (by decide) ?_
            exact fin _ (if_pos (by omega)).symm
      · intro a hI
        obtain ⟨y, S2, o5⟩ := a
        obtain ⟨hy, ag2, hm2⟩ := hI
        simp only at hy ag2 hm2 ⊢
        rw [show ((0 : Int) + ((6 : Nat) : Int)).toNat = 6 from rfl] at hy hm2
        refine zr_iload_n dX7_end_20 (rfl : 20 + 1 = 21) rfl ?_
        refine zr_bipush dX7_end_21 (rfl : 21 + 2 = 23) (by decide) ?_
        refine zr_icmp_ge (tgt := 76) dX7_end_23 (by decide) (rfl : 23 + 3 = 26) (jI_le (by first | omega | (simp only [bset, reduceIte, Nat.reduceEqDiff]; omega)) (by first | omega | (simp only [bset, reduceIte, Nat.reduceEqDiff]; omega)) (by first | omega | (simp only [bset, reduceIte, Nat.reduceEqDiff]; omega)) (by first | omega | (simp only [bset, reduceIte, Nat.reduceEqDiff]; omega))) (fun h23 => ?_) (fun h23 => ?_)
        · refine zr_iinc (lv' := [_, _, _, _, _]) dX7_end_76 (rfl : 76 + 3 = 79) (Nat.le_of_ble_eq_true rfl) rfl (by first | exact jI_add _ _ | rfl) rfl ?_
          refine zr_goto (tgt := 13) dX7_end_79 (by decide) ?_
          exact hk2 _ _ _ _ ⟨hy, ag2, hm2⟩
        · exfalso; omega
  · intro a hI
    obtain ⟨x, S1, o3, o4⟩ := a
    obtain ⟨hx, ag, hm⟩ := hI
    simp only at hx ag hm ⊢
    rw [show ((0 : Int) + ((4 : Nat) : Int)).toNat = 4 from rfl] at hx hm
    have e16 : jpo 4 B 16 = B 16 := jpo_ne (by decide) (by decide) B _
    have hpo : S1 486 = B 16 0 := by
      have e : S1 486 = jpo 4 B 16 0 := hm.po0
      rw [e, e16]
    have hjl : jleft B = B 16 0 - x := by
      unfold jleft
      omega
    have hje : jend B = jbeg (bset (bset (bset (jpo 4 B) 19 (fun _ => jpo 4 B 19 0 + jleft B)) 16 (fun _ => 0)) 22 (fun _ => jpo 4 B 22 0 + 1)) := rfl
    rw [hje] at hfin
    rw [hjl] at hfin
    rw [hje, hjl]
    generalize jpo 4 B = J at hx hm hfin ⊢
    clear hje hjl e16
    have hF := jS5_f S1 (S1 488 + x) (S1 489 + (B 16 0 - x)) (S1 492 + 1)
    have hfin2 : ∀ S8 : Int → Int, jagb 0 S8 S0 → (∀ n, 0 ≤ n → n ≤ 90 → S8 (95 + n) = 0 ∧ S8 (186 + n) = 0) → (∀ c, 0 ≤ c → c < 6 → S8 (458 + c) = 0 ∧ S8 (464 + c) = 0) → (∀ g, 0 ≤ g → g < 4 → S8 (482 + g) = 0) → (∀ z, ¬ (95 ≤ z ∧ z ≤ 276) → ¬ (458 ≤ z ∧ z ≤ 469) → ¬ (482 ≤ z ∧ z ≤ 485) → S8 z = jS5 S1 (S1 488 + x) (S1 489 + (B 16 0 - x)) (S1 492 + 1) z) → zRel (jbeg (bset (bset (bset J 19 (fun _ => J 19 0 + (B 16 0 - x))) 16 (fun _ => 0)) 22 (fun _ => J 22 0 + 1))) (jsv σ B) S8 ik := by
      intro S8 ag8 z1 z2 z3 zr
      obtain ⟨⟨f1, f2, f3, f4, f5, f6⟩, f7⟩ := hF
      refine hfin S8 ag8 (mr_end hm z1 z2 z3 ?_ ?_ ?_ ?_ ?_ ?_ (fun z hz => ?_))
      · rw [zr _ (by omega) (by omega) (by omega), f1]
      · rw [zr _ (by omega) (by omega) (by omega), f2]
      · rw [zr _ (by omega) (by omega) (by omega), f3]
      · rw [zr _ (by omega) (by omega) (by omega), f4, hx]
      · rw [zr _ (by omega) (by omega) (by omega), f5]
      · rw [zr _ (by omega) (by omega) (by omega), f6]
      · rw [zr _ (by omega) (by omega) (by omega), f7 z (by omega) (by omega) (by omega) (by omega) (by omega) (by omega)]
    clear hfin hm hx hF
    refine zr_iload_n dX7_end_13 (rfl : 13 + 1 = 14) rfl ?_
    refine zr_iconst dX7_end_14 (rfl : 14 + 1 = 15) ?_
    refine zr_icmp_ge (tgt := 82) dX7_end_15 (by decide) (rfl : 15 + 3 = 18) (jI_le (by first | omega | (simp only [bset, reduceIte, Nat.reduceEqDiff]; omega)) (by first | omega | (simp only [bset, reduceIte, Nat.reduceEqDiff]; omega)) (by first | omega | (simp only [bset, reduceIte, Nat.reduceEqDiff]; omega)) (by first | omega | (simp only [bset, reduceIte, Nat.reduceEqDiff]; omega))) (fun h15 => ?_) (fun h15 => ?_)
    · refine zr_aload_n dX7_end_82 (rfl : 82 + 1 = 83) rfl ?_
      refine zr_getf dX7_end_83 (rfl : 83 + 3 = 86) f_X7_7 (by first | assumption | exact mw_167 | exact mw_168 | exact mw_169 | exact mw_170 | exact bk_0 | exact bk_1 | exact bk_2 | exact bk_3 | exact bk_4 | exact bk_5 | exact bk_6 | exact bk_7 | exact bk_8 | exact bk_9 | exact bk_10 | exact bk_11 | exact bk_12 | exact bk_13 | exact bk_14 | exact bk_15 | exact bk_16 | exact zup_self | exact (zup_ne (by first | assumption | omega)).trans (by first | assumption | exact zup_self) | exact (zup_ne (by first | assumption | omega)).trans ((zup_ne (by first | assumption | omega)).trans (by first | assumption | exact zup_self)) | exact (bk_out (by first | omega | (simp only [bset, reduceIte, Nat.reduceEqDiff]; omega))).trans (by first | exact bk_0 | exact bk_1 | exact bk_2 | exact bk_3 | exact bk_4 | exact bk_5 | exact bk_6 | exact bk_7 | exact bk_8 | exact bk_9 | exact bk_10 | exact bk_11 | exact bk_12 | exact bk_13 | exact bk_14 | exact bk_15 | exact bk_16 | exact cr_5 | exact cr_23 | exact cr_24 | exact cr_25 | exact cr_26 | exact cr_27 | exact cr_28 | exact cr_29 | exact cr_30 | assumption)) rfl ?_
      refine zr_sipush dX7_end_86 (rfl : 86 + 3 = 89) (by decide) ?_
      refine zr_iald dX7_end_89 (rfl : 89 + 1 = 90) (by first | assumption | exact mw_167 | exact mw_168 | exact mw_169 | exact mw_170 | exact bk_0 | exact bk_1 | exact bk_2 | exact bk_3 | exact bk_4 | exact bk_5 | exact bk_6 | exact bk_7 | exact bk_8 | exact bk_9 | exact bk_10 | exact bk_11 | exact bk_12 | exact bk_13 | exact bk_14 | exact bk_15 | exact bk_16 | exact zup_self | exact (zup_ne (by first | assumption | omega)).trans (by first | assumption | exact zup_self) | exact (zup_ne (by first | assumption | omega)).trans ((zup_ne (by first | assumption | omega)).trans (by first | assumption | exact zup_self)) | exact (bk_out (by first | omega | (simp only [bset, reduceIte, Nat.reduceEqDiff]; omega))).trans (by first | exact bk_0 | exact bk_1 | exact bk_2 | exact bk_3 | exact bk_4 | exact bk_5 | exact bk_6 | exact bk_7 | exact bk_8 | exact bk_9 | exact bk_10 | exact bk_11 | exact bk_12 | exact bk_13 | exact bk_14 | exact bk_15 | exact bk_16 | exact cr_5 | exact cr_23 | exact cr_24 | exact cr_25 | exact cr_26 | exact cr_27 | exact cr_28 | exact cr_29 | exact cr_30 | assumption)) (by decide) (by first | omega | (simp only [bset, reduceIte, Nat.reduceEqDiff]; omega)) (by first | omega | (simp only [bset, reduceIte, Nat.reduceEqDiff]; omega)) ?_
      rw [hpo]
      refine zr_iload_n dX7_end_90 (rfl : 90 + 1 = 91) rfl ?_
      refine zr_isub dX7_end_91 (rfl : 91 + 1 = 92) (by first | exact jI_sub _ _ | rfl) ?_
      refine zr_istore_n (lv' := [_, _, _, _, _]) dX7_end_92 (rfl : 92 + 1 = 93) (Nat.le_of_ble_eq_true rfl) rfl ?_
      refine zr_aload_n dX7_end_93 (rfl : 93 + 1 = 94) rfl ?_
      refine zr_getf dX7_end_94 (rfl : 94 + 3 = 97) f_X7_7 (by first | assumption | exact mw_167 | exact mw_168 | exact mw_169 | exact mw_170 | exact bk_0 | exact bk_1 | exact bk_2 | exact bk_3 | exact bk_4 | exact bk_5 | exact bk_6 | exact bk_7 | exact bk_8 | exact bk_9 | exact bk_10 | exact bk_11 | exact bk_12 | exact bk_13 | exact bk_14 | exact bk_15 | exact bk_16 | exact zup_self | exact (zup_ne (by first | assumption | omega)).trans (by first | assumption | exact zup_self) | exact (zup_ne (by first | assumption | omega)).trans ((zup_ne (by first | assumption | omega)).trans (by first | assumption | exact zup_self)) | exact (bk_out (by first | omega | (simp only [bset, reduceIte, Nat.reduceEqDiff]; omega))).trans (by first | exact bk_0 | exact bk_1 | exact bk_2 | exact bk_3 | exact bk_4 | exact bk_5 | exact bk_6 | exact bk_7 | exact bk_8 | exact bk_9 | exact bk_10 | exact bk_11 | exact bk_12 | exact bk_13 | exact bk_14 | exact bk_15 | exact bk_16 | exact cr_5 | exact cr_23 | exact cr_24 | exact cr_25 | exact cr_26 | exact cr_27 | exact cr_28 | exact cr_29 | exact cr_30 | assumption)) rfl ?_
      refine zr_sipush dX7_end_97 (rfl : 97 + 3 = 100) (by decide) ?_
      refine zr_dup2 dX7_end_100 (rfl : 100 + 1 = 101) rfl rfl ?_
      refine zr_iald dX7_end_101 (rfl : 101 + 1 = 102) (by first | assumption | exact mw_167 | exact mw_168 | exact mw_169 | exact mw_170 | exact bk_0 | exact bk_1 | exact bk_2 | exact bk_3 | exact bk_4 | exact bk_5 | exact bk_6 | exact bk_7 | exact bk_8 | exact bk_9 | exact bk_10 | exact bk_11 | exact bk_12 | exact bk_13 | exact bk_14 | exact bk_15 | exact bk_16 | exact zup_self | exact (zup_ne (by first | assumption | omega)).trans (by first | assumption | exact zup_self) | exact (zup_ne (by first | assumption | omega)).trans ((zup_ne (by first | assumption | omega)).trans (by first | assumption | exact zup_self)) | exact (bk_out (by first | omega | (simp only [bset, reduceIte, Nat.reduceEqDiff]; omega))).trans (by first | exact bk_0 | exact bk_1 | exact bk_2 | exact bk_3 | exact bk_4 | exact bk_5 | exact bk_6 | exact bk_7 | exact bk_8 | exact bk_9 | exact bk_10 | exact bk_11 | exact bk_12 | exact bk_13 | exact bk_14 | exact bk_15 | exact bk_16 | exact cr_5 | exact cr_23 | exact cr_24 | exact cr_25 | exact cr_26 | exact cr_27 | exact cr_28 | exact cr_29 | exact cr_30 | assumption)) (by decide) (by first | omega | (simp only [bset, reduceIte, Nat.reduceEqDiff]; omega)) (by first | omega | (simp only [bset, reduceIte, Nat.reduceEqDiff]; omega)) ?_
      refine zr_iload_n dX7_end_102 (rfl : 102 + 1 = 103) rfl ?_
      refine zr_iadd dX7_end_103 (rfl : 103 + 1 = 104) (by first | exact jI_add _ _ | rfl) ?_
      refine zr_iast dX7_end_104 (rfl : 104 + 1 = 105) (by first | assumption | exact mw_167 | exact mw_168 | exact mw_169 | exact mw_170 | exact bk_0 | exact bk_1 | exact bk_2 | exact bk_3 | exact bk_4 | exact bk_5 | exact bk_6 | exact bk_7 | exact bk_8 | exact bk_9 | exact bk_10 | exact bk_11 | exact bk_12 | exact bk_13 | exact bk_14 | exact bk_15 | exact bk_16 | exact zup_self | exact (zup_ne (by first | assumption | omega)).trans (by first | assumption | exact zup_self) | exact (zup_ne (by first | assumption | omega)).trans ((zup_ne (by first | assumption | omega)).trans (by first | assumption | exact zup_self)) | exact (bk_out (by first | omega | (simp only [bset, reduceIte, Nat.reduceEqDiff]; omega))).trans (by first | exact bk_0 | exact bk_1 | exact bk_2 | exact bk_3 | exact bk_4 | exact bk_5 | exact bk_6 | exact bk_7 | exact bk_8 | exact bk_9 | exact bk_10 | exact bk_11 | exact bk_12 | exact bk_13 | exact bk_14 | exact bk_15 | exact bk_16 | exact cr_5 | exact cr_23 | exact cr_24 | exact cr_25 | exact cr_26 | exact cr_27 | exact cr_28 | exact cr_29 | exact cr_30 | assumption)) (by decide) (by first | omega | (simp only [bset, reduceIte, Nat.reduceEqDiff]; omega)) (by first | omega | (simp only [bset, reduceIte, Nat.reduceEqDiff]; omega)) rfl ?_
      rw [mwu_S]
      refine zr_aload_n dX7_end_105 (rfl : 105 + 1 = 106) rfl ?_
      refine zr_getf dX7_end_106 (rfl : 106 + 3 = 109) f_X7_7 (by first | assumption | exact mw_167 | exact mw_168 | exact mw_169 | exact mw_170 | exact bk_0 | exact bk_1 | exact bk_2 | exact bk_3 | exact bk_4 | exact bk_5 | exact bk_6 | exact bk_7 | exact bk_8 | exact bk_9 | exact bk_10 | exact bk_11 | exact bk_12 | exact bk_13 | exact bk_14 | exact bk_15 | exact bk_16 | exact zup_self | exact (zup_ne (by first | assumption | omega)).trans (by first | assumption | exact zup_self) | exact (zup_ne (by first | assumption | omega)).trans ((zup_ne (by first | assumption | omega)).trans (by first | assumption | exact zup_self)) | exact (bk_out (by first | omega | (simp only [bset, reduceIte, Nat.reduceEqDiff]; omega))).trans (by first | exact bk_0 | exact bk_1 | exact bk_2 | exact bk_3 | exact bk_4 | exact bk_5 | exact bk_6 | exact bk_7 | exact bk_8 | exact bk_9 | exact bk_10 | exact bk_11 | exact bk_12 | exact bk_13 | exact bk_14 | exact bk_15 | exact bk_16 | exact cr_5 | exact cr_23 | exact cr_24 | exact cr_25 | exact cr_26 | exact cr_27 | exact cr_28 | exact cr_29 | exact cr_30 | assumption)) rfl ?_
      refine zr_sipush dX7_end_109 (rfl : 109 + 3 = 112) (by decide) ?_
      refine zr_dup2 dX7_end_112 (rfl : 112 + 1 = 113) rfl rfl ?_
      refine zr_iald dX7_end_113 (rfl : 113 + 1 = 114) (by first | assumption | exact mw_167 | exact mw_168 | exact mw_169 | exact mw_170 | exact bk_0 | exact bk_1 | exact bk_2 | exact bk_3 | exact bk_4 | exact bk_5 | exact bk_6 | exact bk_7 | exact bk_8 | exact bk_9 | exact bk_10 | exact bk_11 | exact bk_12 | exact bk_13 | exact bk_14 | exact bk_15 | exact bk_16 | exact zup_self | exact (zup_ne (by first | assumption | omega)).trans (by first | assumption | exact zup_self) | exact (zup_ne (by first | assumption | omega)).trans ((zup_ne (by first | assumption | omega)).trans (by first | assumption | exact zup_self)) | exact (bk_out (by first | omega | (simp only [bset, reduceIte, Nat.reduceEqDiff]; omega))).trans (by first | exact bk_0 | exact bk_1 | exact bk_2 | exact bk_3 | exact bk_4 | exact bk_5 | exact bk_6 | exact bk_7 | exact bk_8 | exact bk_9 | exact bk_10 | exact bk_11 | exact bk_12 | exact bk_13 | exact bk_14 | exact bk_15 | exact bk_16 | exact cr_5 | exact cr_23 | exact cr_24 | exact cr_25 | exact cr_26 | exact cr_27 | exact cr_28 | exact cr_29 | exact cr_30 | assumption)) (by decide) (by first | omega | (simp only [bset, reduceIte, Nat.reduceEqDiff]; omega)) (by first | omega | (simp only [bset, reduceIte, Nat.reduceEqDiff]; omega)) ?_
      rw [jup_ne (by decide)]
      refine zr_iload_n dX7_end_114 (rfl : 114 + 1 = 115) rfl ?_
      refine zr_iadd dX7_end_115 (rfl : 115 + 1 = 116) (by first | exact jI_add _ _ | rfl) ?_
      refine zr_iast dX7_end_116 (rfl : 116 + 1 = 117) (by first | assumption | exact mw_167 | exact mw_168 | exact mw_169 | exact mw_170 | exact bk_0 | exact bk_1 | exact bk_2 | exact bk_3 | exact bk_4 | exact bk_5 | exact bk_6 | exact bk_7 | exact bk_8 | exact bk_9 | exact bk_10 | exact bk_11 | exact bk_12 | exact bk_13 | exact bk_14 | exact bk_15 | exact bk_16 | exact zup_self | exact (zup_ne (by first | assumption | omega)).trans (by first | assumption | exact zup_self) | exact (zup_ne (by first | assumption | omega)).trans ((zup_ne (by first | assumption | omega)).trans (by first | assumption | exact zup_self)) | exact (bk_out (by first | omega | (simp only [bset, reduceIte, Nat.reduceEqDiff]; omega))).trans (by first | exact bk_0 | exact bk_1 | exact bk_2 | exact bk_3 | exact bk_4 | exact bk_5 | exact bk_6 | exact bk_7 | exact bk_8 | exact bk_9 | exact bk_10 | exact bk_11 | exact bk_12 | exact bk_13 | exact bk_14 | exact bk_15 | exact bk_16 | exact cr_5 | exact cr_23 | exact cr_24 | exact cr_25 | exact cr_26 | exact cr_27 | exact cr_28 | exact cr_29 | exact cr_30 | assumption)) (by decide) (by first | omega | (simp only [bset, reduceIte, Nat.reduceEqDiff]; omega)) (by first | omega | (simp only [bset, reduceIte, Nat.reduceEqDiff]; omega)) rfl ?_
      rw [mwu_S]
      refine zr_aload_n dX7_end_117 (rfl : 117 + 1 = 118) rfl ?_
      refine zr_getf dX7_end_118 (rfl : 118 + 3 = 121) f_X7_7 (by first | assumption | exact mw_167 | exact mw_168 | exact mw_169 | exact mw_170 | exact bk_0 | exact bk_1 | exact bk_2 | exact bk_3 | exact bk_4 | exact bk_5 | exact bk_6 | exact bk_7 | exact bk_8 | exact bk_9 | exact bk_10 | exact bk_11 | exact bk_12 | exact bk_13 | exact bk_14 | exact bk_15 | exact bk_16 | exact zup_self | exact (zup_ne (by first | assumption | omega)).trans (by first | assumption | exact zup_self) | exact (zup_ne (by first | assumption | omega)).trans ((zup_ne (by first | assumption | omega)).trans (by first | assumption | exact zup_self)) | exact (bk_out (by first | omega | (simp only [bset, reduceIte, Nat.reduceEqDiff]; omega))).trans (by first | exact bk_0 | exact bk_1 | exact bk_2 | exact bk_3 | exact bk_4 | exact bk_5 | exact bk_6 | exact bk_7 | exact bk_8 | exact bk_9 | exact bk_10 | exact bk_11 | exact bk_12 | exact bk_13 | exact bk_14 | exact bk_15 | exact bk_16 | exact cr_5 | exact cr_23 | exact cr_24 | exact cr_25 | exact cr_26 | exact cr_27 | exact cr_28 | exact cr_29 | exact cr_30 | assumption)) rfl ?_
      refine zr_sipush dX7_end_121 (rfl : 121 + 3 = 124) (by decide) ?_
      refine zr_dup2 dX7_end_124 (rfl : 124 + 1 = 125) rfl rfl ?_
      refine zr_iald dX7_end_125 (rfl : 125 + 1 = 126) (by first | assumption | exact mw_167 | exact mw_168 | exact mw_169 | exact mw_170 | exact bk_0 | exact bk_1 | exact bk_2 | exact bk_3 | exact bk_4 | exact bk_5 | exact bk_6 | exact bk_7 | exact bk_8 | exact bk_9 | exact bk_10 | exact bk_11 | exact bk_12 | exact bk_13 | exact bk_14 | exact bk_15 | exact bk_16 | exact zup_self | exact (zup_ne (by first | assumption | omega)).trans (by first | assumption | exact zup_self) | exact (zup_ne (by first | assumption | omega)).trans ((zup_ne (by first | assumption | omega)).trans (by first | assumption | exact zup_self)) | exact (bk_out (by first | omega | (simp only [bset, reduceIte, Nat.reduceEqDiff]; omega))).trans (by first | exact bk_0 | exact bk_1 | exact bk_2 | exact bk_3 | exact bk_4 | exact bk_5 | exact bk_6 | exact bk_7 | exact bk_8 | exact bk_9 | exact bk_10 | exact bk_11 | exact bk_12 | exact bk_13 | exact bk_14 | exact bk_15 | exact bk_16 | exact cr_5 | exact cr_23 | exact cr_24 | exact cr_25 | exact cr_26 | exact cr_27 | exact cr_28 | exact cr_29 | exact cr_30 | assumption)) (by decide) (by first | omega | (simp only [bset, reduceIte, Nat.reduceEqDiff]; omega)) (by first | omega | (simp only [bset, reduceIte, Nat.reduceEqDiff]; omega)) ?_
      rw [jup_ne (by decide), jup_ne (by decide)]
      refine zr_iconst dX7_end_126 (rfl : 126 + 1 = 127) ?_
      refine zr_iadd dX7_end_127 (rfl : 127 + 1 = 128) (by first | exact jI_add _ _ | rfl) ?_
      refine zr_iast dX7_end_128 (rfl : 128 + 1 = 129) (by first | assumption | exact mw_167 | exact mw_168 | exact mw_169 | exact mw_170 | exact bk_0 | exact bk_1 | exact bk_2 | exact bk_3 | exact bk_4 | exact bk_5 | exact bk_6 | exact bk_7 | exact bk_8 | exact bk_9 | exact bk_10 | exact bk_11 | exact bk_12 | exact bk_13 | exact bk_14 | exact bk_15 | exact bk_16 | exact zup_self | exact (zup_ne (by first | assumption | omega)).trans (by first | assumption | exact zup_self) | exact (zup_ne (by first | assumption | omega)).trans ((zup_ne (by first | assumption | omega)).trans (by first | assumption | exact zup_self)) | exact (bk_out (by first | omega | (simp only [bset, reduceIte, Nat.reduceEqDiff]; omega))).trans (by first | exact bk_0 | exact bk_1 | exact bk_2 | exact bk_3 | exact bk_4 | exact bk_5 | exact bk_6 | exact bk_7 | exact bk_8 | exact bk_9 | exact bk_10 | exact bk_11 | exact bk_12 | exact bk_13 | exact bk_14 | exact bk_15 | exact bk_16 | exact cr_5 | exact cr_23 | exact cr_24 | exact cr_25 | exact cr_26 | exact cr_27 | exact cr_28 | exact cr_29 | exact cr_30 | assumption)) (by decide) (by first | omega | (simp only [bset, reduceIte, Nat.reduceEqDiff]; omega)) (by first | omega | (simp only [bset, reduceIte, Nat.reduceEqDiff]; omega)) rfl ?_
      rw [mwu_S]
      refine zr_aload_n dX7_end_129 (rfl : 129 + 1 = 130) rfl ?_
      refine zr_getf dX7_end_130 (rfl : 130 + 3 = 133) f_X7_7 (by first | assumption | exact mw_167 | exact mw_168 | exact mw_169 | exact mw_170 | exact bk_0 | exact bk_1 | exact bk_2 | exact bk_3 | exact bk_4 | exact bk_5 | exact bk_6 | exact bk_7 | exact bk_8 | exact bk_9 | exact bk_10 | exact bk_11 | exact bk_12 | exact bk_13 | exact bk_14 | exact bk_15 | exact bk_16 | exact zup_self | exact (zup_ne (by first | assumption | omega)).trans (by first | assumption | exact zup_self) | exact (zup_ne (by first | assumption | omega)).trans ((zup_ne (by first | assumption | omega)).trans (by first | assumption | exact zup_self)) | exact (bk_out (by first | omega | (simp only [bset, reduceIte, Nat.reduceEqDiff]; omega))).trans (by first | exact bk_0 | exact bk_1 | exact bk_2 | exact bk_3 | exact bk_4 | exact bk_5 | exact bk_6 | exact bk_7 | exact bk_8 | exact bk_9 | exact bk_10 | exact bk_11 | exact bk_12 | exact bk_13 | exact bk_14 | exact bk_15 | exact bk_16 | exact cr_5 | exact cr_23 | exact cr_24 | exact cr_25 | exact cr_26 | exact cr_27 | exact cr_28 | exact cr_29 | exact cr_30 | assumption)) rfl ?_
      refine zr_sipush dX7_end_133 (rfl : 133 + 3 = 136) (by decide) ?_
      refine zr_iconst dX7_end_136 (rfl : 136 + 1 = 137) ?_
      refine zr_iast dX7_end_137 (rfl : 137 + 1 = 138) (by first | assumption | exact mw_167 | exact mw_168 | exact mw_169 | exact mw_170 | exact bk_0 | exact bk_1 | exact bk_2 | exact bk_3 | exact bk_4 | exact bk_5 | exact bk_6 | exact bk_7 | exact bk_8 | exact bk_9 | exact bk_10 | exact bk_11 | exact bk_12 | exact bk_13 | exact bk_14 | exact bk_15 | exact bk_16 | exact zup_self | exact (zup_ne (by first | assumption | omega)).trans (by first | assumption | exact zup_self) | exact (zup_ne (by first | assumption | omega)).trans ((zup_ne (by first | assumption | omega)).trans (by first | assumption | exact zup_self)) | exact (bk_out (by first | omega | (simp only [bset, reduceIte, Nat.reduceEqDiff]; omega))).trans (by first | exact bk_0 | exact bk_1 | exact bk_2 | exact bk_3 | exact bk_4 | exact bk_5 | exact bk_6 | exact bk_7 | exact bk_8 | exact bk_9 | exact bk_10 | exact bk_11 | exact bk_12 | exact bk_13 | exact bk_14 | exact bk_15 | exact bk_16 | exact cr_5 | exact cr_23 | exact cr_24 | exact cr_25 | exact cr_26 | exact cr_27 | exact cr_28 | exact cr_29 | exact cr_30 | assumption)) (by decide) (by first | omega | (simp only [bset, reduceIte, Nat.reduceEqDiff]; omega)) (by first | omega | (simp only [bset, reduceIte, Nat.reduceEqDiff]; omega)) rfl ?_
      rw [mwu_S]
      refine zr_aload_n dX7_end_138 (rfl : 138 + 1 = 139) rfl ?_
      refine zr_getf dX7_end_139 (rfl : 139 + 3 = 142) f_X7_7 (by first | assumption | exact mw_167 | exact mw_168 | exact mw_169 | exact mw_170 | exact bk_0 | exact bk_1 | exact bk_2 | exact bk_3 | exact bk_4 | exact bk_5 | exact bk_6 | exact bk_7 | exact bk_8 | exact bk_9 | exact bk_10 | exact bk_11 | exact bk_12 | exact bk_13 | exact bk_14 | exact bk_15 | exact bk_16 | exact zup_self | exact (zup_ne (by first | assumption | omega)).trans (by first | assumption | exact zup_self) | exact (zup_ne (by first | assumption | omega)).trans ((zup_ne (by first | assumption | omega)).trans (by first | assumption | exact zup_self)) | exact (bk_out (by first | omega | (simp only [bset, reduceIte, Nat.reduceEqDiff]; omega))).trans (by first | exact bk_0 | exact bk_1 | exact bk_2 | exact bk_3 | exact bk_4 | exact bk_5 | exact bk_6 | exact bk_7 | exact bk_8 | exact bk_9 | exact bk_10 | exact bk_11 | exact bk_12 | exact bk_13 | exact bk_14 | exact bk_15 | exact bk_16 | exact cr_5 | exact cr_23 | exact cr_24 | exact cr_25 | exact cr_26 | exact cr_27 | exact cr_28 | exact cr_29 | exact cr_30 | assumption)) rfl ?_
      refine zr_sipush dX7_end_142 (rfl : 142 + 3 = 145) (by decide) ?_
      refine zr_iconst dX7_end_145 (rfl : 145 + 1 = 146) ?_
      refine zr_iast dX7_end_146 (rfl : 146 + 1 = 147) (by first | assumption | exact mw_167 | exact mw_168 | exact mw_169 | exact mw_170 | exact bk_0 | exact bk_1 | exact bk_2 | exact bk_3 | exact bk_4 | exact bk_5 | exact bk_6 | exact bk_7 | exact bk_8 | exact bk_9 | exact bk_10 | exact bk_11 | exact bk_12 | exact bk_13 | exact bk_14 | exact bk_15 | exact bk_16 | exact zup_self | exact (zup_ne (by first | assumption | omega)).trans (by first | assumption | exact zup_self) | exact (zup_ne (by first | assumption | omega)).trans ((zup_ne (by first | assumption | omega)).trans (by first | assumption | exact zup_self)) | exact (bk_out (by first | omega | (simp only [bset, reduceIte, Nat.reduceEqDiff]; omega))).trans (by first | exact bk_0 | exact bk_1 | exact bk_2 | exact bk_3 | exact bk_4 | exact bk_5 | exact bk_6 | exact bk_7 | exact bk_8 | exact bk_9 | exact bk_10 | exact bk_11 | exact bk_12 | exact bk_13 | exact bk_14 | exact bk_15 | exact bk_16 | exact cr_5 | exact cr_23 | exact cr_24 | exact cr_25 | exact cr_26 | exact cr_27 | exact cr_28 | exact cr_29 | exact cr_30 | assumption)) (by decide) (by first | omega | (simp only [bset, reduceIte, Nat.reduceEqDiff]; omega)) (by first | omega | (simp only [bset, reduceIte, Nat.reduceEqDiff]; omega)) rfl ?_
      rw [mwu_S]
      refine zr_aload_n dX7_end_147 (rfl : 147 + 1 = 148) rfl ?_
      refine zr_getf dX7_end_148 (rfl : 148 + 3 = 151) f_X7_7 (by first | assumption | exact mw_167 | exact mw_168 | exact mw_169 | exact mw_170 | exact bk_0 | exact bk_1 | exact bk_2 | exact bk_3 | exact bk_4 | exact bk_5 | exact bk_6 | exact bk_7 | exact bk_8 | exact bk_9 | exact bk_10 | exact bk_11 | exact bk_12 | exact bk_13 | exact bk_14 | exact bk_15 | exact bk_16 | exact zup_self | exact (zup_ne (by first | assumption | omega)).trans (by first | assumption | exact zup_self) | exact (zup_ne (by first | assumption | omega)).trans ((zup_ne (by first | assumption | omega)).trans (by first | assumption | exact zup_self)) | exact (bk_out (by first | omega | (simp only [bset, reduceIte, Nat.reduceEqDiff]; omega))).trans (by first | exact bk_0 | exact bk_1 | exact bk_2 | exact bk_3 | exact bk_4 | exact bk_5 | exact bk_6 | exact bk_7 | exact bk_8 | exact bk_9 | exact bk_10 | exact bk_11 | exact bk_12 | exact bk_13 | exact bk_14 | exact bk_15 | exact bk_16 | exact cr_5 | exact cr_23 | exact cr_24 | exact cr_25 | exact cr_26 | exact cr_27 | exact cr_28 | exact cr_29 | exact cr_30 | assumption)) rfl ?_
      refine zr_sipush dX7_end_151 (rfl : 151 + 3 = 154) (by decide) ?_
      refine zr_iconst dX7_end_154 (rfl : 154 + 1 = 155) ?_
      refine zr_iast dX7_end_155 (rfl : 155 + 1 = 156) (by first | assumption | exact mw_167 | exact mw_168 | exact mw_169 | exact mw_170 | exact bk_0 | exact bk_1 | exact bk_2 | exact bk_3 | exact bk_4 | exact bk_5 | exact bk_6 | exact bk_7 | exact bk_8 | exact bk_9 | exact bk_10 | exact bk_11 | exact bk_12 | exact bk_13 | exact bk_14 | exact bk_15 | exact bk_16 | exact zup_self | exact (zup_ne (by first | assumption | omega)).trans (by first | assumption | exact zup_self) | exact (zup_ne (by first | assumption | omega)).trans ((zup_ne (by first | assumption | omega)).trans (by first | assumption | exact zup_self)) | exact (bk_out (by first | omega | (simp only [bset, reduceIte, Nat.reduceEqDiff]; omega))).trans (by first | exact bk_0 | exact bk_1 | exact bk_2 | exact bk_3 | exact bk_4 | exact bk_5 | exact bk_6 | exact bk_7 | exact bk_8 | exact bk_9 | exact bk_10 | exact bk_11 | exact bk_12 | exact bk_13 | exact bk_14 | exact bk_15 | exact bk_16 | exact cr_5 | exact cr_23 | exact cr_24 | exact cr_25 | exact cr_26 | exact cr_27 | exact cr_28 | exact cr_29 | exact cr_30 | assumption)) (by decide) (by first | omega | (simp only [bset, reduceIte, Nat.reduceEqDiff]; omega)) (by first | omega | (simp only [bset, reduceIte, Nat.reduceEqDiff]; omega)) rfl ?_
      rw [mwu_S, jS5_eq]
      have ag5 : jagb 0 (jS5 S1 (S1 488 + x) (S1 489 + (B 16 0 - x)) (S1 492 + 1)) S0 := (jagb_up (by decide)).trans ((jagb_up (by decide)).trans ((jagb_up (by decide)).trans ((jagb_up (by decide)).trans ((jagb_up (by decide)).trans ((jagb_up (by decide)).trans ag)))))
      generalize jS5 S1 (S1 488 + x) (S1 489 + (B 16 0 - x)) (S1 492 + 1) = S5 at hfin2 ag5 ⊢
      refine zr_iconst dX7_end_156 (rfl : 156 + 1 = 157) ?_
      refine zr_istore_n (lv' := [_, _, _, _, _]) dX7_end_157 (rfl : 157 + 1 = 158) (Nat.le_of_ble_eq_true rfl) rfl ?_
      refine zfor1 0 91 (fun k (S6 : Int → Int) => jagb 0 S6 S0 ∧ (∀ n, 0 ≤ n → n < k → S6 (95 + n) = 0 ∧ S6 (186 + n) = 0) ∧ ∀ z, ¬ (95 ≤ z ∧ z ≤ 276) → S6 z = S5 z) (fun k _ => [some (.ref 167), some (.int (jI x)), some (.int (jI (B 16 0 - x))), some (.int (jI k)), o4]) (fun _ S6 => mw S6 (jst2 σ.sc + 1) ik 0 σ.T σ.L w) S5 ⟨ag5, fun n n0 n1 => absurd n1 (by omega), fun _ _ => rfl⟩ ?_ ?_
      · intro k S6 k0 k1 hI hk
        obtain ⟨ag6, hz, hs⟩ := hI
        refine zr_iload_n dX7_end_158 (rfl : 158 + 1 = 159) rfl ?_
        refine zr_bipush dX7_end_159 (rfl : 159 + 2 = 161) (by decide) ?_
        refine zr_icmp_gt (tgt := 191) dX7_end_161 (by decide) (rfl : 161 + 3 = 164) (jI_lt (by first | omega | (simp only [bset, reduceIte, Nat.reduceEqDiff]; omega)) (by first | omega | (simp only [bset, reduceIte, Nat.reduceEqDiff]; omega)) (by first | omega | (simp only [bset, reduceIte, Nat.reduceEqDiff]; omega)) (by first | omega | (simp only [bset, reduceIte, Nat.reduceEqDiff]; omega))) (fun h161 => ?_) (fun h161 => ?_)
        · exfalso; omega
        · refine zr_aload_n dX7_end_164 (rfl : 164 + 1 = 165) rfl ?_
          refine zr_getf dX7_end_165 (rfl : 165 + 3 = 168) f_X7_7 (by first | assumption | exact mw_167 | exact mw_168 | exact mw_169 | exact mw_170 | exact bk_0 | exact bk_1 | exact bk_2 | exact bk_3 | exact bk_4 | exact bk_5 | exact bk_6 | exact bk_7 | exact bk_8 | exact bk_9 | exact bk_10 | exact bk_11 | exact bk_12 | exact bk_13 | exact bk_14 | exact bk_15 | exact bk_16 | exact zup_self | exact (zup_ne (by first | assumption | omega)).trans (by first | assumption | exact zup_self) | exact (zup_ne (by first | assumption | omega)).trans ((zup_ne (by first | assumption | omega)).trans (by first | assumption | exact zup_self)) | exact (bk_out (by first | omega | (simp only [bset, reduceIte, Nat.reduceEqDiff]; omega))).trans (by first | exact bk_0 | exact bk_1 | exact bk_2 | exact bk_3 | exact bk_4 | exact bk_5 | exact bk_6 | exact bk_7 | exact bk_8 | exact bk_9 | exact bk_10 | exact bk_11 | exact bk_12 | exact bk_13 | exact bk_14 | exact bk_15 | exact bk_16 | exact cr_5 | exact cr_23 | exact cr_24 | exact cr_25 | exact cr_26 | exact cr_27 | exact cr_28 | exact cr_29 | exact cr_30 | assumption)) rfl ?_
          refine zr_bipush dX7_end_168 (rfl : 168 + 2 = 170) (by decide) ?_
          refine zr_iload_n dX7_end_170 (rfl : 170 + 1 = 171) rfl ?_
          refine zr_iadd dX7_end_171 (rfl : 171 + 1 = 172) (by first | exact jI_add _ _ | rfl) ?_
          refine zr_iconst dX7_end_172 (rfl : 172 + 1 = 173) ?_
          refine zr_iast dX7_end_173 (rfl : 173 + 1 = 174) (by first | assumption | exact mw_167 | exact mw_168 | exact mw_169 | exact mw_170 | exact bk_0 | exact bk_1 | exact bk_2 | exact bk_3 | exact bk_4 | exact bk_5 | exact bk_6 | exact bk_7 | exact bk_8 | exact bk_9 | exact bk_10 | exact bk_11 | exact bk_12 | exact bk_13 | exact bk_14 | exact bk_15 | exact bk_16 | exact zup_self | exact (zup_ne (by first | assumption | omega)).trans (by first | assumption | exact zup_self) | exact (zup_ne (by first | assumption | omega)).trans ((zup_ne (by first | assumption | omega)).trans (by first | assumption | exact zup_self)) | exact (bk_out (by first | omega | (simp only [bset, reduceIte, Nat.reduceEqDiff]; omega))).trans (by first | exact bk_0 | exact bk_1 | exact bk_2 | exact bk_3 | exact bk_4 | exact bk_5 | exact bk_6 | exact bk_7 | exact bk_8 | exact bk_9 | exact bk_10 | exact bk_11 | exact bk_12 | exact bk_13 | exact bk_14 | exact bk_15 | exact bk_16 | exact cr_5 | exact cr_23 | exact cr_24 | exact cr_25 | exact cr_26 | exact cr_27 | exact cr_28 | exact cr_29 | exact cr_30 | assumption)) (by decide) (by first | omega | (simp only [bset, reduceIte, Nat.reduceEqDiff]; omega)) (by first | omega | (simp only [bset, reduceIte, Nat.reduceEqDiff]; omega)) rfl ?_
          rw [mwu_S]
          refine zr_aload_n dX7_end_174 (rfl : 174 + 1 = 175) rfl ?_
          refine zr_getf dX7_end_175 (rfl : 175 + 3 = 178) f_X7_7 (by first | assumption | exact mw_167 | exact mw_168 | exact mw_169 | exact mw_170 | exact bk_0 | exact bk_1 | exact bk_2 | exact bk_3 | exact bk_4 | exact bk_5 | exact bk_6 | exact bk_7 | exact bk_8 | exact bk_9 | exact bk_10 | exact bk_11 | exact bk_12 | exact bk_13 | exact bk_14 | exact bk_15 | exact bk_16 | exact zup_self | exact (zup_ne (by first | assumption | omega)).trans (by first | assumption | exact zup_self) | exact (zup_ne (by first | assumption | omega)).trans ((zup_ne (by first | assumption | omega)).trans (by first | assumption | exact zup_self)) | exact (bk_out (by first | omega | (simp only [bset, reduceIte, Nat.reduceEqDiff]; omega))).trans (by first | exact bk_0 | exact bk_1 | exact bk_2 | exact bk_3 | exact bk_4 | exact bk_5 | exact bk_6 | exact bk_7 | exact bk_8 | exact bk_9 | exact bk_10 | exact bk_11 | exact bk_12 | exact bk_13 | exact bk_14 | exact bk_15 | exact bk_16 | exact cr_5 | exact cr_23 | exact cr_24 | exact cr_25 | exact cr_26 | exact cr_27 | exact cr_28 | exact cr_29 | exact cr_30 | assumption)) rfl ?_
          refine zr_sipush dX7_end_178 (rfl : 178 + 3 = 181) (by decide) ?_
          refine zr_iload_n dX7_end_181 (rfl : 181 + 1 = 182) rfl ?_
          refine zr_iadd dX7_end_182 (rfl : 182 + 1 = 183) (by first | exact jI_add _ _ | rfl) ?_
          refine zr_iconst dX7_end_183 (rfl : 183 + 1 = 184) ?_
          refine zr_iast dX7_end_184 (rfl : 184 + 1 = 185) (by first | assumption | exact mw_167 | exact mw_168 | exact mw_169 | exact mw_170 | exact bk_0 | exact bk_1 | exact bk_2 | exact bk_3 | exact bk_4 | exact bk_5 | exact bk_6 | exact bk_7 | exact bk_8 | exact bk_9 | exact bk_10 | exact bk_11 | exact bk_12 | exact bk_13 | exact bk_14 | exact bk_15 | exact bk_16 | exact zup_self | exact (zup_ne (by first | assumption | omega)).trans (by first | assumption | exact zup_self) | exact (zup_ne (by first | assumption | omega)).trans ((zup_ne (by first | assumption | omega)).trans (by first | assumption | exact zup_self)) | exact (bk_out (by first | omega | (simp only [bset, reduceIte, Nat.reduceEqDiff]; omega))).trans (by first | exact bk_0 | exact bk_1 | exact bk_2 | exact bk_3 | exact bk_4 | exact bk_5 | exact bk_6 | exact bk_7 | exact bk_8 | exact bk_9 | exact bk_10 | exact bk_11 | exact bk_12 | exact bk_13 | exact bk_14 | exact bk_15 | exact bk_16 | exact cr_5 | exact cr_23 | exact cr_24 | exact cr_25 | exact cr_26 | exact cr_27 | exact cr_28 | exact cr_29 | exact cr_30 | assumption)) (by decide) (by first | omega | (simp only [bset, reduceIte, Nat.reduceEqDiff]; omega)) (by first | omega | (simp only [bset, reduceIte, Nat.reduceEqDiff]; omega)) rfl ?_
          rw [mwu_S]
          refine zr_iinc (lv' := [_, _, _, _, _]) dX7_end_185 (rfl : 185 + 3 = 188) (Nat.le_of_ble_eq_true rfl) rfl (by first | exact jI_add _ _ | rfl) rfl ?_
          refine zr_goto (tgt := 158) dX7_end_188 (by decide) ?_
          refine hk _ ⟨(jagb_up (by omega)).trans ((jagb_up (by omega)).trans ag6), fun n n0 n1 => ?_, fun z z1 => ?_⟩
          · by_cases e : n = k
            · subst e
              exact ⟨by rw [jup_ne (by omega), jup_at rfl], jup_at rfl⟩
            · obtain ⟨u1, u2⟩ := hz n n0 (by omega)
              refine ⟨?_, ?_⟩
              · rw [jup_ne (by omega), jup_ne (by omega)]
                exact u1
              · rw [jup_ne (by omega), jup_ne (by omega)]
                exact u2
          · rw [jup_ne (by omega), jup_ne (by omega)]
            exact hs z z1
      · intro S6 hI
        obtain ⟨ag6, hz6, hs6⟩ := hI
        refine zr_iload_n dX7_end_158 (rfl : 158 + 1 = 159) rfl ?_
        refine zr_bipush dX7_end_159 (rfl : 159 + 2 = 161) (by decide) ?_
        refine zr_icmp_gt (tgt := 191) dX7_end_161 (by decide) (rfl : 161 + 3 = 164) (jI_lt (by first | omega | (simp only [bset, reduceIte, Nat.reduceEqDiff]; omega)) (by first | omega | (simp only [bset, reduceIte, Nat.reduceEqDiff]; omega)) (by first | omega | (simp only [bset, reduceIte, Nat.reduceEqDiff]; omega)) (by first | omega | (simp only [bset, reduceIte, Nat.reduceEqDiff]; omega))) (fun h161 => ?_) (fun h161 => ?_)
        · refine zr_iconst dX7_end_191 (rfl : 191 + 1 = 192) ?_
          refine zr_istore_n (lv' := [_, _, _, _, _]) dX7_end_192 (rfl : 192 + 1 = 193) (Nat.le_of_ble_eq_true rfl) rfl ?_
          refine zfor1 0 6 (fun k (S7 : Int → Int) => jagb 0 S7 S0 ∧ (∀ n, 0 ≤ n → n < k → S7 (458 + n) = 0 ∧ S7 (464 + n) = 0) ∧ ∀ z, ¬ (458 ≤ z ∧ z ≤ 469) → S7 z = S6 z) (fun k _ => [some (.ref 167), some (.int (jI x)), some (.int (jI (B 16 0 - x))), some (.int (jI k)), o4]) (fun _ S7 => mw S7 (jst2 σ.sc + 1) ik 0 σ.T σ.L w) S6 ⟨ag6, fun n n0 n1 => absurd n1 (by omega), fun _ _ => rfl⟩ ?_ ?_
          · intro k S7 k0 k1 hI hk
            obtain ⟨ag7, hz, hs⟩ := hI
            refine zr_iload_n dX7_end_193 (rfl : 193 + 1 = 194) rfl ?_
            refine zr_bipush dX7_end_194 (rfl : 194 + 2 = 196) (by decide) ?_
            refine zr_icmp_ge (tgt := 227) dX7_end_196 (by decide) (rfl : 196 + 3 = 199) (jI_le (by first | omega | (simp only [bset, reduceIte, Nat.reduceEqDiff]; omega)) (by first | omega | (simp only [bset, reduceIte, Nat.reduceEqDiff]; omega)) (by first | omega | (simp only [bset, reduceIte, Nat.reduceEqDiff]; omega)) (by first | omega | (simp only [bset, reduceIte, Nat.reduceEqDiff]; omega))) (fun h196 => ?_) (fun h196 => ?_)
            · exfalso; omega
            · refine zr_aload_n dX7_end_199 (rfl : 199 + 1 = 200) rfl ?_
              refine zr_getf dX7_end_200 (rfl : 200 + 3 = 203) f_X7_7 (by first | assumption | exact mw_167 | exact mw_168 | exact mw_169 | exact mw_170 | exact bk_0 | exact bk_1 | exact bk_2 | exact bk_3 | exact bk_4 | exact bk_5 | exact bk_6 | exact bk_7 | exact bk_8 | exact bk_9 | exact bk_10 | exact bk_11 | exact bk_12 | exact bk_13 | exact bk_14 | exact bk_15 | exact bk_16 | exact zup_self | exact (zup_ne (by first | assumption | omega)).trans (by first | assumption | exact zup_self) | exact (zup_ne (by first | assumption | omega)).trans ((zup_ne (by first | assumption | omega)).trans (by first | assumption | exact zup_self)) | exact (bk_out (by first | omega | (simp only [bset, reduceIte, Nat.reduceEqDiff]; omega))).trans (by first | exact bk_0 | exact bk_1 | exact bk_2 | exact bk_3 | exact bk_4 | exact bk_5 | exact bk_6 | exact bk_7 | exact bk_8 | exact bk_9 | exact bk_10 | exact bk_11 | exact bk_12 | exact bk_13 | exact bk_14 | exact bk_15 | exact bk_16 | exact cr_5 | exact cr_23 | exact cr_24 | exact cr_25 | exact cr_26 | exact cr_27 | exact cr_28 | exact cr_29 | exact cr_30 | assumption)) rfl ?_
              refine zr_sipush dX7_end_203 (rfl : 203 + 3 = 206) (by decide) ?_
              refine zr_iload_n dX7_end_206 (rfl : 206 + 1 = 207) rfl ?_
              refine zr_iadd dX7_end_207 (rfl : 207 + 1 = 208) (by first | exact jI_add _ _ | rfl) ?_
              refine zr_iconst dX7_end_208 (rfl : 208 + 1 = 209) ?_
              refine zr_iast dX7_end_209 (rfl : 209 + 1 = 210) (by first | assumption | exact mw_167 | exact mw_168 | exact mw_169 | exact mw_170 | exact bk_0 | exact bk_1 | exact bk_2 | exact bk_3 | exact bk_4 | exact bk_5 | exact bk_6 | exact bk_7 | exact bk_8 | exact bk_9 | exact bk_10 | exact bk_11 | exact bk_12 | exact bk_13 | exact bk_14 | exact bk_15 | exact bk_16 | exact zup_self | exact (zup_ne (by first | assumption | omega)).trans (by first | assumption | exact zup_self) | exact (zup_ne (by first | assumption | omega)).trans ((zup_ne (by first | assumption | omega)).trans (by first | assumption | exact zup_self)) | exact (bk_out (by first | omega | (simp only [bset, reduceIte, Nat.reduceEqDiff]; omega))).trans (by first | exact bk_0 | exact bk_1 | exact bk_2 | exact bk_3 | exact bk_4 | exact bk_5 | exact bk_6 | exact bk_7 | exact bk_8 | exact bk_9 | exact bk_10 | exact bk_11 | exact bk_12 | exact bk_13 | exact bk_14 | exact bk_15 | exact bk_16 | exact cr_5 | exact cr_23 | exact cr_24 | exact cr_25 | exact cr_26 | exact cr_27 | exact cr_28 | exact cr_29 | exact cr_30 | assumption)) (by decide) (by first | omega | (simp only [bset, reduceIte, Nat.reduceEqDiff]; omega)) (by first | omega | (simp only [bset, reduceIte, Nat.reduceEqDiff]; omega)) rfl ?_
              rw [mwu_S]
              refine zr_aload_n dX7_end_210 (rfl : 210 + 1 = 211) rfl ?_
              refine zr_getf dX7_end_211 (rfl : 211 + 3 = 214) f_X7_7 (by first | assumption | exact mw_167 | exact mw_168 | exact mw_169 | exact mw_170 | exact bk_0 | exact bk_1 | exact bk_2 | exact bk_3 | exact bk_4 | exact bk_5 | exact bk_6 | exact bk_7 | exact bk_8 | exact bk_9 | exact bk_10 | exact bk_11 | exact bk_12 | exact bk_13 | exact bk_14 | exact bk_15 | exact bk_16 | exact zup_self | exact (zup_ne (by first | assumption | omega)).trans (by first | assumption | exact zup_self) | exact (zup_ne (by first | assumption | omega)).trans ((zup_ne (by first | assumption | omega)).trans (by first | assumption | exact zup_self)) | exact (bk_out (by first | omega | (simp only [bset, reduceIte, Nat.reduceEqDiff]; omega))).trans (by first | exact bk_0 | exact bk_1 | exact bk_2 | exact bk_3 | exact bk_4 | exact bk_5 | exact bk_6 | exact bk_7 | exact bk_8 | exact bk_9 | exact bk_10 | exact bk_11 | exact bk_12 | exact bk_13 | exact bk_14 | exact bk_15 | exact bk_16 | exact cr_5 | exact cr_23 | exact cr_24 | exact cr_25 | exact cr_26 | exact cr_27 | exact cr_28 | exact cr_29 | exact cr_30 | assumption)) rfl ?_
              refine zr_sipush dX7_end_214 (rfl : 214 + 3 = 217) (by decide) ?_
              refine zr_iload_n dX7_end_217 (rfl : 217 + 1 = 218) rfl ?_
              refine zr_iadd dX7_end_218 (rfl : 218 + 1 = 219) (by first | exact jI_add _ _ | rfl) ?_
              refine zr_iconst dX7_end_219 (rfl : 219 + 1 = 220) ?_
              refine zr_iast dX7_end_220 (rfl : 220 + 1 = 221) (by first | assumption | exact mw_167 | exact mw_168 | exact mw_169 | exact mw_170 | exact bk_0 | exact bk_1 | exact bk_2 | exact bk_3 | exact bk_4 | exact bk_5 | exact bk_6 | exact bk_7 | exact bk_8 | exact bk_9 | exact bk_10 | exact bk_11 | exact bk_12 | exact bk_13 | exact bk_14 | exact bk_15 | exact bk_16 | exact zup_self | exact (zup_ne (by first | assumption | omega)).trans (by first | assumption | exact zup_self) | exact (zup_ne (by first | assumption | omega)).trans ((zup_ne (by first | assumption | omega)).trans (by first | assumption | exact zup_self)) | exact (bk_out (by first | omega | (simp only [bset, reduceIte, Nat.reduceEqDiff]; omega))).trans (by first | exact bk_0 | exact bk_1 | exact bk_2 | exact bk_3 | exact bk_4 | exact bk_5 | exact bk_6 | exact bk_7 | exact bk_8 | exact bk_9 | exact bk_10 | exact bk_11 | exact bk_12 | exact bk_13 | exact bk_14 | exact bk_15 | exact bk_16 | exact cr_5 | exact cr_23 | exact cr_24 | exact cr_25 | exact cr_26 | exact cr_27 | exact cr_28 | exact cr_29 | exact cr_30 | assumption)) (by decide) (by first | omega | (simp only [bset, reduceIte, Nat.reduceEqDiff]; omega)) (by first | omega | (simp only [bset, reduceIte, Nat.reduceEqDiff]; omega)) rfl ?_
              rw [mwu_S]
              refine zr_iinc (lv' := [_, _, _, _, _]) dX7_end_221 (rfl : 221 + 3 = 224) (Nat.le_of_ble_eq_true rfl) rfl (by first | exact jI_add _ _ | rfl) rfl ?_
              refine zr_goto (tgt := 193) dX7_end_224 (by decide) ?_
              refine hk _ ⟨(jagb_up (by omega)).trans ((jagb_up (by omega)).trans ag7), fun n n0 n1 => ?_, fun z z1 => ?_⟩
              · by_cases e : n = k
                · subst e
                  exact ⟨by rw [jup_ne (by omega), jup_at rfl], jup_at rfl⟩
                · obtain ⟨u1, u2⟩ := hz n n0 (by omega)
                  refine ⟨?_, ?_⟩
                  · rw [jup_ne (by omega), jup_ne (by omega)]
                    exact u1
                  · rw [jup_ne (by omega), jup_ne (by omega)]
                    exact u2
              · rw [jup_ne (by omega), jup_ne (by omega)]
                exact hs z z1
          · intro S7 hI
            obtain ⟨ag7, hz7, hs7⟩ := hI
            refine zr_iload_n dX7_end_193 (rfl : 193 + 1 = 194) rfl ?_
            refine zr_bipush dX7_end_194 (rfl : 194 + 2 = 196) (by decide) ?_
            refine zr_icmp_ge (tgt := 227) dX7_end_196 (by decide) (rfl : 196 + 3 = 199) (jI_le (by first | omega | (simp only [bset, reduceIte, Nat.reduceEqDiff]; omega)) (by first | omega | (simp only [bset, reduceIte, Nat.reduceEqDiff]; omega)) (by first | omega | (simp only [bset, reduceIte, Nat.reduceEqDiff]; omega)) (by first | omega | (simp only [bset, reduceIte, Nat.reduceEqDiff]; omega))) (fun h196 => ?_) (fun h196 => ?_)
            · refine zr_iconst dX7_end_227 (rfl : 227 + 1 = 228) ?_
              refine zr_istore_n (lv' := [_, _, _, _, _]) dX7_end_228 (rfl : 228 + 1 = 229) (Nat.le_of_ble_eq_true rfl) rfl ?_
              refine zfor1 0 4 (fun k (S8 : Int → Int) => jagb 0 S8 S0 ∧ (∀ n, 0 ≤ n → n < k → S8 (482 + n) = 0) ∧ ∀ z, ¬ (482 ≤ z ∧ z ≤ 485) → S8 z = S7 z) (fun k _ => [some (.ref 167), some (.int (jI x)), some (.int (jI (B 16 0 - x))), some (.int (jI k)), o4]) (fun _ S8 => mw S8 (jst2 σ.sc + 1) ik 0 σ.T σ.L w) S7 ⟨ag7, fun n n0 n1 => absurd n1 (by omega), fun _ _ => rfl⟩ ?_ ?_
              · intro k S8 k0 k1 hI hk
                obtain ⟨ag8, hz, hs⟩ := hI
                refine zr_iload_n dX7_end_229 (rfl : 229 + 1 = 230) rfl ?_
                refine zr_iconst dX7_end_230 (rfl : 230 + 1 = 231) ?_
                refine zr_icmp_ge (tgt := 251) dX7_end_231 (by decide) (rfl : 231 + 3 = 234) (jI_le (by first | omega | (simp only [bset, reduceIte, Nat.reduceEqDiff]; omega)) (by first | omega | (simp only [bset, reduceIte, Nat.reduceEqDiff]; omega)) (by first | omega | (simp only [bset, reduceIte, Nat.reduceEqDiff]; omega)) (by first | omega | (simp only [bset, reduceIte, Nat.reduceEqDiff]; omega))) (fun h231 => ?_) (fun h231 => ?_)
                · exfalso; omega
                · refine zr_aload_n dX7_end_234 (rfl : 234 + 1 = 235) rfl ?_
                  refine zr_getf dX7_end_235 (rfl : 235 + 3 = 238) f_X7_7 (by first | assumption | exact mw_167 | exact mw_168 | exact mw_169 | exact mw_170 | exact bk_0 | exact bk_1 | exact bk_2 | exact bk_3 | exact bk_4 | exact bk_5 | exact bk_6 | exact bk_7 | exact bk_8 | exact bk_9 | exact bk_10 | exact bk_11 | exact bk_12 | exact bk_13 | exact bk_14 | exact bk_15 | exact bk_16 | exact zup_self | exact (zup_ne (by first | assumption | omega)).trans (by first | assumption | exact zup_self) | exact (zup_ne (by first | assumption | omega)).trans ((zup_ne (by first | assumption | omega)).trans (by first | assumption | exact zup_self)) | exact (bk_out (by first | omega | (simp only [bset, reduceIte, Nat.reduceEqDiff]; omega))).trans (by first | exact bk_0 | exact bk_1 | exact bk_2 | exact bk_3 | exact bk_4 | exact bk_5 | exact bk_6 | exact bk_7 | exact bk_8 | exact bk_9 | exact bk_10 | exact bk_11 | exact bk_12 | exact bk_13 | exact bk_14 | exact bk_15 | exact bk_16 | exact cr_5 | exact cr_23 | exact cr_24 | exact cr_25 | exact cr_26 | exact cr_27 | exact cr_28 | exact cr_29 | exact cr_30 | assumption)) rfl ?_
                  refine zr_sipush dX7_end_238 (rfl : 238 + 3 = 241) (by decide) ?_
                  refine zr_iload_n dX7_end_241 (rfl : 241 + 1 = 242) rfl ?_
                  refine zr_iadd dX7_end_242 (rfl : 242 + 1 = 243) (by first | exact jI_add _ _ | rfl) ?_
                  refine zr_iconst dX7_end_243 (rfl : 243 + 1 = 244) ?_
                  refine zr_iast dX7_end_244 (rfl : 244 + 1 = 245) (by first | assumption | exact mw_167 | exact mw_168 | exact mw_169 | exact mw_170 | exact bk_0 | exact bk_1 | exact bk_2 | exact bk_3 | exact bk_4 | exact bk_5 | exact bk_6 | exact bk_7 | exact bk_8 | exact bk_9 | exact bk_10 | exact bk_11 | exact bk_12 | exact bk_13 | exact bk_14 | exact bk_15 | exact bk_16 | exact zup_self | exact (zup_ne (by first | assumption | omega)).trans (by first | assumption | exact zup_self) | exact (zup_ne (by first | assumption | omega)).trans ((zup_ne (by first | assumption | omega)).trans (by first | assumption | exact zup_self)) | exact (bk_out (by first | omega | (simp only [bset, reduceIte, Nat.reduceEqDiff]; omega))).trans (by first | exact bk_0 | exact bk_1 | exact bk_2 | exact bk_3 | exact bk_4 | exact bk_5 | exact bk_6 | exact bk_7 | exact bk_8 | exact bk_9 | exact bk_10 | exact bk_11 | exact bk_12 | exact bk_13 | exact bk_14 | exact bk_15 | exact bk_16 | exact cr_5 | exact cr_23 | exact cr_24 | exact cr_25 | exact cr_26 | exact cr_27 | exact cr_28 | exact cr_29 | exact cr_30 | assumption)) (by decide) (by first | omega | (simp only [bset, reduceIte, Nat.reduceEqDiff]; omega)) (by first | omega | (simp only [bset, reduceIte, Nat.reduceEqDiff]; omega)) rfl ?_
                  rw [mwu_S]
                  refine zr_iinc (lv' := [_, _, _, _, _]) dX7_end_245 (rfl : 245 + 3 = 248) (Nat.le_of_ble_eq_true rfl) rfl (by first | exact jI_add _ _ | rfl) rfl ?_
                  refine zr_goto (tgt := 229) dX7_end_248 (by decide) ?_
                  refine hk _ ⟨(jagb_up (by omega)).trans ag8, fun n n0 n1 => ?_, fun z z1 => ?_⟩
                  · by_cases e : n = k
                    · subst e
                      exact jup_at rfl
                    · rw [jup_ne (by omega)]
                      exact hz n n0 (by omega)
                  · rw [jup_ne (by omega)]
                    exact hs z z1
              · intro S8 hI
                obtain ⟨ag8, hz8, hs8⟩ := hI
                refine zr_iload_n dX7_end_229 (rfl : 229 + 1 = 230) rfl ?_
                refine zr_iconst dX7_end_230 (rfl : 230 + 1 = 231) ?_
                refine zr_icmp_ge (tgt := 251) dX7_end_231 (by decide) (rfl : 231 + 3 = 234) (jI_le (by first | omega | (simp only [bset, reduceIte, Nat.reduceEqDiff]; omega)) (by first | omega | (simp only [bset, reduceIte, Nat.reduceEqDiff]; omega)) (by first | omega | (simp only [bset, reduceIte, Nat.reduceEqDiff]; omega)) (by first | omega | (simp only [bset, reduceIte, Nat.reduceEqDiff]; omega))) (fun h231 => ?_) (fun h231 => ?_)
                · refine zr_iload_n dX7_end_251 (rfl : 251 + 1 = 252) rfl ?_
                  refine zr_ireE dX7_end_252 rfl rfl ?_
                  refine ⟨rfl, S8, ik, hfin2 S8 ag8 (fun n n0 n1 => ?_) (fun c c0 c1 => ?_) (fun g g0 g1 => hz8 g g0 (by omega)) (fun z z1 z2 z3 => ?_), rfl⟩
                  · rw [hs8 _ (by omega), hs8 _ (by omega), hs7 _ (by omega), hs7 _ (by omega)]
                    exact hz6 n n0 (by omega)
                  · rw [hs8 _ (by omega), hs8 _ (by omega)]
                    exact hz7 c c0 (by omega)
                  · rw [hs8 _ z3, hs7 _ z2, hs6 _ z1]
                · exfalso; omega
            · exfalso; omega
        · exfalso; omega
    · exfalso; omega
/-! what needs no more -/
theorem zFn.fe {M : zMd} {as : List Value} {w w2 : zW} {v : Option Value} {P : zPo} (h : zFn Γ M d as w v w2) (hP : P v w2) : zFe Γ M d as w P := by
  intro n g hB p e h1 h2 h3 s m args below h4 h5 h6 h7
  obtain ⟨k, o, a1, a2, a3, a4⟩ := h n g hB p e h1 h2 h3 s m args below h4 h5 h6 h7
  refine ⟨k, o, a1, a2, a3, ?_⟩
  rcases a4 with ⟨⟨r, n', g', w', b1, b2, b3, b4⟩, b5⟩ | ⟨q, -, E, ce, L, ⟨_, _, _, hx, _⟩, -⟩
  · obtain ⟨rfl, rfl, rfl, rfl⟩ := b2
    exact Or.inl ⟨⟨_, _, _, _, b1, ⟨rfl, rfl, hP⟩, b3, b4⟩, b5⟩
  · exact hx.elim
theorem p_firstError (hR : zRel B σ S ik) : zFe Γ md_X7_firstError (d + 8) [.ref 167] (mw S σ.sc ik th σ.T σ.L w) (zMQ (some (.int (jI (jfw σ.T σ.L σ.L.toNat 0 0)))) 0 B σ w) :=
  (m_firstError (d := d + 5) hR.2.2.2.1.L hR.2.2.2.1.T).fe ⟨rfl, S, ik, hR, rfl⟩
theorem p_drawnShare (hR : zRel B σ S ik) : zFe Γ md_X7_drawnShare (d + 8) [.ref 167] (mw S σ.sc ik th σ.T σ.L w) (zMQ (some (.double (jsr B))) 0 B σ w) := by
  obtain ⟨ok, lk, pk, ck, lx, h, hsv, hkp⟩ := hR
  have hR : zRel B σ S ik := ⟨ok, lk, pk, ck, lx, h, hsv, hkp⟩
  refine zFe.of_run (lv := [some (.ref 167)]) (by decide) rfl (Nat.le_of_ble_eq_true rfl) rfl (fun n9 g9 => ?_)
  refine zr_aload_n dX7_drawnShare_0 (rfl : 0 + 1 = 1) rfl ?_
  refine zr_iconst dX7_drawnShare_1 (rfl : 1 + 1 = 2) ?_
  refine zr_putf (fs' := [_, _, _, _, _, _]) dX7_drawnShare_2 (rfl : 2 + 3 = 5) f_X7_21 ft_7_3 (by first | assumption | exact mw_167 | exact mw_168 | exact mw_169 | exact mw_170 | exact bk_0 | exact bk_1 | exact bk_2 | exact bk_3 | exact bk_4 | exact bk_5 | exact bk_6 | exact bk_7 | exact bk_8 | exact bk_9 | exact bk_10 | exact bk_11 | exact bk_12 | exact bk_13 | exact bk_14 | exact bk_15 | exact bk_16 | exact zup_self | exact (zup_ne (by first | assumption | omega)).trans (by first | assumption | exact zup_self) | exact (zup_ne (by first | assumption | omega)).trans ((zup_ne (by first | assumption | omega)).trans (by first | assumption | exact zup_self)) | exact (bk_out (by first | omega | (simp only [bset, reduceIte, Nat.reduceEqDiff]; omega))).trans (by first | exact bk_0 | exact bk_1 | exact bk_2 | exact bk_3 | exact bk_4 | exact bk_5 | exact bk_6 | exact bk_7 | exact bk_8 | exact bk_9 | exact bk_10 | exact bk_11 | exact bk_12 | exact bk_13 | exact bk_14 | exact bk_15 | exact bk_16 | exact cr_5 | exact cr_23 | exact cr_24 | exact cr_25 | exact cr_26 | exact cr_27 | exact cr_28 | exact cr_29 | exact cr_30 | assumption)) (Nat.le_of_ble_eq_true rfl) rfl rfl rfl ?_
  rw [mwu_o]
  refine zr_aload_n dX7_drawnShare_5 (rfl : 5 + 1 = 6) rfl ?_
  refine zr_fnV dX7_drawnShare_6 (rfl : 6 + 3 = 9) l_X7_190 (m_share h ok lk (jsz_r lk) (jdn_le ok lk)) (by first | assumption | exact mw_167 | exact mw_168 | exact mw_169 | exact mw_170 | exact bk_0 | exact bk_1 | exact bk_2 | exact bk_3 | exact bk_4 | exact bk_5 | exact bk_6 | exact bk_7 | exact bk_8 | exact bk_9 | exact bk_10 | exact bk_11 | exact bk_12 | exact bk_13 | exact bk_14 | exact bk_15 | exact bk_16 | exact zup_self | exact (zup_ne (by first | assumption | omega)).trans (by first | assumption | exact zup_self) | exact (zup_ne (by first | assumption | omega)).trans ((zup_ne (by first | assumption | omega)).trans (by first | assumption | exact zup_self)) | exact (bk_out (by first | omega | (simp only [bset, reduceIte, Nat.reduceEqDiff]; omega))).trans (by first | exact bk_0 | exact bk_1 | exact bk_2 | exact bk_3 | exact bk_4 | exact bk_5 | exact bk_6 | exact bk_7 | exact bk_8 | exact bk_9 | exact bk_10 | exact bk_11 | exact bk_12 | exact bk_13 | exact bk_14 | exact bk_15 | exact bk_16 | exact cr_5 | exact cr_23 | exact cr_24 | exact cr_25 | exact cr_26 | exact cr_27 | exact cr_28 | exact cr_29 | exact cr_30 | assumption)) rfl rfl rfl (Nat.le_of_ble_eq_true rfl) ?_
  refine zr_dreE dX7_drawnShare_9 rfl ?_
  exact ⟨rfl, S, ik, hR, rfl⟩
theorem jer_r {T : Int → Int} {L : Int} (hy : 0 ≤ L ∧ L ≤ 60) : -1 ≤ jer T L 61 0 ∧ jer T L 61 0 ≤ 60 := by
  have hr := jfw_r (T := T) (L := L) L.toNat 0 0 (by omega) (by omega) hy.1
  rw [jfw_all hy] at hr
  by_cases hn : jer T L 61 0 < 0
  · refine ⟨?_, by omega⟩
    have h2 : ∀ (n : Nat) (s : Int), 0 ≤ s → -1 ≤ jer T L n s := by
      intro n
      induction n with
      | zero => exact fun s _ => by show -1 ≤ L; omega
      | succ n ih =>
        intro s hs
        rw [jer_succ]
        split
        · omega
        · split
          · exact ih _ (by omega)
          · decide
    exact h2 61 0 (by decide)
  · rw [if_neg hn] at hr
    omega
theorem p_run1 (h2 : ¬ jer σ.T σ.L 61 0 < 0) (hR : zRel B σ S ik) : zFe Γ md_X7_run (d + 8) [.ref 167] (mw S σ.sc ik th σ.T σ.L w) (zMQ (some (.int (jI 0))) 1 B σ w) := by
  have ck := hR.2.2.2.1
  have hjr := jer_r (T := σ.T) ck.L
  have he := m_error (Γ := Γ) (d := d + 5) (S := S) (st := σ.sc) (ik := ik) (th := th) (w := w) ck.L ck.T
  generalize jer σ.T σ.L 61 0 = E at h2 hjr he
  refine zFe.of_run (lv := [some (.ref 167), none, none, none]) (by decide) rfl (Nat.le_of_ble_eq_true rfl) rfl (fun n9 g9 => ?_)
  refine zr_aload_n dX7_run_0 (rfl : 0 + 1 = 1) rfl ?_
  refine zr_aload_n dX7_run_1 (rfl : 1 + 1 = 2) rfl ?_
  refine zr_fnV dX7_run_2 (rfl : 2 + 3 = 5) l_X7_134 (he) (by first | assumption | exact mw_167 | exact mw_168 | exact mw_169 | exact mw_170 | exact bk_0 | exact bk_1 | exact bk_2 | exact bk_3 | exact bk_4 | exact bk_5 | exact bk_6 | exact bk_7 | exact bk_8 | exact bk_9 | exact bk_10 | exact bk_11 | exact bk_12 | exact bk_13 | exact bk_14 | exact bk_15 | exact bk_16 | exact zup_self | exact (zup_ne (by first | assumption | omega)).trans (by first | assumption | exact zup_self) | exact (zup_ne (by first | assumption | omega)).trans ((zup_ne (by first | assumption | omega)).trans (by first | assumption | exact zup_self)) | exact (bk_out (by first | omega | (simp only [bset, reduceIte, Nat.reduceEqDiff]; omega))).trans (by first | exact bk_0 | exact bk_1 | exact bk_2 | exact bk_3 | exact bk_4 | exact bk_5 | exact bk_6 | exact bk_7 | exact bk_8 | exact bk_9 | exact bk_10 | exact bk_11 | exact bk_12 | exact bk_13 | exact bk_14 | exact bk_15 | exact bk_16 | exact cr_5 | exact cr_23 | exact cr_24 | exact cr_25 | exact cr_26 | exact cr_27 | exact cr_28 | exact cr_29 | exact cr_30 | assumption)) rfl rfl rfl (Nat.le_of_ble_eq_true rfl) ?_
  refine zr_if_ge (tgt := 12) dX7_run_5 (by decide) (rfl : 5 + 3 = 8) (jI_gez (by first | omega | (simp only [bset, reduceIte, Nat.reduceEqDiff]; omega)) (by first | omega | (simp only [bset, reduceIte, Nat.reduceEqDiff]; omega))) (fun h5 => ?_) (fun h5 => ?_)
  · first
    | (exfalso; omega)
    | (
      refine zr_iconst dX7_run_12 (rfl : 12 + 1 = 13) ?_
      refine zr_iconst dX7_run_13 (rfl : 13 + 1 = 14) ?_
      refine zr_iconst dX7_run_14 (rfl : 14 + 1 = 15) ?_
      refine zr_fnV dX7_run_15 (rfl : 15 + 3 = 18) l_X7_60 (m_go1 _ _) (by first | assumption | exact mw_167 | exact mw_168 | exact mw_169 | exact mw_170 | exact bk_0 | exact bk_1 | exact bk_2 | exact bk_3 | exact bk_4 | exact bk_5 | exact bk_6 | exact bk_7 | exact bk_8 | exact bk_9 | exact bk_10 | exact bk_11 | exact bk_12 | exact bk_13 | exact bk_14 | exact bk_15 | exact bk_16 | exact zup_self | exact (zup_ne (by first | assumption | omega)).trans (by first | assumption | exact zup_self) | exact (zup_ne (by first | assumption | omega)).trans ((zup_ne (by first | assumption | omega)).trans (by first | assumption | exact zup_self)) | exact (bk_out (by first | omega | (simp only [bset, reduceIte, Nat.reduceEqDiff]; omega))).trans (by first | exact bk_0 | exact bk_1 | exact bk_2 | exact bk_3 | exact bk_4 | exact bk_5 | exact bk_6 | exact bk_7 | exact bk_8 | exact bk_9 | exact bk_10 | exact bk_11 | exact bk_12 | exact bk_13 | exact bk_14 | exact bk_15 | exact bk_16 | exact cr_5 | exact cr_23 | exact cr_24 | exact cr_25 | exact cr_26 | exact cr_27 | exact cr_28 | exact cr_29 | exact cr_30 | assumption)) rfl rfl rfl (Nat.le_of_ble_eq_true rfl) ?_
      refine zr_if_ne (tgt := 23) dX7_run_18 (by decide) (rfl : 18 + 3 = 21) (by first | exact jb_iff | exact jI_z (by first | omega | (simp only [bset, reduceIte, Nat.reduceEqDiff]; omega)) (by first | omega | (simp only [bset, reduceIte, Nat.reduceEqDiff]; omega))) (fun h18 => ?_) (fun h18 => ?_)
      · first
        | (exfalso; omega)
        | (
          exfalso
          omega)
      · first
        | (exfalso; omega)
        | (
          refine zr_iconst dX7_run_21 (rfl : 21 + 1 = 22) ?_
          refine zr_ireE dX7_run_22 rfl rfl ?_
          exact ⟨rfl, S, ik, hR, rfl⟩))
  · first
    | (exfalso; omega)
    | (
      exfalso
      omega)
theorem p_run (h2 : jer σ.T σ.L 61 0 < 0) (hR : zRel B σ S ik) : zFe Γ md_X7_run (d + 8) [.ref 167] (mw S σ.sc ik th σ.T σ.L w) (zMQ (some (.int (jI (jrun σ.T σ.L B).2))) 0 (jrun σ.T σ.L B).1 (zC.sL (jsv σ B) 0) w) := by
  have ok := hR.1
  have lk := hR.2.1
  have pk := hR.2.2.1
  have ck := hR.2.2.2.1
  have hL := ck.L
  have hT := ck.T
  have hch := jer_ch 61 0 (by decide) hL.1 h2
  have hjr := jer_r (T := σ.T) ck.L
  have hR2 := zRel_save hR
  have hm2 : mr (jsv2 S σ.sc) 0 B := hR2.2.2.2.2.2.1
  have he := m_error (Γ := Γ) (d := d + 5) (S := S) (st := σ.sc) (ik := ik) (th := th) (w := w) ck.L ck.T
  generalize hE : jer σ.T σ.L 61 0 = E at h2 hjr he
  clear hE
  refine zFe.of_run (lv := [some (.ref 167), none, none, none]) (by decide) rfl (Nat.le_of_ble_eq_true rfl) rfl (fun n9 g9 => ?_)
  have fin : ∀ (s k p : Int) (B1 : zB) (S1 : Int → Int), k = (jrun σ.T σ.L B).2 → B1 = (jrun σ.T σ.L B).1 → jok B1 → jlk B1 → jpk B1 → jagb 0 S1 (jsv2 S σ.sc) → mr S1 0 B1 → zRun Γ md_X7_run (d + 8) none 72 [some (.ref 167), some (.int (jI s)), some (.int (jI k)), some (.int (jI p))] [] (n9, g9, 0, 0) (mw S1 (jst2 σ.sc + 1) ik 0 σ.T σ.L w) (zPost md_X7_run (zMQ (some (.int (jI (jrun σ.T σ.L B).2))) 0 (jrun σ.T σ.L B).1 (zC.sL (jsv σ B) 0) w) n9 g9) := by
    intro s k p B1 S1 e1 e2 o1 l1 p1 ag hm
    rw [← e1, ← e2]
    refine zr_aload_n dX7_run_72 (rfl : 72 + 1 = 73) rfl ?_
    refine zr_iconst dX7_run_73 (rfl : 73 + 1 = 74) ?_
    refine zr_putf (fs' := [_, _, _, _, _, _]) dX7_run_74 (rfl : 74 + 3 = 77) f_X7_121 ft_7_5 (by first | assumption | exact mw_167 | exact mw_168 | exact mw_169 | exact mw_170 | exact bk_0 | exact bk_1 | exact bk_2 | exact bk_3 | exact bk_4 | exact bk_5 | exact bk_6 | exact bk_7 | exact bk_8 | exact bk_9 | exact bk_10 | exact bk_11 | exact bk_12 | exact bk_13 | exact bk_14 | exact bk_15 | exact bk_16 | exact zup_self | exact (zup_ne (by first | assumption | omega)).trans (by first | assumption | exact zup_self) | exact (zup_ne (by first | assumption | omega)).trans ((zup_ne (by first | assumption | omega)).trans (by first | assumption | exact zup_self)) | exact (bk_out (by first | omega | (simp only [bset, reduceIte, Nat.reduceEqDiff]; omega))).trans (by first | exact bk_0 | exact bk_1 | exact bk_2 | exact bk_3 | exact bk_4 | exact bk_5 | exact bk_6 | exact bk_7 | exact bk_8 | exact bk_9 | exact bk_10 | exact bk_11 | exact bk_12 | exact bk_13 | exact bk_14 | exact bk_15 | exact bk_16 | exact cr_5 | exact cr_23 | exact cr_24 | exact cr_25 | exact cr_26 | exact cr_27 | exact cr_28 | exact cr_29 | exact cr_30 | assumption)) (Nat.le_of_ble_eq_true rfl) rfl rfl rfl ?_
    rw [mwu_o]
    refine zr_iload_n dX7_run_77 (rfl : 77 + 1 = 78) rfl ?_
    refine zr_ireE dX7_run_78 rfl rfl ?_
    exact ⟨rfl, S1, ik, zRel_clr (zRel_upd hR2 o1 l1 p1 ag hm), rfl⟩
  have key : zRun Γ md_X7_run (d + 8) none 33 [some (.ref 167), some (.int (jI 0)), some (.int (jI 0)), some (.int (jI 1))] [] (n9, g9, 0, 0) (mw (jsv2 S σ.sc) (jst2 σ.sc + 1) ik 0 σ.T σ.L w) (zPost md_X7_run (zMQ (some (.int (jI (jrun σ.T σ.L B).2))) 0 (jrun σ.T σ.L B).1 (zC.sL (jsv σ B) 0) w) n9 g9) := by
    refine zfor1 0 60 (fun t (a : Int × Int × Int × zB × (Int → Int)) => (0 ≤ a.1 ∧ a.1 ≤ σ.L) ∧ (jok a.2.2.2.1 ∧ jlk a.2.2.2.1 ∧ jpk a.2.2.2.1 ∧ jagb 0 a.2.2.2.2 (jsv2 S σ.sc) ∧ mr a.2.2.2.2 0 a.2.2.2.1) ∧ ((a.2.2.1 = 1 ∧ t ≤ a.1 ∧ (a.1 < σ.L → ∃ m, jch σ.T σ.L m a.1) ∧ (jrn σ.T σ.L (60 - t).toNat a.1 a.2.2.2.1).1 = (jrun σ.T σ.L B).1 ∧ a.2.1 + (jrn σ.T σ.L (60 - t).toNat a.1 a.2.2.2.1).2 = (jrun σ.T σ.L B).2) ∨ (a.2.2.1 = 0 ∧ a.2.2.2.1 = (jrun σ.T σ.L B).1 ∧ a.2.1 = (jrun σ.T σ.L B).2))) (fun t a => [some (.ref 167), some (.int (jI a.1)), some (.int (jI a.2.1)), some (.int (jI a.2.2.1))]) (fun _ a => mw a.2.2.2.2 (jst2 σ.sc + 1) ik 0 σ.T σ.L w) (0, 0, 1, B, jsv2 S σ.sc) ⟨⟨Int.le_refl 0, hL.1⟩, ⟨ok, lk, pk, jagb.refl, hm2⟩, Or.inl ⟨rfl, Int.le_refl 0, fun _ => ⟨61, hch⟩, rfl, by show 0 + (jrn σ.T σ.L 60 0 B).2 = _; rw [Int.zero_add]; rfl⟩⟩ ?_ ?_
    · intro t a t0 t1 hI hk
      obtain ⟨s, k, p, B1, S1⟩ := a
      obtain ⟨hs, ⟨o1, l1, p1, ag, hm⟩, hp⟩ := hI
      simp only at hs o1 l1 p1 ag hm hp ⊢
      have hk2 := fun (s' k' p' : Int) (B' : zB) (S' : Int → Int) => hk (s', k', p', B', S')
      simp only at hk2
      clear hk
      rcases hp with ⟨rfl, hts, hc, hr1, hr2⟩ | ⟨rfl, hr1, hr2⟩
      · rw [show (60 - t).toNat = (60 - (t + 1)).toNat + 1 by omega] at hr1 hr2
        unfold jrn at hr1 hr2
        refine zr_iload_n dX7_run_33 (rfl : 33 + 1 = 34) rfl ?_
        refine zr_aload_n dX7_run_34 (rfl : 34 + 1 = 35) rfl ?_
        refine zr_getf dX7_run_35 (rfl : 35 + 3 = 38) f_X7_121 (by first | assumption | exact mw_167 | exact mw_168 | exact mw_169 | exact mw_170 | exact bk_0 | exact bk_1 | exact bk_2 | exact bk_3 | exact bk_4 | exact bk_5 | exact bk_6 | exact bk_7 | exact bk_8 | exact bk_9 | exact bk_10 | exact bk_11 | exact bk_12 | exact bk_13 | exact bk_14 | exact bk_15 | exact bk_16 | exact zup_self | exact (zup_ne (by first | assumption | omega)).trans (by first | assumption | exact zup_self) | exact (zup_ne (by first | assumption | omega)).trans ((zup_ne (by first | assumption | omega)).trans (by first | assumption | exact zup_self)) | exact (bk_out (by first | omega | (simp only [bset, reduceIte, Nat.reduceEqDiff]; omega))).trans (by first | exact bk_0 | exact bk_1 | exact bk_2 | exact bk_3 | exact bk_4 | exact bk_5 | exact bk_6 | exact bk_7 | exact bk_8 | exact bk_9 | exact bk_10 | exact bk_11 | exact bk_12 | exact bk_13 | exact bk_14 | exact bk_15 | exact bk_16 | exact cr_5 | exact cr_23 | exact cr_24 | exact cr_25 | exact cr_26 | exact cr_27 | exact cr_28 | exact cr_29 | exact cr_30 | assumption)) rfl ?_
        refine zr_icmp_ge (tgt := 72) dX7_run_38 (by decide) (rfl : 38 + 3 = 41) (jI_le (by first | omega | (simp only [bset, reduceIte, Nat.reduceEqDiff]; omega)) (by first | omega | (simp only [bset, reduceIte, Nat.reduceEqDiff]; omega)) (by first | omega | (simp only [bset, reduceIte, Nat.reduceEqDiff]; omega)) (by first | omega | (simp only [bset, reduceIte, Nat.reduceEqDiff]; omega))) (fun h38 => ?_) (fun h38 => ?_)
        · rw [if_neg (by omega)] at hr1 hr2
          exact fin _ _ _ _ _ (by rw [← hr2]; exact (Int.add_zero _).symm) hr1 o1 l1 p1 ag hm
        · rw [if_pos (by omega)] at hr1 hr2
          obtain ⟨m, hc⟩ := hc (by omega)
          have hgo : jgo σ.T σ.L s := by
            cases m with
            | zero => exact hc.elim
            | succ m => exact hc.1
          have hd := m_does (Γ := Γ) (d := d + 2) (st := jst2 σ.sc + 1) (ik := ik) (th := 0) (w := w) s hgo hs.1 hL hT hm o1 l1 p1
          have o2 := jok_do hgo hs.1 o1
          have l2 := jlk_do hgo hs.1 o1 l1
          have p2 := jpk_do (T := σ.T) (L := σ.L) (s := s) p1
          have hdr := jdo_r σ.T σ.L s B1
          have hoe := fun (S2 : Int → Int) => m_orderEnd (Γ := Γ) (d := d + 6) (S := S2) (st := jst2 σ.sc + 1) (ik := ik) (th := 0) (tx := σ.T) (ty := σ.L) (w := w) s hs hL hT
          rw [joe_go hgo] at hoe
          have g1 := hgo.1
          have g2 := hgo.2.1
          have hc2 : s + jol (jca σ.T σ.L s) < σ.L → ∃ m, jch σ.T σ.L m (s + jol (jca σ.T σ.L s)) := fun h => by
            cases m with
            | zero => exact hc.elim
            | succ m =>
              rcases hc.2 with h2 | h2
              · omega
              · exact ⟨m, h2.2⟩
          generalize jdo σ.T σ.L s B1 = D at hr1 hr2 hd o2 l2 p2 hdr
          generalize jol (jca σ.T σ.L s) = Z at hr1 hr2 hoe g1 g2 hc2
          refine zr_iload_n dX7_run_41 (rfl : 41 + 1 = 42) rfl ?_
          refine zr_if_eq (tgt := 72) dX7_run_42 (by decide) (rfl : 42 + 3 = 45) (by first | exact jb_iff | exact jI_z (by first | omega | (simp only [bset, reduceIte, Nat.reduceEqDiff]; omega)) (by first | omega | (simp only [bset, reduceIte, Nat.reduceEqDiff]; omega))) (fun h42 => ?_) (fun h42 => ?_)
          · exfalso; omega
          · refine zr_aload_n dX7_run_45 (rfl : 45 + 1 = 46) rfl ?_
            refine zr_iload_n dX7_run_46 (rfl : 46 + 1 = 47) rfl ?_
            refine zr_feV dX7_run_47 (rfl : 47 + 3 = 50) l_X7_140 (hd) (by first | assumption | exact mw_167 | exact mw_168 | exact mw_169 | exact mw_170 | exact bk_0 | exact bk_1 | exact bk_2 | exact bk_3 | exact bk_4 | exact bk_5 | exact bk_6 | exact bk_7 | exact bk_8 | exact bk_9 | exact bk_10 | exact bk_11 | exact bk_12 | exact bk_13 | exact bk_14 | exact bk_15 | exact bk_16 | exact zup_self | exact (zup_ne (by first | assumption | omega)).trans (by first | assumption | exact zup_self) | exact (zup_ne (by first | assumption | omega)).trans ((zup_ne (by first | assumption | omega)).trans (by first | assumption | exact zup_self)) | exact (bk_out (by first | omega | (simp only [bset, reduceIte, Nat.reduceEqDiff]; omega))).trans (by first | exact bk_0 | exact bk_1 | exact bk_2 | exact bk_3 | exact bk_4 | exact bk_5 | exact bk_6 | exact bk_7 | exact bk_8 | exact bk_9 | exact bk_10 | exact bk_11 | exact bk_12 | exact bk_13 | exact bk_14 | exact bk_15 | exact bk_16 | exact cr_5 | exact cr_23 | exact cr_24 | exact cr_25 | exact cr_26 | exact cr_27 | exact cr_28 | exact cr_29 | exact cr_30 | assumption)) rfl rfl rfl (Nat.le_of_ble_eq_true rfl) ?_
            rintro _ _ ⟨rfl, S47, hS47, rfl⟩
            refine zr_istore_n (lv' := [_, _, _, _]) dX7_run_50 (rfl : 50 + 1 = 51) (Nat.le_of_ble_eq_true rfl) rfl ?_
            refine zr_iload_n dX7_run_51 (rfl : 51 + 1 = 52) rfl ?_
            refine zr_iload_n dX7_run_52 (rfl : 52 + 1 = 53) rfl ?_
            obtain ⟨ag2, hm3⟩ := hS47
            have ag3 := ag2.trans ag
            refine zr_if_eq (tgt := 60) dX7_run_53 (by decide) (rfl : 53 + 3 = 56) (by first | exact jb_iff | exact jI_z (by first | omega | (simp only [bset, reduceIte, Nat.reduceEqDiff]; omega)) (by first | omega | (simp only [bset, reduceIte, Nat.reduceEqDiff]; omega))) (fun h53 => ?_) (fun h53 => ?_)
            · rw [if_pos (by omega)] at hr1 hr2
              refine zr_iconst dX7_run_60 (rfl : 60 + 1 = 61) ?_
              refine zr_iadd dX7_run_61 (rfl : 61 + 1 = 62) (by first | exact jI_add _ _ | rfl) ?_
              refine zr_istore_n (lv' := [_, _, _, _]) dX7_run_62 (rfl : 62 + 1 = 63) (Nat.le_of_ble_eq_true rfl) rfl ?_
              refine zr_aload_n dX7_run_63 (rfl : 63 + 1 = 64) rfl ?_
              refine zr_iload_n dX7_run_64 (rfl : 64 + 1 = 65) rfl ?_
              refine zr_fnV dX7_run_65 (rfl : 65 + 3 = 68) l_X7_131 (hoe S47) (by first | assumption | exact mw_167 | exact mw_168 | exact mw_169 | exact mw_170 | exact bk_0 | exact bk_1 | exact bk_2 | exact bk_3 | exact bk_4 | exact bk_5 | exact bk_6 | exact bk_7 | exact bk_8 | exact bk_9 | exact bk_10 | exact bk_11 | exact bk_12 | exact bk_13 | exact bk_14 | exact bk_15 | exact bk_16 | exact zup_self | exact (zup_ne (by first | assumption | omega)).trans (by first | assumption | exact zup_self) | exact (zup_ne (by first | assumption | omega)).trans ((zup_ne (by first | assumption | omega)).trans (by first | assumption | exact zup_self)) | exact (bk_out (by first | omega | (simp only [bset, reduceIte, Nat.reduceEqDiff]; omega))).trans (by first | exact bk_0 | exact bk_1 | exact bk_2 | exact bk_3 | exact bk_4 | exact bk_5 | exact bk_6 | exact bk_7 | exact bk_8 | exact bk_9 | exact bk_10 | exact bk_11 | exact bk_12 | exact bk_13 | exact bk_14 | exact bk_15 | exact bk_16 | exact cr_5 | exact cr_23 | exact cr_24 | exact cr_25 | exact cr_26 | exact cr_27 | exact cr_28 | exact cr_29 | exact cr_30 | assumption)) rfl rfl rfl (Nat.le_of_ble_eq_true rfl) ?_
              refine zr_istore_n (lv' := [_, _, _, _]) dX7_run_68 (rfl : 68 + 1 = 69) (Nat.le_of_ble_eq_true rfl) rfl ?_
              refine zr_goto (tgt := 33) dX7_run_69 (by decide) ?_
              exact hk2 _ _ _ _ _ ⟨⟨by omega, by omega⟩, ⟨o2, l2, p2, ag3, hm3⟩, Or.inr ⟨by omega, hr1, hr2⟩⟩
            · rw [if_neg (by omega)] at hr1 hr2
              refine zr_iconst dX7_run_56 (rfl : 56 + 1 = 57) ?_
              refine zr_goto (tgt := 61) dX7_run_57 (by decide) ?_
              refine zr_iadd dX7_run_61 (rfl : 61 + 1 = 62) (by first | exact jI_add _ _ | rfl) ?_
              refine zr_istore_n (lv' := [_, _, _, _]) dX7_run_62 (rfl : 62 + 1 = 63) (Nat.le_of_ble_eq_true rfl) rfl ?_
              refine zr_aload_n dX7_run_63 (rfl : 63 + 1 = 64) rfl ?_
              refine zr_iload_n dX7_run_64 (rfl : 64 + 1 = 65) rfl ?_
              refine zr_fnV dX7_run_65 (rfl : 65 + 3 = 68) l_X7_131 (hoe S47) (by first | assumption | exact mw_167 | exact mw_168 | exact mw_169 | exact mw_170 | exact bk_0 | exact bk_1 | exact bk_2 | exact bk_3 | exact bk_4 | exact bk_5 | exact bk_6 | exact bk_7 | exact bk_8 | exact bk_9 | exact bk_10 | exact bk_11 | exact bk_12 | exact bk_13 | exact bk_14 | exact bk_15 | exact bk_16 | exact zup_self | exact (zup_ne (by first | assumption | omega)).trans (by first | assumption | exact zup_self) | exact (zup_ne (by first | assumption | omega)).trans ((zup_ne (by first | assumption | omega)).trans (by first | assumption | exact zup_self)) | exact (bk_out (by first | omega | (simp only [bset, reduceIte, Nat.reduceEqDiff]; omega))).trans (by first | exact bk_0 | exact bk_1 | exact bk_2 | exact bk_3 | exact bk_4 | exact bk_5 | exact bk_6 | exact bk_7 | exact bk_8 | exact bk_9 | exact bk_10 | exact bk_11 | exact bk_12 | exact bk_13 | exact bk_14 | exact bk_15 | exact bk_16 | exact cr_5 | exact cr_23 | exact cr_24 | exact cr_25 | exact cr_26 | exact cr_27 | exact cr_28 | exact cr_29 | exact cr_30 | assumption)) rfl rfl rfl (Nat.le_of_ble_eq_true rfl) ?_
              refine zr_istore_n (lv' := [_, _, _, _]) dX7_run_68 (rfl : 68 + 1 = 69) (Nat.le_of_ble_eq_true rfl) rfl ?_
              refine zr_goto (tgt := 33) dX7_run_69 (by decide) ?_
              exact hk2 _ _ _ _ _ ⟨⟨by omega, by omega⟩, ⟨o2, l2, p2, ag3, hm3⟩, Or.inl ⟨by omega, by omega, hc2, hr1, by rw [← hr2]; omega⟩⟩
      · refine zr_iload_n dX7_run_33 (rfl : 33 + 1 = 34) rfl ?_
        refine zr_aload_n dX7_run_34 (rfl : 34 + 1 = 35) rfl ?_
        refine zr_getf dX7_run_35 (rfl : 35 + 3 = 38) f_X7_121 (by first | assumption | exact mw_167 | exact mw_168 | exact mw_169 | exact mw_170 | exact bk_0 | exact bk_1 | exact bk_2 | exact bk_3 | exact bk_4 | exact bk_5 | exact bk_6 | exact bk_7 | exact bk_8 | exact bk_9 | exact bk_10 | exact bk_11 | exact bk_12 | exact bk_13 | exact bk_14 | exact bk_15 | exact bk_16 | exact zup_self | exact (zup_ne (by first | assumption | omega)).trans (by first | assumption | exact zup_self) | exact (zup_ne (by first | assumption | omega)).trans ((zup_ne (by first | assumption | omega)).trans (by first | assumption | exact zup_self)) | exact (bk_out (by first | omega | (simp only [bset, reduceIte, Nat.reduceEqDiff]; omega))).trans (by first | exact bk_0 | exact bk_1 | exact bk_2 | exact bk_3 | exact bk_4 | exact bk_5 | exact bk_6 | exact bk_7 | exact bk_8 | exact bk_9 | exact bk_10 | exact bk_11 | exact bk_12 | exact bk_13 | exact bk_14 | exact bk_15 | exact bk_16 | exact cr_5 | exact cr_23 | exact cr_24 | exact cr_25 | exact cr_26 | exact cr_27 | exact cr_28 | exact cr_29 | exact cr_30 | assumption)) rfl ?_
        refine zr_icmp_ge (tgt := 72) dX7_run_38 (by decide) (rfl : 38 + 3 = 41) (jI_le (by first | omega | (simp only [bset, reduceIte, Nat.reduceEqDiff]; omega)) (by first | omega | (simp only [bset, reduceIte, Nat.reduceEqDiff]; omega)) (by first | omega | (simp only [bset, reduceIte, Nat.reduceEqDiff]; omega)) (by first | omega | (simp only [bset, reduceIte, Nat.reduceEqDiff]; omega))) (fun h38 => ?_) (fun h38 => ?_)
        · exact fin _ _ _ _ _ hr2 hr1 o1 l1 p1 ag hm
        · refine zr_iload_n dX7_run_41 (rfl : 41 + 1 = 42) rfl ?_
          refine zr_if_eq (tgt := 72) dX7_run_42 (by decide) (rfl : 42 + 3 = 45) (by first | exact jb_iff | exact jI_z (by first | omega | (simp only [bset, reduceIte, Nat.reduceEqDiff]; omega)) (by first | omega | (simp only [bset, reduceIte, Nat.reduceEqDiff]; omega))) (fun h42 => ?_) (fun h42 => ?_)
          · exact fin _ _ _ _ _ hr2 hr1 o1 l1 p1 ag hm
          · exfalso; omega
    · intro a hI
      obtain ⟨s, k, p, B1, S1⟩ := a
      obtain ⟨hs, ⟨o1, l1, p1, ag, hm⟩, hp⟩ := hI
      simp only at hs o1 l1 p1 ag hm hp ⊢
      rcases hp with ⟨rfl, hts, hc, hr1, hr2⟩ | ⟨rfl, hr1, hr2⟩
      · rw [show ((60 : Int) - ((0 : Int) + ((60 : Nat) : Int))).toNat = 0 from rfl] at hr1 hr2
        refine zr_iload_n dX7_run_33 (rfl : 33 + 1 = 34) rfl ?_
        refine zr_aload_n dX7_run_34 (rfl : 34 + 1 = 35) rfl ?_
        refine zr_getf dX7_run_35 (rfl : 35 + 3 = 38) f_X7_121 (by first | assumption | exact mw_167 | exact mw_168 | exact mw_169 | exact mw_170 | exact bk_0 | exact bk_1 | exact bk_2 | exact bk_3 | exact bk_4 | exact bk_5 | exact bk_6 | exact bk_7 | exact bk_8 | exact bk_9 | exact bk_10 | exact bk_11 | exact bk_12 | exact bk_13 | exact bk_14 | exact bk_15 | exact bk_16 | exact zup_self | exact (zup_ne (by first | assumption | omega)).trans (by first | assumption | exact zup_self) | exact (zup_ne (by first | assumption | omega)).trans ((zup_ne (by first | assumption | omega)).trans (by first | assumption | exact zup_self)) | exact (bk_out (by first | omega | (simp only [bset, reduceIte, Nat.reduceEqDiff]; omega))).trans (by first | exact bk_0 | exact bk_1 | exact bk_2 | exact bk_3 | exact bk_4 | exact bk_5 | exact bk_6 | exact bk_7 | exact bk_8 | exact bk_9 | exact bk_10 | exact bk_11 | exact bk_12 | exact bk_13 | exact bk_14 | exact bk_15 | exact bk_16 | exact cr_5 | exact cr_23 | exact cr_24 | exact cr_25 | exact cr_26 | exact cr_27 | exact cr_28 | exact cr_29 | exact cr_30 | assumption)) rfl ?_
        refine zr_icmp_ge (tgt := 72) dX7_run_38 (by decide) (rfl : 38 + 3 = 41) (jI_le (by first | omega | (simp only [bset, reduceIte, Nat.reduceEqDiff]; omega)) (by first | omega | (simp only [bset, reduceIte, Nat.reduceEqDiff]; omega)) (by first | omega | (simp only [bset, reduceIte, Nat.reduceEqDiff]; omega)) (by first | omega | (simp only [bset, reduceIte, Nat.reduceEqDiff]; omega))) (fun h38 => ?_) (fun h38 => ?_)
        · exact fin _ _ _ _ _ (by rw [← hr2]; exact (Int.add_zero _).symm) hr1 o1 l1 p1 ag hm
        · exfalso; omega
      · refine zr_iload_n dX7_run_33 (rfl : 33 + 1 = 34) rfl ?_
        refine zr_aload_n dX7_run_34 (rfl : 34 + 1 = 35) rfl ?_
        refine zr_getf dX7_run_35 (rfl : 35 + 3 = 38) f_X7_121 (by first | assumption | exact mw_167 | exact mw_168 | exact mw_169 | exact mw_170 | exact bk_0 | exact bk_1 | exact bk_2 | exact bk_3 | exact bk_4 | exact bk_5 | exact bk_6 | exact bk_7 | exact bk_8 | exact bk_9 | exact bk_10 | exact bk_11 | exact bk_12 | exact bk_13 | exact bk_14 | exact bk_15 | exact bk_16 | exact zup_self | exact (zup_ne (by first | assumption | omega)).trans (by first | assumption | exact zup_self) | exact (zup_ne (by first | assumption | omega)).trans ((zup_ne (by first | assumption | omega)).trans (by first | assumption | exact zup_self)) | exact (bk_out (by first | omega | (simp only [bset, reduceIte, Nat.reduceEqDiff]; omega))).trans (by first | exact bk_0 | exact bk_1 | exact bk_2 | exact bk_3 | exact bk_4 | exact bk_5 | exact bk_6 | exact bk_7 | exact bk_8 | exact bk_9 | exact bk_10 | exact bk_11 | exact bk_12 | exact bk_13 | exact bk_14 | exact bk_15 | exact bk_16 | exact cr_5 | exact cr_23 | exact cr_24 | exact cr_25 | exact cr_26 | exact cr_27 | exact cr_28 | exact cr_29 | exact cr_30 | assumption)) rfl ?_
        refine zr_icmp_ge (tgt := 72) dX7_run_38 (by decide) (rfl : 38 + 3 = 41) (jI_le (by first | omega | (simp only [bset, reduceIte, Nat.reduceEqDiff]; omega)) (by first | omega | (simp only [bset, reduceIte, Nat.reduceEqDiff]; omega)) (by first | omega | (simp only [bset, reduceIte, Nat.reduceEqDiff]; omega)) (by first | omega | (simp only [bset, reduceIte, Nat.reduceEqDiff]; omega))) (fun h38 => ?_) (fun h38 => ?_)
        · exact fin _ _ _ _ _ hr2 hr1 o1 l1 p1 ag hm
        · refine zr_iload_n dX7_run_41 (rfl : 41 + 1 = 42) rfl ?_
          refine zr_if_eq (tgt := 72) dX7_run_42 (by decide) (rfl : 42 + 3 = 45) (by first | exact jb_iff | exact jI_z (by first | omega | (simp only [bset, reduceIte, Nat.reduceEqDiff]; omega)) (by first | omega | (simp only [bset, reduceIte, Nat.reduceEqDiff]; omega))) (fun h42 => ?_) (fun h42 => ?_)
          · exact fin _ _ _ _ _ hr2 hr1 o1 l1 p1 ag hm
          · exfalso; omega
  refine zr_aload_n dX7_run_0 (rfl : 0 + 1 = 1) rfl ?_
  refine zr_aload_n dX7_run_1 (rfl : 1 + 1 = 2) rfl ?_
  refine zr_fnV dX7_run_2 (rfl : 2 + 3 = 5) l_X7_134 (he) (by first | assumption | exact mw_167 | exact mw_168 | exact mw_169 | exact mw_170 | exact bk_0 | exact bk_1 | exact bk_2 | exact bk_3 | exact bk_4 | exact bk_5 | exact bk_6 | exact bk_7 | exact bk_8 | exact bk_9 | exact bk_10 | exact bk_11 | exact bk_12 | exact bk_13 | exact bk_14 | exact bk_15 | exact bk_16 | exact zup_self | exact (zup_ne (by first | assumption | omega)).trans (by first | assumption | exact zup_self) | exact (zup_ne (by first | assumption | omega)).trans ((zup_ne (by first | assumption | omega)).trans (by first | assumption | exact zup_self)) | exact (bk_out (by first | omega | (simp only [bset, reduceIte, Nat.reduceEqDiff]; omega))).trans (by first | exact bk_0 | exact bk_1 | exact bk_2 | exact bk_3 | exact bk_4 | exact bk_5 | exact bk_6 | exact bk_7 | exact bk_8 | exact bk_9 | exact bk_10 | exact bk_11 | exact bk_12 | exact bk_13 | exact bk_14 | exact bk_15 | exact bk_16 | exact cr_5 | exact cr_23 | exact cr_24 | exact cr_25 | exact cr_26 | exact cr_27 | exact cr_28 | exact cr_29 | exact cr_30 | assumption)) rfl rfl rfl (Nat.le_of_ble_eq_true rfl) ?_
  refine zr_if_ge (tgt := 12) dX7_run_5 (by decide) (rfl : 5 + 3 = 8) (jI_gez (by first | omega | (simp only [bset, reduceIte, Nat.reduceEqDiff]; omega)) (by first | omega | (simp only [bset, reduceIte, Nat.reduceEqDiff]; omega))) (fun h5 => ?_) (fun h5 => ?_)
  · first
    | (exfalso; omega)
    | (
      exfalso
      omega)
  · first
    | (exfalso; omega)
    | (
      refine zr_iconst dX7_run_8 (rfl : 8 + 1 = 9) ?_
      refine zr_goto (tgt := 13) dX7_run_9 (by decide) ?_
      refine zr_iconst dX7_run_13 (rfl : 13 + 1 = 14) ?_
      refine zr_iconst dX7_run_14 (rfl : 14 + 1 = 15) ?_
      refine zr_fnV dX7_run_15 (rfl : 15 + 3 = 18) l_X7_60 (m_go) (by first | assumption | exact mw_167 | exact mw_168 | exact mw_169 | exact mw_170 | exact bk_0 | exact bk_1 | exact bk_2 | exact bk_3 | exact bk_4 | exact bk_5 | exact bk_6 | exact bk_7 | exact bk_8 | exact bk_9 | exact bk_10 | exact bk_11 | exact bk_12 | exact bk_13 | exact bk_14 | exact bk_15 | exact bk_16 | exact zup_self | exact (zup_ne (by first | assumption | omega)).trans (by first | assumption | exact zup_self) | exact (zup_ne (by first | assumption | omega)).trans ((zup_ne (by first | assumption | omega)).trans (by first | assumption | exact zup_self)) | exact (bk_out (by first | omega | (simp only [bset, reduceIte, Nat.reduceEqDiff]; omega))).trans (by first | exact bk_0 | exact bk_1 | exact bk_2 | exact bk_3 | exact bk_4 | exact bk_5 | exact bk_6 | exact bk_7 | exact bk_8 | exact bk_9 | exact bk_10 | exact bk_11 | exact bk_12 | exact bk_13 | exact bk_14 | exact bk_15 | exact bk_16 | exact cr_5 | exact cr_23 | exact cr_24 | exact cr_25 | exact cr_26 | exact cr_27 | exact cr_28 | exact cr_29 | exact cr_30 | assumption)) rfl rfl rfl (Nat.le_of_ble_eq_true rfl) ?_
      refine zr_if_ne (tgt := 23) dX7_run_18 (by decide) (rfl : 18 + 3 = 21) (by first | exact jb_iff | exact jI_z (by first | omega | (simp only [bset, reduceIte, Nat.reduceEqDiff]; omega)) (by first | omega | (simp only [bset, reduceIte, Nat.reduceEqDiff]; omega))) (fun h18 => ?_) (fun h18 => ?_)
      · first
        | (exfalso; omega)
        | (
          refine zr_aload_n dX7_run_23 (rfl : 23 + 1 = 24) rfl ?_
          refine zr_fnV dX7_run_24 (rfl : 24 + 3 = 27) l_X7_64 (m_saves ck.sc) (by first | assumption | exact mw_167 | exact mw_168 | exact mw_169 | exact mw_170 | exact bk_0 | exact bk_1 | exact bk_2 | exact bk_3 | exact bk_4 | exact bk_5 | exact bk_6 | exact bk_7 | exact bk_8 | exact bk_9 | exact bk_10 | exact bk_11 | exact bk_12 | exact bk_13 | exact bk_14 | exact bk_15 | exact bk_16 | exact zup_self | exact (zup_ne (by first | assumption | omega)).trans (by first | assumption | exact zup_self) | exact (zup_ne (by first | assumption | omega)).trans ((zup_ne (by first | assumption | omega)).trans (by first | assumption | exact zup_self)) | exact (bk_out (by first | omega | (simp only [bset, reduceIte, Nat.reduceEqDiff]; omega))).trans (by first | exact bk_0 | exact bk_1 | exact bk_2 | exact bk_3 | exact bk_4 | exact bk_5 | exact bk_6 | exact bk_7 | exact bk_8 | exact bk_9 | exact bk_10 | exact bk_11 | exact bk_12 | exact bk_13 | exact bk_14 | exact bk_15 | exact bk_16 | exact cr_5 | exact cr_23 | exact cr_24 | exact cr_25 | exact cr_26 | exact cr_27 | exact cr_28 | exact cr_29 | exact cr_30 | assumption)) rfl rfl rfl (Nat.le_of_ble_eq_true rfl) ?_
          refine zr_iconst dX7_run_27 (rfl : 27 + 1 = 28) ?_
          refine zr_istore_n (lv' := [_, _, _, _]) dX7_run_28 (rfl : 28 + 1 = 29) (Nat.le_of_ble_eq_true rfl) rfl ?_
          refine zr_iconst dX7_run_29 (rfl : 29 + 1 = 30) ?_
          refine zr_istore_n (lv' := [_, _, _, _]) dX7_run_30 (rfl : 30 + 1 = 31) (Nat.le_of_ble_eq_true rfl) rfl ?_
          refine zr_iconst dX7_run_31 (rfl : 31 + 1 = 32) ?_
          refine zr_istore_n (lv' := [_, _, _, _]) dX7_run_32 (rfl : 32 + 1 = 33) (Nat.le_of_ble_eq_true rfl) rfl ?_
          exact key)
      · first
        | (exfalso; omega)
        | (
          exfalso
          omega))
end MF

