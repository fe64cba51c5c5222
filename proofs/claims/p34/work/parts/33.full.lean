/-! when a card is full -/
def jfb (B : zB) (c : Int) : Nat → Int → Int → Int × Int
  | 0, i, _ => (-1, i - 1)
  | n + 1, i, f => if f + jb (json B c (jod B (i - 1))) = 15 then (i, i) else jfb B c n (i + 1) (f + jb (json B c (jod B (i - 1))))
theorem jfb_succ (B : zB) (c : Int) (n : Nat) (i f : Int) : jfb B c (n + 1) i f = if f + jb (json B c (jod B (i - 1))) = 15 then (i, i) else jfb B c n (i + 1) (f + jb (json B c (jod B (i - 1)))) := rfl
section FU
variable {Γ : zΓ} {d : Nat} {σ : zC} {τ : zTau} {u w : zW} {B : zB}
theorem s_ballByBall (c : Int) (hc : 0 ≤ c ∧ c < 6) (ok : jok B) : ∃ τ', zFn Γ md_X6_fullBallByBall (d + 4) [.ref 5, .int (jI c)] (bk 6 B (cr σ τ u)) (some (.int (jI (jfb B c 90 1 0).1))) (bk 6 B (cr σ τ' u)) := by
  have hs := ok.ds
  have hca := ok.ca
  refine ⟨((jtn B τ ((jfb B c 90 1 0).2 - B 12 0).toNat).1, (jtn B τ ((jfb B c 90 1 0).2 - B 12 0).toNat).2.1, τ.od), ?_⟩
  generalize hR : jfb B c 90 1 0 = R
  refine zFn.of_run (lv := [some (.ref 5), some (.int (jI c)), none, none, none, none, none]) (by decide) rfl (Nat.le_of_ble_eq_true rfl) rfl (fun n9 g9 => ?_)
  refine zr_aload_n dX6_fullBallByBall_0 (rfl : 0 + 1 = 1) rfl ?_
  refine zr_getf dX6_fullBallByBall_1 (rfl : 1 + 3 = 4) f_X6_10 (by first | assumption | exact mw_167 | exact mw_168 | exact mw_169 | exact mw_170 | exact bk_0 | exact bk_1 | exact bk_2 | exact bk_3 | exact bk_4 | exact bk_5 | exact bk_6 | exact bk_7 | exact bk_8 | exact bk_9 | exact bk_10 | exact bk_11 | exact bk_12 | exact bk_13 | exact bk_14 | exact bk_15 | exact bk_16 | exact zup_self | exact (zup_ne (by first | assumption | omega)).trans (by first | assumption | exact zup_self) | exact (zup_ne (by first | assumption | omega)).trans ((zup_ne (by first | assumption | omega)).trans (by first | assumption | exact zup_self)) | exact (bk_out (by first | omega | (simp only [bset, reduceIte, Nat.reduceEqDiff]; omega))).trans (by first | exact bk_0 | exact bk_1 | exact bk_2 | exact bk_3 | exact bk_4 | exact bk_5 | exact bk_6 | exact bk_7 | exact bk_8 | exact bk_9 | exact bk_10 | exact bk_11 | exact bk_12 | exact bk_13 | exact bk_14 | exact bk_15 | exact bk_16 | exact cr_5 | exact cr_23 | exact cr_24 | exact cr_25 | exact cr_26 | exact cr_27 | exact cr_28 | exact cr_29 | exact cr_30 | assumption)) rfl ?_
  refine zr_getf dX6_fullBallByBall_4 (rfl : 4 + 3 = 7) f_X6_78 (by first | assumption | exact mw_167 | exact mw_168 | exact mw_169 | exact mw_170 | exact bk_0 | exact bk_1 | exact bk_2 | exact bk_3 | exact bk_4 | exact bk_5 | exact bk_6 | exact bk_7 | exact bk_8 | exact bk_9 | exact bk_10 | exact bk_11 | exact bk_12 | exact bk_13 | exact bk_14 | exact bk_15 | exact bk_16 | exact zup_self | exact (zup_ne (by first | assumption | omega)).trans (by first | assumption | exact zup_self) | exact (zup_ne (by first | assumption | omega)).trans ((zup_ne (by first | assumption | omega)).trans (by first | assumption | exact zup_self)) | exact (bk_out (by first | omega | (simp only [bset, reduceIte, Nat.reduceEqDiff]; omega))).trans (by first | exact bk_0 | exact bk_1 | exact bk_2 | exact bk_3 | exact bk_4 | exact bk_5 | exact bk_6 | exact bk_7 | exact bk_8 | exact bk_9 | exact bk_10 | exact bk_11 | exact bk_12 | exact bk_13 | exact bk_14 | exact bk_15 | exact bk_16 | exact cr_5 | exact cr_23 | exact cr_24 | exact cr_25 | exact cr_26 | exact cr_27 | exact cr_28 | exact cr_29 | exact cr_30 | assumption)) rfl ?_
  refine zr_astore_n (lv' := [_, _, _, _, _, _, _]) dX6_fullBallByBall_7 (rfl : 7 + 1 = 8) (Nat.le_of_ble_eq_true rfl) rfl ?_
  refine zr_aload_n dX6_fullBallByBall_8 (rfl : 8 + 1 = 9) rfl ?_
  refine zr_getf dX6_fullBallByBall_9 (rfl : 9 + 3 = 12) f_X6_37 (by first | assumption | exact mw_167 | exact mw_168 | exact mw_169 | exact mw_170 | exact bk_0 | exact bk_1 | exact bk_2 | exact bk_3 | exact bk_4 | exact bk_5 | exact bk_6 | exact bk_7 | exact bk_8 | exact bk_9 | exact bk_10 | exact bk_11 | exact bk_12 | exact bk_13 | exact bk_14 | exact bk_15 | exact bk_16 | exact zup_self | exact (zup_ne (by first | assumption | omega)).trans (by first | assumption | exact zup_self) | exact (zup_ne (by first | assumption | omega)).trans ((zup_ne (by first | assumption | omega)).trans (by first | assumption | exact zup_self)) | exact (bk_out (by first | omega | (simp only [bset, reduceIte, Nat.reduceEqDiff]; omega))).trans (by first | exact bk_0 | exact bk_1 | exact bk_2 | exact bk_3 | exact bk_4 | exact bk_5 | exact bk_6 | exact bk_7 | exact bk_8 | exact bk_9 | exact bk_10 | exact bk_11 | exact bk_12 | exact bk_13 | exact bk_14 | exact bk_15 | exact bk_16 | exact cr_5 | exact cr_23 | exact cr_24 | exact cr_25 | exact cr_26 | exact cr_27 | exact cr_28 | exact cr_29 | exact cr_30 | assumption)) rfl ?_
  refine zr_aload_n dX6_fullBallByBall_12 (rfl : 12 + 1 = 13) rfl ?_
  refine zr_getf dX6_fullBallByBall_13 (rfl : 13 + 3 = 16) f_X6_121 (by first | assumption | exact mw_167 | exact mw_168 | exact mw_169 | exact mw_170 | exact bk_0 | exact bk_1 | exact bk_2 | exact bk_3 | exact bk_4 | exact bk_5 | exact bk_6 | exact bk_7 | exact bk_8 | exact bk_9 | exact bk_10 | exact bk_11 | exact bk_12 | exact bk_13 | exact bk_14 | exact bk_15 | exact bk_16 | exact zup_self | exact (zup_ne (by first | assumption | omega)).trans (by first | assumption | exact zup_self) | exact (zup_ne (by first | assumption | omega)).trans ((zup_ne (by first | assumption | omega)).trans (by first | assumption | exact zup_self)) | exact (bk_out (by first | omega | (simp only [bset, reduceIte, Nat.reduceEqDiff]; omega))).trans (by first | exact bk_0 | exact bk_1 | exact bk_2 | exact bk_3 | exact bk_4 | exact bk_5 | exact bk_6 | exact bk_7 | exact bk_8 | exact bk_9 | exact bk_10 | exact bk_11 | exact bk_12 | exact bk_13 | exact bk_14 | exact bk_15 | exact bk_16 | exact cr_5 | exact cr_23 | exact cr_24 | exact cr_25 | exact cr_26 | exact cr_27 | exact cr_28 | exact cr_29 | exact cr_30 | assumption)) rfl ?_
  refine zr_fnV dX6_fullBallByBall_16 (rfl : 16 + 3 = 19) l_X6_270 (s_tryCopy ok) (by first | assumption | exact mw_167 | exact mw_168 | exact mw_169 | exact mw_170 | exact bk_0 | exact bk_1 | exact bk_2 | exact bk_3 | exact bk_4 | exact bk_5 | exact bk_6 | exact bk_7 | exact bk_8 | exact bk_9 | exact bk_10 | exact bk_11 | exact bk_12 | exact bk_13 | exact bk_14 | exact bk_15 | exact bk_16 | exact zup_self | exact (zup_ne (by first | assumption | omega)).trans (by first | assumption | exact zup_self) | exact (zup_ne (by first | assumption | omega)).trans ((zup_ne (by first | assumption | omega)).trans (by first | assumption | exact zup_self)) | exact (bk_out (by first | omega | (simp only [bset, reduceIte, Nat.reduceEqDiff]; omega))).trans (by first | exact bk_0 | exact bk_1 | exact bk_2 | exact bk_3 | exact bk_4 | exact bk_5 | exact bk_6 | exact bk_7 | exact bk_8 | exact bk_9 | exact bk_10 | exact bk_11 | exact bk_12 | exact bk_13 | exact bk_14 | exact bk_15 | exact bk_16 | exact cr_5 | exact cr_23 | exact cr_24 | exact cr_25 | exact cr_26 | exact cr_27 | exact cr_28 | exact cr_29 | exact cr_30 | assumption)) rfl rfl rfl (Nat.le_of_ble_eq_true rfl) ?_
  refine zr_aload_n dX6_fullBallByBall_19 (rfl : 19 + 1 = 20) rfl ?_
  refine zr_getf dX6_fullBallByBall_20 (rfl : 20 + 3 = 23) f_X6_10 (by first | assumption | exact mw_167 | exact mw_168 | exact mw_169 | exact mw_170 | exact bk_0 | exact bk_1 | exact bk_2 | exact bk_3 | exact bk_4 | exact bk_5 | exact bk_6 | exact bk_7 | exact bk_8 | exact bk_9 | exact bk_10 | exact bk_11 | exact bk_12 | exact bk_13 | exact bk_14 | exact bk_15 | exact bk_16 | exact zup_self | exact (zup_ne (by first | assumption | omega)).trans (by first | assumption | exact zup_self) | exact (zup_ne (by first | assumption | omega)).trans ((zup_ne (by first | assumption | omega)).trans (by first | assumption | exact zup_self)) | exact (bk_out (by first | omega | (simp only [bset, reduceIte, Nat.reduceEqDiff]; omega))).trans (by first | exact bk_0 | exact bk_1 | exact bk_2 | exact bk_3 | exact bk_4 | exact bk_5 | exact bk_6 | exact bk_7 | exact bk_8 | exact bk_9 | exact bk_10 | exact bk_11 | exact bk_12 | exact bk_13 | exact bk_14 | exact bk_15 | exact bk_16 | exact cr_5 | exact cr_23 | exact cr_24 | exact cr_25 | exact cr_26 | exact cr_27 | exact cr_28 | exact cr_29 | exact cr_30 | assumption)) rfl ?_
  refine zr_getf dX6_fullBallByBall_23 (rfl : 23 + 3 = 26) f_X6_105 (by first | assumption | exact mw_167 | exact mw_168 | exact mw_169 | exact mw_170 | exact bk_0 | exact bk_1 | exact bk_2 | exact bk_3 | exact bk_4 | exact bk_5 | exact bk_6 | exact bk_7 | exact bk_8 | exact bk_9 | exact bk_10 | exact bk_11 | exact bk_12 | exact bk_13 | exact bk_14 | exact bk_15 | exact bk_16 | exact zup_self | exact (zup_ne (by first | assumption | omega)).trans (by first | assumption | exact zup_self) | exact (zup_ne (by first | assumption | omega)).trans ((zup_ne (by first | assumption | omega)).trans (by first | assumption | exact zup_self)) | exact (bk_out (by first | omega | (simp only [bset, reduceIte, Nat.reduceEqDiff]; omega))).trans (by first | exact bk_0 | exact bk_1 | exact bk_2 | exact bk_3 | exact bk_4 | exact bk_5 | exact bk_6 | exact bk_7 | exact bk_8 | exact bk_9 | exact bk_10 | exact bk_11 | exact bk_12 | exact bk_13 | exact bk_14 | exact bk_15 | exact bk_16 | exact cr_5 | exact cr_23 | exact cr_24 | exact cr_25 | exact cr_26 | exact cr_27 | exact cr_28 | exact cr_29 | exact cr_30 | assumption)) rfl ?_
  refine zr_istore_n (lv' := [_, _, _, _, _, _, _]) dX6_fullBallByBall_26 (rfl : 26 + 1 = 27) (Nat.le_of_ble_eq_true rfl) rfl ?_
  refine zr_iconst dX6_fullBallByBall_27 (rfl : 27 + 1 = 28) ?_
  refine zr_istore (lv' := [_, _, _, _, _, _, _]) dX6_fullBallByBall_28 (rfl : 28 + 2 = 30) (Nat.le_of_ble_eq_true rfl) rfl ?_
  refine zr_iconst dX6_fullBallByBall_30 (rfl : 30 + 1 = 31) ?_
  refine zr_istore (lv' := [_, _, _, _, _, _, _]) dX6_fullBallByBall_31 (rfl : 31 + 2 = 33) (Nat.le_of_ble_eq_true rfl) rfl ?_
  have key : zRun Γ md_X6_fullBallByBall (d + 4) none 33 [some (.ref 5), some (.int (jI c)), some (.ref (6 + 4)), some (.int (jI (B 24 0))), some (.int (jI 0)), some (.int (jI 1)), none] [] (n9, g9, 0, 0) (bk 6 B (cr σ ((jtn B τ ((1 : Int) - 1 - B 12 0).toNat).1, (jtn B τ ((1 : Int) - 1 - B 12 0).toNat).2.1, τ.od) u)) (zDone md_X6_fullBallByBall (some (.int (jI R.1))) (bk 6 B (cr σ ((jtn B τ (R.2 - B 12 0).toNat).1, (jtn B τ (R.2 - B 12 0).toNat).2.1, τ.od) u)) n9 g9) := by
    refine zfor3 1 90 (fun i x f _ => x = jdrs (i - 1 - B 12 0).toNat B 24 0 ∧ 0 ≤ f ∧ f < i ∧ f < 15 ∧ jfb B c (91 - i).toNat i f = R) (fun i x f o6 => [some (.ref 5), some (.int (jI c)), some (.ref (6 + 4)), some (.int (jI x)), some (.int (jI f)), some (.int (jI i)), o6]) (fun i _ _ _ => bk 6 B (cr σ ((jtn B τ (i - 1 - B 12 0).toNat).1, (jtn B τ (i - 1 - B 12 0).toNat).2.1, τ.od) u)) (B 24 0) 0 none ⟨by rw [show ((1 : Int) - 1 - B 12 0).toNat = 0 by omega]; rfl, by decide, by decide, by decide, hR⟩ ?_ ?_
    · intro i x f o6 i0 i1 hI hk
      obtain ⟨hx, f0, f1, f2, hj⟩ := hI
      have okk := jok_drs ok (i - 1 - B 12 0).toNat (by omega)
      have hlo := okk.lo
      rw [← hx] at hlo
      have hod := jod_r ok (i := i - 1) (by omega)
      have hjb := jb_r (P := json B c (jod B (i - 1)))
      rw [show (91 - i).toNat = (91 - (i + 1)).toNat + 1 by omega, jfb_succ] at hj
      have fin : ∀ (x2 : Int), x2 = jdrs (i + 1 - 1 - B 12 0).toNat B 24 0 → zRun Γ md_X6_fullBallByBall (d + 4) none 78 [some (.ref 5), some (.int (jI c)), some (.ref (6 + 4)), some (.int (jI x2)), some (.int (jI f)), some (.int (jI i)), some (.int (jI (jod B (i - 1))))] [] (n9, g9, 0, 0) (bk 6 B (cr σ ((jtn B τ (i + 1 - 1 - B 12 0).toNat).1, (jtn B τ (i + 1 - 1 - B 12 0).toNat).2.1, τ.od) u)) (zDone md_X6_fullBallByBall (some (.int (jI R.1))) (bk 6 B (cr σ ((jtn B τ (R.2 - B 12 0).toNat).1, (jtn B τ (R.2 - B 12 0).toNat).2.1, τ.od) u)) n9 g9) := by
        intro x2 hx2
        have fin2 : ∀ f2 : Int, f2 = f + jb (json B c (jod B (i - 1))) → zRun Γ md_X6_fullBallByBall (d + 4) none 97 [some (.ref 5), some (.int (jI c)), some (.ref (6 + 4)), some (.int (jI x2)), some (.int (jI f2)), some (.int (jI i)), some (.int (jI (jod B (i - 1))))] [] (n9, g9, 0, 0) (bk 6 B (cr σ ((jtn B τ (i + 1 - 1 - B 12 0).toNat).1, (jtn B τ (i + 1 - 1 - B 12 0).toNat).2.1, τ.od) u)) (zDone md_X6_fullBallByBall (some (.int (jI R.1))) (bk 6 B (cr σ ((jtn B τ (R.2 - B 12 0).toNat).1, (jtn B τ (R.2 - B 12 0).toNat).2.1, τ.od) u)) n9 g9) := by
          intro f3 hf3
          rw [← hf3] at hj
          refine zr_iload dX6_fullBallByBall_97 (rfl : 97 + 2 = 99) rfl ?_
          refine zr_bipush dX6_fullBallByBall_99 (rfl : 99 + 2 = 101) (by decide) ?_
          refine zr_icmp_ne (tgt := 107) dX6_fullBallByBall_101 (by decide) (rfl : 101 + 3 = 104) (jI_eq (by first | omega | (simp only [bset, reduceIte, Nat.reduceEqDiff]; omega)) (by first | omega | (simp only [bset, reduceIte, Nat.reduceEqDiff]; omega)) (by first | omega | (simp only [bset, reduceIte, Nat.reduceEqDiff]; omega)) (by first | omega | (simp only [bset, reduceIte, Nat.reduceEqDiff]; omega))) (fun h101 => ?_) (fun h101 => ?_)
          · rw [if_neg h101] at hj
            refine zr_iinc (lv' := [_, _, _, _, _, _, _]) dX6_fullBallByBall_107 (rfl : 107 + 3 = 110) (Nat.le_of_ble_eq_true rfl) rfl (by first | exact jI_add _ _ | rfl) rfl ?_
            refine zr_goto (tgt := 33) dX6_fullBallByBall_110 (by decide) ?_
            exact hk _ _ _ ⟨hx2, by omega, by omega, by omega, hj⟩
          · rw [if_pos (by omega)] at hj
            rw [← hj]
            rw [show i + 1 - 1 - B 12 0 = i - B 12 0 by omega]
            refine zr_iload dX6_fullBallByBall_104 (rfl : 104 + 2 = 106) rfl ?_
            refine zr_iret dX6_fullBallByBall_106 rfl rfl ?_ rfl rfl rfl
            first | rfl | rw [jb_pos (by first | assumption | omega)] | rw [jb_neg (by first | assumption | omega)] | rw [if_pos (by first | assumption | omega)] | rw [if_neg (by first | assumption | omega)]
        refine zr_aload_n dX6_fullBallByBall_78 (rfl : 78 + 1 = 79) rfl ?_
        refine zr_getf dX6_fullBallByBall_79 (rfl : 79 + 3 = 82) f_X6_10 (by first | assumption | exact mw_167 | exact mw_168 | exact mw_169 | exact mw_170 | exact bk_0 | exact bk_1 | exact bk_2 | exact bk_3 | exact bk_4 | exact bk_5 | exact bk_6 | exact bk_7 | exact bk_8 | exact bk_9 | exact bk_10 | exact bk_11 | exact bk_12 | exact bk_13 | exact bk_14 | exact bk_15 | exact bk_16 | exact zup_self | exact (zup_ne (by first | assumption | omega)).trans (by first | assumption | exact zup_self) | exact (zup_ne (by first | assumption | omega)).trans ((zup_ne (by first | assumption | omega)).trans (by first | assumption | exact zup_self)) | exact (bk_out (by first | omega | (simp only [bset, reduceIte, Nat.reduceEqDiff]; omega))).trans (by first | exact bk_0 | exact bk_1 | exact bk_2 | exact bk_3 | exact bk_4 | exact bk_5 | exact bk_6 | exact bk_7 | exact bk_8 | exact bk_9 | exact bk_10 | exact bk_11 | exact bk_12 | exact bk_13 | exact bk_14 | exact bk_15 | exact bk_16 | exact cr_5 | exact cr_23 | exact cr_24 | exact cr_25 | exact cr_26 | exact cr_27 | exact cr_28 | exact cr_29 | exact cr_30 | assumption)) rfl ?_
        refine zr_getf dX6_fullBallByBall_82 (rfl : 82 + 3 = 85) f_X6_69 (by first | assumption | exact mw_167 | exact mw_168 | exact mw_169 | exact mw_170 | exact bk_0 | exact bk_1 | exact bk_2 | exact bk_3 | exact bk_4 | exact bk_5 | exact bk_6 | exact bk_7 | exact bk_8 | exact bk_9 | exact bk_10 | exact bk_11 | exact bk_12 | exact bk_13 | exact bk_14 | exact bk_15 | exact bk_16 | exact zup_self | exact (zup_ne (by first | assumption | omega)).trans (by first | assumption | exact zup_self) | exact (zup_ne (by first | assumption | omega)).trans ((zup_ne (by first | assumption | omega)).trans (by first | assumption | exact zup_self)) | exact (bk_out (by first | omega | (simp only [bset, reduceIte, Nat.reduceEqDiff]; omega))).trans (by first | exact bk_0 | exact bk_1 | exact bk_2 | exact bk_3 | exact bk_4 | exact bk_5 | exact bk_6 | exact bk_7 | exact bk_8 | exact bk_9 | exact bk_10 | exact bk_11 | exact bk_12 | exact bk_13 | exact bk_14 | exact bk_15 | exact bk_16 | exact cr_5 | exact cr_23 | exact cr_24 | exact cr_25 | exact cr_26 | exact cr_27 | exact cr_28 | exact cr_29 | exact cr_30 | assumption)) rfl ?_
        refine zr_iload_n dX6_fullBallByBall_85 (rfl : 85 + 1 = 86) rfl ?_
        refine zr_iload dX6_fullBallByBall_86 (rfl : 86 + 2 = 88) rfl ?_
        refine zr_fnV dX6_fullBallByBall_88 (rfl : 88 + 3 = 91) l_X6_365 (s_standsIn c (jod B (i - 1)) (by first | omega | (simp only [bset, reduceIte, Nat.reduceEqDiff]; omega)) hc ok.R) (by first | assumption | exact mw_167 | exact mw_168 | exact mw_169 | exact mw_170 | exact bk_0 | exact bk_1 | exact bk_2 | exact bk_3 | exact bk_4 | exact bk_5 | exact bk_6 | exact bk_7 | exact bk_8 | exact bk_9 | exact bk_10 | exact bk_11 | exact bk_12 | exact bk_13 | exact bk_14 | exact bk_15 | exact bk_16 | exact zup_self | exact (zup_ne (by first | assumption | omega)).trans (by first | assumption | exact zup_self) | exact (zup_ne (by first | assumption | omega)).trans ((zup_ne (by first | assumption | omega)).trans (by first | assumption | exact zup_self)) | exact (bk_out (by first | omega | (simp only [bset, reduceIte, Nat.reduceEqDiff]; omega))).trans (by first | exact bk_0 | exact bk_1 | exact bk_2 | exact bk_3 | exact bk_4 | exact bk_5 | exact bk_6 | exact bk_7 | exact bk_8 | exact bk_9 | exact bk_10 | exact bk_11 | exact bk_12 | exact bk_13 | exact bk_14 | exact bk_15 | exact bk_16 | exact cr_5 | exact cr_23 | exact cr_24 | exact cr_25 | exact cr_26 | exact cr_27 | exact cr_28 | exact cr_29 | exact cr_30 | assumption)) rfl rfl rfl (Nat.le_of_ble_eq_true rfl) ?_
        refine zr_if_eq (tgt := 97) dX6_fullBallByBall_91 (by decide) (rfl : 91 + 3 = 94) (by first | exact jb_iff | exact jI_z (by first | omega | (simp only [bset, reduceIte, Nat.reduceEqDiff]; omega)) (by first | omega | (simp only [bset, reduceIte, Nat.reduceEqDiff]; omega))) (fun h91 => ?_) (fun h91 => ?_)
        · exact fin2 f (by rw [jb_neg h91, Int.add_zero])
        · refine zr_iinc (lv' := [_, _, _, _, _, _, _]) dX6_fullBallByBall_94 (rfl : 94 + 3 = 97) (Nat.le_of_ble_eq_true rfl) rfl (by first | exact jI_add _ _ | rfl) rfl ?_
          exact fin2 (f + 1) (by rw [jb_pos (Decidable.not_not.mp h91)])
      refine zr_iload dX6_fullBallByBall_33 (rfl : 33 + 2 = 35) rfl ?_
      refine zr_bipush dX6_fullBallByBall_35 (rfl : 35 + 2 = 37) (by decide) ?_
      refine zr_icmp_gt (tgt := 113) dX6_fullBallByBall_37 (by decide) (rfl : 37 + 3 = 40) (jI_lt (by first | omega | (simp only [bset, reduceIte, Nat.reduceEqDiff]; omega)) (by first | omega | (simp only [bset, reduceIte, Nat.reduceEqDiff]; omega)) (by first | omega | (simp only [bset, reduceIte, Nat.reduceEqDiff]; omega)) (by first | omega | (simp only [bset, reduceIte, Nat.reduceEqDiff]; omega))) (fun h37 => ?_) (fun h37 => ?_)
      · exfalso; omega
      · refine zr_iload dX6_fullBallByBall_40 (rfl : 40 + 2 = 42) rfl ?_
        refine zr_aload_n dX6_fullBallByBall_42 (rfl : 42 + 1 = 43) rfl ?_
        refine zr_getf dX6_fullBallByBall_43 (rfl : 43 + 3 = 46) f_X6_213 (by first | assumption | exact mw_167 | exact mw_168 | exact mw_169 | exact mw_170 | exact bk_0 | exact bk_1 | exact bk_2 | exact bk_3 | exact bk_4 | exact bk_5 | exact bk_6 | exact bk_7 | exact bk_8 | exact bk_9 | exact bk_10 | exact bk_11 | exact bk_12 | exact bk_13 | exact bk_14 | exact bk_15 | exact bk_16 | exact zup_self | exact (zup_ne (by first | assumption | omega)).trans (by first | assumption | exact zup_self) | exact (zup_ne (by first | assumption | omega)).trans ((zup_ne (by first | assumption | omega)).trans (by first | assumption | exact zup_self)) | exact (bk_out (by first | omega | (simp only [bset, reduceIte, Nat.reduceEqDiff]; omega))).trans (by first | exact bk_0 | exact bk_1 | exact bk_2 | exact bk_3 | exact bk_4 | exact bk_5 | exact bk_6 | exact bk_7 | exact bk_8 | exact bk_9 | exact bk_10 | exact bk_11 | exact bk_12 | exact bk_13 | exact bk_14 | exact bk_15 | exact bk_16 | exact cr_5 | exact cr_23 | exact cr_24 | exact cr_25 | exact cr_26 | exact cr_27 | exact cr_28 | exact cr_29 | exact cr_30 | assumption)) rfl ?_
        refine zr_icmp_gt (tgt := 63) dX6_fullBallByBall_46 (by decide) (rfl : 46 + 3 = 49) (jI_lt (by first | omega | (simp only [bset, reduceIte, Nat.reduceEqDiff]; omega)) (by first | omega | (simp only [bset, reduceIte, Nat.reduceEqDiff]; omega)) (by first | omega | (simp only [bset, reduceIte, Nat.reduceEqDiff]; omega)) (by first | omega | (simp only [bset, reduceIte, Nat.reduceEqDiff]; omega))) (fun h46 => ?_) (fun h46 => ?_)
        · have ht := s_tryOut (Γ := Γ) (d := d + 2) (σ := σ) (τ := τ) (u := u) (i - 1 - B 12 0).toNat τ.od ok (by omega)
          rw [← hx] at ht
          have e1 : jball (jdrs (i - 1 - B 12 0).toNat B) = jod B (i - 1) := by
            unfold jod
            rw [if_neg (by omega)]
          rw [e1] at ht
          refine zr_iload_n dX6_fullBallByBall_63 (rfl : 63 + 1 = 64) rfl ?_
          refine zr_fnS dX6_fullBallByBall_64 (rfl : 64 + 3 = 67) l_X6_273 (s_lotAfter x hlo) rfl rfl (Nat.le_of_ble_eq_true rfl) ?_
          refine zr_istore_n (lv' := [_, _, _, _, _, _, _]) dX6_fullBallByBall_67 (rfl : 67 + 1 = 68) (Nat.le_of_ble_eq_true rfl) rfl ?_
          refine zr_aload_n dX6_fullBallByBall_68 (rfl : 68 + 1 = 69) rfl ?_
          refine zr_getf dX6_fullBallByBall_69 (rfl : 69 + 3 = 72) f_X6_37 (by first | assumption | exact mw_167 | exact mw_168 | exact mw_169 | exact mw_170 | exact bk_0 | exact bk_1 | exact bk_2 | exact bk_3 | exact bk_4 | exact bk_5 | exact bk_6 | exact bk_7 | exact bk_8 | exact bk_9 | exact bk_10 | exact bk_11 | exact bk_12 | exact bk_13 | exact bk_14 | exact bk_15 | exact bk_16 | exact zup_self | exact (zup_ne (by first | assumption | omega)).trans (by first | assumption | exact zup_self) | exact (zup_ne (by first | assumption | omega)).trans ((zup_ne (by first | assumption | omega)).trans (by first | assumption | exact zup_self)) | exact (bk_out (by first | omega | (simp only [bset, reduceIte, Nat.reduceEqDiff]; omega))).trans (by first | exact bk_0 | exact bk_1 | exact bk_2 | exact bk_3 | exact bk_4 | exact bk_5 | exact bk_6 | exact bk_7 | exact bk_8 | exact bk_9 | exact bk_10 | exact bk_11 | exact bk_12 | exact bk_13 | exact bk_14 | exact bk_15 | exact bk_16 | exact cr_5 | exact cr_23 | exact cr_24 | exact cr_25 | exact cr_26 | exact cr_27 | exact cr_28 | exact cr_29 | exact cr_30 | assumption)) rfl ?_
          refine zr_iload_n dX6_fullBallByBall_72 (rfl : 72 + 1 = 73) rfl ?_
          refine zr_fnV dX6_fullBallByBall_73 (rfl : 73 + 3 = 76) l_X6_276 (ht) (by first | assumption | exact mw_167 | exact mw_168 | exact mw_169 | exact mw_170 | exact bk_0 | exact bk_1 | exact bk_2 | exact bk_3 | exact bk_4 | exact bk_5 | exact bk_6 | exact bk_7 | exact bk_8 | exact bk_9 | exact bk_10 | exact bk_11 | exact bk_12 | exact bk_13 | exact bk_14 | exact bk_15 | exact bk_16 | exact zup_self | exact (zup_ne (by first | assumption | omega)).trans (by first | assumption | exact zup_self) | exact (zup_ne (by first | assumption | omega)).trans ((zup_ne (by first | assumption | omega)).trans (by first | assumption | exact zup_self)) | exact (bk_out (by first | omega | (simp only [bset, reduceIte, Nat.reduceEqDiff]; omega))).trans (by first | exact bk_0 | exact bk_1 | exact bk_2 | exact bk_3 | exact bk_4 | exact bk_5 | exact bk_6 | exact bk_7 | exact bk_8 | exact bk_9 | exact bk_10 | exact bk_11 | exact bk_12 | exact bk_13 | exact bk_14 | exact bk_15 | exact bk_16 | exact cr_5 | exact cr_23 | exact cr_24 | exact cr_25 | exact cr_26 | exact cr_27 | exact cr_28 | exact cr_29 | exact cr_30 | assumption)) rfl rfl rfl (Nat.le_of_ble_eq_true rfl) ?_
          refine zr_istore (lv' := [_, _, _, _, _, _, _]) dX6_fullBallByBall_76 (rfl : 76 + 2 = 78) (Nat.le_of_ble_eq_true rfl) rfl ?_
          rw [show (i - 1 - B 12 0).toNat + 1 = (i + 1 - 1 - B 12 0).toNat by omega]
          refine fin _ ?_
          rw [show (i + 1 - 1 - B 12 0).toNat = (i - 1 - B 12 0).toNat + 1 by omega, hx]
          exact (jdr1_lot _).symm
        · refine zr_aload_n dX6_fullBallByBall_49 (rfl : 49 + 1 = 50) rfl ?_
          refine zr_getf dX6_fullBallByBall_50 (rfl : 50 + 3 = 53) f_X6_216 (by first | assumption | exact mw_167 | exact mw_168 | exact mw_169 | exact mw_170 | exact bk_0 | exact bk_1 | exact bk_2 | exact bk_3 | exact bk_4 | exact bk_5 | exact bk_6 | exact bk_7 | exact bk_8 | exact bk_9 | exact bk_10 | exact bk_11 | exact bk_12 | exact bk_13 | exact bk_14 | exact bk_15 | exact bk_16 | exact zup_self | exact (zup_ne (by first | assumption | omega)).trans (by first | assumption | exact zup_self) | exact (zup_ne (by first | assumption | omega)).trans ((zup_ne (by first | assumption | omega)).trans (by first | assumption | exact zup_self)) | exact (bk_out (by first | omega | (simp only [bset, reduceIte, Nat.reduceEqDiff]; omega))).trans (by first | exact bk_0 | exact bk_1 | exact bk_2 | exact bk_3 | exact bk_4 | exact bk_5 | exact bk_6 | exact bk_7 | exact bk_8 | exact bk_9 | exact bk_10 | exact bk_11 | exact bk_12 | exact bk_13 | exact bk_14 | exact bk_15 | exact bk_16 | exact cr_5 | exact cr_23 | exact cr_24 | exact cr_25 | exact cr_26 | exact cr_27 | exact cr_28 | exact cr_29 | exact cr_30 | assumption)) rfl ?_
          refine zr_iload dX6_fullBallByBall_53 (rfl : 53 + 2 = 55) rfl ?_
          refine zr_iconst dX6_fullBallByBall_55 (rfl : 55 + 1 = 56) ?_
          refine zr_isub dX6_fullBallByBall_56 (rfl : 56 + 1 = 57) (by first | exact jI_sub _ _ | rfl) ?_
          refine zr_iald dX6_fullBallByBall_57 (rfl : 57 + 1 = 58) (by first | assumption | exact mw_167 | exact mw_168 | exact mw_169 | exact mw_170 | exact bk_0 | exact bk_1 | exact bk_2 | exact bk_3 | exact bk_4 | exact bk_5 | exact bk_6 | exact bk_7 | exact bk_8 | exact bk_9 | exact bk_10 | exact bk_11 | exact bk_12 | exact bk_13 | exact bk_14 | exact bk_15 | exact bk_16 | exact zup_self | exact (zup_ne (by first | assumption | omega)).trans (by first | assumption | exact zup_self) | exact (zup_ne (by first | assumption | omega)).trans ((zup_ne (by first | assumption | omega)).trans (by first | assumption | exact zup_self)) | exact (bk_out (by first | omega | (simp only [bset, reduceIte, Nat.reduceEqDiff]; omega))).trans (by first | exact bk_0 | exact bk_1 | exact bk_2 | exact bk_3 | exact bk_4 | exact bk_5 | exact bk_6 | exact bk_7 | exact bk_8 | exact bk_9 | exact bk_10 | exact bk_11 | exact bk_12 | exact bk_13 | exact bk_14 | exact bk_15 | exact bk_16 | exact cr_5 | exact cr_23 | exact cr_24 | exact cr_25 | exact cr_26 | exact cr_27 | exact cr_28 | exact cr_29 | exact cr_30 | assumption)) (by decide) (by first | omega | (simp only [bset, reduceIte, Nat.reduceEqDiff]; omega)) (by first | omega | (simp only [bset, reduceIte, Nat.reduceEqDiff]; omega)) ?_
          refine zr_istore (lv' := [_, _, _, _, _, _, _]) dX6_fullBallByBall_58 (rfl : 58 + 2 = 60) (Nat.le_of_ble_eq_true rfl) rfl ?_
          refine zr_goto (tgt := 78) dX6_fullBallByBall_60 (by decide) ?_
          have e1 : B 5 (i - 1) = jod B (i - 1) := by
            unfold jod
            rw [if_pos (by omega)]
          rw [e1]
          have e2 : (i - 1 - B 12 0).toNat = (i + 1 - 1 - B 12 0).toNat := by omega
          rw [e2] at hx ⊢
          exact fin x hx
    · intro x f o6 hI
      have e91 : ((1 : Int) + ((90 : Nat) : Int)) = 91 := rfl
      rw [e91] at hI ⊢
      have hj : ((-1 : Int), (91 : Int) - 1) = R := hI.2.2.2.2
      rw [← hj]
      rw [show (91 : Int) - 1 - B 12 0 = ((-1 : Int), (91 : Int) - 1).2 - B 12 0 from rfl]
      refine zr_iload dX6_fullBallByBall_33 (rfl : 33 + 2 = 35) rfl ?_
      refine zr_bipush dX6_fullBallByBall_35 (rfl : 35 + 2 = 37) (by decide) ?_
      refine zr_icmp_gt (tgt := 113) dX6_fullBallByBall_37 (by decide) (rfl : 37 + 3 = 40) (jI_lt (by first | omega | (simp only [bset, reduceIte, Nat.reduceEqDiff]; omega)) (by first | omega | (simp only [bset, reduceIte, Nat.reduceEqDiff]; omega)) (by first | omega | (simp only [bset, reduceIte, Nat.reduceEqDiff]; omega)) (by first | omega | (simp only [bset, reduceIte, Nat.reduceEqDiff]; omega))) (fun h37 => ?_) (fun h37 => ?_)
      · first
        | (exfalso; omega)
        | (
          refine zr_iconst dX6_fullBallByBall_113 (rfl : 113 + 1 = 114) ?_
          refine zr_iret dX6_fullBallByBall_114 rfl rfl ?_ rfl rfl rfl
          first | rfl | rw [jb_pos (by first | assumption | omega)] | rw [jb_neg (by first | assumption | omega)] | rw [if_pos (by first | assumption | omega)] | rw [if_neg (by first | assumption | omega)])
      · first
        | (exfalso; omega)
        | (
          exfalso
          omega)
  rw [show ((1 : Int) - 1 - B 12 0).toNat = 0 by omega] at key
  exact key
theorem t_fullAt1 (c k : Int) (hc : j32 c) (h : ¬ (0 ≤ c ∧ c < 6)) : zThr Γ md_X6_fullAt (d + 7) [.ref 5, .int (jI c), .int (jI k)] w zIOB := by
  refine zThr.of_run (lv := [some (.ref 5), some (.int (jI c)), some (.int (jI k))]) (by decide) rfl (Nat.le_of_ble_eq_true rfl) rfl (fun n9 g9 => ?_)
  refine zr_iload_n dX6_fullAt_0 (rfl : 0 + 1 = 1) rfl ?_
  refine zr_fnS dX6_fullAt_1 (rfl : 1 + 3 = 4) l_X6_45 (s_isCard c hc) rfl rfl (Nat.le_of_ble_eq_true rfl) ?_
  rw [jb_neg h]
  refine zr_thS dX6_fullAt_4 l_X6_52 (t_needPlace) rfl rfl (Nat.le_of_ble_eq_true rfl) (Nat.le_of_ble_eq_true rfl) (Nat.le_of_ble_eq_true rfl) ?_
  exact zr_raised rfl
theorem t_fullAt2 (c k : Int) (hk : j32 k) (h : 0 ≤ c ∧ c < 6) (h2 : ¬ (0 ≤ k ∧ k < 2)) : zThr Γ md_X6_fullAt (d + 7) [.ref 5, .int (jI c), .int (jI k)] w zIAE := by
  refine zThr.of_run (lv := [some (.ref 5), some (.int (jI c)), some (.int (jI k))]) (by decide) rfl (Nat.le_of_ble_eq_true rfl) rfl (fun n9 g9 => ?_)
  refine zr_iload_n dX6_fullAt_0 (rfl : 0 + 1 = 1) rfl ?_
  refine zr_fnS dX6_fullAt_1 (rfl : 1 + 3 = 4) l_X6_45 (s_isCard c (by first | omega | (simp only [bset, reduceIte, Nat.reduceEqDiff]; omega))) rfl rfl (Nat.le_of_ble_eq_true rfl) ?_
  rw [jb_pos h]
  refine zr_fnS dX6_fullAt_4 (rfl : 4 + 3 = 7) l_X6_52 (s_needPlace) rfl rfl (Nat.le_of_ble_eq_true rfl) ?_
  refine zr_iload_n dX6_fullAt_7 (rfl : 7 + 1 = 8) rfl ?_
  refine zr_if_eq (tgt := 16) dX6_fullAt_8 (by decide) (rfl : 8 + 3 = 11) (by first | exact jb_iff | exact jI_z (by first | omega | (simp only [bset, reduceIte, Nat.reduceEqDiff]; omega)) (by first | omega | (simp only [bset, reduceIte, Nat.reduceEqDiff]; omega))) (fun h8 => ?_) (fun h8 => ?_)
  · first
    | (exfalso; omega)
    | (
      refine zr_iconst dX6_fullAt_16 (rfl : 16 + 1 = 17) ?_
      refine zr_goto (tgt := 21) dX6_fullAt_17 (by decide) ?_
      refine zr_thS dX6_fullAt_21 l_X6_59 (t_needValue) rfl rfl (Nat.le_of_ble_eq_true rfl) (Nat.le_of_ble_eq_true rfl) (Nat.le_of_ble_eq_true rfl) ?_
      exact zr_raised rfl)
  · first
    | (exfalso; omega)
    | (
      refine zr_iload_n dX6_fullAt_11 (rfl : 11 + 1 = 12) rfl ?_
      refine zr_iconst dX6_fullAt_12 (rfl : 12 + 1 = 13) ?_
      refine zr_icmp_ne (tgt := 20) dX6_fullAt_13 (by decide) (rfl : 13 + 3 = 16) (jI_eq (by first | omega | (simp only [bset, reduceIte, Nat.reduceEqDiff]; omega)) (by first | omega | (simp only [bset, reduceIte, Nat.reduceEqDiff]; omega)) (by first | omega | (simp only [bset, reduceIte, Nat.reduceEqDiff]; omega)) (by first | omega | (simp only [bset, reduceIte, Nat.reduceEqDiff]; omega))) (fun h13 => ?_) (fun h13 => ?_)
      · first
        | (exfalso; omega)
        | (
          refine zr_iconst dX6_fullAt_20 (rfl : 20 + 1 = 21) ?_
          refine zr_thS dX6_fullAt_21 l_X6_59 (t_needValue) rfl rfl (Nat.le_of_ble_eq_true rfl) (Nat.le_of_ble_eq_true rfl) (Nat.le_of_ble_eq_true rfl) ?_
          exact zr_raised rfl)
      · first
        | (exfalso; omega)
        | (
          refine zr_iconst dX6_fullAt_16 (rfl : 16 + 1 = 17) ?_
          refine zr_goto (tgt := 21) dX6_fullAt_17 (by decide) ?_
          refine zr_thS dX6_fullAt_21 l_X6_59 (t_needValue) rfl rfl (Nat.le_of_ble_eq_true rfl) (Nat.le_of_ble_eq_true rfl) (Nat.le_of_ble_eq_true rfl) ?_
          exact zr_raised rfl))
def jfa (B : zB) (c k : Int) : Int := if jcs (B 0) c = 15 then (if k = 0 then (jfb B c 90 1 0).1 else jlc B c) else -1
theorem jon_od (ok : jok B) (od : Int → Int) : ∀ z, 0 ≤ z → z < 90 → jon B od (B 4 0).toNat z = jod B z := by
  have hs := ok.ds
  have hca := ok.ca
  intro z z0 z1
  exact jon_at _ z z0 (by omega)
theorem s_fullAt (c k : Int) (h : 0 ≤ c ∧ c < 6) (h2 : 0 ≤ k ∧ k < 2) (ok : jok B) : ∃ τ', zFn Γ md_X6_fullAt (d + 5) [.ref 5, .int (jI c), .int (jI k)] (bk 6 B (cr σ τ u)) (some (.int (jI (jfa B c k)))) (bk 6 B (cr σ τ' u)) := by
  unfold jfa
  by_cases hw : jcs (B 0) c = 15
  · rw [if_pos hw]
    by_cases hk : k = 0
    · rw [if_pos hk]
      obtain ⟨τ', hf⟩ := s_ballByBall (Γ := Γ) (d := d) (σ := σ) (τ := τ) (u := u) c h ok
      refine ⟨τ', ?_⟩
      refine zFn.of_run (lv := [some (.ref 5), some (.int (jI c)), some (.int (jI k))]) (by decide) rfl (Nat.le_of_ble_eq_true rfl) rfl (fun n9 g9 => ?_)
      refine zr_iload_n dX6_fullAt_0 (rfl : 0 + 1 = 1) rfl ?_
      refine zr_fnS dX6_fullAt_1 (rfl : 1 + 3 = 4) l_X6_45 (s_isCard c (by first | omega | (simp only [bset, reduceIte, Nat.reduceEqDiff]; omega))) rfl rfl (Nat.le_of_ble_eq_true rfl) ?_
      rw [jb_pos h]
      refine zr_fnS dX6_fullAt_4 (rfl : 4 + 3 = 7) l_X6_52 (s_needPlace) rfl rfl (Nat.le_of_ble_eq_true rfl) ?_
      refine zr_iload_n dX6_fullAt_7 (rfl : 7 + 1 = 8) rfl ?_
      refine zr_if_eq (tgt := 16) dX6_fullAt_8 (by decide) (rfl : 8 + 3 = 11) (by first | exact jb_iff | exact jI_z (by first | omega | (simp only [bset, reduceIte, Nat.reduceEqDiff]; omega)) (by first | omega | (simp only [bset, reduceIte, Nat.reduceEqDiff]; omega))) (fun h8 => ?_) (fun h8 => ?_)
      · first
        | (exfalso; omega)
        | (
          refine zr_iconst dX6_fullAt_16 (rfl : 16 + 1 = 17) ?_
          refine zr_goto (tgt := 21) dX6_fullAt_17 (by decide) ?_
          refine zr_fnS dX6_fullAt_21 (rfl : 21 + 3 = 24) l_X6_59 (s_needValue) rfl rfl (Nat.le_of_ble_eq_true rfl) ?_
          refine zr_aload_n dX6_fullAt_24 (rfl : 24 + 1 = 25) rfl ?_
          refine zr_getf dX6_fullAt_25 (rfl : 25 + 3 = 28) f_X6_10 (by first | assumption | exact mw_167 | exact mw_168 | exact mw_169 | exact mw_170 | exact bk_0 | exact bk_1 | exact bk_2 | exact bk_3 | exact bk_4 | exact bk_5 | exact bk_6 | exact bk_7 | exact bk_8 | exact bk_9 | exact bk_10 | exact bk_11 | exact bk_12 | exact bk_13 | exact bk_14 | exact bk_15 | exact bk_16 | exact zup_self | exact (zup_ne (by first | assumption | omega)).trans (by first | assumption | exact zup_self) | exact (zup_ne (by first | assumption | omega)).trans ((zup_ne (by first | assumption | omega)).trans (by first | assumption | exact zup_self)) | exact (bk_out (by first | omega | (simp only [bset, reduceIte, Nat.reduceEqDiff]; omega))).trans (by first | exact bk_0 | exact bk_1 | exact bk_2 | exact bk_3 | exact bk_4 | exact bk_5 | exact bk_6 | exact bk_7 | exact bk_8 | exact bk_9 | exact bk_10 | exact bk_11 | exact bk_12 | exact bk_13 | exact bk_14 | exact bk_15 | exact bk_16 | exact cr_5 | exact cr_23 | exact cr_24 | exact cr_25 | exact cr_26 | exact cr_27 | exact cr_28 | exact cr_29 | exact cr_30 | assumption)) rfl ?_
          refine zr_getf dX6_fullAt_28 (rfl : 28 + 3 = 31) f_X6_69 (by first | assumption | exact mw_167 | exact mw_168 | exact mw_169 | exact mw_170 | exact bk_0 | exact bk_1 | exact bk_2 | exact bk_3 | exact bk_4 | exact bk_5 | exact bk_6 | exact bk_7 | exact bk_8 | exact bk_9 | exact bk_10 | exact bk_11 | exact bk_12 | exact bk_13 | exact bk_14 | exact bk_15 | exact bk_16 | exact zup_self | exact (zup_ne (by first | assumption | omega)).trans (by first | assumption | exact zup_self) | exact (zup_ne (by first | assumption | omega)).trans ((zup_ne (by first | assumption | omega)).trans (by first | assumption | exact zup_self)) | exact (bk_out (by first | omega | (simp only [bset, reduceIte, Nat.reduceEqDiff]; omega))).trans (by first | exact bk_0 | exact bk_1 | exact bk_2 | exact bk_3 | exact bk_4 | exact bk_5 | exact bk_6 | exact bk_7 | exact bk_8 | exact bk_9 | exact bk_10 | exact bk_11 | exact bk_12 | exact bk_13 | exact bk_14 | exact bk_15 | exact bk_16 | exact cr_5 | exact cr_23 | exact cr_24 | exact cr_25 | exact cr_26 | exact cr_27 | exact cr_28 | exact cr_29 | exact cr_30 | assumption)) rfl ?_
          refine zr_iload_n dX6_fullAt_31 (rfl : 31 + 1 = 32) rfl ?_
          refine zr_fnV dX6_fullAt_32 (rfl : 32 + 3 = 35) l_X6_182 (s_isWhole c h ok.P) (by first | assumption | exact mw_167 | exact mw_168 | exact mw_169 | exact mw_170 | exact bk_0 | exact bk_1 | exact bk_2 | exact bk_3 | exact bk_4 | exact bk_5 | exact bk_6 | exact bk_7 | exact bk_8 | exact bk_9 | exact bk_10 | exact bk_11 | exact bk_12 | exact bk_13 | exact bk_14 | exact bk_15 | exact bk_16 | exact zup_self | exact (zup_ne (by first | assumption | omega)).trans (by first | assumption | exact zup_self) | exact (zup_ne (by first | assumption | omega)).trans ((zup_ne (by first | assumption | omega)).trans (by first | assumption | exact zup_self)) | exact (bk_out (by first | omega | (simp only [bset, reduceIte, Nat.reduceEqDiff]; omega))).trans (by first | exact bk_0 | exact bk_1 | exact bk_2 | exact bk_3 | exact bk_4 | exact bk_5 | exact bk_6 | exact bk_7 | exact bk_8 | exact bk_9 | exact bk_10 | exact bk_11 | exact bk_12 | exact bk_13 | exact bk_14 | exact bk_15 | exact bk_16 | exact cr_5 | exact cr_23 | exact cr_24 | exact cr_25 | exact cr_26 | exact cr_27 | exact cr_28 | exact cr_29 | exact cr_30 | assumption)) rfl rfl rfl (Nat.le_of_ble_eq_true rfl) ?_
          refine zr_if_ne (tgt := 40) dX6_fullAt_35 (by decide) (rfl : 35 + 3 = 38) (by first | exact jb_iff | exact jI_z (by first | omega | (simp only [bset, reduceIte, Nat.reduceEqDiff]; omega)) (by first | omega | (simp only [bset, reduceIte, Nat.reduceEqDiff]; omega))) (fun h35 => ?_) (fun h35 => ?_)
          · first
            | (exfalso; omega)
            | (
              refine zr_iload_n dX6_fullAt_40 (rfl : 40 + 1 = 41) rfl ?_
              refine zr_if_ne (tgt := 50) dX6_fullAt_41 (by decide) (rfl : 41 + 3 = 44) (by first | exact jb_iff | exact jI_z (by first | omega | (simp only [bset, reduceIte, Nat.reduceEqDiff]; omega)) (by first | omega | (simp only [bset, reduceIte, Nat.reduceEqDiff]; omega))) (fun h41 => ?_) (fun h41 => ?_)
              · first
                | (exfalso; omega)
                | (
                  exfalso
                  omega)
              · first
                | (exfalso; omega)
                | (
                  refine zr_aload_n dX6_fullAt_44 (rfl : 44 + 1 = 45) rfl ?_
                  refine zr_iload_n dX6_fullAt_45 (rfl : 45 + 1 = 46) rfl ?_
                  refine zr_fnV dX6_fullAt_46 (rfl : 46 + 3 = 49) l_X6_261 (hf) (by first | assumption | exact mw_167 | exact mw_168 | exact mw_169 | exact mw_170 | exact bk_0 | exact bk_1 | exact bk_2 | exact bk_3 | exact bk_4 | exact bk_5 | exact bk_6 | exact bk_7 | exact bk_8 | exact bk_9 | exact bk_10 | exact bk_11 | exact bk_12 | exact bk_13 | exact bk_14 | exact bk_15 | exact bk_16 | exact zup_self | exact (zup_ne (by first | assumption | omega)).trans (by first | assumption | exact zup_self) | exact (zup_ne (by first | assumption | omega)).trans ((zup_ne (by first | assumption | omega)).trans (by first | assumption | exact zup_self)) | exact (bk_out (by first | omega | (simp only [bset, reduceIte, Nat.reduceEqDiff]; omega))).trans (by first | exact bk_0 | exact bk_1 | exact bk_2 | exact bk_3 | exact bk_4 | exact bk_5 | exact bk_6 | exact bk_7 | exact bk_8 | exact bk_9 | exact bk_10 | exact bk_11 | exact bk_12 | exact bk_13 | exact bk_14 | exact bk_15 | exact bk_16 | exact cr_5 | exact cr_23 | exact cr_24 | exact cr_25 | exact cr_26 | exact cr_27 | exact cr_28 | exact cr_29 | exact cr_30 | assumption)) rfl rfl rfl (Nat.le_of_ble_eq_true rfl) ?_
                  refine zr_iret dX6_fullAt_49 rfl rfl ?_ rfl rfl rfl
                  first | rfl | rw [jb_pos (by first | assumption | omega)] | rw [jb_neg (by first | assumption | omega)] | rw [if_pos (by first | assumption | omega)] | rw [if_neg (by first | assumption | omega)]))
          · first
            | (exfalso; omega)
            | (
              refine zr_iconst dX6_fullAt_38 (rfl : 38 + 1 = 39) ?_
              refine zr_iret dX6_fullAt_39 rfl rfl ?_ rfl rfl rfl
              first | rfl | rw [jb_pos (by first | assumption | omega)] | rw [jb_neg (by first | assumption | omega)] | rw [if_pos (by first | assumption | omega)] | rw [if_neg (by first | assumption | omega)]))
      · first
        | (exfalso; omega)
        | (
          refine zr_iload_n dX6_fullAt_11 (rfl : 11 + 1 = 12) rfl ?_
          refine zr_iconst dX6_fullAt_12 (rfl : 12 + 1 = 13) ?_
          refine zr_icmp_ne (tgt := 20) dX6_fullAt_13 (by decide) (rfl : 13 + 3 = 16) (jI_eq (by first | omega | (simp only [bset, reduceIte, Nat.reduceEqDiff]; omega)) (by first | omega | (simp only [bset, reduceIte, Nat.reduceEqDiff]; omega)) (by first | omega | (simp only [bset, reduceIte, Nat.reduceEqDiff]; omega)) (by first | omega | (simp only [bset, reduceIte, Nat.reduceEqDiff]; omega))) (fun h13 => ?_) (fun h13 => ?_)
          · first
            | (exfalso; omega)
            | (
              refine zr_iconst dX6_fullAt_20 (rfl : 20 + 1 = 21) ?_
              refine zr_fnS dX6_fullAt_21 (rfl : 21 + 3 = 24) l_X6_59 (s_needValue) rfl rfl (Nat.le_of_ble_eq_true rfl) ?_
              refine zr_aload_n dX6_fullAt_24 (rfl : 24 + 1 = 25) rfl ?_
              refine zr_getf dX6_fullAt_25 (rfl : 25 + 3 = 28) f_X6_10 (by first | assumption | exact mw_167 | exact mw_168 | exact mw_169 | exact mw_170 | exact bk_0 | exact bk_1 | exact bk_2 | exact bk_3 | exact bk_4 | exact bk_5 | exact bk_6 | exact bk_7 | exact bk_8 | exact bk_9 | exact bk_10 | exact bk_11 | exact bk_12 | exact bk_13 | exact bk_14 | exact bk_15 | exact bk_16 | exact zup_self | exact (zup_ne (by first | assumption | omega)).trans (by first | assumption | exact zup_self) | exact (zup_ne (by first | assumption | omega)).trans ((zup_ne (by first | assumption | omega)).trans (by first | assumption | exact zup_self)) | exact (bk_out (by first | omega | (simp only [bset, reduceIte, Nat.reduceEqDiff]; omega))).trans (by first | exact bk_0 | exact bk_1 | exact bk_2 | exact bk_3 | exact bk_4 | exact bk_5 | exact bk_6 | exact bk_7 | exact bk_8 | exact bk_9 | exact bk_10 | exact bk_11 | exact bk_12 | exact bk_13 | exact bk_14 | exact bk_15 | exact bk_16 | exact cr_5 | exact cr_23 | exact cr_24 | exact cr_25 | exact cr_26 | exact cr_27 | exact cr_28 | exact cr_29 | exact cr_30 | assumption)) rfl ?_
              refine zr_getf dX6_fullAt_28 (rfl : 28 + 3 = 31) f_X6_69 (by first | assumption | exact mw_167 | exact mw_168 | exact mw_169 | exact mw_170 | exact bk_0 | exact bk_1 | exact bk_2 | exact bk_3 | exact bk_4 | exact bk_5 | exact bk_6 | exact bk_7 | exact bk_8 | exact bk_9 | exact bk_10 | exact bk_11 | exact bk_12 | exact bk_13 | exact bk_14 | exact bk_15 | exact bk_16 | exact zup_self | exact (zup_ne (by first | assumption | omega)).trans (by first | assumption | exact zup_self) | exact (zup_ne (by first | assumption | omega)).trans ((zup_ne (by first | assumption | omega)).trans (by first | assumption | exact zup_self)) | exact (bk_out (by first | omega | (simp only [bset, reduceIte, Nat.reduceEqDiff]; omega))).trans (by first | exact bk_0 | exact bk_1 | exact bk_2 | exact bk_3 | exact bk_4 | exact bk_5 | exact bk_6 | exact bk_7 | exact bk_8 | exact bk_9 | exact bk_10 | exact bk_11 | exact bk_12 | exact bk_13 | exact bk_14 | exact bk_15 | exact bk_16 | exact cr_5 | exact cr_23 | exact cr_24 | exact cr_25 | exact cr_26 | exact cr_27 | exact cr_28 | exact cr_29 | exact cr_30 | assumption)) rfl ?_
              refine zr_iload_n dX6_fullAt_31 (rfl : 31 + 1 = 32) rfl ?_
              refine zr_fnV dX6_fullAt_32 (rfl : 32 + 3 = 35) l_X6_182 (s_isWhole c h ok.P) (by first | assumption | exact mw_167 | exact mw_168 | exact mw_169 | exact mw_170 | exact bk_0 | exact bk_1 | exact bk_2 | exact bk_3 | exact bk_4 | exact bk_5 | exact bk_6 | exact bk_7 | exact bk_8 | exact bk_9 | exact bk_10 | exact bk_11 | exact bk_12 | exact bk_13 | exact bk_14 | exact bk_15 | exact bk_16 | exact zup_self | exact (zup_ne (by first | assumption | omega)).trans (by first | assumption | exact zup_self) | exact (zup_ne (by first | assumption | omega)).trans ((zup_ne (by first | assumption | omega)).trans (by first | assumption | exact zup_self)) | exact (bk_out (by first | omega | (simp only [bset, reduceIte, Nat.reduceEqDiff]; omega))).trans (by first | exact bk_0 | exact bk_1 | exact bk_2 | exact bk_3 | exact bk_4 | exact bk_5 | exact bk_6 | exact bk_7 | exact bk_8 | exact bk_9 | exact bk_10 | exact bk_11 | exact bk_12 | exact bk_13 | exact bk_14 | exact bk_15 | exact bk_16 | exact cr_5 | exact cr_23 | exact cr_24 | exact cr_25 | exact cr_26 | exact cr_27 | exact cr_28 | exact cr_29 | exact cr_30 | assumption)) rfl rfl rfl (Nat.le_of_ble_eq_true rfl) ?_
              refine zr_if_ne (tgt := 40) dX6_fullAt_35 (by decide) (rfl : 35 + 3 = 38) (by first | exact jb_iff | exact jI_z (by first | omega | (simp only [bset, reduceIte, Nat.reduceEqDiff]; omega)) (by first | omega | (simp only [bset, reduceIte, Nat.reduceEqDiff]; omega))) (fun h35 => ?_) (fun h35 => ?_)
              · first
                | (exfalso; omega)
                | (
                  refine zr_iload_n dX6_fullAt_40 (rfl : 40 + 1 = 41) rfl ?_
                  refine zr_if_ne (tgt := 50) dX6_fullAt_41 (by decide) (rfl : 41 + 3 = 44) (by first | exact jb_iff | exact jI_z (by first | omega | (simp only [bset, reduceIte, Nat.reduceEqDiff]; omega)) (by first | omega | (simp only [bset, reduceIte, Nat.reduceEqDiff]; omega))) (fun h41 => ?_) (fun h41 => ?_)
                  · first
                    | (exfalso; omega)
                    | (
                      exfalso
                      omega)
                  · first
                    | (exfalso; omega)
                    | (
                      refine zr_aload_n dX6_fullAt_44 (rfl : 44 + 1 = 45) rfl ?_
                      refine zr_iload_n dX6_fullAt_45 (rfl : 45 + 1 = 46) rfl ?_
                      refine zr_fnV dX6_fullAt_46 (rfl : 46 + 3 = 49) l_X6_261 (hf) (by first | assumption | exact mw_167 | exact mw_168 | exact mw_169 | exact mw_170 | exact bk_0 | exact bk_1 | exact bk_2 | exact bk_3 | exact bk_4 | exact bk_5 | exact bk_6 | exact bk_7 | exact bk_8 | exact bk_9 | exact bk_10 | exact bk_11 | exact bk_12 | exact bk_13 | exact bk_14 | exact bk_15 | exact bk_16 | exact zup_self | exact (zup_ne (by first | assumption | omega)).trans (by first | assumption | exact zup_self) | exact (zup_ne (by first | assumption | omega)).trans ((zup_ne (by first | assumption | omega)).trans (by first | assumption | exact zup_self)) | exact (bk_out (by first | omega | (simp only [bset, reduceIte, Nat.reduceEqDiff]; omega))).trans (by first | exact bk_0 | exact bk_1 | exact bk_2 | exact bk_3 | exact bk_4 | exact bk_5 | exact bk_6 | exact bk_7 | exact bk_8 | exact bk_9 | exact bk_10 | exact bk_11 | exact bk_12 | exact bk_13 | exact bk_14 | exact bk_15 | exact bk_16 | exact cr_5 | exact cr_23 | exact cr_24 | exact cr_25 | exact cr_26 | exact cr_27 | exact cr_28 | exact cr_29 | exact cr_30 | assumption)) rfl rfl rfl (Nat.le_of_ble_eq_true rfl) ?_
                      refine zr_iret dX6_fullAt_49 rfl rfl ?_ rfl rfl rfl
                      first | rfl | rw [jb_pos (by first | assumption | omega)] | rw [jb_neg (by first | assumption | omega)] | rw [if_pos (by first | assumption | omega)] | rw [if_neg (by first | assumption | omega)]))
              · first
                | (exfalso; omega)
                | (
                  refine zr_iconst dX6_fullAt_38 (rfl : 38 + 1 = 39) ?_
                  refine zr_iret dX6_fullAt_39 rfl rfl ?_ rfl rfl rfl
                  first | rfl | rw [jb_pos (by first | assumption | omega)] | rw [jb_neg (by first | assumption | omega)] | rw [if_pos (by first | assumption | omega)] | rw [if_neg (by first | assumption | omega)]))
          · first
            | (exfalso; omega)
            | (
              refine zr_iconst dX6_fullAt_16 (rfl : 16 + 1 = 17) ?_
              refine zr_goto (tgt := 21) dX6_fullAt_17 (by decide) ?_
              refine zr_fnS dX6_fullAt_21 (rfl : 21 + 3 = 24) l_X6_59 (s_needValue) rfl rfl (Nat.le_of_ble_eq_true rfl) ?_
              refine zr_aload_n dX6_fullAt_24 (rfl : 24 + 1 = 25) rfl ?_
              refine zr_getf dX6_fullAt_25 (rfl : 25 + 3 = 28) f_X6_10 (by first | assumption | exact mw_167 | exact mw_168 | exact mw_169 | exact mw_170 | exact bk_0 | exact bk_1 | exact bk_2 | exact bk_3 | exact bk_4 | exact bk_5 | exact bk_6 | exact bk_7 | exact bk_8 | exact bk_9 | exact bk_10 | exact bk_11 | exact bk_12 | exact bk_13 | exact bk_14 | exact bk_15 | exact bk_16 | exact zup_self | exact (zup_ne (by first | assumption | omega)).trans (by first | assumption | exact zup_self) | exact (zup_ne (by first | assumption | omega)).trans ((zup_ne (by first | assumption | omega)).trans (by first | assumption | exact zup_self)) | exact (bk_out (by first | omega | (simp only [bset, reduceIte, Nat.reduceEqDiff]; omega))).trans (by first | exact bk_0 | exact bk_1 | exact bk_2 | exact bk_3 | exact bk_4 | exact bk_5 | exact bk_6 | exact bk_7 | exact bk_8 | exact bk_9 | exact bk_10 | exact bk_11 | exact bk_12 | exact bk_13 | exact bk_14 | exact bk_15 | exact bk_16 | exact cr_5 | exact cr_23 | exact cr_24 | exact cr_25 | exact cr_26 | exact cr_27 | exact cr_28 | exact cr_29 | exact cr_30 | assumption)) rfl ?_
              refine zr_getf dX6_fullAt_28 (rfl : 28 + 3 = 31) f_X6_69 (by first | assumption | exact mw_167 | exact mw_168 | exact mw_169 | exact mw_170 | exact bk_0 | exact bk_1 | exact bk_2 | exact bk_3 | exact bk_4 | exact bk_5 | exact bk_6 | exact bk_7 | exact bk_8 | exact bk_9 | exact bk_10 | exact bk_11 | exact bk_12 | exact bk_13 | exact bk_14 | exact bk_15 | exact bk_16 | exact zup_self | exact (zup_ne (by first | assumption | omega)).trans (by first | assumption | exact zup_self) | exact (zup_ne (by first | assumption | omega)).trans ((zup_ne (by first | assumption | omega)).trans (by first | assumption | exact zup_self)) | exact (bk_out (by first | omega | (simp only [bset, reduceIte, Nat.reduceEqDiff]; omega))).trans (by first | exact bk_0 | exact bk_1 | exact bk_2 | exact bk_3 | exact bk_4 | exact bk_5 | exact bk_6 | exact bk_7 | exact bk_8 | exact bk_9 | exact bk_10 | exact bk_11 | exact bk_12 | exact bk_13 | exact bk_14 | exact bk_15 | exact bk_16 | exact cr_5 | exact cr_23 | exact cr_24 | exact cr_25 | exact cr_26 | exact cr_27 | exact cr_28 | exact cr_29 | exact cr_30 | assumption)) rfl ?_
              refine zr_iload_n dX6_fullAt_31 (rfl : 31 + 1 = 32) rfl ?_
              refine zr_fnV dX6_fullAt_32 (rfl : 32 + 3 = 35) l_X6_182 (s_isWhole c h ok.P) (by first | assumption | exact mw_167 | exact mw_168 | exact mw_169 | exact mw_170 | exact bk_0 | exact bk_1 | exact bk_2 | exact bk_3 | exact bk_4 | exact bk_5 | exact bk_6 | exact bk_7 | exact bk_8 | exact bk_9 | exact bk_10 | exact bk_11 | exact bk_12 | exact bk_13 | exact bk_14 | exact bk_15 | exact bk_16 | exact zup_self | exact (zup_ne (by first | assumption | omega)).trans (by first | assumption | exact zup_self) | exact (zup_ne (by first | assumption | omega)).trans ((zup_ne (by first | assumption | omega)).trans (by first | assumption | exact zup_self)) | exact (bk_out (by first | omega | (simp only [bset, reduceIte, Nat.reduceEqDiff]; omega))).trans (by first | exact bk_0 | exact bk_1 | exact bk_2 | exact bk_3 | exact bk_4 | exact bk_5 | exact bk_6 | exact bk_7 | exact bk_8 | exact bk_9 | exact bk_10 | exact bk_11 | exact bk_12 | exact bk_13 | exact bk_14 | exact bk_15 | exact bk_16 | exact cr_5 | exact cr_23 | exact cr_24 | exact cr_25 | exact cr_26 | exact cr_27 | exact cr_28 | exact cr_29 | exact cr_30 | assumption)) rfl rfl rfl (Nat.le_of_ble_eq_true rfl) ?_
              refine zr_if_ne (tgt := 40) dX6_fullAt_35 (by decide) (rfl : 35 + 3 = 38) (by first | exact jb_iff | exact jI_z (by first | omega | (simp only [bset, reduceIte, Nat.reduceEqDiff]; omega)) (by first | omega | (simp only [bset, reduceIte, Nat.reduceEqDiff]; omega))) (fun h35 => ?_) (fun h35 => ?_)
              · first
                | (exfalso; omega)
                | (
                  refine zr_iload_n dX6_fullAt_40 (rfl : 40 + 1 = 41) rfl ?_
                  refine zr_if_ne (tgt := 50) dX6_fullAt_41 (by decide) (rfl : 41 + 3 = 44) (by first | exact jb_iff | exact jI_z (by first | omega | (simp only [bset, reduceIte, Nat.reduceEqDiff]; omega)) (by first | omega | (simp only [bset, reduceIte, Nat.reduceEqDiff]; omega))) (fun h41 => ?_) (fun h41 => ?_)
                  · first
                    | (exfalso; omega)
                    | (
                      exfalso
                      omega)
                  · first
                    | (exfalso; omega)
                    | (
                      refine zr_aload_n dX6_fullAt_44 (rfl : 44 + 1 = 45) rfl ?_
                      refine zr_iload_n dX6_fullAt_45 (rfl : 45 + 1 = 46) rfl ?_
                      refine zr_fnV dX6_fullAt_46 (rfl : 46 + 3 = 49) l_X6_261 (hf) (by first | assumption | exact mw_167 | exact mw_168 | exact mw_169 | exact mw_170 | exact bk_0 | exact bk_1 | exact bk_2 | exact bk_3 | exact bk_4 | exact bk_5 | exact bk_6 | exact bk_7 | exact bk_8 | exact bk_9 | exact bk_10 | exact bk_11 | exact bk_12 | exact bk_13 | exact bk_14 | exact bk_15 | exact bk_16 | exact zup_self | exact (zup_ne (by first | assumption | omega)).trans (by first | assumption | exact zup_self) | exact (zup_ne (by first | assumption | omega)).trans ((zup_ne (by first | assumption | omega)).trans (by first | assumption | exact zup_self)) | exact (bk_out (by first | omega | (simp only [bset, reduceIte, Nat.reduceEqDiff]; omega))).trans (by first | exact bk_0 | exact bk_1 | exact bk_2 | exact bk_3 | exact bk_4 | exact bk_5 | exact bk_6 | exact bk_7 | exact bk_8 | exact bk_9 | exact bk_10 | exact bk_11 | exact bk_12 | exact bk_13 | exact bk_14 | exact bk_15 | exact bk_16 | exact cr_5 | exact cr_23 | exact cr_24 | exact cr_25 | exact cr_26 | exact cr_27 | exact cr_28 | exact cr_29 | exact cr_30 | assumption)) rfl rfl rfl (Nat.le_of_ble_eq_true rfl) ?_
                      refine zr_iret dX6_fullAt_49 rfl rfl ?_ rfl rfl rfl
                      first | rfl | rw [jb_pos (by first | assumption | omega)] | rw [jb_neg (by first | assumption | omega)] | rw [if_pos (by first | assumption | omega)] | rw [if_neg (by first | assumption | omega)]))
              · first
                | (exfalso; omega)
                | (
                  refine zr_iconst dX6_fullAt_38 (rfl : 38 + 1 = 39) ?_
                  refine zr_iret dX6_fullAt_39 rfl rfl ?_ rfl rfl rfl
                  first | rfl | rw [jb_pos (by first | assumption | omega)] | rw [jb_neg (by first | assumption | omega)] | rw [if_pos (by first | assumption | omega)] | rw [if_neg (by first | assumption | omega)])))
    · rw [if_neg hk]
      have hlay := s_layOrder (Γ := Γ) (d := d + 1) (σ := σ) (τ := τ) (u := u) ok
      have hod := jon_od ok τ.od
      have hl := s_lastCall (Γ := Γ) (d := d) (σ := σ) (τ := ((jtn B τ (B 4 0).toNat).1, (jtn B τ (B 4 0).toNat).2.1, jon B τ.od (B 4 0).toNat)) (u := u) c h ok (fun z z0 z1 => by rw [show zTau.od ((jtn B τ (B 4 0).toNat).1, (jtn B τ (B 4 0).toNat).2.1, jon B τ.od (B 4 0).toNat) z = jod B z from hod z z0 z1]; exact jod_r ok ⟨z0, z1⟩)
      rw [show jlo (zTau.od ((jtn B τ (B 4 0).toNat).1, (jtn B τ (B 4 0).toNat).2.1, jon B τ.od (B 4 0).toNat)) B c 90 = jlc B c from jlo_congr 90 hod] at hl
      refine ⟨((jtn B τ (B 4 0).toNat).1, (jtn B τ (B 4 0).toNat).2.1, jon B τ.od (B 4 0).toNat), ?_⟩
      refine zFn.of_run (lv := [some (.ref 5), some (.int (jI c)), some (.int (jI k))]) (by decide) rfl (Nat.le_of_ble_eq_true rfl) rfl (fun n9 g9 => ?_)
      refine zr_iload_n dX6_fullAt_0 (rfl : 0 + 1 = 1) rfl ?_
      refine zr_fnS dX6_fullAt_1 (rfl : 1 + 3 = 4) l_X6_45 (s_isCard c (by first | omega | (simp only [bset, reduceIte, Nat.reduceEqDiff]; omega))) rfl rfl (Nat.le_of_ble_eq_true rfl) ?_
      rw [jb_pos h]
      refine zr_fnS dX6_fullAt_4 (rfl : 4 + 3 = 7) l_X6_52 (s_needPlace) rfl rfl (Nat.le_of_ble_eq_true rfl) ?_
      refine zr_iload_n dX6_fullAt_7 (rfl : 7 + 1 = 8) rfl ?_
      refine zr_if_eq (tgt := 16) dX6_fullAt_8 (by decide) (rfl : 8 + 3 = 11) (by first | exact jb_iff | exact jI_z (by first | omega | (simp only [bset, reduceIte, Nat.reduceEqDiff]; omega)) (by first | omega | (simp only [bset, reduceIte, Nat.reduceEqDiff]; omega))) (fun h8 => ?_) (fun h8 => ?_)
      · first
        | (exfalso; omega)
        | (
          refine zr_iconst dX6_fullAt_16 (rfl : 16 + 1 = 17) ?_
          refine zr_goto (tgt := 21) dX6_fullAt_17 (by decide) ?_
          refine zr_fnS dX6_fullAt_21 (rfl : 21 + 3 = 24) l_X6_59 (s_needValue) rfl rfl (Nat.le_of_ble_eq_true rfl) ?_
          refine zr_aload_n dX6_fullAt_24 (rfl : 24 + 1 = 25) rfl ?_
          refine zr_getf dX6_fullAt_25 (rfl : 25 + 3 = 28) f_X6_10 (by first | assumption | exact mw_167 | exact mw_168 | exact mw_169 | exact mw_170 | exact bk_0 | exact bk_1 | exact bk_2 | exact bk_3 | exact bk_4 | exact bk_5 | exact bk_6 | exact bk_7 | exact bk_8 | exact bk_9 | exact bk_10 | exact bk_11 | exact bk_12 | exact bk_13 | exact bk_14 | exact bk_15 | exact bk_16 | exact zup_self | exact (zup_ne (by first | assumption | omega)).trans (by first | assumption | exact zup_self) | exact (zup_ne (by first | assumption | omega)).trans ((zup_ne (by first | assumption | omega)).trans (by first | assumption | exact zup_self)) | exact (bk_out (by first | omega | (simp only [bset, reduceIte, Nat.reduceEqDiff]; omega))).trans (by first | exact bk_0 | exact bk_1 | exact bk_2 | exact bk_3 | exact bk_4 | exact bk_5 | exact bk_6 | exact bk_7 | exact bk_8 | exact bk_9 | exact bk_10 | exact bk_11 | exact bk_12 | exact bk_13 | exact bk_14 | exact bk_15 | exact bk_16 | exact cr_5 | exact cr_23 | exact cr_24 | exact cr_25 | exact cr_26 | exact cr_27 | exact cr_28 | exact cr_29 | exact cr_30 | assumption)) rfl ?_
          refine zr_getf dX6_fullAt_28 (rfl : 28 + 3 = 31) f_X6_69 (by first | assumption | exact mw_167 | exact mw_168 | exact mw_169 | exact mw_170 | exact bk_0 | exact bk_1 | exact bk_2 | exact bk_3 | exact bk_4 | exact bk_5 | exact bk_6 | exact bk_7 | exact bk_8 | exact bk_9 | exact bk_10 | exact bk_11 | exact bk_12 | exact bk_13 | exact bk_14 | exact bk_15 | exact bk_16 | exact zup_self | exact (zup_ne (by first | assumption | omega)).trans (by first | assumption | exact zup_self) | exact (zup_ne (by first | assumption | omega)).trans ((zup_ne (by first | assumption | omega)).trans (by first | assumption | exact zup_self)) | exact (bk_out (by first | omega | (simp only [bset, reduceIte, Nat.reduceEqDiff]; omega))).trans (by first | exact bk_0 | exact bk_1 | exact bk_2 | exact bk_3 | exact bk_4 | exact bk_5 | exact bk_6 | exact bk_7 | exact bk_8 | exact bk_9 | exact bk_10 | exact bk_11 | exact bk_12 | exact bk_13 | exact bk_14 | exact bk_15 | exact bk_16 | exact cr_5 | exact cr_23 | exact cr_24 | exact cr_25 | exact cr_26 | exact cr_27 | exact cr_28 | exact cr_29 | exact cr_30 | assumption)) rfl ?_
          refine zr_iload_n dX6_fullAt_31 (rfl : 31 + 1 = 32) rfl ?_
          refine zr_fnV dX6_fullAt_32 (rfl : 32 + 3 = 35) l_X6_182 (s_isWhole c h ok.P) (by first | assumption | exact mw_167 | exact mw_168 | exact mw_169 | exact mw_170 | exact bk_0 | exact bk_1 | exact bk_2 | exact bk_3 | exact bk_4 | exact bk_5 | exact bk_6 | exact bk_7 | exact bk_8 | exact bk_9 | exact bk_10 | exact bk_11 | exact bk_12 | exact bk_13 | exact bk_14 | exact bk_15 | exact bk_16 | exact zup_self | exact (zup_ne (by first | assumption | omega)).trans (by first | assumption | exact zup_self) | exact (zup_ne (by first | assumption | omega)).trans ((zup_ne (by first | assumption | omega)).trans (by first | assumption | exact zup_self)) | exact (bk_out (by first | omega | (simp only [bset, reduceIte, Nat.reduceEqDiff]; omega))).trans (by first | exact bk_0 | exact bk_1 | exact bk_2 | exact bk_3 | exact bk_4 | exact bk_5 | exact bk_6 | exact bk_7 | exact bk_8 | exact bk_9 | exact bk_10 | exact bk_11 | exact bk_12 | exact bk_13 | exact bk_14 | exact bk_15 | exact bk_16 | exact cr_5 | exact cr_23 | exact cr_24 | exact cr_25 | exact cr_26 | exact cr_27 | exact cr_28 | exact cr_29 | exact cr_30 | assumption)) rfl rfl rfl (Nat.le_of_ble_eq_true rfl) ?_
          refine zr_if_ne (tgt := 40) dX6_fullAt_35 (by decide) (rfl : 35 + 3 = 38) (by first | exact jb_iff | exact jI_z (by first | omega | (simp only [bset, reduceIte, Nat.reduceEqDiff]; omega)) (by first | omega | (simp only [bset, reduceIte, Nat.reduceEqDiff]; omega))) (fun h35 => ?_) (fun h35 => ?_)
          · first
            | (exfalso; omega)
            | (
              refine zr_iload_n dX6_fullAt_40 (rfl : 40 + 1 = 41) rfl ?_
              refine zr_if_ne (tgt := 50) dX6_fullAt_41 (by decide) (rfl : 41 + 3 = 44) (by first | exact jb_iff | exact jI_z (by first | omega | (simp only [bset, reduceIte, Nat.reduceEqDiff]; omega)) (by first | omega | (simp only [bset, reduceIte, Nat.reduceEqDiff]; omega))) (fun h41 => ?_) (fun h41 => ?_)
              · first
                | (exfalso; omega)
                | (
                  refine zr_aload_n dX6_fullAt_50 (rfl : 50 + 1 = 51) rfl ?_
                  refine zr_fnV dX6_fullAt_51 (rfl : 51 + 3 = 54) l_X6_264 (hlay) (by first | assumption | exact mw_167 | exact mw_168 | exact mw_169 | exact mw_170 | exact bk_0 | exact bk_1 | exact bk_2 | exact bk_3 | exact bk_4 | exact bk_5 | exact bk_6 | exact bk_7 | exact bk_8 | exact bk_9 | exact bk_10 | exact bk_11 | exact bk_12 | exact bk_13 | exact bk_14 | exact bk_15 | exact bk_16 | exact zup_self | exact (zup_ne (by first | assumption | omega)).trans (by first | assumption | exact zup_self) | exact (zup_ne (by first | assumption | omega)).trans ((zup_ne (by first | assumption | omega)).trans (by first | assumption | exact zup_self)) | exact (bk_out (by first | omega | (simp only [bset, reduceIte, Nat.reduceEqDiff]; omega))).trans (by first | exact bk_0 | exact bk_1 | exact bk_2 | exact bk_3 | exact bk_4 | exact bk_5 | exact bk_6 | exact bk_7 | exact bk_8 | exact bk_9 | exact bk_10 | exact bk_11 | exact bk_12 | exact bk_13 | exact bk_14 | exact bk_15 | exact bk_16 | exact cr_5 | exact cr_23 | exact cr_24 | exact cr_25 | exact cr_26 | exact cr_27 | exact cr_28 | exact cr_29 | exact cr_30 | assumption)) rfl rfl rfl (Nat.le_of_ble_eq_true rfl) ?_
                  refine zr_aload_n dX6_fullAt_54 (rfl : 54 + 1 = 55) rfl ?_
                  refine zr_iload_n dX6_fullAt_55 (rfl : 55 + 1 = 56) rfl ?_
                  refine zr_fnV dX6_fullAt_56 (rfl : 56 + 3 = 59) l_X6_267 (hl) (by first | assumption | exact mw_167 | exact mw_168 | exact mw_169 | exact mw_170 | exact bk_0 | exact bk_1 | exact bk_2 | exact bk_3 | exact bk_4 | exact bk_5 | exact bk_6 | exact bk_7 | exact bk_8 | exact bk_9 | exact bk_10 | exact bk_11 | exact bk_12 | exact bk_13 | exact bk_14 | exact bk_15 | exact bk_16 | exact zup_self | exact (zup_ne (by first | assumption | omega)).trans (by first | assumption | exact zup_self) | exact (zup_ne (by first | assumption | omega)).trans ((zup_ne (by first | assumption | omega)).trans (by first | assumption | exact zup_self)) | exact (bk_out (by first | omega | (simp only [bset, reduceIte, Nat.reduceEqDiff]; omega))).trans (by first | exact bk_0 | exact bk_1 | exact bk_2 | exact bk_3 | exact bk_4 | exact bk_5 | exact bk_6 | exact bk_7 | exact bk_8 | exact bk_9 | exact bk_10 | exact bk_11 | exact bk_12 | exact bk_13 | exact bk_14 | exact bk_15 | exact bk_16 | exact cr_5 | exact cr_23 | exact cr_24 | exact cr_25 | exact cr_26 | exact cr_27 | exact cr_28 | exact cr_29 | exact cr_30 | assumption)) rfl rfl rfl (Nat.le_of_ble_eq_true rfl) ?_
                  refine zr_iret dX6_fullAt_59 rfl rfl ?_ rfl rfl rfl
                  first | rfl | rw [jb_pos (by first | assumption | omega)] | rw [jb_neg (by first | assumption | omega)] | rw [if_pos (by first | assumption | omega)] | rw [if_neg (by first | assumption | omega)])
              · first
                | (exfalso; omega)
                | (
                  exfalso
                  omega))
          · first
            | (exfalso; omega)
            | (
              refine zr_iconst dX6_fullAt_38 (rfl : 38 + 1 = 39) ?_
              refine zr_iret dX6_fullAt_39 rfl rfl ?_ rfl rfl rfl
              first | rfl | rw [jb_pos (by first | assumption | omega)] | rw [jb_neg (by first | assumption | omega)] | rw [if_pos (by first | assumption | omega)] | rw [if_neg (by first | assumption | omega)]))
      · first
        | (exfalso; omega)
        | (
          refine zr_iload_n dX6_fullAt_11 (rfl : 11 + 1 = 12) rfl ?_
          refine zr_iconst dX6_fullAt_12 (rfl : 12 + 1 = 13) ?_
          refine zr_icmp_ne (tgt := 20) dX6_fullAt_13 (by decide) (rfl : 13 + 3 = 16) (jI_eq (by first | omega | (simp only [bset, reduceIte, Nat.reduceEqDiff]; omega)) (by first | omega | (simp only [bset, reduceIte, Nat.reduceEqDiff]; omega)) (by first | omega | (simp only [bset, reduceIte, Nat.reduceEqDiff]; omega)) (by first | omega | (simp only [bset, reduceIte, Nat.reduceEqDiff]; omega))) (fun h13 => ?_) (fun h13 => ?_)
          · first
            | (exfalso; omega)
            | (
              refine zr_iconst dX6_fullAt_20 (rfl : 20 + 1 = 21) ?_
              refine zr_fnS dX6_fullAt_21 (rfl : 21 + 3 = 24) l_X6_59 (s_needValue) rfl rfl (Nat.le_of_ble_eq_true rfl) ?_
              refine zr_aload_n dX6_fullAt_24 (rfl : 24 + 1 = 25) rfl ?_
              refine zr_getf dX6_fullAt_25 (rfl : 25 + 3 = 28) f_X6_10 (by first | assumption | exact mw_167 | exact mw_168 | exact mw_169 | exact mw_170 | exact bk_0 | exact bk_1 | exact bk_2 | exact bk_3 | exact bk_4 | exact bk_5 | exact bk_6 | exact bk_7 | exact bk_8 | exact bk_9 | exact bk_10 | exact bk_11 | exact bk_12 | exact bk_13 | exact bk_14 | exact bk_15 | exact bk_16 | exact zup_self | exact (zup_ne (by first | assumption | omega)).trans (by first | assumption | exact zup_self) | exact (zup_ne (by first | assumption | omega)).trans ((zup_ne (by first | assumption | omega)).trans (by first | assumption | exact zup_self)) | exact (bk_out (by first | omega | (simp only [bset, reduceIte, Nat.reduceEqDiff]; omega))).trans (by first | exact bk_0 | exact bk_1 | exact bk_2 | exact bk_3 | exact bk_4 | exact bk_5 | exact bk_6 | exact bk_7 | exact bk_8 | exact bk_9 | exact bk_10 | exact bk_11 | exact bk_12 | exact bk_13 | exact bk_14 | exact bk_15 | exact bk_16 | exact cr_5 | exact cr_23 | exact cr_24 | exact cr_25 | exact cr_26 | exact cr_27 | exact cr_28 | exact cr_29 | exact cr_30 | assumption)) rfl ?_
              refine zr_getf dX6_fullAt_28 (rfl : 28 + 3 = 31) f_X6_69 (by first | assumption | exact mw_167 | exact mw_168 | exact mw_169 | exact mw_170 | exact bk_0 | exact bk_1 | exact bk_2 | exact bk_3 | exact bk_4 | exact bk_5 | exact bk_6 | exact bk_7 | exact bk_8 | exact bk_9 | exact bk_10 | exact bk_11 | exact bk_12 | exact bk_13 | exact bk_14 | exact bk_15 | exact bk_16 | exact zup_self | exact (zup_ne (by first | assumption | omega)).trans (by first | assumption | exact zup_self) | exact (zup_ne (by first | assumption | omega)).trans ((zup_ne (by first | assumption | omega)).trans (by first | assumption | exact zup_self)) | exact (bk_out (by first | omega | (simp only [bset, reduceIte, Nat.reduceEqDiff]; omega))).trans (by first | exact bk_0 | exact bk_1 | exact bk_2 | exact bk_3 | exact bk_4 | exact bk_5 | exact bk_6 | exact bk_7 | exact bk_8 | exact bk_9 | exact bk_10 | exact bk_11 | exact bk_12 | exact bk_13 | exact bk_14 | exact bk_15 | exact bk_16 | exact cr_5 | exact cr_23 | exact cr_24 | exact cr_25 | exact cr_26 | exact cr_27 | exact cr_28 | exact cr_29 | exact cr_30 | assumption)) rfl ?_
              refine zr_iload_n dX6_fullAt_31 (rfl : 31 + 1 = 32) rfl ?_
              refine zr_fnV dX6_fullAt_32 (rfl : 32 + 3 = 35) l_X6_182 (s_isWhole c h ok.P) (by first | assumption | exact mw_167 | exact mw_168 | exact mw_169 | exact mw_170 | exact bk_0 | exact bk_1 | exact bk_2 | exact bk_3 | exact bk_4 | exact bk_5 | exact bk_6 | exact bk_7 | exact bk_8 | exact bk_9 | exact bk_10 | exact bk_11 | exact bk_12 | exact bk_13 | exact bk_14 | exact bk_15 | exact bk_16 | exact zup_self | exact (zup_ne (by first | assumption | omega)).trans (by first | assumption | exact zup_self) | exact (zup_ne (by first | assumption | omega)).trans ((zup_ne (by first | assumption | omega)).trans (by first | assumption | exact zup_self)) | exact (bk_out (by first | omega | (simp only [bset, reduceIte, Nat.reduceEqDiff]; omega))).trans (by first | exact bk_0 | exact bk_1 | exact bk_2 | exact bk_3 | exact bk_4 | exact bk_5 | exact bk_6 | exact bk_7 | exact bk_8 | exact bk_9 | exact bk_10 | exact bk_11 | exact bk_12 | exact bk_13 | exact bk_14 | exact bk_15 | exact bk_16 | exact cr_5 | exact cr_23 | exact cr_24 | exact cr_25 | exact cr_26 | exact cr_27 | exact cr_28 | exact cr_29 | exact cr_30 | assumption)) rfl rfl rfl (Nat.le_of_ble_eq_true rfl) ?_
              refine zr_if_ne (tgt := 40) dX6_fullAt_35 (by decide) (rfl : 35 + 3 = 38) (by first | exact jb_iff | exact jI_z (by first | omega | (simp only [bset, reduceIte, Nat.reduceEqDiff]; omega)) (by first | omega | (simp only [bset, reduceIte, Nat.reduceEqDiff]; omega))) (fun h35 => ?_) (fun h35 => ?_)
              · first
                | (exfalso; omega)
                | (
                  refine zr_iload_n dX6_fullAt_40 (rfl : 40 + 1 = 41) rfl ?_
                  refine zr_if_ne (tgt := 50) dX6_fullAt_41 (by decide) (rfl : 41 + 3 = 44) (by first | exact jb_iff | exact jI_z (by first | omega | (simp only [bset, reduceIte, Nat.reduceEqDiff]; omega)) (by first | omega | (simp only [bset, reduceIte, Nat.reduceEqDiff]; omega))) (fun h41 => ?_) (fun h41 => ?_)
                  · first
                    | (exfalso; omega)
                    | (
                      refine zr_aload_n dX6_fullAt_50 (rfl : 50 + 1 = 51) rfl ?_
                      refine zr_fnV dX6_fullAt_51 (rfl : 51 + 3 = 54) l_X6_264 (hlay) (by first | assumption | exact mw_167 | exact mw_168 | exact mw_169 | exact mw_170 | exact bk_0 | exact bk_1 | exact bk_2 | exact bk_3 | exact bk_4 | exact bk_5 | exact bk_6 | exact bk_7 | exact bk_8 | exact bk_9 | exact bk_10 | exact bk_11 | exact bk_12 | exact bk_13 | exact bk_14 | exact bk_15 | exact bk_16 | exact zup_self | exact (zup_ne (by first | assumption | omega)).trans (by first | assumption | exact zup_self) | exact (zup_ne (by first | assumption | omega)).trans ((zup_ne (by first | assumption | omega)).trans (by first | assumption | exact zup_self)) | exact (bk_out (by first | omega | (simp only [bset, reduceIte, Nat.reduceEqDiff]; omega))).trans (by first | exact bk_0 | exact bk_1 | exact bk_2 | exact bk_3 | exact bk_4 | exact bk_5 | exact bk_6 | exact bk_7 | exact bk_8 | exact bk_9 | exact bk_10 | exact bk_11 | exact bk_12 | exact bk_13 | exact bk_14 | exact bk_15 | exact bk_16 | exact cr_5 | exact cr_23 | exact cr_24 | exact cr_25 | exact cr_26 | exact cr_27 | exact cr_28 | exact cr_29 | exact cr_30 | assumption)) rfl rfl rfl (Nat.le_of_ble_eq_true rfl) ?_
                      refine zr_aload_n dX6_fullAt_54 (rfl : 54 + 1 = 55) rfl ?_
                      refine zr_iload_n dX6_fullAt_55 (rfl : 55 + 1 = 56) rfl ?_
                      refine zr_fnV dX6_fullAt_56 (rfl : 56 + 3 = 59) l_X6_267 (hl) (by first | assumption | exact mw_167 | exact mw_168 | exact mw_169 | exact mw_170 | exact bk_0 | exact bk_1 | exact bk_2 | exact bk_3 | exact bk_4 | exact bk_5 | exact bk_6 | exact bk_7 | exact bk_8 | exact bk_9 | exact bk_10 | exact bk_11 | exact bk_12 | exact bk_13 | exact bk_14 | exact bk_15 | exact bk_16 | exact zup_self | exact (zup_ne (by first | assumption | omega)).trans (by first | assumption | exact zup_self) | exact (zup_ne (by first | assumption | omega)).trans ((zup_ne (by first | assumption | omega)).trans (by first | assumption | exact zup_self)) | exact (bk_out (by first | omega | (simp only [bset, reduceIte, Nat.reduceEqDiff]; omega))).trans (by first | exact bk_0 | exact bk_1 | exact bk_2 | exact bk_3 | exact bk_4 | exact bk_5 | exact bk_6 | exact bk_7 | exact bk_8 | exact bk_9 | exact bk_10 | exact bk_11 | exact bk_12 | exact bk_13 | exact bk_14 | exact bk_15 | exact bk_16 | exact cr_5 | exact cr_23 | exact cr_24 | exact cr_25 | exact cr_26 | exact cr_27 | exact cr_28 | exact cr_29 | exact cr_30 | assumption)) rfl rfl rfl (Nat.le_of_ble_eq_true rfl) ?_
                      refine zr_iret dX6_fullAt_59 rfl rfl ?_ rfl rfl rfl
                      first | rfl | rw [jb_pos (by first | assumption | omega)] | rw [jb_neg (by first | assumption | omega)] | rw [if_pos (by first | assumption | omega)] | rw [if_neg (by first | assumption | omega)])
                  · first
                    | (exfalso; omega)
                    | (
                      exfalso
                      omega))
              · first
                | (exfalso; omega)
                | (
                  refine zr_iconst dX6_fullAt_38 (rfl : 38 + 1 = 39) ?_
                  refine zr_iret dX6_fullAt_39 rfl rfl ?_ rfl rfl rfl
                  first | rfl | rw [jb_pos (by first | assumption | omega)] | rw [jb_neg (by first | assumption | omega)] | rw [if_pos (by first | assumption | omega)] | rw [if_neg (by first | assumption | omega)]))
          · first
            | (exfalso; omega)
            | (
              refine zr_iconst dX6_fullAt_16 (rfl : 16 + 1 = 17) ?_
              refine zr_goto (tgt := 21) dX6_fullAt_17 (by decide) ?_
              refine zr_fnS dX6_fullAt_21 (rfl : 21 + 3 = 24) l_X6_59 (s_needValue) rfl rfl (Nat.le_of_ble_eq_true rfl) ?_
              refine zr_aload_n dX6_fullAt_24 (rfl : 24 + 1 = 25) rfl ?_
              refine zr_getf dX6_fullAt_25 (rfl : 25 + 3 = 28) f_X6_10 (by first | assumption | exact mw_167 | exact mw_168 | exact mw_169 | exact mw_170 | exact bk_0 | exact bk_1 | exact bk_2 | exact bk_3 | exact bk_4 | exact bk_5 | exact bk_6 | exact bk_7 | exact bk_8 | exact bk_9 | exact bk_10 | exact bk_11 | exact bk_12 | exact bk_13 | exact bk_14 | exact bk_15 | exact bk_16 | exact zup_self | exact (zup_ne (by first | assumption | omega)).trans (by first | assumption | exact zup_self) | exact (zup_ne (by first | assumption | omega)).trans ((zup_ne (by first | assumption | omega)).trans (by first | assumption | exact zup_self)) | exact (bk_out (by first | omega | (simp only [bset, reduceIte, Nat.reduceEqDiff]; omega))).trans (by first | exact bk_0 | exact bk_1 | exact bk_2 | exact bk_3 | exact bk_4 | exact bk_5 | exact bk_6 | exact bk_7 | exact bk_8 | exact bk_9 | exact bk_10 | exact bk_11 | exact bk_12 | exact bk_13 | exact bk_14 | exact bk_15 | exact bk_16 | exact cr_5 | exact cr_23 | exact cr_24 | exact cr_25 | exact cr_26 | exact cr_27 | exact cr_28 | exact cr_29 | exact cr_30 | assumption)) rfl ?_
              refine zr_getf dX6_fullAt_28 (rfl : 28 + 3 = 31) f_X6_69 (by first | assumption | exact mw_167 | exact mw_168 | exact mw_169 | exact mw_170 | exact bk_0 | exact bk_1 | exact bk_2 | exact bk_3 | exact bk_4 | exact bk_5 | exact bk_6 | exact bk_7 | exact bk_8 | exact bk_9 | exact bk_10 | exact bk_11 | exact bk_12 | exact bk_13 | exact bk_14 | exact bk_15 | exact bk_16 | exact zup_self | exact (zup_ne (by first | assumption | omega)).trans (by first | assumption | exact zup_self) | exact (zup_ne (by first | assumption | omega)).trans ((zup_ne (by first | assumption | omega)).trans (by first | assumption | exact zup_self)) | exact (bk_out (by first | omega | (simp only [bset, reduceIte, Nat.reduceEqDiff]; omega))).trans (by first | exact bk_0 | exact bk_1 | exact bk_2 | exact bk_3 | exact bk_4 | exact bk_5 | exact bk_6 | exact bk_7 | exact bk_8 | exact bk_9 | exact bk_10 | exact bk_11 | exact bk_12 | exact bk_13 | exact bk_14 | exact bk_15 | exact bk_16 | exact cr_5 | exact cr_23 | exact cr_24 | exact cr_25 | exact cr_26 | exact cr_27 | exact cr_28 | exact cr_29 | exact cr_30 | assumption)) rfl ?_
              refine zr_iload_n dX6_fullAt_31 (rfl : 31 + 1 = 32) rfl ?_
              refine zr_fnV dX6_fullAt_32 (rfl : 32 + 3 = 35) l_X6_182 (s_isWhole c h ok.P) (by first | assumption | exact mw_167 | exact mw_168 | exact mw_169 | exact mw_170 | exact bk_0 | exact bk_1 | exact bk_2 | exact bk_3 | exact bk_4 | exact bk_5 | exact bk_6 | exact bk_7 | exact bk_8 | exact bk_9 | exact bk_10 | exact bk_11 | exact bk_12 | exact bk_13 | exact bk_14 | exact bk_15 | exact bk_16 | exact zup_self | exact (zup_ne (by first | assumption | omega)).trans (by first | assumption | exact zup_self) | exact (zup_ne (by first | assumption | omega)).trans ((zup_ne (by first | assumption | omega)).trans (by first | assumption | exact zup_self)) | exact (bk_out (by first | omega | (simp only [bset, reduceIte, Nat.reduceEqDiff]; omega))).trans (by first | exact bk_0 | exact bk_1 | exact bk_2 | exact bk_3 | exact bk_4 | exact bk_5 | exact bk_6 | exact bk_7 | exact bk_8 | exact bk_9 | exact bk_10 | exact bk_11 | exact bk_12 | exact bk_13 | exact bk_14 | exact bk_15 | exact bk_16 | exact cr_5 | exact cr_23 | exact cr_24 | exact cr_25 | exact cr_26 | exact cr_27 | exact cr_28 | exact cr_29 | exact cr_30 | assumption)) rfl rfl rfl (Nat.le_of_ble_eq_true rfl) ?_
              refine zr_if_ne (tgt := 40) dX6_fullAt_35 (by decide) (rfl : 35 + 3 = 38) (by first | exact jb_iff | exact jI_z (by first | omega | (simp only [bset, reduceIte, Nat.reduceEqDiff]; omega)) (by first | omega | (simp only [bset, reduceIte, Nat.reduceEqDiff]; omega))) (fun h35 => ?_) (fun h35 => ?_)
              · first
                | (exfalso; omega)
                | (
                  refine zr_iload_n dX6_fullAt_40 (rfl : 40 + 1 = 41) rfl ?_
                  refine zr_if_ne (tgt := 50) dX6_fullAt_41 (by decide) (rfl : 41 + 3 = 44) (by first | exact jb_iff | exact jI_z (by first | omega | (simp only [bset, reduceIte, Nat.reduceEqDiff]; omega)) (by first | omega | (simp only [bset, reduceIte, Nat.reduceEqDiff]; omega))) (fun h41 => ?_) (fun h41 => ?_)
                  · first
                    | (exfalso; omega)
                    | (
                      refine zr_aload_n dX6_fullAt_50 (rfl : 50 + 1 = 51) rfl ?_
                      refine zr_fnV dX6_fullAt_51 (rfl : 51 + 3 = 54) l_X6_264 (hlay) (by first | assumption | exact mw_167 | exact mw_168 | exact mw_169 | exact mw_170 | exact bk_0 | exact bk_1 | exact bk_2 | exact bk_3 | exact bk_4 | exact bk_5 | exact bk_6 | exact bk_7 | exact bk_8 | exact bk_9 | exact bk_10 | exact bk_11 | exact bk_12 | exact bk_13 | exact bk_14 | exact bk_15 | exact bk_16 | exact zup_self | exact (zup_ne (by first | assumption | omega)).trans (by first | assumption | exact zup_self) | exact (zup_ne (by first | assumption | omega)).trans ((zup_ne (by first | assumption | omega)).trans (by first | assumption | exact zup_self)) | exact (bk_out (by first | omega | (simp only [bset, reduceIte, Nat.reduceEqDiff]; omega))).trans (by first | exact bk_0 | exact bk_1 | exact bk_2 | exact bk_3 | exact bk_4 | exact bk_5 | exact bk_6 | exact bk_7 | exact bk_8 | exact bk_9 | exact bk_10 | exact bk_11 | exact bk_12 | exact bk_13 | exact bk_14 | exact bk_15 | exact bk_16 | exact cr_5 | exact cr_23 | exact cr_24 | exact cr_25 | exact cr_26 | exact cr_27 | exact cr_28 | exact cr_29 | exact cr_30 | assumption)) rfl rfl rfl (Nat.le_of_ble_eq_true rfl) ?_
                      refine zr_aload_n dX6_fullAt_54 (rfl : 54 + 1 = 55) rfl ?_
                      refine zr_iload_n dX6_fullAt_55 (rfl : 55 + 1 = 56) rfl ?_
                      refine zr_fnV dX6_fullAt_56 (rfl : 56 + 3 = 59) l_X6_267 (hl) (by first | assumption | exact mw_167 | exact mw_168 | exact mw_169 | exact mw_170 | exact bk_0 | exact bk_1 | exact bk_2 | exact bk_3 | exact bk_4 | exact bk_5 | exact bk_6 | exact bk_7 | exact bk_8 | exact bk_9 | exact bk_10 | exact bk_11 | exact bk_12 | exact bk_13 | exact bk_14 | exact bk_15 | exact bk_16 | exact zup_self | exact (zup_ne (by first | assumption | omega)).trans (by first | assumption | exact zup_self) | exact (zup_ne (by first | assumption | omega)).trans ((zup_ne (by first | assumption | omega)).trans (by first | assumption | exact zup_self)) | exact (bk_out (by first | omega | (simp only [bset, reduceIte, Nat.reduceEqDiff]; omega))).trans (by first | exact bk_0 | exact bk_1 | exact bk_2 | exact bk_3 | exact bk_4 | exact bk_5 | exact bk_6 | exact bk_7 | exact bk_8 | exact bk_9 | exact bk_10 | exact bk_11 | exact bk_12 | exact bk_13 | exact bk_14 | exact bk_15 | exact bk_16 | exact cr_5 | exact cr_23 | exact cr_24 | exact cr_25 | exact cr_26 | exact cr_27 | exact cr_28 | exact cr_29 | exact cr_30 | assumption)) rfl rfl rfl (Nat.le_of_ble_eq_true rfl) ?_
                      refine zr_iret dX6_fullAt_59 rfl rfl ?_ rfl rfl rfl
                      first | rfl | rw [jb_pos (by first | assumption | omega)] | rw [jb_neg (by first | assumption | omega)] | rw [if_pos (by first | assumption | omega)] | rw [if_neg (by first | assumption | omega)])
                  · first
                    | (exfalso; omega)
                    | (
                      exfalso
                      omega))
              · first
                | (exfalso; omega)
                | (
                  refine zr_iconst dX6_fullAt_38 (rfl : 38 + 1 = 39) ?_
                  refine zr_iret dX6_fullAt_39 rfl rfl ?_ rfl rfl rfl
                  first | rfl | rw [jb_pos (by first | assumption | omega)] | rw [jb_neg (by first | assumption | omega)] | rw [if_pos (by first | assumption | omega)] | rw [if_neg (by first | assumption | omega)])))
  · rw [if_neg hw]
    refine ⟨τ, ?_⟩
    refine zFn.of_run (lv := [some (.ref 5), some (.int (jI c)), some (.int (jI k))]) (by decide) rfl (Nat.le_of_ble_eq_true rfl) rfl (fun n9 g9 => ?_)
    refine zr_iload_n dX6_fullAt_0 (rfl : 0 + 1 = 1) rfl ?_
    refine zr_fnS dX6_fullAt_1 (rfl : 1 + 3 = 4) l_X6_45 (s_isCard c (by first | omega | (simp only [bset, reduceIte, Nat.reduceEqDiff]; omega))) rfl rfl (Nat.le_of_ble_eq_true rfl) ?_
    rw [jb_pos h]
    refine zr_fnS dX6_fullAt_4 (rfl : 4 + 3 = 7) l_X6_52 (s_needPlace) rfl rfl (Nat.le_of_ble_eq_true rfl) ?_
    refine zr_iload_n dX6_fullAt_7 (rfl : 7 + 1 = 8) rfl ?_
    refine zr_if_eq (tgt := 16) dX6_fullAt_8 (by decide) (rfl : 8 + 3 = 11) (by first | exact jb_iff | exact jI_z (by first | omega | (simp only [bset, reduceIte, Nat.reduceEqDiff]; omega)) (by first | omega | (simp only [bset, reduceIte, Nat.reduceEqDiff]; omega))) (fun h8 => ?_) (fun h8 => ?_)
    · first
      | (exfalso; omega)
      | (
        refine zr_iconst dX6_fullAt_16 (rfl : 16 + 1 = 17) ?_
        refine zr_goto (tgt := 21) dX6_fullAt_17 (by decide) ?_
        refine zr_fnS dX6_fullAt_21 (rfl : 21 + 3 = 24) l_X6_59 (s_needValue) rfl rfl (Nat.le_of_ble_eq_true rfl) ?_
        refine zr_aload_n dX6_fullAt_24 (rfl : 24 + 1 = 25) rfl ?_
        refine zr_getf dX6_fullAt_25 (rfl : 25 + 3 = 28) f_X6_10 (by first | assumption | exact mw_167 | exact mw_168 | exact mw_169 | exact mw_170 | exact bk_0 | exact bk_1 | exact bk_2 | exact bk_3 | exact bk_4 | exact bk_5 | exact bk_6 | exact bk_7 | exact bk_8 | exact bk_9 | exact bk_10 | exact bk_11 | exact bk_12 | exact bk_13 | exact bk_14 | exact bk_15 | exact bk_16 | exact zup_self | exact (zup_ne (by first | assumption | omega)).trans (by first | assumption | exact zup_self) | exact (zup_ne (by first | assumption | omega)).trans ((zup_ne (by first | assumption | omega)).trans (by first | assumption | exact zup_self)) | exact (bk_out (by first | omega | (simp only [bset, reduceIte, Nat.reduceEqDiff]; omega))).trans (by first | exact bk_0 | exact bk_1 | exact bk_2 | exact bk_3 | exact bk_4 | exact bk_5 | exact bk_6 | exact bk_7 | exact bk_8 | exact bk_9 | exact bk_10 | exact bk_11 | exact bk_12 | exact bk_13 | exact bk_14 | exact bk_15 | exact bk_16 | exact cr_5 | exact cr_23 | exact cr_24 | exact cr_25 | exact cr_26 | exact cr_27 | exact cr_28 | exact cr_29 | exact cr_30 | assumption)) rfl ?_
        refine zr_getf dX6_fullAt_28 (rfl : 28 + 3 = 31) f_X6_69 (by first | assumption | exact mw_167 | exact mw_168 | exact mw_169 | exact mw_170 | exact bk_0 | exact bk_1 | exact bk_2 | exact bk_3 | exact bk_4 | exact bk_5 | exact bk_6 | exact bk_7 | exact bk_8 | exact bk_9 | exact bk_10 | exact bk_11 | exact bk_12 | exact bk_13 | exact bk_14 | exact bk_15 | exact bk_16 | exact zup_self | exact (zup_ne (by first | assumption | omega)).trans (by first | assumption | exact zup_self) | exact (zup_ne (by first | assumption | omega)).trans ((zup_ne (by first | assumption | omega)).trans (by first | assumption | exact zup_self)) | exact (bk_out (by first | omega | (simp only [bset, reduceIte, Nat.reduceEqDiff]; omega))).trans (by first | exact bk_0 | exact bk_1 | exact bk_2 | exact bk_3 | exact bk_4 | exact bk_5 | exact bk_6 | exact bk_7 | exact bk_8 | exact bk_9 | exact bk_10 | exact bk_11 | exact bk_12 | exact bk_13 | exact bk_14 | exact bk_15 | exact bk_16 | exact cr_5 | exact cr_23 | exact cr_24 | exact cr_25 | exact cr_26 | exact cr_27 | exact cr_28 | exact cr_29 | exact cr_30 | assumption)) rfl ?_
        refine zr_iload_n dX6_fullAt_31 (rfl : 31 + 1 = 32) rfl ?_
        refine zr_fnV dX6_fullAt_32 (rfl : 32 + 3 = 35) l_X6_182 (s_isWhole c h ok.P) (by first | assumption | exact mw_167 | exact mw_168 | exact mw_169 | exact mw_170 | exact bk_0 | exact bk_1 | exact bk_2 | exact bk_3 | exact bk_4 | exact bk_5 | exact bk_6 | exact bk_7 | exact bk_8 | exact bk_9 | exact bk_10 | exact bk_11 | exact bk_12 | exact bk_13 | exact bk_14 | exact bk_15 | exact bk_16 | exact zup_self | exact (zup_ne (by first | assumption | omega)).trans (by first | assumption | exact zup_self) | exact (zup_ne (by first | assumption | omega)).trans ((zup_ne (by first | assumption | omega)).trans (by first | assumption | exact zup_self)) | exact (bk_out (by first | omega | (simp only [bset, reduceIte, Nat.reduceEqDiff]; omega))).trans (by first | exact bk_0 | exact bk_1 | exact bk_2 | exact bk_3 | exact bk_4 | exact bk_5 | exact bk_6 | exact bk_7 | exact bk_8 | exact bk_9 | exact bk_10 | exact bk_11 | exact bk_12 | exact bk_13 | exact bk_14 | exact bk_15 | exact bk_16 | exact cr_5 | exact cr_23 | exact cr_24 | exact cr_25 | exact cr_26 | exact cr_27 | exact cr_28 | exact cr_29 | exact cr_30 | assumption)) rfl rfl rfl (Nat.le_of_ble_eq_true rfl) ?_
        refine zr_if_ne (tgt := 40) dX6_fullAt_35 (by decide) (rfl : 35 + 3 = 38) (by first | exact jb_iff | exact jI_z (by first | omega | (simp only [bset, reduceIte, Nat.reduceEqDiff]; omega)) (by first | omega | (simp only [bset, reduceIte, Nat.reduceEqDiff]; omega))) (fun h35 => ?_) (fun h35 => ?_)
        · first
          | (exfalso; omega)
          | (
            exfalso
            omega)
        · first
          | (exfalso; omega)
          | (
            refine zr_iconst dX6_fullAt_38 (rfl : 38 + 1 = 39) ?_
            refine zr_iret dX6_fullAt_39 rfl rfl ?_ rfl rfl rfl
            first | rfl | rw [jb_pos (by first | assumption | omega)] | rw [jb_neg (by first | assumption | omega)] | rw [if_pos (by first | assumption | omega)] | rw [if_neg (by first | assumption | omega)]))
    · first
      | (exfalso; omega)
      | (
        refine zr_iload_n dX6_fullAt_11 (rfl : 11 + 1 = 12) rfl ?_
        refine zr_iconst dX6_fullAt_12 (rfl : 12 + 1 = 13) ?_
        refine zr_icmp_ne (tgt := 20) dX6_fullAt_13 (by decide) (rfl : 13 + 3 = 16) (jI_eq (by first | omega | (simp only [bset, reduceIte, Nat.reduceEqDiff]; omega)) (by first | omega | (simp only [bset, reduceIte, Nat.reduceEqDiff]; omega)) (by first | omega | (simp only [bset, reduceIte, Nat.reduceEqDiff]; omega)) (by first | omega | (simp only [bset, reduceIte, Nat.reduceEqDiff]; omega))) (fun h13 => ?_) (fun h13 => ?_)
        · first
          | (exfalso; omega)
          | (
            refine zr_iconst dX6_fullAt_20 (rfl : 20 + 1 = 21) ?_
            refine zr_fnS dX6_fullAt_21 (rfl : 21 + 3 = 24) l_X6_59 (s_needValue) rfl rfl (Nat.le_of_ble_eq_true rfl) ?_
            refine zr_aload_n dX6_fullAt_24 (rfl : 24 + 1 = 25) rfl ?_
            refine zr_getf dX6_fullAt_25 (rfl : 25 + 3 = 28) f_X6_10 (by first | assumption | exact mw_167 | exact mw_168 | exact mw_169 | exact mw_170 | exact bk_0 | exact bk_1 | exact bk_2 | exact bk_3 | exact bk_4 | exact bk_5 | exact bk_6 | exact bk_7 | exact bk_8 | exact bk_9 | exact bk_10 | exact bk_11 | exact bk_12 | exact bk_13 | exact bk_14 | exact bk_15 | exact bk_16 | exact zup_self | exact (zup_ne (by first | assumption | omega)).trans (by first | assumption | exact zup_self) | exact (zup_ne (by first | assumption | omega)).trans ((zup_ne (by first | assumption | omega)).trans (by first | assumption | exact zup_self)) | exact (bk_out (by first | omega | (simp only [bset, reduceIte, Nat.reduceEqDiff]; omega))).trans (by first | exact bk_0 | exact bk_1 | exact bk_2 | exact bk_3 | exact bk_4 | exact bk_5 | exact bk_6 | exact bk_7 | exact bk_8 | exact bk_9 | exact bk_10 | exact bk_11 | exact bk_12 | exact bk_13 | exact bk_14 | exact bk_15 | exact bk_16 | exact cr_5 | exact cr_23 | exact cr_24 | exact cr_25 | exact cr_26 | exact cr_27 | exact cr_28 | exact cr_29 | exact cr_30 | assumption)) rfl ?_
            refine zr_getf dX6_fullAt_28 (rfl : 28 + 3 = 31) f_X6_69 (by first | assumption | exact mw_167 | exact mw_168 | exact mw_169 | exact mw_170 | exact bk_0 | exact bk_1 | exact bk_2 | exact bk_3 | exact bk_4 | exact bk_5 | exact bk_6 | exact bk_7 | exact bk_8 | exact bk_9 | exact bk_10 | exact bk_11 | exact bk_12 | exact bk_13 | exact bk_14 | exact bk_15 | exact bk_16 | exact zup_self | exact (zup_ne (by first | assumption | omega)).trans (by first | assumption | exact zup_self) | exact (zup_ne (by first | assumption | omega)).trans ((zup_ne (by first | assumption | omega)).trans (by first | assumption | exact zup_self)) | exact (bk_out (by first | omega | (simp only [bset, reduceIte, Nat.reduceEqDiff]; omega))).trans (by first | exact bk_0 | exact bk_1 | exact bk_2 | exact bk_3 | exact bk_4 | exact bk_5 | exact bk_6 | exact bk_7 | exact bk_8 | exact bk_9 | exact bk_10 | exact bk_11 | exact bk_12 | exact bk_13 | exact bk_14 | exact bk_15 | exact bk_16 | exact cr_5 | exact cr_23 | exact cr_24 | exact cr_25 | exact cr_26 | exact cr_27 | exact cr_28 | exact cr_29 | exact cr_30 | assumption)) rfl ?_
            refine zr_iload_n dX6_fullAt_31 (rfl : 31 + 1 = 32) rfl ?_
            refine zr_fnV dX6_fullAt_32 (rfl : 32 + 3 = 35) l_X6_182 (s_isWhole c h ok.P) (by first | assumption | exact mw_167 | exact mw_168 | exact mw_169 | exact mw_170 | exact bk_0 | exact bk_1 | exact bk_2 | exact bk_3 | exact bk_4 | exact bk_5 | exact bk_6 | exact bk_7 | exact bk_8 | exact bk_9 | exact bk_10 | exact bk_11 | exact bk_12 | exact bk_13 | exact bk_14 | exact bk_15 | exact bk_16 | exact zup_self | exact (zup_ne (by first | assumption | omega)).trans (by first | assumption | exact zup_self) | exact (zup_ne (by first | assumption | omega)).trans ((zup_ne (by first | assumption | omega)).trans (by first | assumption | exact zup_self)) | exact (bk_out (by first | omega | (simp only [bset, reduceIte, Nat.reduceEqDiff]; omega))).trans (by first | exact bk_0 | exact bk_1 | exact bk_2 | exact bk_3 | exact bk_4 | exact bk_5 | exact bk_6 | exact bk_7 | exact bk_8 | exact bk_9 | exact bk_10 | exact bk_11 | exact bk_12 | exact bk_13 | exact bk_14 | exact bk_15 | exact bk_16 | exact cr_5 | exact cr_23 | exact cr_24 | exact cr_25 | exact cr_26 | exact cr_27 | exact cr_28 | exact cr_29 | exact cr_30 | assumption)) rfl rfl rfl (Nat.le_of_ble_eq_true rfl) ?_
            refine zr_if_ne (tgt := 40) dX6_fullAt_35 (by decide) (rfl : 35 + 3 = 38) (by first | exact jb_iff | exact jI_z (by first | omega | (simp only [bset, reduceIte, Nat.reduceEqDiff]; omega)) (by first | omega | (simp only [bset, reduceIte, Nat.reduceEqDiff]; omega))) (fun h35 => ?_) (fun h35 => ?_)
            · first
              | (exfalso; omega)
              | (
                exfalso
                omega)
            · first
              | (exfalso; omega)
              | (
                refine zr_iconst dX6_fullAt_38 (rfl : 38 + 1 = 39) ?_
                refine zr_iret dX6_fullAt_39 rfl rfl ?_ rfl rfl rfl
                first | rfl | rw [jb_pos (by first | assumption | omega)] | rw [jb_neg (by first | assumption | omega)] | rw [if_pos (by first | assumption | omega)] | rw [if_neg (by first | assumption | omega)]))
        · first
          | (exfalso; omega)
          | (
            refine zr_iconst dX6_fullAt_16 (rfl : 16 + 1 = 17) ?_
            refine zr_goto (tgt := 21) dX6_fullAt_17 (by decide) ?_
            refine zr_fnS dX6_fullAt_21 (rfl : 21 + 3 = 24) l_X6_59 (s_needValue) rfl rfl (Nat.le_of_ble_eq_true rfl) ?_
            refine zr_aload_n dX6_fullAt_24 (rfl : 24 + 1 = 25) rfl ?_
            refine zr_getf dX6_fullAt_25 (rfl : 25 + 3 = 28) f_X6_10 (by first | assumption | exact mw_167 | exact mw_168 | exact mw_169 | exact mw_170 | exact bk_0 | exact bk_1 | exact bk_2 | exact bk_3 | exact bk_4 | exact bk_5 | exact bk_6 | exact bk_7 | exact bk_8 | exact bk_9 | exact bk_10 | exact bk_11 | exact bk_12 | exact bk_13 | exact bk_14 | exact bk_15 | exact bk_16 | exact zup_self | exact (zup_ne (by first | assumption | omega)).trans (by first | assumption | exact zup_self) | exact (zup_ne (by first | assumption | omega)).trans ((zup_ne (by first | assumption | omega)).trans (by first | assumption | exact zup_self)) | exact (bk_out (by first | omega | (simp only [bset, reduceIte, Nat.reduceEqDiff]; omega))).trans (by first | exact bk_0 | exact bk_1 | exact bk_2 | exact bk_3 | exact bk_4 | exact bk_5 | exact bk_6 | exact bk_7 | exact bk_8 | exact bk_9 | exact bk_10 | exact bk_11 | exact bk_12 | exact bk_13 | exact bk_14 | exact bk_15 | exact bk_16 | exact cr_5 | exact cr_23 | exact cr_24 | exact cr_25 | exact cr_26 | exact cr_27 | exact cr_28 | exact cr_29 | exact cr_30 | assumption)) rfl ?_
            refine zr_getf dX6_fullAt_28 (rfl : 28 + 3 = 31) f_X6_69 (by first | assumption | exact mw_167 | exact mw_168 | exact mw_169 | exact mw_170 | exact bk_0 | exact bk_1 | exact bk_2 | exact bk_3 | exact bk_4 | exact bk_5 | exact bk_6 | exact bk_7 | exact bk_8 | exact bk_9 | exact bk_10 | exact bk_11 | exact bk_12 | exact bk_13 | exact bk_14 | exact bk_15 | exact bk_16 | exact zup_self | exact (zup_ne (by first | assumption | omega)).trans (by first | assumption | exact zup_self) | exact (zup_ne (by first | assumption | omega)).trans ((zup_ne (by first | assumption | omega)).trans (by first | assumption | exact zup_self)) | exact (bk_out (by first | omega | (simp only [bset, reduceIte, Nat.reduceEqDiff]; omega))).trans (by first | exact bk_0 | exact bk_1 | exact bk_2 | exact bk_3 | exact bk_4 | exact bk_5 | exact bk_6 | exact bk_7 | exact bk_8 | exact bk_9 | exact bk_10 | exact bk_11 | exact bk_12 | exact bk_13 | exact bk_14 | exact bk_15 | exact bk_16 | exact cr_5 | exact cr_23 | exact cr_24 | exact cr_25 | exact cr_26 | exact cr_27 | exact cr_28 | exact cr_29 | exact cr_30 | assumption)) rfl ?_
            refine zr_iload_n dX6_fullAt_31 (rfl : 31 + 1 = 32) rfl ?_
            refine zr_fnV dX6_fullAt_32 (rfl : 32 + 3 = 35) l_X6_182 (s_isWhole c h ok.P) (by first | assumption | exact mw_167 | exact mw_168 | exact mw_169 | exact mw_170 | exact bk_0 | exact bk_1 | exact bk_2 | exact bk_3 | exact bk_4 | exact bk_5 | exact bk_6 | exact bk_7 | exact bk_8 | exact bk_9 | exact bk_10 | exact bk_11 | exact bk_12 | exact bk_13 | exact bk_14 | exact bk_15 | exact bk_16 | exact zup_self | exact (zup_ne (by first | assumption | omega)).trans (by first | assumption | exact zup_self) | exact (zup_ne (by first | assumption | omega)).trans ((zup_ne (by first | assumption | omega)).trans (by first | assumption | exact zup_self)) | exact (bk_out (by first | omega | (simp only [bset, reduceIte, Nat.reduceEqDiff]; omega))).trans (by first | exact bk_0 | exact bk_1 | exact bk_2 | exact bk_3 | exact bk_4 | exact bk_5 | exact bk_6 | exact bk_7 | exact bk_8 | exact bk_9 | exact bk_10 | exact bk_11 | exact bk_12 | exact bk_13 | exact bk_14 | exact bk_15 | exact bk_16 | exact cr_5 | exact cr_23 | exact cr_24 | exact cr_25 | exact cr_26 | exact cr_27 | exact cr_28 | exact cr_29 | exact cr_30 | assumption)) rfl rfl rfl (Nat.le_of_ble_eq_true rfl) ?_
            refine zr_if_ne (tgt := 40) dX6_fullAt_35 (by decide) (rfl : 35 + 3 = 38) (by first | exact jb_iff | exact jI_z (by first | omega | (simp only [bset, reduceIte, Nat.reduceEqDiff]; omega)) (by first | omega | (simp only [bset, reduceIte, Nat.reduceEqDiff]; omega))) (fun h35 => ?_) (fun h35 => ?_)
            · first
              | (exfalso; omega)
              | (
                exfalso
                omega)
            · first
              | (exfalso; omega)
              | (
                refine zr_iconst dX6_fullAt_38 (rfl : 38 + 1 = 39) ?_
                refine zr_iret dX6_fullAt_39 rfl rfl ?_ rfl rfl rfl
                first | rfl | rw [jb_pos (by first | assumption | omega)] | rw [jb_neg (by first | assumption | omega)] | rw [if_pos (by first | assumption | omega)] | rw [if_neg (by first | assumption | omega)])))
/-- the first card that is full, and when -/
def jff (B : zB) : Nat → Int × Int
  | 0 => (-1, 91)
  | n + 1 => if jcs (B 0) n = 15 ∧ jlc B n ≠ -1 ∧ jlc B n < (jff B n).2 then ((n : Int), jlc B n) else jff B n
theorem s_firstFull (ok : jok B) : ∃ τ', zFn Γ md_X6_firstFull (d + 5) [.ref 5] (bk 6 B (cr σ τ u)) (some (.int (jI (jff B 6).1))) (bk 6 B (cr σ τ' u)) := by
  have hlay := s_layOrder (Γ := Γ) (d := d + 1) (σ := σ) (τ := τ) (u := u) ok
  have hod := jon_od ok τ.od
  have hl := fun (c : Int) (h : 0 ≤ c ∧ c < 6) => s_lastCall (Γ := Γ) (d := d) (σ := σ) (τ := ((jtn B τ (B 4 0).toNat).1, (jtn B τ (B 4 0).toNat).2.1, jon B τ.od (B 4 0).toNat)) (u := u) c h ok (fun z z0 z1 => by rw [show zTau.od ((jtn B τ (B 4 0).toNat).1, (jtn B τ (B 4 0).toNat).2.1, jon B τ.od (B 4 0).toNat) z = jod B z from hod z z0 z1]; exact jod_r ok ⟨z0, z1⟩)
  have he : ∀ c, jlo (zTau.od ((jtn B τ (B 4 0).toNat).1, (jtn B τ (B 4 0).toNat).2.1, jon B τ.od (B 4 0).toNat)) B c 90 = jlc B c := fun c => jlo_congr 90 hod
  have hl2 : ∀ (c : Int), 0 ≤ c ∧ c < 6 → zFn Γ md_X6_lastCallInOrder (d + 4) [.ref 5, .int (jI c)] (bk 6 B (cr σ ((jtn B τ (B 4 0).toNat).1, (jtn B τ (B 4 0).toNat).2.1, jon B τ.od (B 4 0).toNat) u)) (some (.int (jI (jlc B c)))) (bk 6 B (cr σ ((jtn B τ (B 4 0).toNat).1, (jtn B τ (B 4 0).toNat).2.1, jon B τ.od (B 4 0).toNat) u)) := fun c h => by rw [← he c]; exact hl c h
  clear hl he
  refine ⟨((jtn B τ (B 4 0).toNat).1, (jtn B τ (B 4 0).toNat).2.1, jon B τ.od (B 4 0).toNat), ?_⟩
  generalize ((jtn B τ (B 4 0).toNat).1, (jtn B τ (B 4 0).toNat).2.1, jon B τ.od (B 4 0).toNat) = τ2 at hl2 hlay ⊢
  have hr : ∀ n : Nat, 1 ≤ (jff B n).2 ∧ (jff B n).2 ≤ 91 := by
    intro n
    induction n with
    | zero => exact ⟨(by decide : (1 : Int) ≤ 91), (by decide : (91 : Int) ≤ 91)⟩
    | succ n ih =>
      have := jlo_r (B := B) (od := jod B) (c := n) 90
      unfold jff
      split
      · show 1 ≤ jlc B n ∧ jlc B n ≤ 91
        unfold jlc
        rename_i h
        have h2 := h.2.1
        unfold jlc at h2
        omega
      · exact ih
  refine zFn.of_run (lv := [some (.ref 5), none, none, none, none]) (by decide) rfl (Nat.le_of_ble_eq_true rfl) rfl (fun n9 g9 => ?_)
  refine zr_aload_n dX6_firstFull_0 (rfl : 0 + 1 = 1) rfl ?_
  refine zr_fnV dX6_firstFull_1 (rfl : 1 + 3 = 4) l_X6_264 (hlay) (by first | assumption | exact mw_167 | exact mw_168 | exact mw_169 | exact mw_170 | exact bk_0 | exact bk_1 | exact bk_2 | exact bk_3 | exact bk_4 | exact bk_5 | exact bk_6 | exact bk_7 | exact bk_8 | exact bk_9 | exact bk_10 | exact bk_11 | exact bk_12 | exact bk_13 | exact bk_14 | exact bk_15 | exact bk_16 | exact zup_self | exact (zup_ne (by first | assumption | omega)).trans (by first | assumption | exact zup_self) | exact (zup_ne (by first | assumption | omega)).trans ((zup_ne (by first | assumption | omega)).trans (by first | assumption | exact zup_self)) | exact (bk_out (by first | omega | (simp only [bset, reduceIte, Nat.reduceEqDiff]; omega))).trans (by first | exact bk_0 | exact bk_1 | exact bk_2 | exact bk_3 | exact bk_4 | exact bk_5 | exact bk_6 | exact bk_7 | exact bk_8 | exact bk_9 | exact bk_10 | exact bk_11 | exact bk_12 | exact bk_13 | exact bk_14 | exact bk_15 | exact bk_16 | exact cr_5 | exact cr_23 | exact cr_24 | exact cr_25 | exact cr_26 | exact cr_27 | exact cr_28 | exact cr_29 | exact cr_30 | assumption)) rfl rfl rfl (Nat.le_of_ble_eq_true rfl) ?_
  refine zr_iconst dX6_firstFull_4 (rfl : 4 + 1 = 5) ?_
  refine zr_istore_n (lv' := [_, _, _, _, _]) dX6_firstFull_5 (rfl : 5 + 1 = 6) (Nat.le_of_ble_eq_true rfl) rfl ?_
  refine zr_bipush dX6_firstFull_6 (rfl : 6 + 2 = 8) (by decide) ?_
  refine zr_istore_n (lv' := [_, _, _, _, _]) dX6_firstFull_8 (rfl : 8 + 1 = 9) (Nat.le_of_ble_eq_true rfl) rfl ?_
  refine zr_iconst dX6_firstFull_9 (rfl : 9 + 1 = 10) ?_
  refine zr_istore_n (lv' := [_, _, _, _, _]) dX6_firstFull_10 (rfl : 10 + 1 = 11) (Nat.le_of_ble_eq_true rfl) rfl ?_
  refine zfor3 0 6 (fun i f l _ => f = (jff B i.toNat).1 ∧ l = (jff B i.toNat).2) (fun i f l o4 => [some (.ref 5), some (.int (jI f)), some (.int (jI l)), some (.int (jI i)), o4]) (fun _ _ _ _ => bk 6 B (cr σ τ2 u)) (-1) 91 none ⟨rfl, rfl⟩ ?_ ?_
  · intro i f l o4 i0 i1 hI hk
    obtain ⟨hf, hl⟩ := hI
    have hri := hr i.toNat
    have hlr := jlo_r (B := B) (od := jod B) (c := i) 90
    rw [show jlo (jod B) B i 90 = jlc B i from rfl] at hlr
    rw [← hl] at hri
    have hn : jff B (i + 1).toNat = if jcs (B 0) i = 15 ∧ jlc B i ≠ -1 ∧ jlc B i < l then (i, jlc B i) else (f, l) := by
      rw [show (i + 1).toNat = i.toNat + 1 by omega, hf, hl]
      show (if jcs (B 0) (i.toNat : Int) = 15 ∧ jlc B (i.toNat : Int) ≠ -1 ∧ jlc B (i.toNat : Int) < (jff B i.toNat).2 then ((i.toNat : Int), jlc B (i.toNat : Int)) else jff B i.toNat) = _
      rw [show (i.toNat : Int) = i by omega]
    rw [hn] at hk
    refine zr_iload_n dX6_firstFull_11 (rfl : 11 + 1 = 12) rfl ?_
    refine zr_bipush dX6_firstFull_12 (rfl : 12 + 2 = 14) (by decide) ?_
    refine zr_icmp_ge (tgt := 65) dX6_firstFull_14 (by decide) (rfl : 14 + 3 = 17) (jI_le (by first | omega | (simp only [bset, reduceIte, Nat.reduceEqDiff]; omega)) (by first | omega | (simp only [bset, reduceIte, Nat.reduceEqDiff]; omega)) (by first | omega | (simp only [bset, reduceIte, Nat.reduceEqDiff]; omega)) (by first | omega | (simp only [bset, reduceIte, Nat.reduceEqDiff]; omega))) (fun h14 => ?_) (fun h14 => ?_)
    · first
      | (exfalso; omega)
      | (
        refine zr_iload_n dX6_firstFull_65 (rfl : 65 + 1 = 66) rfl ?_
        refine zr_iret dX6_firstFull_66 rfl rfl ?_ rfl rfl rfl
        first | rfl | rw [jb_pos (by first | assumption | omega)] | rw [jb_neg (by first | assumption | omega)] | rw [if_pos (by first | assumption | omega)] | rw [if_neg (by first | assumption | omega)])
    · first
      | (exfalso; omega)
      | (
        refine zr_aload_n dX6_firstFull_17 (rfl : 17 + 1 = 18) rfl ?_
        refine zr_getf dX6_firstFull_18 (rfl : 18 + 3 = 21) f_X6_10 (by first | assumption | exact mw_167 | exact mw_168 | exact mw_169 | exact mw_170 | exact bk_0 | exact bk_1 | exact bk_2 | exact bk_3 | exact bk_4 | exact bk_5 | exact bk_6 | exact bk_7 | exact bk_8 | exact bk_9 | exact bk_10 | exact bk_11 | exact bk_12 | exact bk_13 | exact bk_14 | exact bk_15 | exact bk_16 | exact zup_self | exact (zup_ne (by first | assumption | omega)).trans (by first | assumption | exact zup_self) | exact (zup_ne (by first | assumption | omega)).trans ((zup_ne (by first | assumption | omega)).trans (by first | assumption | exact zup_self)) | exact (bk_out (by first | omega | (simp only [bset, reduceIte, Nat.reduceEqDiff]; omega))).trans (by first | exact bk_0 | exact bk_1 | exact bk_2 | exact bk_3 | exact bk_4 | exact bk_5 | exact bk_6 | exact bk_7 | exact bk_8 | exact bk_9 | exact bk_10 | exact bk_11 | exact bk_12 | exact bk_13 | exact bk_14 | exact bk_15 | exact bk_16 | exact cr_5 | exact cr_23 | exact cr_24 | exact cr_25 | exact cr_26 | exact cr_27 | exact cr_28 | exact cr_29 | exact cr_30 | assumption)) rfl ?_
        refine zr_getf dX6_firstFull_21 (rfl : 21 + 3 = 24) f_X6_69 (by first | assumption | exact mw_167 | exact mw_168 | exact mw_169 | exact mw_170 | exact bk_0 | exact bk_1 | exact bk_2 | exact bk_3 | exact bk_4 | exact bk_5 | exact bk_6 | exact bk_7 | exact bk_8 | exact bk_9 | exact bk_10 | exact bk_11 | exact bk_12 | exact bk_13 | exact bk_14 | exact bk_15 | exact bk_16 | exact zup_self | exact (zup_ne (by first | assumption | omega)).trans (by first | assumption | exact zup_self) | exact (zup_ne (by first | assumption | omega)).trans ((zup_ne (by first | assumption | omega)).trans (by first | assumption | exact zup_self)) | exact (bk_out (by first | omega | (simp only [bset, reduceIte, Nat.reduceEqDiff]; omega))).trans (by first | exact bk_0 | exact bk_1 | exact bk_2 | exact bk_3 | exact bk_4 | exact bk_5 | exact bk_6 | exact bk_7 | exact bk_8 | exact bk_9 | exact bk_10 | exact bk_11 | exact bk_12 | exact bk_13 | exact bk_14 | exact bk_15 | exact bk_16 | exact cr_5 | exact cr_23 | exact cr_24 | exact cr_25 | exact cr_26 | exact cr_27 | exact cr_28 | exact cr_29 | exact cr_30 | assumption)) rfl ?_
        refine zr_iload_n dX6_firstFull_24 (rfl : 24 + 1 = 25) rfl ?_
        refine zr_fnV dX6_firstFull_25 (rfl : 25 + 3 = 28) l_X6_182 (s_isWhole i (by first | omega | (simp only [bset, reduceIte, Nat.reduceEqDiff]; omega)) ok.P) (by first | assumption | exact mw_167 | exact mw_168 | exact mw_169 | exact mw_170 | exact bk_0 | exact bk_1 | exact bk_2 | exact bk_3 | exact bk_4 | exact bk_5 | exact bk_6 | exact bk_7 | exact bk_8 | exact bk_9 | exact bk_10 | exact bk_11 | exact bk_12 | exact bk_13 | exact bk_14 | exact bk_15 | exact bk_16 | exact zup_self | exact (zup_ne (by first | assumption | omega)).trans (by first | assumption | exact zup_self) | exact (zup_ne (by first | assumption | omega)).trans ((zup_ne (by first | assumption | omega)).trans (by first | assumption | exact zup_self)) | exact (bk_out (by first | omega | (simp only [bset, reduceIte, Nat.reduceEqDiff]; omega))).trans (by first | exact bk_0 | exact bk_1 | exact bk_2 | exact bk_3 | exact bk_4 | exact bk_5 | exact bk_6 | exact bk_7 | exact bk_8 | exact bk_9 | exact bk_10 | exact bk_11 | exact bk_12 | exact bk_13 | exact bk_14 | exact bk_15 | exact bk_16 | exact cr_5 | exact cr_23 | exact cr_24 | exact cr_25 | exact cr_26 | exact cr_27 | exact cr_28 | exact cr_29 | exact cr_30 | assumption)) rfl rfl rfl (Nat.le_of_ble_eq_true rfl) ?_
        refine zr_if_eq (tgt := 39) dX6_firstFull_28 (by decide) (rfl : 28 + 3 = 31) (by first | exact jb_iff | exact jI_z (by first | omega | (simp only [bset, reduceIte, Nat.reduceEqDiff]; omega)) (by first | omega | (simp only [bset, reduceIte, Nat.reduceEqDiff]; omega))) (fun h28 => ?_) (fun h28 => ?_)
        · first
          | (exfalso; omega)
          | (
            refine zr_iconst dX6_firstFull_39 (rfl : 39 + 1 = 40) ?_
            refine zr_istore (lv' := [_, _, _, _, _]) dX6_firstFull_40 (rfl : 40 + 2 = 42) (Nat.le_of_ble_eq_true rfl) rfl ?_
            refine zr_iload dX6_firstFull_42 (rfl : 42 + 2 = 44) rfl ?_
            refine zr_iconst dX6_firstFull_44 (rfl : 44 + 1 = 45) ?_
            refine zr_icmp_eq (tgt := 59) dX6_firstFull_45 (by decide) (rfl : 45 + 3 = 48) (jI_eq (by first | omega | (simp only [bset, reduceIte, Nat.reduceEqDiff]; omega)) (by first | omega | (simp only [bset, reduceIte, Nat.reduceEqDiff]; omega)) (by first | omega | (simp only [bset, reduceIte, Nat.reduceEqDiff]; omega)) (by first | omega | (simp only [bset, reduceIte, Nat.reduceEqDiff]; omega))) (fun h45 => ?_) (fun h45 => ?_)
            · first
              | (exfalso; omega)
              | (
                refine zr_iinc (lv' := [_, _, _, _, _]) dX6_firstFull_59 (rfl : 59 + 3 = 62) (Nat.le_of_ble_eq_true rfl) rfl (by first | exact jI_add _ _ | rfl) rfl ?_
                refine zr_goto (tgt := 11) dX6_firstFull_62 (by decide) ?_
                refine hk _ _ _ ?_
                first | (rw [if_pos ⟨by omega, by omega, by omega⟩]; exact ⟨rfl, rfl⟩) | (rw [if_neg (fun q => by omega)]; exact ⟨rfl, rfl⟩))
            · first
              | (exfalso; omega)
              | (
                refine zr_iload dX6_firstFull_48 (rfl : 48 + 2 = 50) rfl ?_
                refine zr_iload_n dX6_firstFull_50 (rfl : 50 + 1 = 51) rfl ?_
                refine zr_icmp_ge (tgt := 59) dX6_firstFull_51 (by decide) (rfl : 51 + 3 = 54) (jI_le (by first | omega | (simp only [bset, reduceIte, Nat.reduceEqDiff]; omega)) (by first | omega | (simp only [bset, reduceIte, Nat.reduceEqDiff]; omega)) (by first | omega | (simp only [bset, reduceIte, Nat.reduceEqDiff]; omega)) (by first | omega | (simp only [bset, reduceIte, Nat.reduceEqDiff]; omega))) (fun h51 => ?_) (fun h51 => ?_)
                · first
                  | (exfalso; omega)
                  | (
                    refine zr_iinc (lv' := [_, _, _, _, _]) dX6_firstFull_59 (rfl : 59 + 3 = 62) (Nat.le_of_ble_eq_true rfl) rfl (by first | exact jI_add _ _ | rfl) rfl ?_
                    refine zr_goto (tgt := 11) dX6_firstFull_62 (by decide) ?_
                    refine hk _ _ _ ?_
                    first | (rw [if_pos ⟨by omega, by omega, by omega⟩]; exact ⟨rfl, rfl⟩) | (rw [if_neg (fun q => by omega)]; exact ⟨rfl, rfl⟩))
                · first
                  | (exfalso; omega)
                  | (
                    refine zr_iload dX6_firstFull_54 (rfl : 54 + 2 = 56) rfl ?_
                    refine zr_istore_n (lv' := [_, _, _, _, _]) dX6_firstFull_56 (rfl : 56 + 1 = 57) (Nat.le_of_ble_eq_true rfl) rfl ?_
                    refine zr_iload_n dX6_firstFull_57 (rfl : 57 + 1 = 58) rfl ?_
                    refine zr_istore_n (lv' := [_, _, _, _, _]) dX6_firstFull_58 (rfl : 58 + 1 = 59) (Nat.le_of_ble_eq_true rfl) rfl ?_
                    refine zr_iinc (lv' := [_, _, _, _, _]) dX6_firstFull_59 (rfl : 59 + 3 = 62) (Nat.le_of_ble_eq_true rfl) rfl (by first | exact jI_add _ _ | rfl) rfl ?_
                    refine zr_goto (tgt := 11) dX6_firstFull_62 (by decide) ?_
                    refine hk _ _ _ ?_
                    first | (rw [if_pos ⟨by omega, by omega, by omega⟩]; exact ⟨rfl, rfl⟩) | (rw [if_neg (fun q => by omega)]; exact ⟨rfl, rfl⟩))))
        · first
          | (exfalso; omega)
          | (
            refine zr_aload_n dX6_firstFull_31 (rfl : 31 + 1 = 32) rfl ?_
            refine zr_iload_n dX6_firstFull_32 (rfl : 32 + 1 = 33) rfl ?_
            refine zr_fnV dX6_firstFull_33 (rfl : 33 + 3 = 36) l_X6_267 (hl2 i (by first | omega | (simp only [bset, reduceIte, Nat.reduceEqDiff]; omega))) (by first | assumption | exact mw_167 | exact mw_168 | exact mw_169 | exact mw_170 | exact bk_0 | exact bk_1 | exact bk_2 | exact bk_3 | exact bk_4 | exact bk_5 | exact bk_6 | exact bk_7 | exact bk_8 | exact bk_9 | exact bk_10 | exact bk_11 | exact bk_12 | exact bk_13 | exact bk_14 | exact bk_15 | exact bk_16 | exact zup_self | exact (zup_ne (by first | assumption | omega)).trans (by first | assumption | exact zup_self) | exact (zup_ne (by first | assumption | omega)).trans ((zup_ne (by first | assumption | omega)).trans (by first | assumption | exact zup_self)) | exact (bk_out (by first | omega | (simp only [bset, reduceIte, Nat.reduceEqDiff]; omega))).trans (by first | exact bk_0 | exact bk_1 | exact bk_2 | exact bk_3 | exact bk_4 | exact bk_5 | exact bk_6 | exact bk_7 | exact bk_8 | exact bk_9 | exact bk_10 | exact bk_11 | exact bk_12 | exact bk_13 | exact bk_14 | exact bk_15 | exact bk_16 | exact cr_5 | exact cr_23 | exact cr_24 | exact cr_25 | exact cr_26 | exact cr_27 | exact cr_28 | exact cr_29 | exact cr_30 | assumption)) rfl rfl rfl (Nat.le_of_ble_eq_true rfl) ?_
            refine zr_goto (tgt := 40) dX6_firstFull_36 (by decide) ?_
            refine zr_istore (lv' := [_, _, _, _, _]) dX6_firstFull_40 (rfl : 40 + 2 = 42) (Nat.le_of_ble_eq_true rfl) rfl ?_
            refine zr_iload dX6_firstFull_42 (rfl : 42 + 2 = 44) rfl ?_
            refine zr_iconst dX6_firstFull_44 (rfl : 44 + 1 = 45) ?_
            refine zr_icmp_eq (tgt := 59) dX6_firstFull_45 (by decide) (rfl : 45 + 3 = 48) (jI_eq (by first | omega | (simp only [bset, reduceIte, Nat.reduceEqDiff]; omega)) (by first | omega | (simp only [bset, reduceIte, Nat.reduceEqDiff]; omega)) (by first | omega | (simp only [bset, reduceIte, Nat.reduceEqDiff]; omega)) (by first | omega | (simp only [bset, reduceIte, Nat.reduceEqDiff]; omega))) (fun h45 => ?_) (fun h45 => ?_)
            · first
              | (exfalso; omega)
              | (
                refine zr_iinc (lv' := [_, _, _, _, _]) dX6_firstFull_59 (rfl : 59 + 3 = 62) (Nat.le_of_ble_eq_true rfl) rfl (by first | exact jI_add _ _ | rfl) rfl ?_
                refine zr_goto (tgt := 11) dX6_firstFull_62 (by decide) ?_
                refine hk _ _ _ ?_
                first | (rw [if_pos ⟨by omega, by omega, by omega⟩]; exact ⟨rfl, rfl⟩) | (rw [if_neg (fun q => by omega)]; exact ⟨rfl, rfl⟩))
            · first
              | (exfalso; omega)
              | (
                refine zr_iload dX6_firstFull_48 (rfl : 48 + 2 = 50) rfl ?_
                refine zr_iload_n dX6_firstFull_50 (rfl : 50 + 1 = 51) rfl ?_
                refine zr_icmp_ge (tgt := 59) dX6_firstFull_51 (by decide) (rfl : 51 + 3 = 54) (jI_le (by first | omega | (simp only [bset, reduceIte, Nat.reduceEqDiff]; omega)) (by first | omega | (simp only [bset, reduceIte, Nat.reduceEqDiff]; omega)) (by first | omega | (simp only [bset, reduceIte, Nat.reduceEqDiff]; omega)) (by first | omega | (simp only [bset, reduceIte, Nat.reduceEqDiff]; omega))) (fun h51 => ?_) (fun h51 => ?_)
                · first
                  | (exfalso; omega)
                  | (
                    refine zr_iinc (lv' := [_, _, _, _, _]) dX6_firstFull_59 (rfl : 59 + 3 = 62) (Nat.le_of_ble_eq_true rfl) rfl (by first | exact jI_add _ _ | rfl) rfl ?_
                    refine zr_goto (tgt := 11) dX6_firstFull_62 (by decide) ?_
                    refine hk _ _ _ ?_
                    first | (rw [if_pos ⟨by omega, by omega, by omega⟩]; exact ⟨rfl, rfl⟩) | (rw [if_neg (fun q => by omega)]; exact ⟨rfl, rfl⟩))
                · first
                  | (exfalso; omega)
                  | (
                    refine zr_iload dX6_firstFull_54 (rfl : 54 + 2 = 56) rfl ?_
                    refine zr_istore_n (lv' := [_, _, _, _, _]) dX6_firstFull_56 (rfl : 56 + 1 = 57) (Nat.le_of_ble_eq_true rfl) rfl ?_
                    refine zr_iload_n dX6_firstFull_57 (rfl : 57 + 1 = 58) rfl ?_
                    refine zr_istore_n (lv' := [_, _, _, _, _]) dX6_firstFull_58 (rfl : 58 + 1 = 59) (Nat.le_of_ble_eq_true rfl) rfl ?_
                    refine zr_iinc (lv' := [_, _, _, _, _]) dX6_firstFull_59 (rfl : 59 + 3 = 62) (Nat.le_of_ble_eq_true rfl) rfl (by first | exact jI_add _ _ | rfl) rfl ?_
                    refine zr_goto (tgt := 11) dX6_firstFull_62 (by decide) ?_
                    refine hk _ _ _ ?_
                    first | (rw [if_pos ⟨by omega, by omega, by omega⟩]; exact ⟨rfl, rfl⟩) | (rw [if_neg (fun q => by omega)]; exact ⟨rfl, rfl⟩)))))
  · intro f l o4 hI
    rw [show f = (jff B 6).1 from hI.1]
    refine zr_iload_n dX6_firstFull_11 (rfl : 11 + 1 = 12) rfl ?_
    refine zr_bipush dX6_firstFull_12 (rfl : 12 + 2 = 14) (by decide) ?_
    refine zr_icmp_ge (tgt := 65) dX6_firstFull_14 (by decide) (rfl : 14 + 3 = 17) (jI_le (by first | omega | (simp only [bset, reduceIte, Nat.reduceEqDiff]; omega)) (by first | omega | (simp only [bset, reduceIte, Nat.reduceEqDiff]; omega)) (by first | omega | (simp only [bset, reduceIte, Nat.reduceEqDiff]; omega)) (by first | omega | (simp only [bset, reduceIte, Nat.reduceEqDiff]; omega))) (fun h14 => ?_) (fun h14 => ?_)
    · first
      | (exfalso; omega)
      | (
        refine zr_iload_n dX6_firstFull_65 (rfl : 65 + 1 = 66) rfl ?_
        refine zr_iret dX6_firstFull_66 rfl rfl ?_ rfl rfl rfl
        first | rfl | rw [jb_pos (by first | assumption | omega)] | rw [jb_neg (by first | assumption | omega)] | rw [if_pos (by first | assumption | omega)] | rw [if_neg (by first | assumption | omega)])
    · first
      | (exfalso; omega)
      | (
        exfalso
        omega)
end FU

