/-! the reference: claims, winners, prizes -/
section WY
variable {Γ : zΓ} {d : Nat} {S : Int → Int} {st : Int} {ik : Int → Int} {th : Int} {tx : Int → Int} {ty : Int} {w : zW} {B : zB}
theorem juo_calls {c g : Int} (ok : jok B) (lk : jlk B) (hc : 0 ≤ c ∧ c < 6) (hg : 0 ≤ g ∧ g < 4) (hw : jcs (B 0) c = 15) (h : juo (B 0) (B 7) c g = 0) : 0 < B 12 0 := by
  have hco := ok.ca
  by_cases hca : B 12 0 = 0
  · exfalso
    have hd : ∀ n, 0 ≤ n → n ≤ 90 → B 7 n = 0 := fun n n0 n1 => by
      have h1 := ok.da2 n n0 (by omega)
      have h2 := ok.da n
      omega
    obtain ⟨w0, w1, w2⟩ := (jwh_iff lk hc).mpr hw
    rw [show c * 3 + 0 = c * 3 by omega] at w0
    have u0 : jur (B 0) (B 7) (c * 3) = 5 := by rw [jur_none ok hd, w0]
    have u1 : jur (B 0) (B 7) (c * 3 + 1) = 5 := by rw [jur_none ok hd, w1]
    have u2 : jur (B 0) (B 7) (c * 3 + 1 + 1) = 5 := by rw [jur_none ok hd, show c * 3 + 1 + 1 = c * 3 + 2 by omega, w2]
    unfold juo at h
    by_cases g1 : g = 1
    · rw [if_pos g1] at h
      refine jcnt_pos (k := 0) (by decide) (by decide) (decide_eq_true ?_) h
      have hp := jcor_pos (c := c) (k := 0) ok (by decide) (by rw [if_pos (by decide), Int.add_zero, w0]; decide)
      have hr : jcor (B 0) c 0 ≤ 90 := (jfst_r (lo := 0) (hi := 90) (fun i _ _ => ok.P _) (by decide)).2
      exact ⟨hp, hd _ (by omega) hr⟩
    · rw [if_neg g1, u0, u1, u2] at h
      by_cases g0 : g = 0
      · rw [if_pos g0] at h
        exact absurd h (by decide)
      · rw [if_neg g0] at h
        by_cases g2 : g = 2
        · rw [if_pos g2] at h
          exact absurd h (by decide)
        · rw [if_neg g2] at h
          exact absurd h (by decide)
  · omega
theorem jhl_eq {c g : Int} (ok : jok B) (lk : jlk B) (hc : 0 ≤ c ∧ c < 6) (hg : 0 ≤ g ∧ g < 4) (hw : jcs (B 0) c = 15) (hca : 0 < B 12 0) (h0 : juo (B 0) (B 7) c g = 0) : jhl B c g = if g = 1 then jb (jcnb B c (jlast B) = true) else if B 1 (jlast B) / 3 = c ∧ B 1 (jlast B) ≠ -1 then (if g = 3 then 1 else jb (jorw B (B 1 (jlast B)) 1 = 5)) else 0 := by
  have hco := ok.ca
  have hl : jlast B = B 5 (B 12 0 - 1) := by
    unfold jlast
    rw [if_pos hca]
  have hd := lk.dk (B 12 0 - 1) (by omega) (by omega)
  have hd2 := ok.dr (B 12 0 - 1)
  rw [← hl] at hd hd2
  have hR := ok.R (jlast B)
  unfold jhl
  by_cases hj : json B c (jlast B)
  · rw [if_pos hj]
    have e3 : B 1 (jlast B) / 3 = c := hj.2.2
    by_cases g1 : g = 1
    · rw [if_pos g1, if_pos g1, e3]
      exact jb_congr (jisco_iff ok lk hc hw ⟨by omega, by omega⟩)
    · rw [if_neg g1, if_neg g1, if_pos ⟨e3, hj.2.1⟩]
      obtain ⟨w0, w1, w2⟩ := (jwh_iff lk hc).mpr hw
      have h5 : jrs (B 0) (B 1 (jlast B)) = 5 := by
        rcases (by omega : B 1 (jlast B) = c * 3 + 0 ∨ B 1 (jlast B) = c * 3 + 1 ∨ B 1 (jlast B) = c * 3 + 2) with e | e | e <;> rw [e] <;> assumption
      by_cases g3 : g = 3
      · rw [if_pos g3]
        refine jb_pos ?_
        unfold juo at h0
        rw [if_neg g1, if_neg (by omega), if_neg (by omega)] at h0
        have u0 := jur_r (B 0) (B 7) (c * 3)
        have u1 := jur_r (B 0) (B 7) (c * 3 + 1)
        have u2 := jur_r (B 0) (B 7) (c * 3 + 1 + 1)
        rcases (by omega : B 1 (jlast B) = c * 3 ∨ B 1 (jlast B) = c * 3 + 1 ∨ B 1 (jlast B) = c * 3 + 1 + 1) with e | e | e <;> rw [e] <;> omega
      · rw [if_neg g3]
        have hjo := jorw_whole h5 (Or.inl rfl : (1 : Int) = 1 ∨ (1 : Int) = 2)
        have e7 : jmk B 1 = B 7 := if_pos rfl
        rw [e7] at hjo
        rw [hjo]
        exact jb_congr (by omega)
  · rw [if_neg hj]
    have hn : ¬ (B 1 (jlast B) / 3 = c ∧ B 1 (jlast B) ≠ -1) := fun q => hj ⟨⟨by omega, by omega⟩, q.2, q.1⟩
    by_cases g1 : g = 1
    · rw [if_pos g1]
      refine (jb_neg fun q => ?_).symm
      obtain ⟨-, -, -, b4⟩ := jcnb_cor hc q
      unfold jcnb at q
      simp only [Bool.and_eq_true, Bool.or_eq_true, decide_eq_true_eq] at q
      exact hn ⟨by omega, by omega⟩
    · rw [if_neg g1, if_neg hn]
theorem m_isByLast (c g : Int) (hc : 0 ≤ c ∧ c < 6) (hg : 0 ≤ g ∧ g < 4) (hw : jcs (B 0) c = 15) (h0 : juo (B 0) (B 7) c g = 0) (h : mr S 0 B) (ok : jok B) (lk : jlk B) : zFn Γ md_X7_isByLast (d + 2) [.ref 167, .int (jI c), .int (jI g)] (mw S st ik th tx ty w) (some (.int (jI (jhl B c g)))) (mw S st ik th tx ty w) := by
  have hca := juo_calls ok lk hc hg hw h0
  have hco := ok.ca
  have hl : jlast B = B 5 (B 12 0 - 1) := by
    unfold jlast
    rw [if_pos hca]
  have hd := lk.dk (B 12 0 - 1) (by omega) (by omega)
  have hd2 := ok.dr (B 12 0 - 1)
  have hdl : S (277 + B 12 0 - 1) = jlast B := by
    rw [hl, ← h.dr0 (B 12 0 - 1) (by omega) (by omega)]
    congr 1
    omega
  have hc0 := h.ca0
  rw [← hl] at hd hd2
  have hp := h.pl0 (jlast B) hd.1 hd2.2
  have hR := ok.R (jlast B)
  rw [jhl_eq ok lk hc hg hw hca h0]
  have hjo := jorw_r B (c * 3 + B 1 (jlast B) % 3) 1
  have hrow : B 1 (jlast B) / 3 = c → c * 3 + B 1 (jlast B) % 3 = B 1 (jlast B) := by omega
  refine zFn.of_run (lv := [some (.ref 167), some (.int (jI c)), some (.int (jI g)), none, none, none]) (by decide) rfl (Nat.le_of_ble_eq_true rfl) rfl (fun n9 g9 => ?_)
  refine zr_aload_n dX7_isByLast_0 (rfl : 0 + 1 = 1) rfl ?_
  refine zr_getf dX7_isByLast_1 (rfl : 1 + 3 = 4) f_X7_7 (by first | assumption | exact mw_167 | exact mw_168 | exact mw_169 | exact mw_170 | exact bk_0 | exact bk_1 | exact bk_2 | exact bk_3 | exact bk_4 | exact bk_5 | exact bk_6 | exact bk_7 | exact bk_8 | exact bk_9 | exact bk_10 | exact bk_11 | exact bk_12 | exact bk_13 | exact bk_14 | exact bk_15 | exact bk_16 | exact zup_self | exact (zup_ne (by first | assumption | omega)).trans (by first | assumption | exact zup_self) | exact (zup_ne (by first | assumption | omega)).trans ((zup_ne (by first | assumption | omega)).trans (by first | assumption | exact zup_self)) | exact (bk_out (by first | omega | (simp only [bset, reduceIte, Nat.reduceEqDiff]; omega))).trans (by first | exact bk_0 | exact bk_1 | exact bk_2 | exact bk_3 | exact bk_4 | exact bk_5 | exact bk_6 | exact bk_7 | exact bk_8 | exact bk_9 | exact bk_10 | exact bk_11 | exact bk_12 | exact bk_13 | exact bk_14 | exact bk_15 | exact bk_16 | exact cr_5 | exact cr_23 | exact cr_24 | exact cr_25 | exact cr_26 | exact cr_27 | exact cr_28 | exact cr_29 | exact cr_30 | assumption)) rfl ?_
  refine zr_sipush dX7_isByLast_4 (rfl : 4 + 3 = 7) (by decide) ?_
  refine zr_aload_n dX7_isByLast_7 (rfl : 7 + 1 = 8) rfl ?_
  refine zr_getf dX7_isByLast_8 (rfl : 8 + 3 = 11) f_X7_7 (by first | assumption | exact mw_167 | exact mw_168 | exact mw_169 | exact mw_170 | exact bk_0 | exact bk_1 | exact bk_2 | exact bk_3 | exact bk_4 | exact bk_5 | exact bk_6 | exact bk_7 | exact bk_8 | exact bk_9 | exact bk_10 | exact bk_11 | exact bk_12 | exact bk_13 | exact bk_14 | exact bk_15 | exact bk_16 | exact zup_self | exact (zup_ne (by first | assumption | omega)).trans (by first | assumption | exact zup_self) | exact (zup_ne (by first | assumption | omega)).trans ((zup_ne (by first | assumption | omega)).trans (by first | assumption | exact zup_self)) | exact (bk_out (by first | omega | (simp only [bset, reduceIte, Nat.reduceEqDiff]; omega))).trans (by first | exact bk_0 | exact bk_1 | exact bk_2 | exact bk_3 | exact bk_4 | exact bk_5 | exact bk_6 | exact bk_7 | exact bk_8 | exact bk_9 | exact bk_10 | exact bk_11 | exact bk_12 | exact bk_13 | exact bk_14 | exact bk_15 | exact bk_16 | exact cr_5 | exact cr_23 | exact cr_24 | exact cr_25 | exact cr_26 | exact cr_27 | exact cr_28 | exact cr_29 | exact cr_30 | assumption)) rfl ?_
  refine zr_sipush dX7_isByLast_11 (rfl : 11 + 3 = 14) (by decide) ?_
  refine zr_iald dX7_isByLast_14 (rfl : 14 + 1 = 15) (by first | assumption | exact mw_167 | exact mw_168 | exact mw_169 | exact mw_170 | exact bk_0 | exact bk_1 | exact bk_2 | exact bk_3 | exact bk_4 | exact bk_5 | exact bk_6 | exact bk_7 | exact bk_8 | exact bk_9 | exact bk_10 | exact bk_11 | exact bk_12 | exact bk_13 | exact bk_14 | exact bk_15 | exact bk_16 | exact zup_self | exact (zup_ne (by first | assumption | omega)).trans (by first | assumption | exact zup_self) | exact (zup_ne (by first | assumption | omega)).trans ((zup_ne (by first | assumption | omega)).trans (by first | assumption | exact zup_self)) | exact (bk_out (by first | omega | (simp only [bset, reduceIte, Nat.reduceEqDiff]; omega))).trans (by first | exact bk_0 | exact bk_1 | exact bk_2 | exact bk_3 | exact bk_4 | exact bk_5 | exact bk_6 | exact bk_7 | exact bk_8 | exact bk_9 | exact bk_10 | exact bk_11 | exact bk_12 | exact bk_13 | exact bk_14 | exact bk_15 | exact bk_16 | exact cr_5 | exact cr_23 | exact cr_24 | exact cr_25 | exact cr_26 | exact cr_27 | exact cr_28 | exact cr_29 | exact cr_30 | assumption)) (by decide) (by first | omega | (simp only [bset, reduceIte, Nat.reduceEqDiff]; omega)) (by first | omega | (simp only [bset, reduceIte, Nat.reduceEqDiff]; omega)) ?_
  rw [hc0]
  refine zr_iadd dX7_isByLast_15 (rfl : 15 + 1 = 16) (by first | exact jI_add _ _ | rfl) ?_
  refine zr_iconst dX7_isByLast_16 (rfl : 16 + 1 = 17) ?_
  refine zr_isub dX7_isByLast_17 (rfl : 17 + 1 = 18) (by first | exact jI_sub _ _ | rfl) ?_
  refine zr_iald dX7_isByLast_18 (rfl : 18 + 1 = 19) (by first | assumption | exact mw_167 | exact mw_168 | exact mw_169 | exact mw_170 | exact bk_0 | exact bk_1 | exact bk_2 | exact bk_3 | exact bk_4 | exact bk_5 | exact bk_6 | exact bk_7 | exact bk_8 | exact bk_9 | exact bk_10 | exact bk_11 | exact bk_12 | exact bk_13 | exact bk_14 | exact bk_15 | exact bk_16 | exact zup_self | exact (zup_ne (by first | assumption | omega)).trans (by first | assumption | exact zup_self) | exact (zup_ne (by first | assumption | omega)).trans ((zup_ne (by first | assumption | omega)).trans (by first | assumption | exact zup_self)) | exact (bk_out (by first | omega | (simp only [bset, reduceIte, Nat.reduceEqDiff]; omega))).trans (by first | exact bk_0 | exact bk_1 | exact bk_2 | exact bk_3 | exact bk_4 | exact bk_5 | exact bk_6 | exact bk_7 | exact bk_8 | exact bk_9 | exact bk_10 | exact bk_11 | exact bk_12 | exact bk_13 | exact bk_14 | exact bk_15 | exact bk_16 | exact cr_5 | exact cr_23 | exact cr_24 | exact cr_25 | exact cr_26 | exact cr_27 | exact cr_28 | exact cr_29 | exact cr_30 | assumption)) (by decide) (by first | omega | (simp only [bset, reduceIte, Nat.reduceEqDiff]; omega)) (by first | omega | (simp only [bset, reduceIte, Nat.reduceEqDiff]; omega)) ?_
  rw [hdl]
  refine zr_istore_n (lv' := [_, _, _, _, _, _]) dX7_isByLast_19 (rfl : 19 + 1 = 20) (Nat.le_of_ble_eq_true rfl) rfl ?_
  refine zr_aload_n dX7_isByLast_20 (rfl : 20 + 1 = 21) rfl ?_
  refine zr_getf dX7_isByLast_21 (rfl : 21 + 3 = 24) f_X7_7 (by first | assumption | exact mw_167 | exact mw_168 | exact mw_169 | exact mw_170 | exact bk_0 | exact bk_1 | exact bk_2 | exact bk_3 | exact bk_4 | exact bk_5 | exact bk_6 | exact bk_7 | exact bk_8 | exact bk_9 | exact bk_10 | exact bk_11 | exact bk_12 | exact bk_13 | exact bk_14 | exact bk_15 | exact bk_16 | exact zup_self | exact (zup_ne (by first | assumption | omega)).trans (by first | assumption | exact zup_self) | exact (zup_ne (by first | assumption | omega)).trans ((zup_ne (by first | assumption | omega)).trans (by first | assumption | exact zup_self)) | exact (bk_out (by first | omega | (simp only [bset, reduceIte, Nat.reduceEqDiff]; omega))).trans (by first | exact bk_0 | exact bk_1 | exact bk_2 | exact bk_3 | exact bk_4 | exact bk_5 | exact bk_6 | exact bk_7 | exact bk_8 | exact bk_9 | exact bk_10 | exact bk_11 | exact bk_12 | exact bk_13 | exact bk_14 | exact bk_15 | exact bk_16 | exact cr_5 | exact cr_23 | exact cr_24 | exact cr_25 | exact cr_26 | exact cr_27 | exact cr_28 | exact cr_29 | exact cr_30 | assumption)) rfl ?_
  refine zr_iconst dX7_isByLast_24 (rfl : 24 + 1 = 25) ?_
  refine zr_iload_n dX7_isByLast_25 (rfl : 25 + 1 = 26) rfl ?_
  refine zr_iadd dX7_isByLast_26 (rfl : 26 + 1 = 27) (by first | exact jI_add _ _ | rfl) ?_
  refine zr_iald dX7_isByLast_27 (rfl : 27 + 1 = 28) (by first | assumption | exact mw_167 | exact mw_168 | exact mw_169 | exact mw_170 | exact bk_0 | exact bk_1 | exact bk_2 | exact bk_3 | exact bk_4 | exact bk_5 | exact bk_6 | exact bk_7 | exact bk_8 | exact bk_9 | exact bk_10 | exact bk_11 | exact bk_12 | exact bk_13 | exact bk_14 | exact bk_15 | exact bk_16 | exact zup_self | exact (zup_ne (by first | assumption | omega)).trans (by first | assumption | exact zup_self) | exact (zup_ne (by first | assumption | omega)).trans ((zup_ne (by first | assumption | omega)).trans (by first | assumption | exact zup_self)) | exact (bk_out (by first | omega | (simp only [bset, reduceIte, Nat.reduceEqDiff]; omega))).trans (by first | exact bk_0 | exact bk_1 | exact bk_2 | exact bk_3 | exact bk_4 | exact bk_5 | exact bk_6 | exact bk_7 | exact bk_8 | exact bk_9 | exact bk_10 | exact bk_11 | exact bk_12 | exact bk_13 | exact bk_14 | exact bk_15 | exact bk_16 | exact cr_5 | exact cr_23 | exact cr_24 | exact cr_25 | exact cr_26 | exact cr_27 | exact cr_28 | exact cr_29 | exact cr_30 | assumption)) (by decide) (by first | omega | (simp only [bset, reduceIte, Nat.reduceEqDiff]; omega)) (by first | omega | (simp only [bset, reduceIte, Nat.reduceEqDiff]; omega)) ?_
  rw [hp]
  refine zr_iconst dX7_isByLast_28 (rfl : 28 + 1 = 29) ?_
  refine zr_isub dX7_isByLast_29 (rfl : 29 + 1 = 30) (by first | exact jI_sub _ _ | rfl) ?_
  rw [show B 1 (jlast B) + 1 - 1 = B 1 (jlast B) by omega]
  refine zr_istore (lv' := [_, _, _, _, _, _]) dX7_isByLast_30 (rfl : 30 + 2 = 32) (Nat.le_of_ble_eq_true rfl) rfl ?_
  by_cases hon : B 1 (jlast B) / 3 = c ∧ B 1 (jlast B) ≠ -1
  · rw [if_pos hon]
    rw [hrow hon.1] at hjo
    have hsp := m_ofRow (Γ := Γ) (d := d) (st := st) (ik := ik) (th := th) (tx := tx) (ty := ty) (w := w) c (B 1 (jlast B) % 3) 1 hc (by omega) (by decide) h ok lk
    rw [hrow hon.1] at hsp
    refine zr_iload dX7_isByLast_32 (rfl : 32 + 2 = 34) rfl ?_
    refine zr_iconst dX7_isByLast_34 (rfl : 34 + 1 = 35) ?_
    refine zr_iload_n dX7_isByLast_35 (rfl : 35 + 1 = 36) rfl ?_
    refine zr_imul dX7_isByLast_36 (rfl : 36 + 1 = 37) (by first | exact jI_mul _ _ | rfl) ?_
    refine zr_icmp_lt (tgt := 54) dX7_isByLast_37 (by decide) (rfl : 37 + 3 = 40) (jI_lt (by first | omega | (simp only [bset, reduceIte, Nat.reduceEqDiff]; omega)) (by first | omega | (simp only [bset, reduceIte, Nat.reduceEqDiff]; omega)) (by first | omega | (simp only [bset, reduceIte, Nat.reduceEqDiff]; omega)) (by first | omega | (simp only [bset, reduceIte, Nat.reduceEqDiff]; omega))) (fun h37 => ?_) (fun h37 => ?_)
    · first
      | (exfalso; omega)
      | (
        refine zr_iconst dX7_isByLast_54 (rfl : 54 + 1 = 55) ?_
        refine zr_istore (lv' := [_, _, _, _, _, _]) dX7_isByLast_55 (rfl : 55 + 2 = 57) (Nat.le_of_ble_eq_true rfl) rfl ?_
        refine zr_iload_n dX7_isByLast_57 (rfl : 57 + 1 = 58) rfl ?_
        refine zr_iconst dX7_isByLast_58 (rfl : 58 + 1 = 59) ?_
        refine zr_icmp_ne (tgt := 71) dX7_isByLast_59 (by decide) (rfl : 59 + 3 = 62) (jI_eq (by first | omega | (simp only [bset, reduceIte, Nat.reduceEqDiff]; omega)) (by first | omega | (simp only [bset, reduceIte, Nat.reduceEqDiff]; omega)) (by first | omega | (simp only [bset, reduceIte, Nat.reduceEqDiff]; omega)) (by first | omega | (simp only [bset, reduceIte, Nat.reduceEqDiff]; omega))) (fun h59 => ?_) (fun h59 => ?_)
        · first
          | (exfalso; omega)
          | (
            refine zr_iload dX7_isByLast_71 (rfl : 71 + 2 = 73) rfl ?_
            refine zr_if_eq (tgt := 99) dX7_isByLast_73 (by decide) (rfl : 73 + 3 = 76) (by first | exact jb_iff | exact jI_z (by first | omega | (simp only [bset, reduceIte, Nat.reduceEqDiff]; omega)) (by first | omega | (simp only [bset, reduceIte, Nat.reduceEqDiff]; omega))) (fun h73 => ?_) (fun h73 => ?_)
            · first
              | (exfalso; omega)
              | (
                refine zr_iconst dX7_isByLast_99 (rfl : 99 + 1 = 100) ?_
                refine zr_iret dX7_isByLast_100 rfl (by first | exact jb_nar | rfl) ?_ rfl rfl rfl
                first
                | (rw [if_pos (by omega)])
                | (rw [if_neg (by omega), if_pos (by omega)])
                | (rw [if_neg (by omega), if_neg (by omega), jb_pos (by omega)])
                | (rw [if_neg (by omega), if_neg (by omega), jb_neg (by omega)]))
            · first
              | (exfalso; omega)
              | (
                refine zr_iload_n dX7_isByLast_76 (rfl : 76 + 1 = 77) rfl ?_
                refine zr_iconst dX7_isByLast_77 (rfl : 77 + 1 = 78) ?_
                refine zr_icmp_eq (tgt := 95) dX7_isByLast_78 (by decide) (rfl : 78 + 3 = 81) (jI_eq (by first | omega | (simp only [bset, reduceIte, Nat.reduceEqDiff]; omega)) (by first | omega | (simp only [bset, reduceIte, Nat.reduceEqDiff]; omega)) (by first | omega | (simp only [bset, reduceIte, Nat.reduceEqDiff]; omega)) (by first | omega | (simp only [bset, reduceIte, Nat.reduceEqDiff]; omega))) (fun h78 => ?_) (fun h78 => ?_)
                · first
                  | (exfalso; omega)
                  | (
                    refine zr_iconst dX7_isByLast_95 (rfl : 95 + 1 = 96) ?_
                    refine zr_goto (tgt := 100) dX7_isByLast_96 (by decide) ?_
                    refine zr_iret dX7_isByLast_100 rfl (by first | exact jb_nar | rfl) ?_ rfl rfl rfl
                    first
                    | (rw [if_pos (by omega)])
                    | (rw [if_neg (by omega), if_pos (by omega)])
                    | (rw [if_neg (by omega), if_neg (by omega), jb_pos (by omega)])
                    | (rw [if_neg (by omega), if_neg (by omega), jb_neg (by omega)]))
                · first
                  | (exfalso; omega)
                  | (
                    refine zr_aload_n dX7_isByLast_81 (rfl : 81 + 1 = 82) rfl ?_
                    refine zr_iload_n dX7_isByLast_82 (rfl : 82 + 1 = 83) rfl ?_
                    refine zr_iload dX7_isByLast_83 (rfl : 83 + 2 = 85) rfl ?_
                    refine zr_iconst dX7_isByLast_85 (rfl : 85 + 1 = 86) ?_
                    refine zr_irem dX7_isByLast_86 (rfl : 86 + 1 = 87) (fun q => absurd ((jI_z (by first | omega | (simp only [bset, reduceIte, Nat.reduceEqDiff]; omega)) (by first | omega | (simp only [bset, reduceIte, Nat.reduceEqDiff]; omega))).mp q) (by first | omega | (simp only [bset, reduceIte, Nat.reduceEqDiff]; omega))) (jI_rem (by first | omega | (simp only [bset, reduceIte, Nat.reduceEqDiff]; omega)) (by first | omega | (simp only [bset, reduceIte, Nat.reduceEqDiff]; omega)) (by first | omega | (simp only [bset, reduceIte, Nat.reduceEqDiff]; omega)) (by first | omega | (simp only [bset, reduceIte, Nat.reduceEqDiff]; omega))) ?_
                    refine zr_iconst dX7_isByLast_87 (rfl : 87 + 1 = 88) ?_
                    refine zr_fnV dX7_isByLast_88 (rfl : 88 + 3 = 91) l_X7_40 (hsp) (by first | assumption | exact mw_167 | exact mw_168 | exact mw_169 | exact mw_170 | exact bk_0 | exact bk_1 | exact bk_2 | exact bk_3 | exact bk_4 | exact bk_5 | exact bk_6 | exact bk_7 | exact bk_8 | exact bk_9 | exact bk_10 | exact bk_11 | exact bk_12 | exact bk_13 | exact bk_14 | exact bk_15 | exact bk_16 | exact zup_self | exact (zup_ne (by first | assumption | omega)).trans (by first | assumption | exact zup_self) | exact (zup_ne (by first | assumption | omega)).trans ((zup_ne (by first | assumption | omega)).trans (by first | assumption | exact zup_self)) | exact (bk_out (by first | omega | (simp only [bset, reduceIte, Nat.reduceEqDiff]; omega))).trans (by first | exact bk_0 | exact bk_1 | exact bk_2 | exact bk_3 | exact bk_4 | exact bk_5 | exact bk_6 | exact bk_7 | exact bk_8 | exact bk_9 | exact bk_10 | exact bk_11 | exact bk_12 | exact bk_13 | exact bk_14 | exact bk_15 | exact bk_16 | exact cr_5 | exact cr_23 | exact cr_24 | exact cr_25 | exact cr_26 | exact cr_27 | exact cr_28 | exact cr_29 | exact cr_30 | assumption)) rfl rfl rfl (Nat.le_of_ble_eq_true rfl) ?_
                    refine zr_iconst dX7_isByLast_91 (rfl : 91 + 1 = 92) ?_
                    refine zr_icmp_ne (tgt := 99) dX7_isByLast_92 (by decide) (rfl : 92 + 3 = 95) (jI_eq (by first | omega | (simp only [bset, reduceIte, Nat.reduceEqDiff]; omega)) (by first | omega | (simp only [bset, reduceIte, Nat.reduceEqDiff]; omega)) (by first | omega | (simp only [bset, reduceIte, Nat.reduceEqDiff]; omega)) (by first | omega | (simp only [bset, reduceIte, Nat.reduceEqDiff]; omega))) (fun h92 => ?_) (fun h92 => ?_)
                    · first
                      | (exfalso; omega)
                      | (
                        refine zr_iconst dX7_isByLast_99 (rfl : 99 + 1 = 100) ?_
                        refine zr_iret dX7_isByLast_100 rfl (by first | exact jb_nar | rfl) ?_ rfl rfl rfl
                        first
                        | (rw [if_pos (by omega)])
                        | (rw [if_neg (by omega), if_pos (by omega)])
                        | (rw [if_neg (by omega), if_neg (by omega), jb_pos (by omega)])
                        | (rw [if_neg (by omega), if_neg (by omega), jb_neg (by omega)]))
                    · first
                      | (exfalso; omega)
                      | (
                        refine zr_iconst dX7_isByLast_95 (rfl : 95 + 1 = 96) ?_
                        refine zr_goto (tgt := 100) dX7_isByLast_96 (by decide) ?_
                        refine zr_iret dX7_isByLast_100 rfl (by first | exact jb_nar | rfl) ?_ rfl rfl rfl
                        first
                        | (rw [if_pos (by omega)])
                        | (rw [if_neg (by omega), if_pos (by omega)])
                        | (rw [if_neg (by omega), if_neg (by omega), jb_pos (by omega)])
                        | (rw [if_neg (by omega), if_neg (by omega), jb_neg (by omega)])))))
        · first
          | (exfalso; omega)
          | (
            refine zr_aload_n dX7_isByLast_62 (rfl : 62 + 1 = 63) rfl ?_
            refine zr_iload_n dX7_isByLast_63 (rfl : 63 + 1 = 64) rfl ?_
            refine zr_iload_n dX7_isByLast_64 (rfl : 64 + 1 = 65) rfl ?_
            refine zr_fnV dX7_isByLast_65 (rfl : 65 + 3 = 68) l_X7_96 (m_isCorner c (jlast B) hc ⟨by omega, by omega⟩ h ok lk) (by first | assumption | exact mw_167 | exact mw_168 | exact mw_169 | exact mw_170 | exact bk_0 | exact bk_1 | exact bk_2 | exact bk_3 | exact bk_4 | exact bk_5 | exact bk_6 | exact bk_7 | exact bk_8 | exact bk_9 | exact bk_10 | exact bk_11 | exact bk_12 | exact bk_13 | exact bk_14 | exact bk_15 | exact bk_16 | exact zup_self | exact (zup_ne (by first | assumption | omega)).trans (by first | assumption | exact zup_self) | exact (zup_ne (by first | assumption | omega)).trans ((zup_ne (by first | assumption | omega)).trans (by first | assumption | exact zup_self)) | exact (bk_out (by first | omega | (simp only [bset, reduceIte, Nat.reduceEqDiff]; omega))).trans (by first | exact bk_0 | exact bk_1 | exact bk_2 | exact bk_3 | exact bk_4 | exact bk_5 | exact bk_6 | exact bk_7 | exact bk_8 | exact bk_9 | exact bk_10 | exact bk_11 | exact bk_12 | exact bk_13 | exact bk_14 | exact bk_15 | exact bk_16 | exact cr_5 | exact cr_23 | exact cr_24 | exact cr_25 | exact cr_26 | exact cr_27 | exact cr_28 | exact cr_29 | exact cr_30 | assumption)) rfl rfl rfl (Nat.le_of_ble_eq_true rfl) ?_
            refine zr_goto (tgt := 100) dX7_isByLast_68 (by decide) ?_
            refine zr_iret dX7_isByLast_100 rfl (by first | exact jb_nar | rfl) ?_ rfl rfl rfl
            first
            | (rw [if_pos (by omega)])
            | (rw [if_neg (by omega), if_pos (by omega)])
            | (rw [if_neg (by omega), if_neg (by omega), jb_pos (by omega)])
            | (rw [if_neg (by omega), if_neg (by omega), jb_neg (by omega)])))
    · first
      | (exfalso; omega)
      | (
        refine zr_iload dX7_isByLast_40 (rfl : 40 + 2 = 42) rfl ?_
        refine zr_iconst dX7_isByLast_42 (rfl : 42 + 1 = 43) ?_
        refine zr_iload_n dX7_isByLast_43 (rfl : 43 + 1 = 44) rfl ?_
        refine zr_imul dX7_isByLast_44 (rfl : 44 + 1 = 45) (by first | exact jI_mul _ _ | rfl) ?_
        refine zr_iconst dX7_isByLast_45 (rfl : 45 + 1 = 46) ?_
        refine zr_iadd dX7_isByLast_46 (rfl : 46 + 1 = 47) (by first | exact jI_add _ _ | rfl) ?_
        refine zr_icmp_ge (tgt := 54) dX7_isByLast_47 (by decide) (rfl : 47 + 3 = 50) (jI_le (by first | omega | (simp only [bset, reduceIte, Nat.reduceEqDiff]; omega)) (by first | omega | (simp only [bset, reduceIte, Nat.reduceEqDiff]; omega)) (by first | omega | (simp only [bset, reduceIte, Nat.reduceEqDiff]; omega)) (by first | omega | (simp only [bset, reduceIte, Nat.reduceEqDiff]; omega))) (fun h47 => ?_) (fun h47 => ?_)
        · first
          | (exfalso; omega)
          | (
            refine zr_iconst dX7_isByLast_54 (rfl : 54 + 1 = 55) ?_
            refine zr_istore (lv' := [_, _, _, _, _, _]) dX7_isByLast_55 (rfl : 55 + 2 = 57) (Nat.le_of_ble_eq_true rfl) rfl ?_
            refine zr_iload_n dX7_isByLast_57 (rfl : 57 + 1 = 58) rfl ?_
            refine zr_iconst dX7_isByLast_58 (rfl : 58 + 1 = 59) ?_
            refine zr_icmp_ne (tgt := 71) dX7_isByLast_59 (by decide) (rfl : 59 + 3 = 62) (jI_eq (by first | omega | (simp only [bset, reduceIte, Nat.reduceEqDiff]; omega)) (by first | omega | (simp only [bset, reduceIte, Nat.reduceEqDiff]; omega)) (by first | omega | (simp only [bset, reduceIte, Nat.reduceEqDiff]; omega)) (by first | omega | (simp only [bset, reduceIte, Nat.reduceEqDiff]; omega))) (fun h59 => ?_) (fun h59 => ?_)
            · first
              | (exfalso; omega)
              | (
                refine zr_iload dX7_isByLast_71 (rfl : 71 + 2 = 73) rfl ?_
                refine zr_if_eq (tgt := 99) dX7_isByLast_73 (by decide) (rfl : 73 + 3 = 76) (by first | exact jb_iff | exact jI_z (by first | omega | (simp only [bset, reduceIte, Nat.reduceEqDiff]; omega)) (by first | omega | (simp only [bset, reduceIte, Nat.reduceEqDiff]; omega))) (fun h73 => ?_) (fun h73 => ?_)
                · first
                  | (exfalso; omega)
                  | (
                    refine zr_iconst dX7_isByLast_99 (rfl : 99 + 1 = 100) ?_
                    refine zr_iret dX7_isByLast_100 rfl (by first | exact jb_nar | rfl) ?_ rfl rfl rfl
                    first
                    | (rw [if_pos (by omega)])
                    | (rw [if_neg (by omega), if_pos (by omega)])
                    | (rw [if_neg (by omega), if_neg (by omega), jb_pos (by omega)])
                    | (rw [if_neg (by omega), if_neg (by omega), jb_neg (by omega)]))
                · first
                  | (exfalso; omega)
                  | (
                    refine zr_iload_n dX7_isByLast_76 (rfl : 76 + 1 = 77) rfl ?_
                    refine zr_iconst dX7_isByLast_77 (rfl : 77 + 1 = 78) ?_
                    refine zr_icmp_eq (tgt := 95) dX7_isByLast_78 (by decide) (rfl : 78 + 3 = 81) (jI_eq (by first | omega | (simp only [bset, reduceIte, Nat.reduceEqDiff]; omega)) (by first | omega | (simp only [bset, reduceIte, Nat.reduceEqDiff]; omega)) (by first | omega | (simp only [bset, reduceIte, Nat.reduceEqDiff]; omega)) (by first | omega | (simp only [bset, reduceIte, Nat.reduceEqDiff]; omega))) (fun h78 => ?_) (fun h78 => ?_)
                    · first
                      | (exfalso; omega)
                      | (
                        refine zr_iconst dX7_isByLast_95 (rfl : 95 + 1 = 96) ?_
                        refine zr_goto (tgt := 100) dX7_isByLast_96 (by decide) ?_
                        refine zr_iret dX7_isByLast_100 rfl (by first | exact jb_nar | rfl) ?_ rfl rfl rfl
                        first
                        | (rw [if_pos (by omega)])
                        | (rw [if_neg (by omega), if_pos (by omega)])
                        | (rw [if_neg (by omega), if_neg (by omega), jb_pos (by omega)])
                        | (rw [if_neg (by omega), if_neg (by omega), jb_neg (by omega)]))
                    · first
                      | (exfalso; omega)
                      | (
                        refine zr_aload_n dX7_isByLast_81 (rfl : 81 + 1 = 82) rfl ?_
                        refine zr_iload_n dX7_isByLast_82 (rfl : 82 + 1 = 83) rfl ?_
                        refine zr_iload dX7_isByLast_83 (rfl : 83 + 2 = 85) rfl ?_
                        refine zr_iconst dX7_isByLast_85 (rfl : 85 + 1 = 86) ?_
                        refine zr_irem dX7_isByLast_86 (rfl : 86 + 1 = 87) (fun q => absurd ((jI_z (by first | omega | (simp only [bset, reduceIte, Nat.reduceEqDiff]; omega)) (by first | omega | (simp only [bset, reduceIte, Nat.reduceEqDiff]; omega))).mp q) (by first | omega | (simp only [bset, reduceIte, Nat.reduceEqDiff]; omega))) (jI_rem (by first | omega | (simp only [bset, reduceIte, Nat.reduceEqDiff]; omega)) (by first | omega | (simp only [bset, reduceIte, Nat.reduceEqDiff]; omega)) (by first | omega | (simp only [bset, reduceIte, Nat.reduceEqDiff]; omega)) (by first | omega | (simp only [bset, reduceIte, Nat.reduceEqDiff]; omega))) ?_
                        refine zr_iconst dX7_isByLast_87 (rfl : 87 + 1 = 88) ?_
                        refine zr_fnV dX7_isByLast_88 (rfl : 88 + 3 = 91) l_X7_40 (hsp) (by first | assumption | exact mw_167 | exact mw_168 | exact mw_169 | exact mw_170 | exact bk_0 | exact bk_1 | exact bk_2 | exact bk_3 | exact bk_4 | exact bk_5 | exact bk_6 | exact bk_7 | exact bk_8 | exact bk_9 | exact bk_10 | exact bk_11 | exact bk_12 | exact bk_13 | exact bk_14 | exact bk_15 | exact bk_16 | exact zup_self | exact (zup_ne (by first | assumption | omega)).trans (by first | assumption | exact zup_self) | exact (zup_ne (by first | assumption | omega)).trans ((zup_ne (by first | assumption | omega)).trans (by first | assumption | exact zup_self)) | exact (bk_out (by first | omega | (simp only [bset, reduceIte, Nat.reduceEqDiff]; omega))).trans (by first | exact bk_0 | exact bk_1 | exact bk_2 | exact bk_3 | exact bk_4 | exact bk_5 | exact bk_6 | exact bk_7 | exact bk_8 | exact bk_9 | exact bk_10 | exact bk_11 | exact bk_12 | exact bk_13 | exact bk_14 | exact bk_15 | exact bk_16 | exact cr_5 | exact cr_23 | exact cr_24 | exact cr_25 | exact cr_26 | exact cr_27 | exact cr_28 | exact cr_29 | exact cr_30 | assumption)) rfl rfl rfl (Nat.le_of_ble_eq_true rfl) ?_
                        refine zr_iconst dX7_isByLast_91 (rfl : 91 + 1 = 92) ?_
                        refine zr_icmp_ne (tgt := 99) dX7_isByLast_92 (by decide) (rfl : 92 + 3 = 95) (jI_eq (by first | omega | (simp only [bset, reduceIte, Nat.reduceEqDiff]; omega)) (by first | omega | (simp only [bset, reduceIte, Nat.reduceEqDiff]; omega)) (by first | omega | (simp only [bset, reduceIte, Nat.reduceEqDiff]; omega)) (by first | omega | (simp only [bset, reduceIte, Nat.reduceEqDiff]; omega))) (fun h92 => ?_) (fun h92 => ?_)
                        · first
                          | (exfalso; omega)
                          | (
                            refine zr_iconst dX7_isByLast_99 (rfl : 99 + 1 = 100) ?_
                            refine zr_iret dX7_isByLast_100 rfl (by first | exact jb_nar | rfl) ?_ rfl rfl rfl
                            first
                            | (rw [if_pos (by omega)])
                            | (rw [if_neg (by omega), if_pos (by omega)])
                            | (rw [if_neg (by omega), if_neg (by omega), jb_pos (by omega)])
                            | (rw [if_neg (by omega), if_neg (by omega), jb_neg (by omega)]))
                        · first
                          | (exfalso; omega)
                          | (
                            refine zr_iconst dX7_isByLast_95 (rfl : 95 + 1 = 96) ?_
                            refine zr_goto (tgt := 100) dX7_isByLast_96 (by decide) ?_
                            refine zr_iret dX7_isByLast_100 rfl (by first | exact jb_nar | rfl) ?_ rfl rfl rfl
                            first
                            | (rw [if_pos (by omega)])
                            | (rw [if_neg (by omega), if_pos (by omega)])
                            | (rw [if_neg (by omega), if_neg (by omega), jb_pos (by omega)])
                            | (rw [if_neg (by omega), if_neg (by omega), jb_neg (by omega)])))))
            · first
              | (exfalso; omega)
              | (
                refine zr_aload_n dX7_isByLast_62 (rfl : 62 + 1 = 63) rfl ?_
                refine zr_iload_n dX7_isByLast_63 (rfl : 63 + 1 = 64) rfl ?_
                refine zr_iload_n dX7_isByLast_64 (rfl : 64 + 1 = 65) rfl ?_
                refine zr_fnV dX7_isByLast_65 (rfl : 65 + 3 = 68) l_X7_96 (m_isCorner c (jlast B) hc ⟨by omega, by omega⟩ h ok lk) (by first | assumption | exact mw_167 | exact mw_168 | exact mw_169 | exact mw_170 | exact bk_0 | exact bk_1 | exact bk_2 | exact bk_3 | exact bk_4 | exact bk_5 | exact bk_6 | exact bk_7 | exact bk_8 | exact bk_9 | exact bk_10 | exact bk_11 | exact bk_12 | exact bk_13 | exact bk_14 | exact bk_15 | exact bk_16 | exact zup_self | exact (zup_ne (by first | assumption | omega)).trans (by first | assumption | exact zup_self) | exact (zup_ne (by first | assumption | omega)).trans ((zup_ne (by first | assumption | omega)).trans (by first | assumption | exact zup_self)) | exact (bk_out (by first | omega | (simp only [bset, reduceIte, Nat.reduceEqDiff]; omega))).trans (by first | exact bk_0 | exact bk_1 | exact bk_2 | exact bk_3 | exact bk_4 | exact bk_5 | exact bk_6 | exact bk_7 | exact bk_8 | exact bk_9 | exact bk_10 | exact bk_11 | exact bk_12 | exact bk_13 | exact bk_14 | exact bk_15 | exact bk_16 | exact cr_5 | exact cr_23 | exact cr_24 | exact cr_25 | exact cr_26 | exact cr_27 | exact cr_28 | exact cr_29 | exact cr_30 | assumption)) rfl rfl rfl (Nat.le_of_ble_eq_true rfl) ?_
                refine zr_goto (tgt := 100) dX7_isByLast_68 (by decide) ?_
                refine zr_iret dX7_isByLast_100 rfl (by first | exact jb_nar | rfl) ?_ rfl rfl rfl
                first
                | (rw [if_pos (by omega)])
                | (rw [if_neg (by omega), if_pos (by omega)])
                | (rw [if_neg (by omega), if_neg (by omega), jb_pos (by omega)])
                | (rw [if_neg (by omega), if_neg (by omega), jb_neg (by omega)])))
        · first
          | (exfalso; omega)
          | (
            refine zr_iconst dX7_isByLast_50 (rfl : 50 + 1 = 51) ?_
            refine zr_goto (tgt := 55) dX7_isByLast_51 (by decide) ?_
            refine zr_istore (lv' := [_, _, _, _, _, _]) dX7_isByLast_55 (rfl : 55 + 2 = 57) (Nat.le_of_ble_eq_true rfl) rfl ?_
            refine zr_iload_n dX7_isByLast_57 (rfl : 57 + 1 = 58) rfl ?_
            refine zr_iconst dX7_isByLast_58 (rfl : 58 + 1 = 59) ?_
            refine zr_icmp_ne (tgt := 71) dX7_isByLast_59 (by decide) (rfl : 59 + 3 = 62) (jI_eq (by first | omega | (simp only [bset, reduceIte, Nat.reduceEqDiff]; omega)) (by first | omega | (simp only [bset, reduceIte, Nat.reduceEqDiff]; omega)) (by first | omega | (simp only [bset, reduceIte, Nat.reduceEqDiff]; omega)) (by first | omega | (simp only [bset, reduceIte, Nat.reduceEqDiff]; omega))) (fun h59 => ?_) (fun h59 => ?_)
            · first
              | (exfalso; omega)
              | (
                refine zr_iload dX7_isByLast_71 (rfl : 71 + 2 = 73) rfl ?_
                refine zr_if_eq (tgt := 99) dX7_isByLast_73 (by decide) (rfl : 73 + 3 = 76) (by first | exact jb_iff | exact jI_z (by first | omega | (simp only [bset, reduceIte, Nat.reduceEqDiff]; omega)) (by first | omega | (simp only [bset, reduceIte, Nat.reduceEqDiff]; omega))) (fun h73 => ?_) (fun h73 => ?_)
                · first
                  | (exfalso; omega)
                  | (
                    refine zr_iconst dX7_isByLast_99 (rfl : 99 + 1 = 100) ?_
                    refine zr_iret dX7_isByLast_100 rfl (by first | exact jb_nar | rfl) ?_ rfl rfl rfl
                    first
                    | (rw [if_pos (by omega)])
                    | (rw [if_neg (by omega), if_pos (by omega)])
                    | (rw [if_neg (by omega), if_neg (by omega), jb_pos (by omega)])
                    | (rw [if_neg (by omega), if_neg (by omega), jb_neg (by omega)]))
                · first
                  | (exfalso; omega)
                  | (
                    refine zr_iload_n dX7_isByLast_76 (rfl : 76 + 1 = 77) rfl ?_
                    refine zr_iconst dX7_isByLast_77 (rfl : 77 + 1 = 78) ?_
                    refine zr_icmp_eq (tgt := 95) dX7_isByLast_78 (by decide) (rfl : 78 + 3 = 81) (jI_eq (by first | omega | (simp only [bset, reduceIte, Nat.reduceEqDiff]; omega)) (by first | omega | (simp only [bset, reduceIte, Nat.reduceEqDiff]; omega)) (by first | omega | (simp only [bset, reduceIte, Nat.reduceEqDiff]; omega)) (by first | omega | (simp only [bset, reduceIte, Nat.reduceEqDiff]; omega))) (fun h78 => ?_) (fun h78 => ?_)
                    · first
                      | (exfalso; omega)
                      | (
                        refine zr_iconst dX7_isByLast_95 (rfl : 95 + 1 = 96) ?_
                        refine zr_goto (tgt := 100) dX7_isByLast_96 (by decide) ?_
                        refine zr_iret dX7_isByLast_100 rfl (by first | exact jb_nar | rfl) ?_ rfl rfl rfl
                        first
                        | (rw [if_pos (by omega)])
                        | (rw [if_neg (by omega), if_pos (by omega)])
                        | (rw [if_neg (by omega), if_neg (by omega), jb_pos (by omega)])
                        | (rw [if_neg (by omega), if_neg (by omega), jb_neg (by omega)]))
                    · first
                      | (exfalso; omega)
                      | (
                        refine zr_aload_n dX7_isByLast_81 (rfl : 81 + 1 = 82) rfl ?_
                        refine zr_iload_n dX7_isByLast_82 (rfl : 82 + 1 = 83) rfl ?_
                        refine zr_iload dX7_isByLast_83 (rfl : 83 + 2 = 85) rfl ?_
                        refine zr_iconst dX7_isByLast_85 (rfl : 85 + 1 = 86) ?_
                        refine zr_irem dX7_isByLast_86 (rfl : 86 + 1 = 87) (fun q => absurd ((jI_z (by first | omega | (simp only [bset, reduceIte, Nat.reduceEqDiff]; omega)) (by first | omega | (simp only [bset, reduceIte, Nat.reduceEqDiff]; omega))).mp q) (by first | omega | (simp only [bset, reduceIte, Nat.reduceEqDiff]; omega))) (jI_rem (by first | omega | (simp only [bset, reduceIte, Nat.reduceEqDiff]; omega)) (by first | omega | (simp only [bset, reduceIte, Nat.reduceEqDiff]; omega)) (by first | omega | (simp only [bset, reduceIte, Nat.reduceEqDiff]; omega)) (by first | omega | (simp only [bset, reduceIte, Nat.reduceEqDiff]; omega))) ?_
                        refine zr_iconst dX7_isByLast_87 (rfl : 87 + 1 = 88) ?_
                        refine zr_fnV dX7_isByLast_88 (rfl : 88 + 3 = 91) l_X7_40 (hsp) (by first | assumption | exact mw_167 | exact mw_168 | exact mw_169 | exact mw_170 | exact bk_0 | exact bk_1 | exact bk_2 | exact bk_3 | exact bk_4 | exact bk_5 | exact bk_6 | exact bk_7 | exact bk_8 | exact bk_9 | exact bk_10 | exact bk_11 | exact bk_12 | exact bk_13 | exact bk_14 | exact bk_15 | exact bk_16 | exact zup_self | exact (zup_ne (by first | assumption | omega)).trans (by first | assumption | exact zup_self) | exact (zup_ne (by first | assumption | omega)).trans ((zup_ne (by first | assumption | omega)).trans (by first | assumption | exact zup_self)) | exact (bk_out (by first | omega | (simp only [bset, reduceIte, Nat.reduceEqDiff]; omega))).trans (by first | exact bk_0 | exact bk_1 | exact bk_2 | exact bk_3 | exact bk_4 | exact bk_5 | exact bk_6 | exact bk_7 | exact bk_8 | exact bk_9 | exact bk_10 | exact bk_11 | exact bk_12 | exact bk_13 | exact bk_14 | exact bk_15 | exact bk_16 | exact cr_5 | exact cr_23 | exact cr_24 | exact cr_25 | exact cr_26 | exact cr_27 | exact cr_28 | exact cr_29 | exact cr_30 | assumption)) rfl rfl rfl (Nat.le_of_ble_eq_true rfl) ?_
                        refine zr_iconst dX7_isByLast_91 (rfl : 91 + 1 = 92) ?_
                        refine zr_icmp_ne (tgt := 99) dX7_isByLast_92 (by decide) (rfl : 92 + 3 = 95) (jI_eq (by first | omega | (simp only [bset, reduceIte, Nat.reduceEqDiff]; omega)) (by first | omega | (simp only [bset, reduceIte, Nat.reduceEqDiff]; omega)) (by first | omega | (simp only [bset, reduceIte, Nat.reduceEqDiff]; omega)) (by first | omega | (simp only [bset, reduceIte, Nat.reduceEqDiff]; omega))) (fun h92 => ?_) (fun h92 => ?_)
                        · first
                          | (exfalso; omega)
                          | (
                            refine zr_iconst dX7_isByLast_99 (rfl : 99 + 1 = 100) ?_
                            refine zr_iret dX7_isByLast_100 rfl (by first | exact jb_nar | rfl) ?_ rfl rfl rfl
                            first
                            | (rw [if_pos (by omega)])
                            | (rw [if_neg (by omega), if_pos (by omega)])
                            | (rw [if_neg (by omega), if_neg (by omega), jb_pos (by omega)])
                            | (rw [if_neg (by omega), if_neg (by omega), jb_neg (by omega)]))
                        · first
                          | (exfalso; omega)
                          | (
                            refine zr_iconst dX7_isByLast_95 (rfl : 95 + 1 = 96) ?_
                            refine zr_goto (tgt := 100) dX7_isByLast_96 (by decide) ?_
                            refine zr_iret dX7_isByLast_100 rfl (by first | exact jb_nar | rfl) ?_ rfl rfl rfl
                            first
                            | (rw [if_pos (by omega)])
                            | (rw [if_neg (by omega), if_pos (by omega)])
                            | (rw [if_neg (by omega), if_neg (by omega), jb_pos (by omega)])
                            | (rw [if_neg (by omega), if_neg (by omega), jb_neg (by omega)])))))
            · first
              | (exfalso; omega)
              | (
                refine zr_aload_n dX7_isByLast_62 (rfl : 62 + 1 = 63) rfl ?_
                refine zr_iload_n dX7_isByLast_63 (rfl : 63 + 1 = 64) rfl ?_
                refine zr_iload_n dX7_isByLast_64 (rfl : 64 + 1 = 65) rfl ?_
                refine zr_fnV dX7_isByLast_65 (rfl : 65 + 3 = 68) l_X7_96 (m_isCorner c (jlast B) hc ⟨by omega, by omega⟩ h ok lk) (by first | assumption | exact mw_167 | exact mw_168 | exact mw_169 | exact mw_170 | exact bk_0 | exact bk_1 | exact bk_2 | exact bk_3 | exact bk_4 | exact bk_5 | exact bk_6 | exact bk_7 | exact bk_8 | exact bk_9 | exact bk_10 | exact bk_11 | exact bk_12 | exact bk_13 | exact bk_14 | exact bk_15 | exact bk_16 | exact zup_self | exact (zup_ne (by first | assumption | omega)).trans (by first | assumption | exact zup_self) | exact (zup_ne (by first | assumption | omega)).trans ((zup_ne (by first | assumption | omega)).trans (by first | assumption | exact zup_self)) | exact (bk_out (by first | omega | (simp only [bset, reduceIte, Nat.reduceEqDiff]; omega))).trans (by first | exact bk_0 | exact bk_1 | exact bk_2 | exact bk_3 | exact bk_4 | exact bk_5 | exact bk_6 | exact bk_7 | exact bk_8 | exact bk_9 | exact bk_10 | exact bk_11 | exact bk_12 | exact bk_13 | exact bk_14 | exact bk_15 | exact bk_16 | exact cr_5 | exact cr_23 | exact cr_24 | exact cr_25 | exact cr_26 | exact cr_27 | exact cr_28 | exact cr_29 | exact cr_30 | assumption)) rfl rfl rfl (Nat.le_of_ble_eq_true rfl) ?_
                refine zr_goto (tgt := 100) dX7_isByLast_68 (by decide) ?_
                refine zr_iret dX7_isByLast_100 rfl (by first | exact jb_nar | rfl) ?_ rfl rfl rfl
                first
                | (rw [if_pos (by omega)])
                | (rw [if_neg (by omega), if_pos (by omega)])
                | (rw [if_neg (by omega), if_neg (by omega), jb_pos (by omega)])
                | (rw [if_neg (by omega), if_neg (by omega), jb_neg (by omega)]))))
  · rw [if_neg hon]
    refine zr_iload dX7_isByLast_32 (rfl : 32 + 2 = 34) rfl ?_
    refine zr_iconst dX7_isByLast_34 (rfl : 34 + 1 = 35) ?_
    refine zr_iload_n dX7_isByLast_35 (rfl : 35 + 1 = 36) rfl ?_
    refine zr_imul dX7_isByLast_36 (rfl : 36 + 1 = 37) (by first | exact jI_mul _ _ | rfl) ?_
    refine zr_icmp_lt (tgt := 54) dX7_isByLast_37 (by decide) (rfl : 37 + 3 = 40) (jI_lt (by first | omega | (simp only [bset, reduceIte, Nat.reduceEqDiff]; omega)) (by first | omega | (simp only [bset, reduceIte, Nat.reduceEqDiff]; omega)) (by first | omega | (simp only [bset, reduceIte, Nat.reduceEqDiff]; omega)) (by first | omega | (simp only [bset, reduceIte, Nat.reduceEqDiff]; omega))) (fun h37 => ?_) (fun h37 => ?_)
    · first
      | (exfalso; omega)
      | (
        refine zr_iconst dX7_isByLast_54 (rfl : 54 + 1 = 55) ?_
        refine zr_istore (lv' := [_, _, _, _, _, _]) dX7_isByLast_55 (rfl : 55 + 2 = 57) (Nat.le_of_ble_eq_true rfl) rfl ?_
        refine zr_iload_n dX7_isByLast_57 (rfl : 57 + 1 = 58) rfl ?_
        refine zr_iconst dX7_isByLast_58 (rfl : 58 + 1 = 59) ?_
        refine zr_icmp_ne (tgt := 71) dX7_isByLast_59 (by decide) (rfl : 59 + 3 = 62) (jI_eq (by first | omega | (simp only [bset, reduceIte, Nat.reduceEqDiff]; omega)) (by first | omega | (simp only [bset, reduceIte, Nat.reduceEqDiff]; omega)) (by first | omega | (simp only [bset, reduceIte, Nat.reduceEqDiff]; omega)) (by first | omega | (simp only [bset, reduceIte, Nat.reduceEqDiff]; omega))) (fun h59 => ?_) (fun h59 => ?_)
        · first
          | (exfalso; omega)
          | (
            refine zr_iload dX7_isByLast_71 (rfl : 71 + 2 = 73) rfl ?_
            refine zr_if_eq (tgt := 99) dX7_isByLast_73 (by decide) (rfl : 73 + 3 = 76) (by first | exact jb_iff | exact jI_z (by first | omega | (simp only [bset, reduceIte, Nat.reduceEqDiff]; omega)) (by first | omega | (simp only [bset, reduceIte, Nat.reduceEqDiff]; omega))) (fun h73 => ?_) (fun h73 => ?_)
            · first
              | (exfalso; omega)
              | (
                refine zr_iconst dX7_isByLast_99 (rfl : 99 + 1 = 100) ?_
                refine zr_iret dX7_isByLast_100 rfl (by first | exact jb_nar | rfl) ?_ rfl rfl rfl
                first
                | (rw [if_pos (by omega)])
                | (rw [if_neg (by omega)]))
            · first
              | (exfalso; omega)
              | (
                refine zr_iload_n dX7_isByLast_76 (rfl : 76 + 1 = 77) rfl ?_
                refine zr_iconst dX7_isByLast_77 (rfl : 77 + 1 = 78) ?_
                refine zr_icmp_eq (tgt := 95) dX7_isByLast_78 (by decide) (rfl : 78 + 3 = 81) (jI_eq (by first | omega | (simp only [bset, reduceIte, Nat.reduceEqDiff]; omega)) (by first | omega | (simp only [bset, reduceIte, Nat.reduceEqDiff]; omega)) (by first | omega | (simp only [bset, reduceIte, Nat.reduceEqDiff]; omega)) (by first | omega | (simp only [bset, reduceIte, Nat.reduceEqDiff]; omega))) (fun h78 => ?_) (fun h78 => ?_)
                · first
                  | (exfalso; omega)
                  | (
                    refine zr_iconst dX7_isByLast_95 (rfl : 95 + 1 = 96) ?_
                    refine zr_goto (tgt := 100) dX7_isByLast_96 (by decide) ?_
                    refine zr_iret dX7_isByLast_100 rfl (by first | exact jb_nar | rfl) ?_ rfl rfl rfl
                    first
                    | (rw [if_pos (by omega)])
                    | (rw [if_neg (by omega)]))
                · first
                  | (exfalso; omega)
                  | (
                    exfalso
                    omega)))
        · first
          | (exfalso; omega)
          | (
            refine zr_aload_n dX7_isByLast_62 (rfl : 62 + 1 = 63) rfl ?_
            refine zr_iload_n dX7_isByLast_63 (rfl : 63 + 1 = 64) rfl ?_
            refine zr_iload_n dX7_isByLast_64 (rfl : 64 + 1 = 65) rfl ?_
            refine zr_fnV dX7_isByLast_65 (rfl : 65 + 3 = 68) l_X7_96 (m_isCorner c (jlast B) hc ⟨by omega, by omega⟩ h ok lk) (by first | assumption | exact mw_167 | exact mw_168 | exact mw_169 | exact mw_170 | exact bk_0 | exact bk_1 | exact bk_2 | exact bk_3 | exact bk_4 | exact bk_5 | exact bk_6 | exact bk_7 | exact bk_8 | exact bk_9 | exact bk_10 | exact bk_11 | exact bk_12 | exact bk_13 | exact bk_14 | exact bk_15 | exact bk_16 | exact zup_self | exact (zup_ne (by first | assumption | omega)).trans (by first | assumption | exact zup_self) | exact (zup_ne (by first | assumption | omega)).trans ((zup_ne (by first | assumption | omega)).trans (by first | assumption | exact zup_self)) | exact (bk_out (by first | omega | (simp only [bset, reduceIte, Nat.reduceEqDiff]; omega))).trans (by first | exact bk_0 | exact bk_1 | exact bk_2 | exact bk_3 | exact bk_4 | exact bk_5 | exact bk_6 | exact bk_7 | exact bk_8 | exact bk_9 | exact bk_10 | exact bk_11 | exact bk_12 | exact bk_13 | exact bk_14 | exact bk_15 | exact bk_16 | exact cr_5 | exact cr_23 | exact cr_24 | exact cr_25 | exact cr_26 | exact cr_27 | exact cr_28 | exact cr_29 | exact cr_30 | assumption)) rfl rfl rfl (Nat.le_of_ble_eq_true rfl) ?_
            refine zr_goto (tgt := 100) dX7_isByLast_68 (by decide) ?_
            refine zr_iret dX7_isByLast_100 rfl (by first | exact jb_nar | rfl) ?_ rfl rfl rfl
            first
            | (rw [if_pos (by omega)])
            | (rw [if_neg (by omega)])))
    · first
      | (exfalso; omega)
      | (
        refine zr_iload dX7_isByLast_40 (rfl : 40 + 2 = 42) rfl ?_
        refine zr_iconst dX7_isByLast_42 (rfl : 42 + 1 = 43) ?_
        refine zr_iload_n dX7_isByLast_43 (rfl : 43 + 1 = 44) rfl ?_
        refine zr_imul dX7_isByLast_44 (rfl : 44 + 1 = 45) (by first | exact jI_mul _ _ | rfl) ?_
        refine zr_iconst dX7_isByLast_45 (rfl : 45 + 1 = 46) ?_
        refine zr_iadd dX7_isByLast_46 (rfl : 46 + 1 = 47) (by first | exact jI_add _ _ | rfl) ?_
        refine zr_icmp_ge (tgt := 54) dX7_isByLast_47 (by decide) (rfl : 47 + 3 = 50) (jI_le (by first | omega | (simp only [bset, reduceIte, Nat.reduceEqDiff]; omega)) (by first | omega | (simp only [bset, reduceIte, Nat.reduceEqDiff]; omega)) (by first | omega | (simp only [bset, reduceIte, Nat.reduceEqDiff]; omega)) (by first | omega | (simp only [bset, reduceIte, Nat.reduceEqDiff]; omega))) (fun h47 => ?_) (fun h47 => ?_)
        · first
          | (exfalso; omega)
          | (
            refine zr_iconst dX7_isByLast_54 (rfl : 54 + 1 = 55) ?_
            refine zr_istore (lv' := [_, _, _, _, _, _]) dX7_isByLast_55 (rfl : 55 + 2 = 57) (Nat.le_of_ble_eq_true rfl) rfl ?_
            refine zr_iload_n dX7_isByLast_57 (rfl : 57 + 1 = 58) rfl ?_
            refine zr_iconst dX7_isByLast_58 (rfl : 58 + 1 = 59) ?_
            refine zr_icmp_ne (tgt := 71) dX7_isByLast_59 (by decide) (rfl : 59 + 3 = 62) (jI_eq (by first | omega | (simp only [bset, reduceIte, Nat.reduceEqDiff]; omega)) (by first | omega | (simp only [bset, reduceIte, Nat.reduceEqDiff]; omega)) (by first | omega | (simp only [bset, reduceIte, Nat.reduceEqDiff]; omega)) (by first | omega | (simp only [bset, reduceIte, Nat.reduceEqDiff]; omega))) (fun h59 => ?_) (fun h59 => ?_)
            · first
              | (exfalso; omega)
              | (
                refine zr_iload dX7_isByLast_71 (rfl : 71 + 2 = 73) rfl ?_
                refine zr_if_eq (tgt := 99) dX7_isByLast_73 (by decide) (rfl : 73 + 3 = 76) (by first | exact jb_iff | exact jI_z (by first | omega | (simp only [bset, reduceIte, Nat.reduceEqDiff]; omega)) (by first | omega | (simp only [bset, reduceIte, Nat.reduceEqDiff]; omega))) (fun h73 => ?_) (fun h73 => ?_)
                · first
                  | (exfalso; omega)
                  | (
                    refine zr_iconst dX7_isByLast_99 (rfl : 99 + 1 = 100) ?_
                    refine zr_iret dX7_isByLast_100 rfl (by first | exact jb_nar | rfl) ?_ rfl rfl rfl
                    first
                    | (rw [if_pos (by omega)])
                    | (rw [if_neg (by omega)]))
                · first
                  | (exfalso; omega)
                  | (
                    refine zr_iload_n dX7_isByLast_76 (rfl : 76 + 1 = 77) rfl ?_
                    refine zr_iconst dX7_isByLast_77 (rfl : 77 + 1 = 78) ?_
                    refine zr_icmp_eq (tgt := 95) dX7_isByLast_78 (by decide) (rfl : 78 + 3 = 81) (jI_eq (by first | omega | (simp only [bset, reduceIte, Nat.reduceEqDiff]; omega)) (by first | omega | (simp only [bset, reduceIte, Nat.reduceEqDiff]; omega)) (by first | omega | (simp only [bset, reduceIte, Nat.reduceEqDiff]; omega)) (by first | omega | (simp only [bset, reduceIte, Nat.reduceEqDiff]; omega))) (fun h78 => ?_) (fun h78 => ?_)
                    · first
                      | (exfalso; omega)
                      | (
                        refine zr_iconst dX7_isByLast_95 (rfl : 95 + 1 = 96) ?_
                        refine zr_goto (tgt := 100) dX7_isByLast_96 (by decide) ?_
                        refine zr_iret dX7_isByLast_100 rfl (by first | exact jb_nar | rfl) ?_ rfl rfl rfl
                        first
                        | (rw [if_pos (by omega)])
                        | (rw [if_neg (by omega)]))
                    · first
                      | (exfalso; omega)
                      | (
                        exfalso
                        omega)))
            · first
              | (exfalso; omega)
              | (
                refine zr_aload_n dX7_isByLast_62 (rfl : 62 + 1 = 63) rfl ?_
                refine zr_iload_n dX7_isByLast_63 (rfl : 63 + 1 = 64) rfl ?_
                refine zr_iload_n dX7_isByLast_64 (rfl : 64 + 1 = 65) rfl ?_
                refine zr_fnV dX7_isByLast_65 (rfl : 65 + 3 = 68) l_X7_96 (m_isCorner c (jlast B) hc ⟨by omega, by omega⟩ h ok lk) (by first | assumption | exact mw_167 | exact mw_168 | exact mw_169 | exact mw_170 | exact bk_0 | exact bk_1 | exact bk_2 | exact bk_3 | exact bk_4 | exact bk_5 | exact bk_6 | exact bk_7 | exact bk_8 | exact bk_9 | exact bk_10 | exact bk_11 | exact bk_12 | exact bk_13 | exact bk_14 | exact bk_15 | exact bk_16 | exact zup_self | exact (zup_ne (by first | assumption | omega)).trans (by first | assumption | exact zup_self) | exact (zup_ne (by first | assumption | omega)).trans ((zup_ne (by first | assumption | omega)).trans (by first | assumption | exact zup_self)) | exact (bk_out (by first | omega | (simp only [bset, reduceIte, Nat.reduceEqDiff]; omega))).trans (by first | exact bk_0 | exact bk_1 | exact bk_2 | exact bk_3 | exact bk_4 | exact bk_5 | exact bk_6 | exact bk_7 | exact bk_8 | exact bk_9 | exact bk_10 | exact bk_11 | exact bk_12 | exact bk_13 | exact bk_14 | exact bk_15 | exact bk_16 | exact cr_5 | exact cr_23 | exact cr_24 | exact cr_25 | exact cr_26 | exact cr_27 | exact cr_28 | exact cr_29 | exact cr_30 | assumption)) rfl rfl rfl (Nat.le_of_ble_eq_true rfl) ?_
                refine zr_goto (tgt := 100) dX7_isByLast_68 (by decide) ?_
                refine zr_iret dX7_isByLast_100 rfl (by first | exact jb_nar | rfl) ?_ rfl rfl rfl
                first
                | (rw [if_pos (by omega)])
                | (rw [if_neg (by omega)])))
        · first
          | (exfalso; omega)
          | (
            refine zr_iconst dX7_isByLast_50 (rfl : 50 + 1 = 51) ?_
            refine zr_goto (tgt := 55) dX7_isByLast_51 (by decide) ?_
            refine zr_istore (lv' := [_, _, _, _, _, _]) dX7_isByLast_55 (rfl : 55 + 2 = 57) (Nat.le_of_ble_eq_true rfl) rfl ?_
            refine zr_iload_n dX7_isByLast_57 (rfl : 57 + 1 = 58) rfl ?_
            refine zr_iconst dX7_isByLast_58 (rfl : 58 + 1 = 59) ?_
            refine zr_icmp_ne (tgt := 71) dX7_isByLast_59 (by decide) (rfl : 59 + 3 = 62) (jI_eq (by first | omega | (simp only [bset, reduceIte, Nat.reduceEqDiff]; omega)) (by first | omega | (simp only [bset, reduceIte, Nat.reduceEqDiff]; omega)) (by first | omega | (simp only [bset, reduceIte, Nat.reduceEqDiff]; omega)) (by first | omega | (simp only [bset, reduceIte, Nat.reduceEqDiff]; omega))) (fun h59 => ?_) (fun h59 => ?_)
            · first
              | (exfalso; omega)
              | (
                refine zr_iload dX7_isByLast_71 (rfl : 71 + 2 = 73) rfl ?_
                refine zr_if_eq (tgt := 99) dX7_isByLast_73 (by decide) (rfl : 73 + 3 = 76) (by first | exact jb_iff | exact jI_z (by first | omega | (simp only [bset, reduceIte, Nat.reduceEqDiff]; omega)) (by first | omega | (simp only [bset, reduceIte, Nat.reduceEqDiff]; omega))) (fun h73 => ?_) (fun h73 => ?_)
                · first
                  | (exfalso; omega)
                  | (
                    refine zr_iconst dX7_isByLast_99 (rfl : 99 + 1 = 100) ?_
                    refine zr_iret dX7_isByLast_100 rfl (by first | exact jb_nar | rfl) ?_ rfl rfl rfl
                    first
                    | (rw [if_pos (by omega)])
                    | (rw [if_neg (by omega)]))
                · first
                  | (exfalso; omega)
                  | (
                    refine zr_iload_n dX7_isByLast_76 (rfl : 76 + 1 = 77) rfl ?_
                    refine zr_iconst dX7_isByLast_77 (rfl : 77 + 1 = 78) ?_
                    refine zr_icmp_eq (tgt := 95) dX7_isByLast_78 (by decide) (rfl : 78 + 3 = 81) (jI_eq (by first | omega | (simp only [bset, reduceIte, Nat.reduceEqDiff]; omega)) (by first | omega | (simp only [bset, reduceIte, Nat.reduceEqDiff]; omega)) (by first | omega | (simp only [bset, reduceIte, Nat.reduceEqDiff]; omega)) (by first | omega | (simp only [bset, reduceIte, Nat.reduceEqDiff]; omega))) (fun h78 => ?_) (fun h78 => ?_)
                    · first
                      | (exfalso; omega)
                      | (
                        refine zr_iconst dX7_isByLast_95 (rfl : 95 + 1 = 96) ?_
                        refine zr_goto (tgt := 100) dX7_isByLast_96 (by decide) ?_
                        refine zr_iret dX7_isByLast_100 rfl (by first | exact jb_nar | rfl) ?_ rfl rfl rfl
                        first
                        | (rw [if_pos (by omega)])
                        | (rw [if_neg (by omega)]))
                    · first
                      | (exfalso; omega)
                      | (
                        exfalso
                        omega)))
            · first
              | (exfalso; omega)
              | (
                refine zr_aload_n dX7_isByLast_62 (rfl : 62 + 1 = 63) rfl ?_
                refine zr_iload_n dX7_isByLast_63 (rfl : 63 + 1 = 64) rfl ?_
                refine zr_iload_n dX7_isByLast_64 (rfl : 64 + 1 = 65) rfl ?_
                refine zr_fnV dX7_isByLast_65 (rfl : 65 + 3 = 68) l_X7_96 (m_isCorner c (jlast B) hc ⟨by omega, by omega⟩ h ok lk) (by first | assumption | exact mw_167 | exact mw_168 | exact mw_169 | exact mw_170 | exact bk_0 | exact bk_1 | exact bk_2 | exact bk_3 | exact bk_4 | exact bk_5 | exact bk_6 | exact bk_7 | exact bk_8 | exact bk_9 | exact bk_10 | exact bk_11 | exact bk_12 | exact bk_13 | exact bk_14 | exact bk_15 | exact bk_16 | exact zup_self | exact (zup_ne (by first | assumption | omega)).trans (by first | assumption | exact zup_self) | exact (zup_ne (by first | assumption | omega)).trans ((zup_ne (by first | assumption | omega)).trans (by first | assumption | exact zup_self)) | exact (bk_out (by first | omega | (simp only [bset, reduceIte, Nat.reduceEqDiff]; omega))).trans (by first | exact bk_0 | exact bk_1 | exact bk_2 | exact bk_3 | exact bk_4 | exact bk_5 | exact bk_6 | exact bk_7 | exact bk_8 | exact bk_9 | exact bk_10 | exact bk_11 | exact bk_12 | exact bk_13 | exact bk_14 | exact bk_15 | exact bk_16 | exact cr_5 | exact cr_23 | exact cr_24 | exact cr_25 | exact cr_26 | exact cr_27 | exact cr_28 | exact cr_29 | exact cr_30 | assumption)) rfl rfl rfl (Nat.le_of_ble_eq_true rfl) ?_
                refine zr_goto (tgt := 100) dX7_isByLast_68 (by decide) ?_
                refine zr_iret dX7_isByLast_100 rfl (by first | exact jb_nar | rfl) ?_ rfl rfl rfl
                first
                | (rw [if_pos (by omega)])
                | (rw [if_neg (by omega)]))))
theorem jgw_bit {W : Int → Int} {c g : Int} (hg : 0 ≤ g ∧ g < 4) : jbit (jgw W c) g = jbit (W g) c := by
  have h0 := jbit_r (W 0) c
  have h1 := jbit_r (W 1) c
  have h2 := jbit_r (W 2) c
  have h3 := jbit_r (W 3) c
  unfold jgw
  have key : ∀ (x0 x1 x2 x3 : Fin 2), jbit (((x0.val : Nat) : Int) + ((x1.val : Nat) : Int) * 2 + ((x2.val : Nat) : Int) * 4 + ((x3.val : Nat) : Int) * 8) 0 = x0.val ∧ jbit (((x0.val : Nat) : Int) + ((x1.val : Nat) : Int) * 2 + ((x2.val : Nat) : Int) * 4 + ((x3.val : Nat) : Int) * 8) 1 = x1.val ∧ jbit (((x0.val : Nat) : Int) + ((x1.val : Nat) : Int) * 2 + ((x2.val : Nat) : Int) * 4 + ((x3.val : Nat) : Int) * 8) 2 = x2.val ∧ jbit (((x0.val : Nat) : Int) + ((x1.val : Nat) : Int) * 2 + ((x2.val : Nat) : Int) * 4 + ((x3.val : Nat) : Int) * 8) 3 = x3.val := by decide +kernel
  obtain ⟨x0, e0⟩ := jfin (N := 2) (m := jbit (W 0) c) (by omega)
  obtain ⟨x1, e1⟩ := jfin (N := 2) (m := jbit (W 1) c) (by omega)
  obtain ⟨x2, e2⟩ := jfin (N := 2) (m := jbit (W 2) c) (by omega)
  obtain ⟨x3, e3⟩ := jfin (N := 2) (m := jbit (W 3) c) (by omega)
  obtain ⟨k0, k1, k2, k3⟩ := key x0 x1 x2 x3
  rw [e0, e1, e2, e3]
  rcases (by omega : g = 0 ∨ g = 1 ∨ g = 2 ∨ g = 3) with h | h | h | h
  · rw [h, e0]
    exact k0
  · rw [h, e1]
    exact k1
  · rw [h, e2]
    exact k2
  · rw [h, e3]
    exact k3
theorem jgw_r (W : Int → Int) (c : Int) : 0 ≤ jgw W c ∧ jgw W c < 16 := by
  have h0 := jbit_r (W 0) c
  have h1 := jbit_r (W 1) c
  have h2 := jbit_r (W 2) c
  have h3 := jbit_r (W 3) c
  unfold jgw
  omega
theorem m_why (c g : Int) (hc : 0 ≤ c ∧ c < 6) (hg : 0 ≤ g ∧ g < 4) (hw : jcs (B 0) c = 15) (h : mr S 0 B) (ok : jok B) (lk : jlk B) : zFn Γ md_X7_why (d + 3) [.ref 167, .int (jI c), .int (jI g)] (mw S st ik th tx ty w) (some (.int (jI (jrc B c g)))) (mw S st ik th tx ty w) := by
  have hga := h.ga0 g hg.1 hg.2
  have hwa := ok.wa g
  have hWg := ok.W g
  have hc0 := h.ca0
  have hco := ok.ca
  have hwo := h.wo0 c hc.1 hc.2
  have hgr := jgw_r (B 9) c
  have hse := h.se0 2 (by decide) (by decide)
  have hse2 := ok.se 2
  have hwg := lk.wg g hg.1 hg.2
  have hbr := jbit_r (B 9 g) c
  have e7 : jmk B 1 = B 7 := if_pos rfl
  have e8 : jmk B 2 = B 8 := if_neg (by decide)
  have s1 := m_holds (Γ := Γ) (d := d) (st := st) (ik := ik) (th := th) (tx := tx) (ty := ty) (w := w) c g 1 hc hg (Or.inl rfl) hw h ok lk
  have s2 := m_holds (Γ := Γ) (d := d) (st := st) (ik := ik) (th := th) (tx := tx) (ty := ty) (w := w) c g 2 hc hg (Or.inr rfl) hw h ok lk
  rw [e7] at s1
  rw [e8] at s2
  have hu := juo_r (B 0) (B 7) c g
  have hhr := jhl_r B c g
  have hby := fun h0 => m_isByLast (Γ := Γ) (d := d) (st := st) (ik := ik) (th := th) (tx := tx) (ty := ty) (w := w) c g hc hg hw h0 h ok lk
  have hrc : jrc B c g = if B 9 g ≠ 0 ∧ B 10 g < B 12 0 then 1 else if jbit (B 9 g) c = 1 then 2 else if 0 < juo (B 0) (B 7) c g then (if juo (B 0) (B 8) c g = 0 then 3 else 4) else if B 23 2 = 1 ∧ jhl B c g = 0 then 5 else 0 := rfl
  rw [hrc]
  clear hrc
  generalize juo (B 0) (B 7) c g = J7 at s1 hu hby
  generalize juo (B 0) (B 8) c g = J8 at s2
  generalize jhl B c g = H at hby hhr
  refine zFn.of_run (lv := [some (.ref 167), some (.int (jI c)), some (.int (jI g))]) (by decide) rfl (Nat.le_of_ble_eq_true rfl) rfl (fun n9 g9 => ?_)
  refine zr_aload_n dX7_why_0 (rfl : 0 + 1 = 1) rfl ?_
  refine zr_getf dX7_why_1 (rfl : 1 + 3 = 4) f_X7_7 (by first | assumption | exact mw_167 | exact mw_168 | exact mw_169 | exact mw_170 | exact bk_0 | exact bk_1 | exact bk_2 | exact bk_3 | exact bk_4 | exact bk_5 | exact bk_6 | exact bk_7 | exact bk_8 | exact bk_9 | exact bk_10 | exact bk_11 | exact bk_12 | exact bk_13 | exact bk_14 | exact bk_15 | exact bk_16 | exact zup_self | exact (zup_ne (by first | assumption | omega)).trans (by first | assumption | exact zup_self) | exact (zup_ne (by first | assumption | omega)).trans ((zup_ne (by first | assumption | omega)).trans (by first | assumption | exact zup_self)) | exact (bk_out (by first | omega | (simp only [bset, reduceIte, Nat.reduceEqDiff]; omega))).trans (by first | exact bk_0 | exact bk_1 | exact bk_2 | exact bk_3 | exact bk_4 | exact bk_5 | exact bk_6 | exact bk_7 | exact bk_8 | exact bk_9 | exact bk_10 | exact bk_11 | exact bk_12 | exact bk_13 | exact bk_14 | exact bk_15 | exact bk_16 | exact cr_5 | exact cr_23 | exact cr_24 | exact cr_25 | exact cr_26 | exact cr_27 | exact cr_28 | exact cr_29 | exact cr_30 | assumption)) rfl ?_
  refine zr_sipush dX7_why_4 (rfl : 4 + 3 = 7) (by decide) ?_
  refine zr_iload_n dX7_why_7 (rfl : 7 + 1 = 8) rfl ?_
  refine zr_iadd dX7_why_8 (rfl : 8 + 1 = 9) (by first | exact jI_add _ _ | rfl) ?_
  refine zr_iald dX7_why_9 (rfl : 9 + 1 = 10) (by first | assumption | exact mw_167 | exact mw_168 | exact mw_169 | exact mw_170 | exact bk_0 | exact bk_1 | exact bk_2 | exact bk_3 | exact bk_4 | exact bk_5 | exact bk_6 | exact bk_7 | exact bk_8 | exact bk_9 | exact bk_10 | exact bk_11 | exact bk_12 | exact bk_13 | exact bk_14 | exact bk_15 | exact bk_16 | exact zup_self | exact (zup_ne (by first | assumption | omega)).trans (by first | assumption | exact zup_self) | exact (zup_ne (by first | assumption | omega)).trans ((zup_ne (by first | assumption | omega)).trans (by first | assumption | exact zup_self)) | exact (bk_out (by first | omega | (simp only [bset, reduceIte, Nat.reduceEqDiff]; omega))).trans (by first | exact bk_0 | exact bk_1 | exact bk_2 | exact bk_3 | exact bk_4 | exact bk_5 | exact bk_6 | exact bk_7 | exact bk_8 | exact bk_9 | exact bk_10 | exact bk_11 | exact bk_12 | exact bk_13 | exact bk_14 | exact bk_15 | exact bk_16 | exact cr_5 | exact cr_23 | exact cr_24 | exact cr_25 | exact cr_26 | exact cr_27 | exact cr_28 | exact cr_29 | exact cr_30 | assumption)) (by decide) (by first | omega | (simp only [bset, reduceIte, Nat.reduceEqDiff]; omega)) (by first | omega | (simp only [bset, reduceIte, Nat.reduceEqDiff]; omega)) ?_
  refine zr_if_le (tgt := 36) dX7_why_10 (by decide) (rfl : 10 + 3 = 13) (jI_lez (by first | omega | (simp only [bset, reduceIte, Nat.reduceEqDiff]; omega)) (by first | omega | (simp only [bset, reduceIte, Nat.reduceEqDiff]; omega))) (fun h10 => ?_) (fun h10 => ?_)
  · first
    | (exfalso; omega)
    | (
      refine zr_aload_n dX7_why_36 (rfl : 36 + 1 = 37) rfl ?_
      refine zr_getf dX7_why_37 (rfl : 37 + 3 = 40) f_X7_7 (by first | assumption | exact mw_167 | exact mw_168 | exact mw_169 | exact mw_170 | exact bk_0 | exact bk_1 | exact bk_2 | exact bk_3 | exact bk_4 | exact bk_5 | exact bk_6 | exact bk_7 | exact bk_8 | exact bk_9 | exact bk_10 | exact bk_11 | exact bk_12 | exact bk_13 | exact bk_14 | exact bk_15 | exact bk_16 | exact zup_self | exact (zup_ne (by first | assumption | omega)).trans (by first | assumption | exact zup_self) | exact (zup_ne (by first | assumption | omega)).trans ((zup_ne (by first | assumption | omega)).trans (by first | assumption | exact zup_self)) | exact (bk_out (by first | omega | (simp only [bset, reduceIte, Nat.reduceEqDiff]; omega))).trans (by first | exact bk_0 | exact bk_1 | exact bk_2 | exact bk_3 | exact bk_4 | exact bk_5 | exact bk_6 | exact bk_7 | exact bk_8 | exact bk_9 | exact bk_10 | exact bk_11 | exact bk_12 | exact bk_13 | exact bk_14 | exact bk_15 | exact bk_16 | exact cr_5 | exact cr_23 | exact cr_24 | exact cr_25 | exact cr_26 | exact cr_27 | exact cr_28 | exact cr_29 | exact cr_30 | assumption)) rfl ?_
      refine zr_sipush dX7_why_40 (rfl : 40 + 3 = 43) (by decide) ?_
      refine zr_iload_n dX7_why_43 (rfl : 43 + 1 = 44) rfl ?_
      refine zr_iadd dX7_why_44 (rfl : 44 + 1 = 45) (by first | exact jI_add _ _ | rfl) ?_
      refine zr_iald dX7_why_45 (rfl : 45 + 1 = 46) (by first | assumption | exact mw_167 | exact mw_168 | exact mw_169 | exact mw_170 | exact bk_0 | exact bk_1 | exact bk_2 | exact bk_3 | exact bk_4 | exact bk_5 | exact bk_6 | exact bk_7 | exact bk_8 | exact bk_9 | exact bk_10 | exact bk_11 | exact bk_12 | exact bk_13 | exact bk_14 | exact bk_15 | exact bk_16 | exact zup_self | exact (zup_ne (by first | assumption | omega)).trans (by first | assumption | exact zup_self) | exact (zup_ne (by first | assumption | omega)).trans ((zup_ne (by first | assumption | omega)).trans (by first | assumption | exact zup_self)) | exact (bk_out (by first | omega | (simp only [bset, reduceIte, Nat.reduceEqDiff]; omega))).trans (by first | exact bk_0 | exact bk_1 | exact bk_2 | exact bk_3 | exact bk_4 | exact bk_5 | exact bk_6 | exact bk_7 | exact bk_8 | exact bk_9 | exact bk_10 | exact bk_11 | exact bk_12 | exact bk_13 | exact bk_14 | exact bk_15 | exact bk_16 | exact cr_5 | exact cr_23 | exact cr_24 | exact cr_25 | exact cr_26 | exact cr_27 | exact cr_28 | exact cr_29 | exact cr_30 | assumption)) (by decide) (by first | omega | (simp only [bset, reduceIte, Nat.reduceEqDiff]; omega)) (by first | omega | (simp only [bset, reduceIte, Nat.reduceEqDiff]; omega)) ?_
      refine zr_iload_n dX7_why_46 (rfl : 46 + 1 = 47) rfl ?_
      refine zr_ishr dX7_why_47 (rfl : 47 + 1 = 48) rfl ?_
      refine zr_iconst dX7_why_48 (rfl : 48 + 1 = 49) ?_
      refine zr_iand dX7_why_49 (rfl : 49 + 1 = 50) rfl ?_
      rw [hwo, jbit_sh (by omega) (by omega), jgw_bit hg]
      refine zr_iconst dX7_why_50 (rfl : 50 + 1 = 51) ?_
      refine zr_icmp_ne (tgt := 56) dX7_why_51 (by decide) (rfl : 51 + 3 = 54) (jI_eq (by first | omega | (simp only [bset, reduceIte, Nat.reduceEqDiff]; omega)) (by first | omega | (simp only [bset, reduceIte, Nat.reduceEqDiff]; omega)) (by first | omega | (simp only [bset, reduceIte, Nat.reduceEqDiff]; omega)) (by first | omega | (simp only [bset, reduceIte, Nat.reduceEqDiff]; omega))) (fun h51 => ?_) (fun h51 => ?_)
      · first
        | (exfalso; omega)
        | (
          refine zr_aload_n dX7_why_56 (rfl : 56 + 1 = 57) rfl ?_
          refine zr_iload_n dX7_why_57 (rfl : 57 + 1 = 58) rfl ?_
          refine zr_iload_n dX7_why_58 (rfl : 58 + 1 = 59) rfl ?_
          refine zr_iconst dX7_why_59 (rfl : 59 + 1 = 60) ?_
          refine zr_fnV dX7_why_60 (rfl : 60 + 3 = 63) l_X7_100 (s1) (by first | assumption | exact mw_167 | exact mw_168 | exact mw_169 | exact mw_170 | exact bk_0 | exact bk_1 | exact bk_2 | exact bk_3 | exact bk_4 | exact bk_5 | exact bk_6 | exact bk_7 | exact bk_8 | exact bk_9 | exact bk_10 | exact bk_11 | exact bk_12 | exact bk_13 | exact bk_14 | exact bk_15 | exact bk_16 | exact zup_self | exact (zup_ne (by first | assumption | omega)).trans (by first | assumption | exact zup_self) | exact (zup_ne (by first | assumption | omega)).trans ((zup_ne (by first | assumption | omega)).trans (by first | assumption | exact zup_self)) | exact (bk_out (by first | omega | (simp only [bset, reduceIte, Nat.reduceEqDiff]; omega))).trans (by first | exact bk_0 | exact bk_1 | exact bk_2 | exact bk_3 | exact bk_4 | exact bk_5 | exact bk_6 | exact bk_7 | exact bk_8 | exact bk_9 | exact bk_10 | exact bk_11 | exact bk_12 | exact bk_13 | exact bk_14 | exact bk_15 | exact bk_16 | exact cr_5 | exact cr_23 | exact cr_24 | exact cr_25 | exact cr_26 | exact cr_27 | exact cr_28 | exact cr_29 | exact cr_30 | assumption)) rfl rfl rfl (Nat.le_of_ble_eq_true rfl) ?_
          refine zr_if_ne (tgt := 82) dX7_why_63 (by decide) (rfl : 63 + 3 = 66) (by first | exact jb_iff | exact jI_z (by first | omega | (simp only [bset, reduceIte, Nat.reduceEqDiff]; omega)) (by first | omega | (simp only [bset, reduceIte, Nat.reduceEqDiff]; omega))) (fun h63 => ?_) (fun h63 => ?_)
          · first
            | (exfalso; omega)
            | (
              refine zr_aload_n dX7_why_82 (rfl : 82 + 1 = 83) rfl ?_
              refine zr_getf dX7_why_83 (rfl : 83 + 3 = 86) f_X7_7 (by first | assumption | exact mw_167 | exact mw_168 | exact mw_169 | exact mw_170 | exact bk_0 | exact bk_1 | exact bk_2 | exact bk_3 | exact bk_4 | exact bk_5 | exact bk_6 | exact bk_7 | exact bk_8 | exact bk_9 | exact bk_10 | exact bk_11 | exact bk_12 | exact bk_13 | exact bk_14 | exact bk_15 | exact bk_16 | exact zup_self | exact (zup_ne (by first | assumption | omega)).trans (by first | assumption | exact zup_self) | exact (zup_ne (by first | assumption | omega)).trans ((zup_ne (by first | assumption | omega)).trans (by first | assumption | exact zup_self)) | exact (bk_out (by first | omega | (simp only [bset, reduceIte, Nat.reduceEqDiff]; omega))).trans (by first | exact bk_0 | exact bk_1 | exact bk_2 | exact bk_3 | exact bk_4 | exact bk_5 | exact bk_6 | exact bk_7 | exact bk_8 | exact bk_9 | exact bk_10 | exact bk_11 | exact bk_12 | exact bk_13 | exact bk_14 | exact bk_15 | exact bk_16 | exact cr_5 | exact cr_23 | exact cr_24 | exact cr_25 | exact cr_26 | exact cr_27 | exact cr_28 | exact cr_29 | exact cr_30 | assumption)) rfl ?_
              refine zr_iconst dX7_why_86 (rfl : 86 + 1 = 87) ?_
              refine zr_iald dX7_why_87 (rfl : 87 + 1 = 88) (by first | assumption | exact mw_167 | exact mw_168 | exact mw_169 | exact mw_170 | exact bk_0 | exact bk_1 | exact bk_2 | exact bk_3 | exact bk_4 | exact bk_5 | exact bk_6 | exact bk_7 | exact bk_8 | exact bk_9 | exact bk_10 | exact bk_11 | exact bk_12 | exact bk_13 | exact bk_14 | exact bk_15 | exact bk_16 | exact zup_self | exact (zup_ne (by first | assumption | omega)).trans (by first | assumption | exact zup_self) | exact (zup_ne (by first | assumption | omega)).trans ((zup_ne (by first | assumption | omega)).trans (by first | assumption | exact zup_self)) | exact (bk_out (by first | omega | (simp only [bset, reduceIte, Nat.reduceEqDiff]; omega))).trans (by first | exact bk_0 | exact bk_1 | exact bk_2 | exact bk_3 | exact bk_4 | exact bk_5 | exact bk_6 | exact bk_7 | exact bk_8 | exact bk_9 | exact bk_10 | exact bk_11 | exact bk_12 | exact bk_13 | exact bk_14 | exact bk_15 | exact bk_16 | exact cr_5 | exact cr_23 | exact cr_24 | exact cr_25 | exact cr_26 | exact cr_27 | exact cr_28 | exact cr_29 | exact cr_30 | assumption)) (by decide) (by first | omega | (simp only [bset, reduceIte, Nat.reduceEqDiff]; omega)) (by first | omega | (simp only [bset, reduceIte, Nat.reduceEqDiff]; omega)) ?_
              refine zr_iconst dX7_why_88 (rfl : 88 + 1 = 89) ?_
              refine zr_icmp_ne (tgt := 105) dX7_why_89 (by decide) (rfl : 89 + 3 = 92) (jI_eq (by first | omega | (simp only [bset, reduceIte, Nat.reduceEqDiff]; omega)) (by first | omega | (simp only [bset, reduceIte, Nat.reduceEqDiff]; omega)) (by first | omega | (simp only [bset, reduceIte, Nat.reduceEqDiff]; omega)) (by first | omega | (simp only [bset, reduceIte, Nat.reduceEqDiff]; omega))) (fun h89 => ?_) (fun h89 => ?_)
              · first
                | (exfalso; omega)
                | (
                  refine zr_iconst dX7_why_105 (rfl : 105 + 1 = 106) ?_
                  refine zr_iret dX7_why_106 rfl (by first | exact jb_nar | rfl) ?_ rfl rfl rfl
                  (repeat (first | rw [if_pos (by omega)] | rw [if_neg (by omega)])))
              · first
                | (exfalso; omega)
                | (
                  refine zr_aload_n dX7_why_92 (rfl : 92 + 1 = 93) rfl ?_
                  refine zr_iload_n dX7_why_93 (rfl : 93 + 1 = 94) rfl ?_
                  refine zr_iload_n dX7_why_94 (rfl : 94 + 1 = 95) rfl ?_
                  refine zr_fnV dX7_why_95 (rfl : 95 + 3 = 98) l_X7_103 (hby (by first | omega | (simp only [bset, reduceIte, Nat.reduceEqDiff]; omega))) (by first | assumption | exact mw_167 | exact mw_168 | exact mw_169 | exact mw_170 | exact bk_0 | exact bk_1 | exact bk_2 | exact bk_3 | exact bk_4 | exact bk_5 | exact bk_6 | exact bk_7 | exact bk_8 | exact bk_9 | exact bk_10 | exact bk_11 | exact bk_12 | exact bk_13 | exact bk_14 | exact bk_15 | exact bk_16 | exact zup_self | exact (zup_ne (by first | assumption | omega)).trans (by first | assumption | exact zup_self) | exact (zup_ne (by first | assumption | omega)).trans ((zup_ne (by first | assumption | omega)).trans (by first | assumption | exact zup_self)) | exact (bk_out (by first | omega | (simp only [bset, reduceIte, Nat.reduceEqDiff]; omega))).trans (by first | exact bk_0 | exact bk_1 | exact bk_2 | exact bk_3 | exact bk_4 | exact bk_5 | exact bk_6 | exact bk_7 | exact bk_8 | exact bk_9 | exact bk_10 | exact bk_11 | exact bk_12 | exact bk_13 | exact bk_14 | exact bk_15 | exact bk_16 | exact cr_5 | exact cr_23 | exact cr_24 | exact cr_25 | exact cr_26 | exact cr_27 | exact cr_28 | exact cr_29 | exact cr_30 | assumption)) rfl rfl rfl (Nat.le_of_ble_eq_true rfl) ?_
                  refine zr_if_ne (tgt := 105) dX7_why_98 (by decide) (rfl : 98 + 3 = 101) (by first | exact jb_iff | exact jI_z (by first | omega | (simp only [bset, reduceIte, Nat.reduceEqDiff]; omega)) (by first | omega | (simp only [bset, reduceIte, Nat.reduceEqDiff]; omega))) (fun h98 => ?_) (fun h98 => ?_)
                  · first
                    | (exfalso; omega)
                    | (
                      refine zr_iconst dX7_why_105 (rfl : 105 + 1 = 106) ?_
                      refine zr_iret dX7_why_106 rfl (by first | exact jb_nar | rfl) ?_ rfl rfl rfl
                      (repeat (first | rw [if_pos (by omega)] | rw [if_neg (by omega)])))
                  · first
                    | (exfalso; omega)
                    | (
                      refine zr_iconst dX7_why_101 (rfl : 101 + 1 = 102) ?_
                      refine zr_goto (tgt := 106) dX7_why_102 (by decide) ?_
                      refine zr_iret dX7_why_106 rfl (by first | exact jb_nar | rfl) ?_ rfl rfl rfl
                      (repeat (first | rw [if_pos (by omega)] | rw [if_neg (by omega)])))))
          · first
            | (exfalso; omega)
            | (
              refine zr_aload_n dX7_why_66 (rfl : 66 + 1 = 67) rfl ?_
              refine zr_iload_n dX7_why_67 (rfl : 67 + 1 = 68) rfl ?_
              refine zr_iload_n dX7_why_68 (rfl : 68 + 1 = 69) rfl ?_
              refine zr_iconst dX7_why_69 (rfl : 69 + 1 = 70) ?_
              refine zr_fnV dX7_why_70 (rfl : 70 + 3 = 73) l_X7_100 (s2) (by first | assumption | exact mw_167 | exact mw_168 | exact mw_169 | exact mw_170 | exact bk_0 | exact bk_1 | exact bk_2 | exact bk_3 | exact bk_4 | exact bk_5 | exact bk_6 | exact bk_7 | exact bk_8 | exact bk_9 | exact bk_10 | exact bk_11 | exact bk_12 | exact bk_13 | exact bk_14 | exact bk_15 | exact bk_16 | exact zup_self | exact (zup_ne (by first | assumption | omega)).trans (by first | assumption | exact zup_self) | exact (zup_ne (by first | assumption | omega)).trans ((zup_ne (by first | assumption | omega)).trans (by first | assumption | exact zup_self)) | exact (bk_out (by first | omega | (simp only [bset, reduceIte, Nat.reduceEqDiff]; omega))).trans (by first | exact bk_0 | exact bk_1 | exact bk_2 | exact bk_3 | exact bk_4 | exact bk_5 | exact bk_6 | exact bk_7 | exact bk_8 | exact bk_9 | exact bk_10 | exact bk_11 | exact bk_12 | exact bk_13 | exact bk_14 | exact bk_15 | exact bk_16 | exact cr_5 | exact cr_23 | exact cr_24 | exact cr_25 | exact cr_26 | exact cr_27 | exact cr_28 | exact cr_29 | exact cr_30 | assumption)) rfl rfl rfl (Nat.le_of_ble_eq_true rfl) ?_
              refine zr_if_eq (tgt := 80) dX7_why_73 (by decide) (rfl : 73 + 3 = 76) (by first | exact jb_iff | exact jI_z (by first | omega | (simp only [bset, reduceIte, Nat.reduceEqDiff]; omega)) (by first | omega | (simp only [bset, reduceIte, Nat.reduceEqDiff]; omega))) (fun h73 => ?_) (fun h73 => ?_)
              · first
                | (exfalso; omega)
                | (
                  refine zr_iconst dX7_why_80 (rfl : 80 + 1 = 81) ?_
                  refine zr_iret dX7_why_81 rfl (by first | exact jb_nar | rfl) ?_ rfl rfl rfl
                  (repeat (first | rw [if_pos (by omega)] | rw [if_neg (by omega)])))
              · first
                | (exfalso; omega)
                | (
                  refine zr_iconst dX7_why_76 (rfl : 76 + 1 = 77) ?_
                  refine zr_goto (tgt := 81) dX7_why_77 (by decide) ?_
                  refine zr_iret dX7_why_81 rfl (by first | exact jb_nar | rfl) ?_ rfl rfl rfl
                  (repeat (first | rw [if_pos (by omega)] | rw [if_neg (by omega)])))))
      · first
        | (exfalso; omega)
        | (
          refine zr_iconst dX7_why_54 (rfl : 54 + 1 = 55) ?_
          refine zr_iret dX7_why_55 rfl (by first | exact jb_nar | rfl) ?_ rfl rfl rfl
          (repeat (first | rw [if_pos (by omega)] | rw [if_neg (by omega)]))))
  · first
    | (exfalso; omega)
    | (
      refine zr_aload_n dX7_why_13 (rfl : 13 + 1 = 14) rfl ?_
      refine zr_getf dX7_why_14 (rfl : 14 + 3 = 17) f_X7_7 (by first | assumption | exact mw_167 | exact mw_168 | exact mw_169 | exact mw_170 | exact bk_0 | exact bk_1 | exact bk_2 | exact bk_3 | exact bk_4 | exact bk_5 | exact bk_6 | exact bk_7 | exact bk_8 | exact bk_9 | exact bk_10 | exact bk_11 | exact bk_12 | exact bk_13 | exact bk_14 | exact bk_15 | exact bk_16 | exact zup_self | exact (zup_ne (by first | assumption | omega)).trans (by first | assumption | exact zup_self) | exact (zup_ne (by first | assumption | omega)).trans ((zup_ne (by first | assumption | omega)).trans (by first | assumption | exact zup_self)) | exact (bk_out (by first | omega | (simp only [bset, reduceIte, Nat.reduceEqDiff]; omega))).trans (by first | exact bk_0 | exact bk_1 | exact bk_2 | exact bk_3 | exact bk_4 | exact bk_5 | exact bk_6 | exact bk_7 | exact bk_8 | exact bk_9 | exact bk_10 | exact bk_11 | exact bk_12 | exact bk_13 | exact bk_14 | exact bk_15 | exact bk_16 | exact cr_5 | exact cr_23 | exact cr_24 | exact cr_25 | exact cr_26 | exact cr_27 | exact cr_28 | exact cr_29 | exact cr_30 | assumption)) rfl ?_
      refine zr_sipush dX7_why_17 (rfl : 17 + 3 = 20) (by decide) ?_
      refine zr_iload_n dX7_why_20 (rfl : 20 + 1 = 21) rfl ?_
      refine zr_iadd dX7_why_21 (rfl : 21 + 1 = 22) (by first | exact jI_add _ _ | rfl) ?_
      refine zr_iald dX7_why_22 (rfl : 22 + 1 = 23) (by first | assumption | exact mw_167 | exact mw_168 | exact mw_169 | exact mw_170 | exact bk_0 | exact bk_1 | exact bk_2 | exact bk_3 | exact bk_4 | exact bk_5 | exact bk_6 | exact bk_7 | exact bk_8 | exact bk_9 | exact bk_10 | exact bk_11 | exact bk_12 | exact bk_13 | exact bk_14 | exact bk_15 | exact bk_16 | exact zup_self | exact (zup_ne (by first | assumption | omega)).trans (by first | assumption | exact zup_self) | exact (zup_ne (by first | assumption | omega)).trans ((zup_ne (by first | assumption | omega)).trans (by first | assumption | exact zup_self)) | exact (bk_out (by first | omega | (simp only [bset, reduceIte, Nat.reduceEqDiff]; omega))).trans (by first | exact bk_0 | exact bk_1 | exact bk_2 | exact bk_3 | exact bk_4 | exact bk_5 | exact bk_6 | exact bk_7 | exact bk_8 | exact bk_9 | exact bk_10 | exact bk_11 | exact bk_12 | exact bk_13 | exact bk_14 | exact bk_15 | exact bk_16 | exact cr_5 | exact cr_23 | exact cr_24 | exact cr_25 | exact cr_26 | exact cr_27 | exact cr_28 | exact cr_29 | exact cr_30 | assumption)) (by decide) (by first | omega | (simp only [bset, reduceIte, Nat.reduceEqDiff]; omega)) (by first | omega | (simp only [bset, reduceIte, Nat.reduceEqDiff]; omega)) ?_
      refine zr_aload_n dX7_why_23 (rfl : 23 + 1 = 24) rfl ?_
      refine zr_getf dX7_why_24 (rfl : 24 + 3 = 27) f_X7_7 (by first | assumption | exact mw_167 | exact mw_168 | exact mw_169 | exact mw_170 | exact bk_0 | exact bk_1 | exact bk_2 | exact bk_3 | exact bk_4 | exact bk_5 | exact bk_6 | exact bk_7 | exact bk_8 | exact bk_9 | exact bk_10 | exact bk_11 | exact bk_12 | exact bk_13 | exact bk_14 | exact bk_15 | exact bk_16 | exact zup_self | exact (zup_ne (by first | assumption | omega)).trans (by first | assumption | exact zup_self) | exact (zup_ne (by first | assumption | omega)).trans ((zup_ne (by first | assumption | omega)).trans (by first | assumption | exact zup_self)) | exact (bk_out (by first | omega | (simp only [bset, reduceIte, Nat.reduceEqDiff]; omega))).trans (by first | exact bk_0 | exact bk_1 | exact bk_2 | exact bk_3 | exact bk_4 | exact bk_5 | exact bk_6 | exact bk_7 | exact bk_8 | exact bk_9 | exact bk_10 | exact bk_11 | exact bk_12 | exact bk_13 | exact bk_14 | exact bk_15 | exact bk_16 | exact cr_5 | exact cr_23 | exact cr_24 | exact cr_25 | exact cr_26 | exact cr_27 | exact cr_28 | exact cr_29 | exact cr_30 | assumption)) rfl ?_
      refine zr_sipush dX7_why_27 (rfl : 27 + 3 = 30) (by decide) ?_
      refine zr_iald dX7_why_30 (rfl : 30 + 1 = 31) (by first | assumption | exact mw_167 | exact mw_168 | exact mw_169 | exact mw_170 | exact bk_0 | exact bk_1 | exact bk_2 | exact bk_3 | exact bk_4 | exact bk_5 | exact bk_6 | exact bk_7 | exact bk_8 | exact bk_9 | exact bk_10 | exact bk_11 | exact bk_12 | exact bk_13 | exact bk_14 | exact bk_15 | exact bk_16 | exact zup_self | exact (zup_ne (by first | assumption | omega)).trans (by first | assumption | exact zup_self) | exact (zup_ne (by first | assumption | omega)).trans ((zup_ne (by first | assumption | omega)).trans (by first | assumption | exact zup_self)) | exact (bk_out (by first | omega | (simp only [bset, reduceIte, Nat.reduceEqDiff]; omega))).trans (by first | exact bk_0 | exact bk_1 | exact bk_2 | exact bk_3 | exact bk_4 | exact bk_5 | exact bk_6 | exact bk_7 | exact bk_8 | exact bk_9 | exact bk_10 | exact bk_11 | exact bk_12 | exact bk_13 | exact bk_14 | exact bk_15 | exact bk_16 | exact cr_5 | exact cr_23 | exact cr_24 | exact cr_25 | exact cr_26 | exact cr_27 | exact cr_28 | exact cr_29 | exact cr_30 | assumption)) (by decide) (by first | omega | (simp only [bset, reduceIte, Nat.reduceEqDiff]; omega)) (by first | omega | (simp only [bset, reduceIte, Nat.reduceEqDiff]; omega)) ?_
      refine zr_icmp_ge (tgt := 36) dX7_why_31 (by decide) (rfl : 31 + 3 = 34) (jI_le (by first | omega | (simp only [bset, reduceIte, Nat.reduceEqDiff]; omega)) (by first | omega | (simp only [bset, reduceIte, Nat.reduceEqDiff]; omega)) (by first | omega | (simp only [bset, reduceIte, Nat.reduceEqDiff]; omega)) (by first | omega | (simp only [bset, reduceIte, Nat.reduceEqDiff]; omega))) (fun h31 => ?_) (fun h31 => ?_)
      · first
        | (exfalso; omega)
        | (
          refine zr_aload_n dX7_why_36 (rfl : 36 + 1 = 37) rfl ?_
          refine zr_getf dX7_why_37 (rfl : 37 + 3 = 40) f_X7_7 (by first | assumption | exact mw_167 | exact mw_168 | exact mw_169 | exact mw_170 | exact bk_0 | exact bk_1 | exact bk_2 | exact bk_3 | exact bk_4 | exact bk_5 | exact bk_6 | exact bk_7 | exact bk_8 | exact bk_9 | exact bk_10 | exact bk_11 | exact bk_12 | exact bk_13 | exact bk_14 | exact bk_15 | exact bk_16 | exact zup_self | exact (zup_ne (by first | assumption | omega)).trans (by first | assumption | exact zup_self) | exact (zup_ne (by first | assumption | omega)).trans ((zup_ne (by first | assumption | omega)).trans (by first | assumption | exact zup_self)) | exact (bk_out (by first | omega | (simp only [bset, reduceIte, Nat.reduceEqDiff]; omega))).trans (by first | exact bk_0 | exact bk_1 | exact bk_2 | exact bk_3 | exact bk_4 | exact bk_5 | exact bk_6 | exact bk_7 | exact bk_8 | exact bk_9 | exact bk_10 | exact bk_11 | exact bk_12 | exact bk_13 | exact bk_14 | exact bk_15 | exact bk_16 | exact cr_5 | exact cr_23 | exact cr_24 | exact cr_25 | exact cr_26 | exact cr_27 | exact cr_28 | exact cr_29 | exact cr_30 | assumption)) rfl ?_
          refine zr_sipush dX7_why_40 (rfl : 40 + 3 = 43) (by decide) ?_
          refine zr_iload_n dX7_why_43 (rfl : 43 + 1 = 44) rfl ?_
          refine zr_iadd dX7_why_44 (rfl : 44 + 1 = 45) (by first | exact jI_add _ _ | rfl) ?_
          refine zr_iald dX7_why_45 (rfl : 45 + 1 = 46) (by first | assumption | exact mw_167 | exact mw_168 | exact mw_169 | exact mw_170 | exact bk_0 | exact bk_1 | exact bk_2 | exact bk_3 | exact bk_4 | exact bk_5 | exact bk_6 | exact bk_7 | exact bk_8 | exact bk_9 | exact bk_10 | exact bk_11 | exact bk_12 | exact bk_13 | exact bk_14 | exact bk_15 | exact bk_16 | exact zup_self | exact (zup_ne (by first | assumption | omega)).trans (by first | assumption | exact zup_self) | exact (zup_ne (by first | assumption | omega)).trans ((zup_ne (by first | assumption | omega)).trans (by first | assumption | exact zup_self)) | exact (bk_out (by first | omega | (simp only [bset, reduceIte, Nat.reduceEqDiff]; omega))).trans (by first | exact bk_0 | exact bk_1 | exact bk_2 | exact bk_3 | exact bk_4 | exact bk_5 | exact bk_6 | exact bk_7 | exact bk_8 | exact bk_9 | exact bk_10 | exact bk_11 | exact bk_12 | exact bk_13 | exact bk_14 | exact bk_15 | exact bk_16 | exact cr_5 | exact cr_23 | exact cr_24 | exact cr_25 | exact cr_26 | exact cr_27 | exact cr_28 | exact cr_29 | exact cr_30 | assumption)) (by decide) (by first | omega | (simp only [bset, reduceIte, Nat.reduceEqDiff]; omega)) (by first | omega | (simp only [bset, reduceIte, Nat.reduceEqDiff]; omega)) ?_
          refine zr_iload_n dX7_why_46 (rfl : 46 + 1 = 47) rfl ?_
          refine zr_ishr dX7_why_47 (rfl : 47 + 1 = 48) rfl ?_
          refine zr_iconst dX7_why_48 (rfl : 48 + 1 = 49) ?_
          refine zr_iand dX7_why_49 (rfl : 49 + 1 = 50) rfl ?_
          rw [hwo, jbit_sh (by omega) (by omega), jgw_bit hg]
          refine zr_iconst dX7_why_50 (rfl : 50 + 1 = 51) ?_
          refine zr_icmp_ne (tgt := 56) dX7_why_51 (by decide) (rfl : 51 + 3 = 54) (jI_eq (by first | omega | (simp only [bset, reduceIte, Nat.reduceEqDiff]; omega)) (by first | omega | (simp only [bset, reduceIte, Nat.reduceEqDiff]; omega)) (by first | omega | (simp only [bset, reduceIte, Nat.reduceEqDiff]; omega)) (by first | omega | (simp only [bset, reduceIte, Nat.reduceEqDiff]; omega))) (fun h51 => ?_) (fun h51 => ?_)
          · first
            | (exfalso; omega)
            | (
              refine zr_aload_n dX7_why_56 (rfl : 56 + 1 = 57) rfl ?_
              refine zr_iload_n dX7_why_57 (rfl : 57 + 1 = 58) rfl ?_
              refine zr_iload_n dX7_why_58 (rfl : 58 + 1 = 59) rfl ?_
              refine zr_iconst dX7_why_59 (rfl : 59 + 1 = 60) ?_
              refine zr_fnV dX7_why_60 (rfl : 60 + 3 = 63) l_X7_100 (s1) (by first | assumption | exact mw_167 | exact mw_168 | exact mw_169 | exact mw_170 | exact bk_0 | exact bk_1 | exact bk_2 | exact bk_3 | exact bk_4 | exact bk_5 | exact bk_6 | exact bk_7 | exact bk_8 | exact bk_9 | exact bk_10 | exact bk_11 | exact bk_12 | exact bk_13 | exact bk_14 | exact bk_15 | exact bk_16 | exact zup_self | exact (zup_ne (by first | assumption | omega)).trans (by first | assumption | exact zup_self) | exact (zup_ne (by first | assumption | omega)).trans ((zup_ne (by first | assumption | omega)).trans (by first | assumption | exact zup_self)) | exact (bk_out (by first | omega | (simp only [bset, reduceIte, Nat.reduceEqDiff]; omega))).trans (by first | exact bk_0 | exact bk_1 | exact bk_2 | exact bk_3 | exact bk_4 | exact bk_5 | exact bk_6 | exact bk_7 | exact bk_8 | exact bk_9 | exact bk_10 | exact bk_11 | exact bk_12 | exact bk_13 | exact bk_14 | exact bk_15 | exact bk_16 | exact cr_5 | exact cr_23 | exact cr_24 | exact cr_25 | exact cr_26 | exact cr_27 | exact cr_28 | exact cr_29 | exact cr_30 | assumption)) rfl rfl rfl (Nat.le_of_ble_eq_true rfl) ?_
              refine zr_if_ne (tgt := 82) dX7_why_63 (by decide) (rfl : 63 + 3 = 66) (by first | exact jb_iff | exact jI_z (by first | omega | (simp only [bset, reduceIte, Nat.reduceEqDiff]; omega)) (by first | omega | (simp only [bset, reduceIte, Nat.reduceEqDiff]; omega))) (fun h63 => ?_) (fun h63 => ?_)
              · first
                | (exfalso; omega)
                | (
                  refine zr_aload_n dX7_why_82 (rfl : 82 + 1 = 83) rfl ?_
                  refine zr_getf dX7_why_83 (rfl : 83 + 3 = 86) f_X7_7 (by first | assumption | exact mw_167 | exact mw_168 | exact mw_169 | exact mw_170 | exact bk_0 | exact bk_1 | exact bk_2 | exact bk_3 | exact bk_4 | exact bk_5 | exact bk_6 | exact bk_7 | exact bk_8 | exact bk_9 | exact bk_10 | exact bk_11 | exact bk_12 | exact bk_13 | exact bk_14 | exact bk_15 | exact bk_16 | exact zup_self | exact (zup_ne (by first | assumption | omega)).trans (by first | assumption | exact zup_self) | exact (zup_ne (by first | assumption | omega)).trans ((zup_ne (by first | assumption | omega)).trans (by first | assumption | exact zup_self)) | exact (bk_out (by first | omega | (simp only [bset, reduceIte, Nat.reduceEqDiff]; omega))).trans (by first | exact bk_0 | exact bk_1 | exact bk_2 | exact bk_3 | exact bk_4 | exact bk_5 | exact bk_6 | exact bk_7 | exact bk_8 | exact bk_9 | exact bk_10 | exact bk_11 | exact bk_12 | exact bk_13 | exact bk_14 | exact bk_15 | exact bk_16 | exact cr_5 | exact cr_23 | exact cr_24 | exact cr_25 | exact cr_26 | exact cr_27 | exact cr_28 | exact cr_29 | exact cr_30 | assumption)) rfl ?_
                  refine zr_iconst dX7_why_86 (rfl : 86 + 1 = 87) ?_
                  refine zr_iald dX7_why_87 (rfl : 87 + 1 = 88) (by first | assumption | exact mw_167 | exact mw_168 | exact mw_169 | exact mw_170 | exact bk_0 | exact bk_1 | exact bk_2 | exact bk_3 | exact bk_4 | exact bk_5 | exact bk_6 | exact bk_7 | exact bk_8 | exact bk_9 | exact bk_10 | exact bk_11 | exact bk_12 | exact bk_13 | exact bk_14 | exact bk_15 | exact bk_16 | exact zup_self | exact (zup_ne (by first | assumption | omega)).trans (by first | assumption | exact zup_self) | exact (zup_ne (by first | assumption | omega)).trans ((zup_ne (by first | assumption | omega)).trans (by first | assumption | exact zup_self)) | exact (bk_out (by first | omega | (simp only [bset, reduceIte, Nat.reduceEqDiff]; omega))).trans (by first | exact bk_0 | exact bk_1 | exact bk_2 | exact bk_3 | exact bk_4 | exact bk_5 | exact bk_6 | exact bk_7 | exact bk_8 | exact bk_9 | exact bk_10 | exact bk_11 | exact bk_12 | exact bk_13 | exact bk_14 | exact bk_15 | exact bk_16 | exact cr_5 | exact cr_23 | exact cr_24 | exact cr_25 | exact cr_26 | exact cr_27 | exact cr_28 | exact cr_29 | exact cr_30 | assumption)) (by decide) (by first | omega | (simp only [bset, reduceIte, Nat.reduceEqDiff]; omega)) (by first | omega | (simp only [bset, reduceIte, Nat.reduceEqDiff]; omega)) ?_
                  refine zr_iconst dX7_why_88 (rfl : 88 + 1 = 89) ?_
                  refine zr_icmp_ne (tgt := 105) dX7_why_89 (by decide) (rfl : 89 + 3 = 92) (jI_eq (by first | omega | (simp only [bset, reduceIte, Nat.reduceEqDiff]; omega)) (by first | omega | (simp only [bset, reduceIte, Nat.reduceEqDiff]; omega)) (by first | omega | (simp only [bset, reduceIte, Nat.reduceEqDiff]; omega)) (by first | omega | (simp only [bset, reduceIte, Nat.reduceEqDiff]; omega))) (fun h89 => ?_) (fun h89 => ?_)
                  · first
                    | (exfalso; omega)
                    | (
                      refine zr_iconst dX7_why_105 (rfl : 105 + 1 = 106) ?_
                      refine zr_iret dX7_why_106 rfl (by first | exact jb_nar | rfl) ?_ rfl rfl rfl
                      (repeat (first | rw [if_pos (by omega)] | rw [if_neg (by omega)])))
                  · first
                    | (exfalso; omega)
                    | (
                      refine zr_aload_n dX7_why_92 (rfl : 92 + 1 = 93) rfl ?_
                      refine zr_iload_n dX7_why_93 (rfl : 93 + 1 = 94) rfl ?_
                      refine zr_iload_n dX7_why_94 (rfl : 94 + 1 = 95) rfl ?_
                      refine zr_fnV dX7_why_95 (rfl : 95 + 3 = 98) l_X7_103 (hby (by first | omega | (simp only [bset, reduceIte, Nat.reduceEqDiff]; omega))) (by first | assumption | exact mw_167 | exact mw_168 | exact mw_169 | exact mw_170 | exact bk_0 | exact bk_1 | exact bk_2 | exact bk_3 | exact bk_4 | exact bk_5 | exact bk_6 | exact bk_7 | exact bk_8 | exact bk_9 | exact bk_10 | exact bk_11 | exact bk_12 | exact bk_13 | exact bk_14 | exact bk_15 | exact bk_16 | exact zup_self | exact (zup_ne (by first | assumption | omega)).trans (by first | assumption | exact zup_self) | exact (zup_ne (by first | assumption | omega)).trans ((zup_ne (by first | assumption | omega)).trans (by first | assumption | exact zup_self)) | exact (bk_out (by first | omega | (simp only [bset, reduceIte, Nat.reduceEqDiff]; omega))).trans (by first | exact bk_0 | exact bk_1 | exact bk_2 | exact bk_3 | exact bk_4 | exact bk_5 | exact bk_6 | exact bk_7 | exact bk_8 | exact bk_9 | exact bk_10 | exact bk_11 | exact bk_12 | exact bk_13 | exact bk_14 | exact bk_15 | exact bk_16 | exact cr_5 | exact cr_23 | exact cr_24 | exact cr_25 | exact cr_26 | exact cr_27 | exact cr_28 | exact cr_29 | exact cr_30 | assumption)) rfl rfl rfl (Nat.le_of_ble_eq_true rfl) ?_
                      refine zr_if_ne (tgt := 105) dX7_why_98 (by decide) (rfl : 98 + 3 = 101) (by first | exact jb_iff | exact jI_z (by first | omega | (simp only [bset, reduceIte, Nat.reduceEqDiff]; omega)) (by first | omega | (simp only [bset, reduceIte, Nat.reduceEqDiff]; omega))) (fun h98 => ?_) (fun h98 => ?_)
                      · first
                        | (exfalso; omega)
                        | (
                          refine zr_iconst dX7_why_105 (rfl : 105 + 1 = 106) ?_
                          refine zr_iret dX7_why_106 rfl (by first | exact jb_nar | rfl) ?_ rfl rfl rfl
                          (repeat (first | rw [if_pos (by omega)] | rw [if_neg (by omega)])))
                      · first
                        | (exfalso; omega)
                        | (
                          refine zr_iconst dX7_why_101 (rfl : 101 + 1 = 102) ?_
                          refine zr_goto (tgt := 106) dX7_why_102 (by decide) ?_
                          refine zr_iret dX7_why_106 rfl (by first | exact jb_nar | rfl) ?_ rfl rfl rfl
                          (repeat (first | rw [if_pos (by omega)] | rw [if_neg (by omega)])))))
              · first
                | (exfalso; omega)
                | (
                  refine zr_aload_n dX7_why_66 (rfl : 66 + 1 = 67) rfl ?_
                  refine zr_iload_n dX7_why_67 (rfl : 67 + 1 = 68) rfl ?_
                  refine zr_iload_n dX7_why_68 (rfl : 68 + 1 = 69) rfl ?_
                  refine zr_iconst dX7_why_69 (rfl : 69 + 1 = 70) ?_
                  refine zr_fnV dX7_why_70 (rfl : 70 + 3 = 73) l_X7_100 (s2) (by first | assumption | exact mw_167 | exact mw_168 | exact mw_169 | exact mw_170 | exact bk_0 | exact bk_1 | exact bk_2 | exact bk_3 | exact bk_4 | exact bk_5 | exact bk_6 | exact bk_7 | exact bk_8 | exact bk_9 | exact bk_10 | exact bk_11 | exact bk_12 | exact bk_13 | exact bk_14 | exact bk_15 | exact bk_16 | exact zup_self | exact (zup_ne (by first | assumption | omega)).trans (by first | assumption | exact zup_self) | exact (zup_ne (by first | assumption | omega)).trans ((zup_ne (by first | assumption | omega)).trans (by first | assumption | exact zup_self)) | exact (bk_out (by first | omega | (simp only [bset, reduceIte, Nat.reduceEqDiff]; omega))).trans (by first | exact bk_0 | exact bk_1 | exact bk_2 | exact bk_3 | exact bk_4 | exact bk_5 | exact bk_6 | exact bk_7 | exact bk_8 | exact bk_9 | exact bk_10 | exact bk_11 | exact bk_12 | exact bk_13 | exact bk_14 | exact bk_15 | exact bk_16 | exact cr_5 | exact cr_23 | exact cr_24 | exact cr_25 | exact cr_26 | exact cr_27 | exact cr_28 | exact cr_29 | exact cr_30 | assumption)) rfl rfl rfl (Nat.le_of_ble_eq_true rfl) ?_
                  refine zr_if_eq (tgt := 80) dX7_why_73 (by decide) (rfl : 73 + 3 = 76) (by first | exact jb_iff | exact jI_z (by first | omega | (simp only [bset, reduceIte, Nat.reduceEqDiff]; omega)) (by first | omega | (simp only [bset, reduceIte, Nat.reduceEqDiff]; omega))) (fun h73 => ?_) (fun h73 => ?_)
                  · first
                    | (exfalso; omega)
                    | (
                      refine zr_iconst dX7_why_80 (rfl : 80 + 1 = 81) ?_
                      refine zr_iret dX7_why_81 rfl (by first | exact jb_nar | rfl) ?_ rfl rfl rfl
                      (repeat (first | rw [if_pos (by omega)] | rw [if_neg (by omega)])))
                  · first
                    | (exfalso; omega)
                    | (
                      refine zr_iconst dX7_why_76 (rfl : 76 + 1 = 77) ?_
                      refine zr_goto (tgt := 81) dX7_why_77 (by decide) ?_
                      refine zr_iret dX7_why_81 rfl (by first | exact jb_nar | rfl) ?_ rfl rfl rfl
                      (repeat (first | rw [if_pos (by omega)] | rw [if_neg (by omega)])))))
          · first
            | (exfalso; omega)
            | (
              refine zr_iconst dX7_why_54 (rfl : 54 + 1 = 55) ?_
              refine zr_iret dX7_why_55 rfl (by first | exact jb_nar | rfl) ?_ rfl rfl rfl
              (repeat (first | rw [if_pos (by omega)] | rw [if_neg (by omega)]))))
      · first
        | (exfalso; omega)
        | (
          refine zr_iconst dX7_why_34 (rfl : 34 + 1 = 35) ?_
          refine zr_iret dX7_why_35 rfl (by first | exact jb_nar | rfl) ?_ rfl rfl rfl
          (repeat (first | rw [if_pos (by omega)] | rw [if_neg (by omega)]))))
theorem jgw_set {W : Int → Int} {c g : Int} (hW : ∀ z, 0 ≤ W z ∧ W z < 64) (hc : 0 ≤ c ∧ c < 6) (hg : 0 ≤ g ∧ g < 4) : jset (jgw W c) g = jgw (jup W g (jset (W g) c)) c := by
  have hb : ∀ z, jbit (jup W g (jset (W g) c) z) c = if z = g then 1 else jbit (W z) c := by
    intro z
    by_cases e : z = g
    · rw [jup_at e, jbit_jset (hW g) hc hc, if_pos rfl, if_pos e]
    · rw [jup_ne e, if_neg e]
  have hr0 := jbit_r (W 0) c
  have hr1 := jbit_r (W 1) c
  have hr2 := jbit_r (W 2) c
  have hr3 := jbit_r (W 3) c
  have hgb := jgw_bit (W := W) (c := c) hg
  have e2 : jset (jgw W c) g = jgw W c + (1 - jbit (W g) c) * 2 ^ g.toNat := by
    unfold jset
    rw [hgb]
  rw [e2]
  unfold jgw
  rw [hb 0, hb 1, hb 2, hb 3]
  rcases (by omega : g = 0 ∨ g = 1 ∨ g = 2 ∨ g = 3) with e | e | e | e
  · subst e
    simp only [Int.reduceEq, if_true, if_false]
    show _ + (1 - jbit (W 0) c) * 1 = _
    omega
  · subst e
    simp only [Int.reduceEq, if_true, if_false]
    show _ + (1 - jbit (W 1) c) * 2 = _
    omega
  · subst e
    simp only [Int.reduceEq, if_true, if_false]
    show _ + (1 - jbit (W 2) c) * 4 = _
    omega
  · subst e
    simp only [Int.reduceEq, if_true, if_false]
    show _ + (1 - jbit (W 3) c) * 8 = _
    omega
theorem jgw_oth {W : Int → Int} {c c2 g : Int} (hW : ∀ z, 0 ≤ W z ∧ W z < 64) (hc : 0 ≤ c ∧ c < 6) (hc2 : 0 ≤ c2 ∧ c2 < 6) (hne : c2 ≠ c) : jgw (jup W g (jset (W g) c)) c2 = jgw W c2 := by
  have hb : ∀ z, jbit (jup W g (jset (W g) c) z) c2 = jbit (W z) c2 := by
    intro z
    by_cases e : z = g
    · rw [jup_at e, jbit_jset (hW g) hc hc2, if_neg hne, e]
    · rw [jup_ne e]
  unfold jgw
  rw [hb, hb, hb, hb]
end WY

