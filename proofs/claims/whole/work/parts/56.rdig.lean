/-! the reference's digest, loop by loop -/
section DG
variable {Γ : zΓ} {d : Nat} {S : Int → Int} {st : Int} {ik : Int → Int} {th : Int} {tx : Int → Int} {ty : Int} {w : zW} {B : zB} {Q : zQ} {μ : zMu} {x : Int64} {o4 : Option Value}
theorem jfa_eq (ok : jok B) (lk : jlk B) {c : Int} (hc : 0 ≤ c ∧ c < 6) (k : Int) : jfa B c k = (if jcs (B 0) c = 15 then jlc B c else -1) := by
  unfold jfa
  by_cases hw : jcs (B 0) c = 15
  · rw [if_pos hw, if_pos hw]
    split
    · exact jfb_eq ok lk hc hw
    · rfl
  · rw [if_neg hw, if_neg hw]
theorem dg_1 (h : mr S 0 B) (ok : jok B) (lk : jlk B) (k : ∀ o3, zRun Γ md_X7_digest (d + 8) none 36 [some (.ref 167), some (.long (jhs (jct B st) 15 x)), none, o3, o4] [] μ (mw S st ik th tx ty w) Q) : zRun Γ md_X7_digest (d + 8) none 11 [some (.ref 167), some (.long x), none, some (.int (jI 0)), o4] [] μ (mw S st ik th tx ty w) Q := by
  refine zfor1 0 15 (fun i y => y = jhs (jct B st) i.toNat x) (fun i y => [some (.ref 167), some (.long y), none, some (.int (jI i)), o4]) (fun _ _ => (mw S st ik th tx ty w)) x rfl ?_ ?_
  · intro i y i0 i1 hy hk
    refine zr_iload_n dX7_digest_11 (rfl : 11 + 1 = 12) rfl ?_
    refine zr_bipush dX7_digest_12 (rfl : 12 + 2 = 14) (by decide) ?_
    refine zr_icmp_ge (tgt := 36) dX7_digest_14 (by decide) (rfl : 14 + 3 = 17) (jI_le (by first | omega | (simp only [bset, reduceIte, Nat.reduceEqDiff]; omega)) (by first | omega | (simp only [bset, reduceIte, Nat.reduceEqDiff]; omega)) (by first | omega | (simp only [bset, reduceIte, Nat.reduceEqDiff]; omega)) (by first | omega | (simp only [bset, reduceIte, Nat.reduceEqDiff]; omega))) (fun h14 => ?_) (fun h14 => ?_)
    · exfalso; omega
    · refine zr_ldc2 dX7_digest_17 (rfl : 17 + 3 = 20) k_X7_196 ?_
      refine zr_lload_n dX7_digest_20 (rfl : 20 + 1 = 21) rfl ?_
      refine zr_lmul dX7_digest_21 (rfl : 21 + 1 = 22) ?_
      refine zr_aload_n dX7_digest_22 (rfl : 22 + 1 = 23) rfl ?_
      refine zr_iload_n dX7_digest_23 (rfl : 23 + 1 = 24) rfl ?_
      refine zr_fnV dX7_digest_24 (rfl : 24 + 3 = 27) l_X7_165 (m_counted i ⟨i0, by omega⟩ h ok lk) (by first | assumption | exact mw_167 | exact mw_168 | exact mw_169 | exact mw_170 | exact bk_0 | exact bk_1 | exact bk_2 | exact bk_3 | exact bk_4 | exact bk_5 | exact bk_6 | exact bk_7 | exact bk_8 | exact bk_9 | exact bk_10 | exact bk_11 | exact bk_12 | exact bk_13 | exact bk_14 | exact bk_15 | exact bk_16 | exact zup_self | exact (zup_ne (by first | assumption | omega)).trans (by first | assumption | exact zup_self) | exact (zup_ne (by first | assumption | omega)).trans ((zup_ne (by first | assumption | omega)).trans (by first | assumption | exact zup_self)) | exact (bk_out (by first | omega | (simp only [bset, reduceIte, Nat.reduceEqDiff]; omega))).trans (by first | exact bk_0 | exact bk_1 | exact bk_2 | exact bk_3 | exact bk_4 | exact bk_5 | exact bk_6 | exact bk_7 | exact bk_8 | exact bk_9 | exact bk_10 | exact bk_11 | exact bk_12 | exact bk_13 | exact bk_14 | exact bk_15 | exact bk_16 | exact cr_5 | exact cr_23 | exact cr_24 | exact cr_25 | exact cr_26 | exact cr_27 | exact cr_28 | exact cr_29 | exact cr_30 | assumption)) rfl rfl rfl (Nat.le_of_ble_eq_true rfl) ?_
      refine zr_i2l dX7_digest_27 (rfl : 27 + 1 = 28) ?_
      refine zr_ladd dX7_digest_28 (rfl : 28 + 1 = 29) ?_
      refine zr_lstore_n (lv' := [_, _, _, _, _]) dX7_digest_29 (rfl : 29 + 1 = 30) (Nat.le_of_ble_eq_true rfl) rfl ?_
      refine zr_iinc (lv' := [_, _, _, _, _]) dX7_digest_30 (rfl : 30 + 3 = 33) (Nat.le_of_ble_eq_true rfl) rfl (by first | exact jI_add _ _ | rfl) rfl ?_
      refine zr_goto (tgt := 11) dX7_digest_33 (by decide) ?_
      exact hk _ (by rw [jhs_next _ i0, hy])
  · intro y hy
    rw [show y = jhs (jct B st) 15 x from hy]
    refine zr_iload_n dX7_digest_11 (rfl : 11 + 1 = 12) rfl ?_
    refine zr_bipush dX7_digest_12 (rfl : 12 + 2 = 14) (by decide) ?_
    refine zr_icmp_ge (tgt := 36) dX7_digest_14 (by decide) (rfl : 14 + 3 = 17) (jI_le (by first | omega | (simp only [bset, reduceIte, Nat.reduceEqDiff]; omega)) (by first | omega | (simp only [bset, reduceIte, Nat.reduceEqDiff]; omega)) (by first | omega | (simp only [bset, reduceIte, Nat.reduceEqDiff]; omega)) (by first | omega | (simp only [bset, reduceIte, Nat.reduceEqDiff]; omega))) (fun h14 => ?_) (fun h14 => ?_)
    · exact k _
    · exfalso; omega
theorem dg_2 (h : mr S 0 B) (k : ∀ o3, zRun Γ md_X7_digest (d + 8) none 63 [some (.ref 167), some (.long (jhs (B 23) 3 x)), none, o3, o4] [] μ (mw S st ik th tx ty w) Q) : zRun Γ md_X7_digest (d + 8) none 38 [some (.ref 167), some (.long x), none, some (.int (jI 0)), o4] [] μ (mw S st ik th tx ty w) Q := by
  refine zfor1 0 3 (fun i y => y = jhs (B 23) i.toNat x) (fun i y => [some (.ref 167), some (.long y), none, some (.int (jI i)), o4]) (fun _ _ => (mw S st ik th tx ty w)) x rfl ?_ ?_
  · intro i y i0 i1 hy hk
    have hse := h.se0 i i0 (by omega)
    refine zr_iload_n dX7_digest_38 (rfl : 38 + 1 = 39) rfl ?_
    refine zr_iconst dX7_digest_39 (rfl : 39 + 1 = 40) ?_
    refine zr_icmp_ge (tgt := 63) dX7_digest_40 (by decide) (rfl : 40 + 3 = 43) (jI_le (by first | omega | (simp only [bset, reduceIte, Nat.reduceEqDiff]; omega)) (by first | omega | (simp only [bset, reduceIte, Nat.reduceEqDiff]; omega)) (by first | omega | (simp only [bset, reduceIte, Nat.reduceEqDiff]; omega)) (by first | omega | (simp only [bset, reduceIte, Nat.reduceEqDiff]; omega))) (fun h40 => ?_) (fun h40 => ?_)
    · exfalso; omega
    · refine zr_ldc2 dX7_digest_43 (rfl : 43 + 3 = 46) k_X7_196 ?_
      refine zr_lload_n dX7_digest_46 (rfl : 46 + 1 = 47) rfl ?_
      refine zr_lmul dX7_digest_47 (rfl : 47 + 1 = 48) ?_
      refine zr_aload_n dX7_digest_48 (rfl : 48 + 1 = 49) rfl ?_
      refine zr_getf dX7_digest_49 (rfl : 49 + 3 = 52) f_X7_7 (by first | assumption | exact mw_167 | exact mw_168 | exact mw_169 | exact mw_170 | exact bk_0 | exact bk_1 | exact bk_2 | exact bk_3 | exact bk_4 | exact bk_5 | exact bk_6 | exact bk_7 | exact bk_8 | exact bk_9 | exact bk_10 | exact bk_11 | exact bk_12 | exact bk_13 | exact bk_14 | exact bk_15 | exact bk_16 | exact zup_self | exact (zup_ne (by first | assumption | omega)).trans (by first | assumption | exact zup_self) | exact (zup_ne (by first | assumption | omega)).trans ((zup_ne (by first | assumption | omega)).trans (by first | assumption | exact zup_self)) | exact (bk_out (by first | omega | (simp only [bset, reduceIte, Nat.reduceEqDiff]; omega))).trans (by first | exact bk_0 | exact bk_1 | exact bk_2 | exact bk_3 | exact bk_4 | exact bk_5 | exact bk_6 | exact bk_7 | exact bk_8 | exact bk_9 | exact bk_10 | exact bk_11 | exact bk_12 | exact bk_13 | exact bk_14 | exact bk_15 | exact bk_16 | exact cr_5 | exact cr_23 | exact cr_24 | exact cr_25 | exact cr_26 | exact cr_27 | exact cr_28 | exact cr_29 | exact cr_30 | assumption)) rfl ?_
      refine zr_iload_n dX7_digest_52 (rfl : 52 + 1 = 53) rfl ?_
      refine zr_iald dX7_digest_53 (rfl : 53 + 1 = 54) (by first | assumption | exact mw_167 | exact mw_168 | exact mw_169 | exact mw_170 | exact bk_0 | exact bk_1 | exact bk_2 | exact bk_3 | exact bk_4 | exact bk_5 | exact bk_6 | exact bk_7 | exact bk_8 | exact bk_9 | exact bk_10 | exact bk_11 | exact bk_12 | exact bk_13 | exact bk_14 | exact bk_15 | exact bk_16 | exact zup_self | exact (zup_ne (by first | assumption | omega)).trans (by first | assumption | exact zup_self) | exact (zup_ne (by first | assumption | omega)).trans ((zup_ne (by first | assumption | omega)).trans (by first | assumption | exact zup_self)) | exact (bk_out (by first | omega | (simp only [bset, reduceIte, Nat.reduceEqDiff]; omega))).trans (by first | exact bk_0 | exact bk_1 | exact bk_2 | exact bk_3 | exact bk_4 | exact bk_5 | exact bk_6 | exact bk_7 | exact bk_8 | exact bk_9 | exact bk_10 | exact bk_11 | exact bk_12 | exact bk_13 | exact bk_14 | exact bk_15 | exact bk_16 | exact cr_5 | exact cr_23 | exact cr_24 | exact cr_25 | exact cr_26 | exact cr_27 | exact cr_28 | exact cr_29 | exact cr_30 | assumption)) (by decide) (by first | omega | (simp only [bset, reduceIte, Nat.reduceEqDiff]; omega)) (by first | omega | (simp only [bset, reduceIte, Nat.reduceEqDiff]; omega)) ?_
      rw [hse]
      refine zr_i2l dX7_digest_54 (rfl : 54 + 1 = 55) ?_
      refine zr_ladd dX7_digest_55 (rfl : 55 + 1 = 56) ?_
      refine zr_lstore_n (lv' := [_, _, _, _, _]) dX7_digest_56 (rfl : 56 + 1 = 57) (Nat.le_of_ble_eq_true rfl) rfl ?_
      refine zr_iinc (lv' := [_, _, _, _, _]) dX7_digest_57 (rfl : 57 + 3 = 60) (Nat.le_of_ble_eq_true rfl) rfl (by first | exact jI_add _ _ | rfl) rfl ?_
      refine zr_goto (tgt := 38) dX7_digest_60 (by decide) ?_
      exact hk _ (by rw [jhs_next _ i0, hy])
  · intro y hy
    rw [show y = jhs (B 23) 3 x from hy]
    refine zr_iload_n dX7_digest_38 (rfl : 38 + 1 = 39) rfl ?_
    refine zr_iconst dX7_digest_39 (rfl : 39 + 1 = 40) ?_
    refine zr_icmp_ge (tgt := 63) dX7_digest_40 (by decide) (rfl : 40 + 3 = 43) (jI_le (by first | omega | (simp only [bset, reduceIte, Nat.reduceEqDiff]; omega)) (by first | omega | (simp only [bset, reduceIte, Nat.reduceEqDiff]; omega)) (by first | omega | (simp only [bset, reduceIte, Nat.reduceEqDiff]; omega)) (by first | omega | (simp only [bset, reduceIte, Nat.reduceEqDiff]; omega))) (fun h40 => ?_) (fun h40 => ?_)
    · exact k _
    · exfalso; omega
theorem dg_3 (h : mr S 0 B) (ok : jok B) (lk : jlk B) (k : ∀ o3, zRun Γ md_X7_digest (d + 8) none 104 [some (.ref 167), some (.long (jhs (B 0) 162 x)), none, o3, o4] [] μ (mw S st ik th tx ty w) Q) : zRun Γ md_X7_digest (d + 8) none 65 [some (.ref 167), some (.long x), none, some (.int (jI 0)), o4] [] μ (mw S st ik th tx ty w) Q := by
  refine zfor1 0 162 (fun i y => y = jhs (B 0) i.toNat x) (fun i y => [some (.ref 167), some (.long y), none, some (.int (jI i)), o4]) (fun _ _ => (mw S st ik th tx ty w)) x rfl ?_ ?_
  · intro i y i0 i1 hy hk
    have i1 : i < 162 := by omega
    have hna := m_numberAt (Γ := Γ) (d := d + 6) (st := st) (ik := ik) (th := th) (tx := tx) (ty := ty) (w := w) (i / 27) (i / 9 % 3) (i % 9) (by omega) (by omega) (by omega) h ok lk
    rw [show (i / 27 * 3 + i / 9 % 3) * 9 + i % 9 = i by omega] at hna
    refine zr_iload_n dX7_digest_65 (rfl : 65 + 1 = 66) rfl ?_
    refine zr_sipush dX7_digest_66 (rfl : 66 + 3 = 69) (by decide) ?_
    refine zr_icmp_ge (tgt := 104) dX7_digest_69 (by decide) (rfl : 69 + 3 = 72) (jI_le (by first | omega | (simp only [bset, reduceIte, Nat.reduceEqDiff]; omega)) (by first | omega | (simp only [bset, reduceIte, Nat.reduceEqDiff]; omega)) (by first | omega | (simp only [bset, reduceIte, Nat.reduceEqDiff]; omega)) (by first | omega | (simp only [bset, reduceIte, Nat.reduceEqDiff]; omega))) (fun h69 => ?_) (fun h69 => ?_)
    · exfalso; omega
    · refine zr_ldc2 dX7_digest_72 (rfl : 72 + 3 = 75) k_X7_196 ?_
      refine zr_lload_n dX7_digest_75 (rfl : 75 + 1 = 76) rfl ?_
      refine zr_lmul dX7_digest_76 (rfl : 76 + 1 = 77) ?_
      refine zr_aload_n dX7_digest_77 (rfl : 77 + 1 = 78) rfl ?_
      refine zr_iload_n dX7_digest_78 (rfl : 78 + 1 = 79) rfl ?_
      refine zr_bipush dX7_digest_79 (rfl : 79 + 2 = 81) (by decide) ?_
      refine zr_idiv dX7_digest_81 (rfl : 81 + 1 = 82) (fun q => absurd ((jI_z (by first | omega | (simp only [bset, reduceIte, Nat.reduceEqDiff]; omega)) (by first | omega | (simp only [bset, reduceIte, Nat.reduceEqDiff]; omega))).mp q) (by first | omega | (simp only [bset, reduceIte, Nat.reduceEqDiff]; omega))) (jI_div (by first | omega | (simp only [bset, reduceIte, Nat.reduceEqDiff]; omega)) (by first | omega | (simp only [bset, reduceIte, Nat.reduceEqDiff]; omega)) (by first | omega | (simp only [bset, reduceIte, Nat.reduceEqDiff]; omega)) (by first | omega | (simp only [bset, reduceIte, Nat.reduceEqDiff]; omega))) ?_
      refine zr_iload_n dX7_digest_82 (rfl : 82 + 1 = 83) rfl ?_
      refine zr_bipush dX7_digest_83 (rfl : 83 + 2 = 85) (by decide) ?_
      refine zr_idiv dX7_digest_85 (rfl : 85 + 1 = 86) (fun q => absurd ((jI_z (by first | omega | (simp only [bset, reduceIte, Nat.reduceEqDiff]; omega)) (by first | omega | (simp only [bset, reduceIte, Nat.reduceEqDiff]; omega))).mp q) (by first | omega | (simp only [bset, reduceIte, Nat.reduceEqDiff]; omega))) (jI_div (by first | omega | (simp only [bset, reduceIte, Nat.reduceEqDiff]; omega)) (by first | omega | (simp only [bset, reduceIte, Nat.reduceEqDiff]; omega)) (by first | omega | (simp only [bset, reduceIte, Nat.reduceEqDiff]; omega)) (by first | omega | (simp only [bset, reduceIte, Nat.reduceEqDiff]; omega))) ?_
      refine zr_iconst dX7_digest_86 (rfl : 86 + 1 = 87) ?_
      refine zr_irem dX7_digest_87 (rfl : 87 + 1 = 88) (fun q => absurd ((jI_z (by first | omega | (simp only [bset, reduceIte, Nat.reduceEqDiff]; omega)) (by first | omega | (simp only [bset, reduceIte, Nat.reduceEqDiff]; omega))).mp q) (by first | omega | (simp only [bset, reduceIte, Nat.reduceEqDiff]; omega))) (jI_rem (by first | omega | (simp only [bset, reduceIte, Nat.reduceEqDiff]; omega)) (by first | omega | (simp only [bset, reduceIte, Nat.reduceEqDiff]; omega)) (by first | omega | (simp only [bset, reduceIte, Nat.reduceEqDiff]; omega)) (by first | omega | (simp only [bset, reduceIte, Nat.reduceEqDiff]; omega))) ?_
      refine zr_iload_n dX7_digest_88 (rfl : 88 + 1 = 89) rfl ?_
      refine zr_bipush dX7_digest_89 (rfl : 89 + 2 = 91) (by decide) ?_
      refine zr_irem dX7_digest_91 (rfl : 91 + 1 = 92) (fun q => absurd ((jI_z (by first | omega | (simp only [bset, reduceIte, Nat.reduceEqDiff]; omega)) (by first | omega | (simp only [bset, reduceIte, Nat.reduceEqDiff]; omega))).mp q) (by first | omega | (simp only [bset, reduceIte, Nat.reduceEqDiff]; omega))) (jI_rem (by first | omega | (simp only [bset, reduceIte, Nat.reduceEqDiff]; omega)) (by first | omega | (simp only [bset, reduceIte, Nat.reduceEqDiff]; omega)) (by first | omega | (simp only [bset, reduceIte, Nat.reduceEqDiff]; omega)) (by first | omega | (simp only [bset, reduceIte, Nat.reduceEqDiff]; omega))) ?_
      refine zr_fnV dX7_digest_92 (rfl : 92 + 3 = 95) l_X7_44 (hna) (by first | assumption | exact mw_167 | exact mw_168 | exact mw_169 | exact mw_170 | exact bk_0 | exact bk_1 | exact bk_2 | exact bk_3 | exact bk_4 | exact bk_5 | exact bk_6 | exact bk_7 | exact bk_8 | exact bk_9 | exact bk_10 | exact bk_11 | exact bk_12 | exact bk_13 | exact bk_14 | exact bk_15 | exact bk_16 | exact zup_self | exact (zup_ne (by first | assumption | omega)).trans (by first | assumption | exact zup_self) | exact (zup_ne (by first | assumption | omega)).trans ((zup_ne (by first | assumption | omega)).trans (by first | assumption | exact zup_self)) | exact (bk_out (by first | omega | (simp only [bset, reduceIte, Nat.reduceEqDiff]; omega))).trans (by first | exact bk_0 | exact bk_1 | exact bk_2 | exact bk_3 | exact bk_4 | exact bk_5 | exact bk_6 | exact bk_7 | exact bk_8 | exact bk_9 | exact bk_10 | exact bk_11 | exact bk_12 | exact bk_13 | exact bk_14 | exact bk_15 | exact bk_16 | exact cr_5 | exact cr_23 | exact cr_24 | exact cr_25 | exact cr_26 | exact cr_27 | exact cr_28 | exact cr_29 | exact cr_30 | assumption)) rfl rfl rfl (Nat.le_of_ble_eq_true rfl) ?_
      refine zr_i2l dX7_digest_95 (rfl : 95 + 1 = 96) ?_
      refine zr_ladd dX7_digest_96 (rfl : 96 + 1 = 97) ?_
      refine zr_lstore_n (lv' := [_, _, _, _, _]) dX7_digest_97 (rfl : 97 + 1 = 98) (Nat.le_of_ble_eq_true rfl) rfl ?_
      refine zr_iinc (lv' := [_, _, _, _, _]) dX7_digest_98 (rfl : 98 + 3 = 101) (Nat.le_of_ble_eq_true rfl) rfl (by first | exact jI_add _ _ | rfl) rfl ?_
      refine zr_goto (tgt := 65) dX7_digest_101 (by decide) ?_
      exact hk _ (by rw [jhs_next _ i0, hy])
  · intro y hy
    rw [show y = jhs (B 0) 162 x from hy]
    refine zr_iload_n dX7_digest_65 (rfl : 65 + 1 = 66) rfl ?_
    refine zr_sipush dX7_digest_66 (rfl : 66 + 3 = 69) (by decide) ?_
    refine zr_icmp_ge (tgt := 104) dX7_digest_69 (by decide) (rfl : 69 + 3 = 72) (jI_le (by first | omega | (simp only [bset, reduceIte, Nat.reduceEqDiff]; omega)) (by first | omega | (simp only [bset, reduceIte, Nat.reduceEqDiff]; omega)) (by first | omega | (simp only [bset, reduceIte, Nat.reduceEqDiff]; omega)) (by first | omega | (simp only [bset, reduceIte, Nat.reduceEqDiff]; omega))) (fun h69 => ?_) (fun h69 => ?_)
    · exact k _
    · exfalso; omega
/-- a card's part, but for when it is full -/
theorem dg_4a (c : Int) (hc : 0 ≤ c ∧ c < 6) (h : mr S 0 B) (ok : jok B) (lk : jlk B) (k : ∀ o4, zRun Γ md_X7_digest (d + 8) none 205 [some (.ref 167), some (.long (jhs (jh5 B c) 12 (jhs (jcd B c) 9 x))), none, some (.int (jI c)), o4] [] μ (mw S st ik th tx ty w) Q) : zRun Γ md_X7_digest (d + 8) none 112 [some (.ref 167), some (.long x), none, some (.int (jI c)), o4] [] μ (mw S st ik th tx ty w) Q := by
  refine zr_iconst dX7_digest_112 (rfl : 112 + 1 = 113) ?_
  refine zr_istore (lv' := [_, _, _, _, _]) dX7_digest_113 (rfl : 113 + 2 = 115) (Nat.le_of_ble_eq_true rfl) rfl ?_
  refine zfor1 0 9 (fun i y => y = jhs (jcd B c) i.toNat x) (fun i y => [some (.ref 167), some (.long y), none, some (.int (jI c)), some (.int (jI i))]) (fun _ _ => (mw S st ik th tx ty w)) x rfl ?_ ?_
  · intro i y i0 i1 hy hk
    refine zr_iload dX7_digest_115 (rfl : 115 + 2 = 117) rfl ?_
    refine zr_bipush dX7_digest_117 (rfl : 117 + 2 = 119) (by decide) ?_
    refine zr_icmp_ge (tgt := 143) dX7_digest_119 (by decide) (rfl : 119 + 3 = 122) (jI_le (by first | omega | (simp only [bset, reduceIte, Nat.reduceEqDiff]; omega)) (by first | omega | (simp only [bset, reduceIte, Nat.reduceEqDiff]; omega)) (by first | omega | (simp only [bset, reduceIte, Nat.reduceEqDiff]; omega)) (by first | omega | (simp only [bset, reduceIte, Nat.reduceEqDiff]; omega))) (fun h119 => ?_) (fun h119 => ?_)
    · exfalso; omega
    · refine zr_ldc2 dX7_digest_122 (rfl : 122 + 3 = 125) k_X7_196 ?_
      refine zr_lload_n dX7_digest_125 (rfl : 125 + 1 = 126) rfl ?_
      refine zr_lmul dX7_digest_126 (rfl : 126 + 1 = 127) ?_
      refine zr_aload_n dX7_digest_127 (rfl : 127 + 1 = 128) rfl ?_
      refine zr_iload_n dX7_digest_128 (rfl : 128 + 1 = 129) rfl ?_
      refine zr_iload dX7_digest_129 (rfl : 129 + 2 = 131) rfl ?_
      refine zr_fnV dX7_digest_131 (rfl : 131 + 3 = 134) l_X7_149 (m_cards c i hc ⟨i0, by omega⟩ h ok lk) (by first | assumption | exact mw_167 | exact mw_168 | exact mw_169 | exact mw_170 | exact bk_0 | exact bk_1 | exact bk_2 | exact bk_3 | exact bk_4 | exact bk_5 | exact bk_6 | exact bk_7 | exact bk_8 | exact bk_9 | exact bk_10 | exact bk_11 | exact bk_12 | exact bk_13 | exact bk_14 | exact bk_15 | exact bk_16 | exact zup_self | exact (zup_ne (by first | assumption | omega)).trans (by first | assumption | exact zup_self) | exact (zup_ne (by first | assumption | omega)).trans ((zup_ne (by first | assumption | omega)).trans (by first | assumption | exact zup_self)) | exact (bk_out (by first | omega | (simp only [bset, reduceIte, Nat.reduceEqDiff]; omega))).trans (by first | exact bk_0 | exact bk_1 | exact bk_2 | exact bk_3 | exact bk_4 | exact bk_5 | exact bk_6 | exact bk_7 | exact bk_8 | exact bk_9 | exact bk_10 | exact bk_11 | exact bk_12 | exact bk_13 | exact bk_14 | exact bk_15 | exact bk_16 | exact cr_5 | exact cr_23 | exact cr_24 | exact cr_25 | exact cr_26 | exact cr_27 | exact cr_28 | exact cr_29 | exact cr_30 | assumption)) rfl rfl rfl (Nat.le_of_ble_eq_true rfl) ?_
      refine zr_i2l dX7_digest_134 (rfl : 134 + 1 = 135) ?_
      refine zr_ladd dX7_digest_135 (rfl : 135 + 1 = 136) ?_
      refine zr_lstore_n (lv' := [_, _, _, _, _]) dX7_digest_136 (rfl : 136 + 1 = 137) (Nat.le_of_ble_eq_true rfl) rfl ?_
      refine zr_iinc (lv' := [_, _, _, _, _]) dX7_digest_137 (rfl : 137 + 3 = 140) (Nat.le_of_ble_eq_true rfl) rfl (by first | exact jI_add _ _ | rfl) rfl ?_
      refine zr_goto (tgt := 115) dX7_digest_140 (by decide) ?_
      exact hk _ (by rw [jhs_next _ i0, hy])
  · intro y hy
    rw [show y = jhs (jcd B c) 9 x from hy]
    refine zr_iload dX7_digest_115 (rfl : 115 + 2 = 117) rfl ?_
    refine zr_bipush dX7_digest_117 (rfl : 117 + 2 = 119) (by decide) ?_
    refine zr_icmp_ge (tgt := 143) dX7_digest_119 (by decide) (rfl : 119 + 3 = 122) (jI_le (by first | omega | (simp only [bset, reduceIte, Nat.reduceEqDiff]; omega)) (by first | omega | (simp only [bset, reduceIte, Nat.reduceEqDiff]; omega)) (by first | omega | (simp only [bset, reduceIte, Nat.reduceEqDiff]; omega)) (by first | omega | (simp only [bset, reduceIte, Nat.reduceEqDiff]; omega))) (fun h119 => ?_) (fun h119 => ?_)
    · refine zr_iconst dX7_digest_143 (rfl : 143 + 1 = 144) ?_
      refine zr_istore (lv' := [_, _, _, _, _]) dX7_digest_144 (rfl : 144 + 2 = 146) (Nat.le_of_ble_eq_true rfl) rfl ?_
      refine zfor1 0 4 (fun g y => y = jhs (jh5 B c) (3 * g).toNat (jhs (jcd B c) 9 x)) (fun g y => [some (.ref 167), some (.long y), none, some (.int (jI c)), some (.int (jI g))]) (fun _ _ => (mw S st ik th tx ty w)) _ rfl ?_ ?_
      · intro g y g0 g1 hy hk
        refine zr_iload dX7_digest_146 (rfl : 146 + 2 = 148) rfl ?_
        refine zr_iconst dX7_digest_148 (rfl : 148 + 1 = 149) ?_
        refine zr_icmp_ge (tgt := 205) dX7_digest_149 (by decide) (rfl : 149 + 3 = 152) (jI_le (by first | omega | (simp only [bset, reduceIte, Nat.reduceEqDiff]; omega)) (by first | omega | (simp only [bset, reduceIte, Nat.reduceEqDiff]; omega)) (by first | omega | (simp only [bset, reduceIte, Nat.reduceEqDiff]; omega)) (by first | omega | (simp only [bset, reduceIte, Nat.reduceEqDiff]; omega))) (fun h149 => ?_) (fun h149 => ?_)
        · exfalso; omega
        · have e1 := jhs_next (jh5 B c) (i := 3 * g) (by omega) (jhs (jcd B c) 9 x)
          have e2 := jhs_next (jh5 B c) (i := 3 * g + 1) (by omega) (jhs (jcd B c) 9 x)
          have e3 := jhs_next (jh5 B c) (i := 3 * g + 1 + 1) (by omega) (jhs (jcd B c) 9 x)
          have f1 : jh5 B c (3 * g) = jic B c g := by
            unfold jh5
            rw [if_pos (by omega), show 3 * g / 3 = g by omega]
          have f2 : jh5 B c (3 * g + 1) = jms B c g 0 := by
            unfold jh5
            rw [if_neg (by omega), show (3 * g + 1) / 3 = g by omega, show (3 * g + 1) % 3 - 1 = 0 by omega]
          have f3 : jh5 B c (3 * g + 1 + 1) = jms B c g 1 := by
            unfold jh5
            rw [if_neg (by omega), show (3 * g + 1 + 1) / 3 = g by omega, show (3 * g + 1 + 1) % 3 - 1 = 1 by omega]
          refine zr_ldc2 dX7_digest_152 (rfl : 152 + 3 = 155) k_X7_196 ?_
          refine zr_lload_n dX7_digest_155 (rfl : 155 + 1 = 156) rfl ?_
          refine zr_lmul dX7_digest_156 (rfl : 156 + 1 = 157) ?_
          refine zr_aload_n dX7_digest_157 (rfl : 157 + 1 = 158) rfl ?_
          refine zr_iload_n dX7_digest_158 (rfl : 158 + 1 = 159) rfl ?_
          refine zr_iload dX7_digest_159 (rfl : 159 + 2 = 161) rfl ?_
          refine zr_fnV dX7_digest_161 (rfl : 161 + 3 = 164) l_X7_168 (m_claimed c g hc ⟨g0, by omega⟩ h ok lk) (by first | assumption | exact mw_167 | exact mw_168 | exact mw_169 | exact mw_170 | exact bk_0 | exact bk_1 | exact bk_2 | exact bk_3 | exact bk_4 | exact bk_5 | exact bk_6 | exact bk_7 | exact bk_8 | exact bk_9 | exact bk_10 | exact bk_11 | exact bk_12 | exact bk_13 | exact bk_14 | exact bk_15 | exact bk_16 | exact zup_self | exact (zup_ne (by first | assumption | omega)).trans (by first | assumption | exact zup_self) | exact (zup_ne (by first | assumption | omega)).trans ((zup_ne (by first | assumption | omega)).trans (by first | assumption | exact zup_self)) | exact (bk_out (by first | omega | (simp only [bset, reduceIte, Nat.reduceEqDiff]; omega))).trans (by first | exact bk_0 | exact bk_1 | exact bk_2 | exact bk_3 | exact bk_4 | exact bk_5 | exact bk_6 | exact bk_7 | exact bk_8 | exact bk_9 | exact bk_10 | exact bk_11 | exact bk_12 | exact bk_13 | exact bk_14 | exact bk_15 | exact bk_16 | exact cr_5 | exact cr_23 | exact cr_24 | exact cr_25 | exact cr_26 | exact cr_27 | exact cr_28 | exact cr_29 | exact cr_30 | assumption)) rfl rfl rfl (Nat.le_of_ble_eq_true rfl) ?_
          refine zr_i2l dX7_digest_164 (rfl : 164 + 1 = 165) ?_
          refine zr_ladd dX7_digest_165 (rfl : 165 + 1 = 166) ?_
          refine zr_lstore_n (lv' := [_, _, _, _, _]) dX7_digest_166 (rfl : 166 + 1 = 167) (Nat.le_of_ble_eq_true rfl) rfl ?_
          refine zr_ldc2 dX7_digest_167 (rfl : 167 + 3 = 170) k_X7_196 ?_
          refine zr_lload_n dX7_digest_170 (rfl : 170 + 1 = 171) rfl ?_
          refine zr_lmul dX7_digest_171 (rfl : 171 + 1 = 172) ?_
          refine zr_aload_n dX7_digest_172 (rfl : 172 + 1 = 173) rfl ?_
          refine zr_iload_n dX7_digest_173 (rfl : 173 + 1 = 174) rfl ?_
          refine zr_iload dX7_digest_174 (rfl : 174 + 2 = 176) rfl ?_
          refine zr_iconst dX7_digest_176 (rfl : 176 + 1 = 177) ?_
          refine zr_fnV dX7_digest_177 (rfl : 177 + 3 = 180) l_X7_175 (m_misses c g 0 hc ⟨g0, by omega⟩ (by decide) h ok lk) (by first | assumption | exact mw_167 | exact mw_168 | exact mw_169 | exact mw_170 | exact bk_0 | exact bk_1 | exact bk_2 | exact bk_3 | exact bk_4 | exact bk_5 | exact bk_6 | exact bk_7 | exact bk_8 | exact bk_9 | exact bk_10 | exact bk_11 | exact bk_12 | exact bk_13 | exact bk_14 | exact bk_15 | exact bk_16 | exact zup_self | exact (zup_ne (by first | assumption | omega)).trans (by first | assumption | exact zup_self) | exact (zup_ne (by first | assumption | omega)).trans ((zup_ne (by first | assumption | omega)).trans (by first | assumption | exact zup_self)) | exact (bk_out (by first | omega | (simp only [bset, reduceIte, Nat.reduceEqDiff]; omega))).trans (by first | exact bk_0 | exact bk_1 | exact bk_2 | exact bk_3 | exact bk_4 | exact bk_5 | exact bk_6 | exact bk_7 | exact bk_8 | exact bk_9 | exact bk_10 | exact bk_11 | exact bk_12 | exact bk_13 | exact bk_14 | exact bk_15 | exact bk_16 | exact cr_5 | exact cr_23 | exact cr_24 | exact cr_25 | exact cr_26 | exact cr_27 | exact cr_28 | exact cr_29 | exact cr_30 | assumption)) rfl rfl rfl (Nat.le_of_ble_eq_true rfl) ?_
          refine zr_i2l dX7_digest_180 (rfl : 180 + 1 = 181) ?_
          refine zr_ladd dX7_digest_181 (rfl : 181 + 1 = 182) ?_
          refine zr_lstore_n (lv' := [_, _, _, _, _]) dX7_digest_182 (rfl : 182 + 1 = 183) (Nat.le_of_ble_eq_true rfl) rfl ?_
          refine zr_ldc2 dX7_digest_183 (rfl : 183 + 3 = 186) k_X7_196 ?_
          refine zr_lload_n dX7_digest_186 (rfl : 186 + 1 = 187) rfl ?_
          refine zr_lmul dX7_digest_187 (rfl : 187 + 1 = 188) ?_
          refine zr_aload_n dX7_digest_188 (rfl : 188 + 1 = 189) rfl ?_
          refine zr_iload_n dX7_digest_189 (rfl : 189 + 1 = 190) rfl ?_
          refine zr_iload dX7_digest_190 (rfl : 190 + 2 = 192) rfl ?_
          refine zr_iconst dX7_digest_192 (rfl : 192 + 1 = 193) ?_
          refine zr_fnV dX7_digest_193 (rfl : 193 + 3 = 196) l_X7_175 (m_misses c g 1 hc ⟨g0, by omega⟩ (by decide) h ok lk) (by first | assumption | exact mw_167 | exact mw_168 | exact mw_169 | exact mw_170 | exact bk_0 | exact bk_1 | exact bk_2 | exact bk_3 | exact bk_4 | exact bk_5 | exact bk_6 | exact bk_7 | exact bk_8 | exact bk_9 | exact bk_10 | exact bk_11 | exact bk_12 | exact bk_13 | exact bk_14 | exact bk_15 | exact bk_16 | exact zup_self | exact (zup_ne (by first | assumption | omega)).trans (by first | assumption | exact zup_self) | exact (zup_ne (by first | assumption | omega)).trans ((zup_ne (by first | assumption | omega)).trans (by first | assumption | exact zup_self)) | exact (bk_out (by first | omega | (simp only [bset, reduceIte, Nat.reduceEqDiff]; omega))).trans (by first | exact bk_0 | exact bk_1 | exact bk_2 | exact bk_3 | exact bk_4 | exact bk_5 | exact bk_6 | exact bk_7 | exact bk_8 | exact bk_9 | exact bk_10 | exact bk_11 | exact bk_12 | exact bk_13 | exact bk_14 | exact bk_15 | exact bk_16 | exact cr_5 | exact cr_23 | exact cr_24 | exact cr_25 | exact cr_26 | exact cr_27 | exact cr_28 | exact cr_29 | exact cr_30 | assumption)) rfl rfl rfl (Nat.le_of_ble_eq_true rfl) ?_
          refine zr_i2l dX7_digest_196 (rfl : 196 + 1 = 197) ?_
          refine zr_ladd dX7_digest_197 (rfl : 197 + 1 = 198) ?_
          refine zr_lstore_n (lv' := [_, _, _, _, _]) dX7_digest_198 (rfl : 198 + 1 = 199) (Nat.le_of_ble_eq_true rfl) rfl ?_
          refine zr_iinc (lv' := [_, _, _, _, _]) dX7_digest_199 (rfl : 199 + 3 = 202) (Nat.le_of_ble_eq_true rfl) rfl (by first | exact jI_add _ _ | rfl) rfl ?_
          refine zr_goto (tgt := 146) dX7_digest_202 (by decide) ?_
          exact hk _ (by rw [show 3 * (g + 1) = 3 * g + 1 + 1 + 1 by omega, e3, e2, e1, f1, f2, f3, hy])
      · intro y hy
        rw [show y = jhs (jh5 B c) 12 (jhs (jcd B c) 9 x) from hy]
        refine zr_iload dX7_digest_146 (rfl : 146 + 2 = 148) rfl ?_
        refine zr_iconst dX7_digest_148 (rfl : 148 + 1 = 149) ?_
        refine zr_icmp_ge (tgt := 205) dX7_digest_149 (by decide) (rfl : 149 + 3 = 152) (jI_le (by first | omega | (simp only [bset, reduceIte, Nat.reduceEqDiff]; omega)) (by first | omega | (simp only [bset, reduceIte, Nat.reduceEqDiff]; omega)) (by first | omega | (simp only [bset, reduceIte, Nat.reduceEqDiff]; omega)) (by first | omega | (simp only [bset, reduceIte, Nat.reduceEqDiff]; omega))) (fun h149 => ?_) (fun h149 => ?_)
        · exact k _
        · exfalso; omega
    · exfalso; omega
theorem dg_4 (h : mr S 0 B) (ok : jok B) (lk : jlk B) (k : ∀ S' o3 o4, jagb 4446 S' S → zRun Γ md_X7_digest (d + 8) none 224 [some (.ref 167), some (.long (jhc B 6 x)), none, o3, o4] [] μ (mw S' st ik th tx ty w) Q) : zRun Γ md_X7_digest (d + 8) none 106 [some (.ref 167), some (.long x), none, some (.int (jI 0)), o4] [] μ (mw S st ik th tx ty w) Q := by
  refine zfor3 0 6 (fun c y (S1 : Int → Int) (_ : Option Value) => y = jhc B c.toNat x ∧ jagb 4446 S1 S) (fun c y _ o => [some (.ref 167), some (.long y), none, some (.int (jI c)), o]) (fun _ _ S1 _ => mw S1 st ik th tx ty w) x S o4 ⟨rfl, jagb.refl⟩ ?_ ?_
  · intro c y S1 o c0 c1 hI hk
    obtain ⟨hy, ag⟩ := hI
    have hc : 0 ≤ c ∧ c < 6 := ⟨c0, by omega⟩
    have hm1 := mr_tried h ag ok
    have hfu := m_full (Γ := Γ) (d := d + 4) (st := st) (ik := ik) (th := th) (tx := tx) (ty := ty) (w := w) c hc hm1 ok lk
    rw [← jfa_eq ok lk hc 0] at hfu
    refine zr_iload_n dX7_digest_106 (rfl : 106 + 1 = 107) rfl ?_
    refine zr_bipush dX7_digest_107 (rfl : 107 + 2 = 109) (by decide) ?_
    refine zr_icmp_ge (tgt := 224) dX7_digest_109 (by decide) (rfl : 109 + 3 = 112) (jI_le (by first | omega | (simp only [bset, reduceIte, Nat.reduceEqDiff]; omega)) (by first | omega | (simp only [bset, reduceIte, Nat.reduceEqDiff]; omega)) (by first | omega | (simp only [bset, reduceIte, Nat.reduceEqDiff]; omega)) (by first | omega | (simp only [bset, reduceIte, Nat.reduceEqDiff]; omega))) (fun h109 => ?_) (fun h109 => ?_)
    · exfalso; omega
    · refine dg_4a c hc hm1 ok lk (fun o => ?_)
      refine zr_ldc2 dX7_digest_205 (rfl : 205 + 3 = 208) k_X7_196 ?_
      refine zr_lload_n dX7_digest_208 (rfl : 208 + 1 = 209) rfl ?_
      refine zr_lmul dX7_digest_209 (rfl : 209 + 1 = 210) ?_
      refine zr_aload_n dX7_digest_210 (rfl : 210 + 1 = 211) rfl ?_
      refine zr_iload_n dX7_digest_211 (rfl : 211 + 1 = 212) rfl ?_
      refine zr_feV dX7_digest_212 (rfl : 212 + 3 = 215) l_X7_181 (hfu) (by first | assumption | exact mw_167 | exact mw_168 | exact mw_169 | exact mw_170 | exact bk_0 | exact bk_1 | exact bk_2 | exact bk_3 | exact bk_4 | exact bk_5 | exact bk_6 | exact bk_7 | exact bk_8 | exact bk_9 | exact bk_10 | exact bk_11 | exact bk_12 | exact bk_13 | exact bk_14 | exact bk_15 | exact bk_16 | exact zup_self | exact (zup_ne (by first | assumption | omega)).trans (by first | assumption | exact zup_self) | exact (zup_ne (by first | assumption | omega)).trans ((zup_ne (by first | assumption | omega)).trans (by first | assumption | exact zup_self)) | exact (bk_out (by first | omega | (simp only [bset, reduceIte, Nat.reduceEqDiff]; omega))).trans (by first | exact bk_0 | exact bk_1 | exact bk_2 | exact bk_3 | exact bk_4 | exact bk_5 | exact bk_6 | exact bk_7 | exact bk_8 | exact bk_9 | exact bk_10 | exact bk_11 | exact bk_12 | exact bk_13 | exact bk_14 | exact bk_15 | exact bk_16 | exact cr_5 | exact cr_23 | exact cr_24 | exact cr_25 | exact cr_26 | exact cr_27 | exact cr_28 | exact cr_29 | exact cr_30 | assumption)) rfl rfl rfl (Nat.le_of_ble_eq_true rfl) ?_
      rintro _ _ ⟨rfl, S212, hS212, rfl⟩
      refine zr_i2l dX7_digest_215 (rfl : 215 + 1 = 216) ?_
      refine zr_ladd dX7_digest_216 (rfl : 216 + 1 = 217) ?_
      refine zr_lstore_n (lv' := [_, _, _, _, _]) dX7_digest_217 (rfl : 217 + 1 = 218) (Nat.le_of_ble_eq_true rfl) rfl ?_
      refine zr_iinc (lv' := [_, _, _, _, _]) dX7_digest_218 (rfl : 218 + 3 = 221) (Nat.le_of_ble_eq_true rfl) rfl (by first | exact jI_add _ _ | rfl) rfl ?_
      refine zr_goto (tgt := 106) dX7_digest_221 (by decide) ?_
      refine hk _ _ _ ⟨?_, hS212.trans ag⟩
      rw [show (c + 1).toNat = c.toNat + 1 by omega]
      show _ = jhc1 B (c.toNat : Int) (jhc B c.toNat x)
      rw [← hy, show (c.toNat : Int) = c by omega]
      rfl
  · intro y S1 o hI
    obtain ⟨hy, ag⟩ := hI
    rw [show y = jhc B 6 x from hy]
    refine zr_iload_n dX7_digest_106 (rfl : 106 + 1 = 107) rfl ?_
    refine zr_bipush dX7_digest_107 (rfl : 107 + 2 = 109) (by decide) ?_
    refine zr_icmp_ge (tgt := 224) dX7_digest_109 (by decide) (rfl : 109 + 3 = 112) (jI_le (by first | omega | (simp only [bset, reduceIte, Nat.reduceEqDiff]; omega)) (by first | omega | (simp only [bset, reduceIte, Nat.reduceEqDiff]; omega)) (by first | omega | (simp only [bset, reduceIte, Nat.reduceEqDiff]; omega)) (by first | omega | (simp only [bset, reduceIte, Nat.reduceEqDiff]; omega))) (fun h109 => ?_) (fun h109 => ?_)
    · exact k _ _ _ ag
    · exfalso; omega
theorem dg_5 (h : mr S 0 B) (ok : jok B) (k : ∀ o3 o4, zRun Γ md_X7_digest (d + 8) none 268 [some (.ref 167), some (.long (jhs (jh1 B) 360 x)), none, o3, o4] [] μ (mw S st ik th tx ty w) Q) : zRun Γ md_X7_digest (d + 8) none 226 [some (.ref 167), some (.long x), none, some (.int (jI 1)), o4] [] μ (mw S st ik th tx ty w) Q := by
  refine zfor2 1 90 (fun n y _ => y = jhs (jh1 B) (4 * (n - 1)).toNat x) (fun n y o => [some (.ref 167), some (.long y), none, some (.int (jI n)), o]) (fun _ _ _ => (mw S st ik th tx ty w)) x o4 rfl ?_ ?_
  · intro n y o n0 n1 hy hk
    have n1 : n ≤ 90 := by omega
    refine zr_iload_n dX7_digest_226 (rfl : 226 + 1 = 227) rfl ?_
    refine zr_bipush dX7_digest_227 (rfl : 227 + 2 = 229) (by decide) ?_
    refine zr_icmp_gt (tgt := 268) dX7_digest_229 (by decide) (rfl : 229 + 3 = 232) (jI_lt (by first | omega | (simp only [bset, reduceIte, Nat.reduceEqDiff]; omega)) (by first | omega | (simp only [bset, reduceIte, Nat.reduceEqDiff]; omega)) (by first | omega | (simp only [bset, reduceIte, Nat.reduceEqDiff]; omega)) (by first | omega | (simp only [bset, reduceIte, Nat.reduceEqDiff]; omega))) (fun h229 => ?_) (fun h229 => ?_)
    · exfalso; omega
    · refine zr_iconst dX7_digest_232 (rfl : 232 + 1 = 233) ?_
      refine zr_istore (lv' := [_, _, _, _, _]) dX7_digest_233 (rfl : 233 + 2 = 235) (Nat.le_of_ble_eq_true rfl) rfl ?_
      refine zfor1 0 4 (fun c y => y = jhs (jh1 B) (4 * (n - 1) + c).toNat x) (fun c y => [some (.ref 167), some (.long y), none, some (.int (jI n)), some (.int (jI c))]) (fun _ _ => (mw S st ik th tx ty w)) y (by rw [Int.add_zero]; exact hy) ?_ ?_
      · intro c y c0 c1 hy hk2
        have f1 : jh1 B (4 * (n - 1) + c) = jno B n c := by
          unfold jh1
          rw [show (4 * (n - 1) + c) / 4 + 1 = n by omega, show (4 * (n - 1) + c) % 4 = c by omega]
        refine zr_iload dX7_digest_235 (rfl : 235 + 2 = 237) rfl ?_
        refine zr_iconst dX7_digest_237 (rfl : 237 + 1 = 238) ?_
        refine zr_icmp_ge (tgt := 262) dX7_digest_238 (by decide) (rfl : 238 + 3 = 241) (jI_le (by first | omega | (simp only [bset, reduceIte, Nat.reduceEqDiff]; omega)) (by first | omega | (simp only [bset, reduceIte, Nat.reduceEqDiff]; omega)) (by first | omega | (simp only [bset, reduceIte, Nat.reduceEqDiff]; omega)) (by first | omega | (simp only [bset, reduceIte, Nat.reduceEqDiff]; omega))) (fun h238 => ?_) (fun h238 => ?_)
        · exfalso; omega
        · refine zr_ldc2 dX7_digest_241 (rfl : 241 + 3 = 244) k_X7_196 ?_
          refine zr_lload_n dX7_digest_244 (rfl : 244 + 1 = 245) rfl ?_
          refine zr_lmul dX7_digest_245 (rfl : 245 + 1 = 246) ?_
          refine zr_aload_n dX7_digest_246 (rfl : 246 + 1 = 247) rfl ?_
          refine zr_iload_n dX7_digest_247 (rfl : 247 + 1 = 248) rfl ?_
          refine zr_iload dX7_digest_248 (rfl : 248 + 2 = 250) rfl ?_
          refine zr_fnV dX7_digest_250 (rfl : 250 + 3 = 253) l_X7_152 (m_numbers n c ⟨n0, n1⟩ ⟨c0, by omega⟩ h ok) (by first | assumption | exact mw_167 | exact mw_168 | exact mw_169 | exact mw_170 | exact bk_0 | exact bk_1 | exact bk_2 | exact bk_3 | exact bk_4 | exact bk_5 | exact bk_6 | exact bk_7 | exact bk_8 | exact bk_9 | exact bk_10 | exact bk_11 | exact bk_12 | exact bk_13 | exact bk_14 | exact bk_15 | exact bk_16 | exact zup_self | exact (zup_ne (by first | assumption | omega)).trans (by first | assumption | exact zup_self) | exact (zup_ne (by first | assumption | omega)).trans ((zup_ne (by first | assumption | omega)).trans (by first | assumption | exact zup_self)) | exact (bk_out (by first | omega | (simp only [bset, reduceIte, Nat.reduceEqDiff]; omega))).trans (by first | exact bk_0 | exact bk_1 | exact bk_2 | exact bk_3 | exact bk_4 | exact bk_5 | exact bk_6 | exact bk_7 | exact bk_8 | exact bk_9 | exact bk_10 | exact bk_11 | exact bk_12 | exact bk_13 | exact bk_14 | exact bk_15 | exact bk_16 | exact cr_5 | exact cr_23 | exact cr_24 | exact cr_25 | exact cr_26 | exact cr_27 | exact cr_28 | exact cr_29 | exact cr_30 | assumption)) rfl rfl rfl (Nat.le_of_ble_eq_true rfl) ?_
          refine zr_i2l dX7_digest_253 (rfl : 253 + 1 = 254) ?_
          refine zr_ladd dX7_digest_254 (rfl : 254 + 1 = 255) ?_
          refine zr_lstore_n (lv' := [_, _, _, _, _]) dX7_digest_255 (rfl : 255 + 1 = 256) (Nat.le_of_ble_eq_true rfl) rfl ?_
          refine zr_iinc (lv' := [_, _, _, _, _]) dX7_digest_256 (rfl : 256 + 3 = 259) (Nat.le_of_ble_eq_true rfl) rfl (by first | exact jI_add _ _ | rfl) rfl ?_
          refine zr_goto (tgt := 235) dX7_digest_259 (by decide) ?_
          refine hk2 _ ?_
          rw [show 4 * (n - 1) + (c + 1) = 4 * (n - 1) + c + 1 by omega, jhs_next _ (by omega), hy, f1]
      · intro y hy
        refine zr_iload dX7_digest_235 (rfl : 235 + 2 = 237) rfl ?_
        refine zr_iconst dX7_digest_237 (rfl : 237 + 1 = 238) ?_
        refine zr_icmp_ge (tgt := 262) dX7_digest_238 (by decide) (rfl : 238 + 3 = 241) (jI_le (by first | omega | (simp only [bset, reduceIte, Nat.reduceEqDiff]; omega)) (by first | omega | (simp only [bset, reduceIte, Nat.reduceEqDiff]; omega)) (by first | omega | (simp only [bset, reduceIte, Nat.reduceEqDiff]; omega)) (by first | omega | (simp only [bset, reduceIte, Nat.reduceEqDiff]; omega))) (fun h238 => ?_) (fun h238 => ?_)
        · refine zr_iinc (lv' := [_, _, _, _, _]) dX7_digest_262 (rfl : 262 + 3 = 265) (Nat.le_of_ble_eq_true rfl) rfl (by first | exact jI_add _ _ | rfl) rfl ?_
          refine zr_goto (tgt := 226) dX7_digest_265 (by decide) ?_
          exact hk _ _ (by rw [hy, show 4 * (n - 1) + ((0 : Int) + ((4 : Nat) : Int)) = 4 * (n + 1 - 1) by omega])
        · exfalso; omega
  · intro y o hy
    rw [show y = jhs (jh1 B) 360 x from hy]
    refine zr_iload_n dX7_digest_226 (rfl : 226 + 1 = 227) rfl ?_
    refine zr_bipush dX7_digest_227 (rfl : 227 + 2 = 229) (by decide) ?_
    refine zr_icmp_gt (tgt := 268) dX7_digest_229 (by decide) (rfl : 229 + 3 = 232) (jI_lt (by first | omega | (simp only [bset, reduceIte, Nat.reduceEqDiff]; omega)) (by first | omega | (simp only [bset, reduceIte, Nat.reduceEqDiff]; omega)) (by first | omega | (simp only [bset, reduceIte, Nat.reduceEqDiff]; omega)) (by first | omega | (simp only [bset, reduceIte, Nat.reduceEqDiff]; omega))) (fun h229 => ?_) (fun h229 => ?_)
    · exact k _ _
    · exfalso; omega
theorem dg_6 (h : mr S 0 B) (ok : jok B) (k : ∀ o3, zRun Γ md_X7_digest (d + 8) none 300 [some (.ref 167), some (.long (jhs (jh2 B) 20 x)), none, o3, o4] [] μ (mw S st ik th tx ty w) Q) : zRun Γ md_X7_digest (d + 8) none 270 [some (.ref 167), some (.long x), none, some (.int (jI 0)), o4] [] μ (mw S st ik th tx ty w) Q := by
  refine zfor1 0 20 (fun i y => y = jhs (jh2 B) i.toNat x) (fun i y => [some (.ref 167), some (.long y), none, some (.int (jI i)), o4]) (fun _ _ => (mw S st ik th tx ty w)) x rfl ?_ ?_
  · intro i y i0 i1 hy hk
    have i1 : i < 20 := by omega
    refine zr_iload_n dX7_digest_270 (rfl : 270 + 1 = 271) rfl ?_
    refine zr_bipush dX7_digest_271 (rfl : 271 + 2 = 273) (by decide) ?_
    refine zr_icmp_ge (tgt := 300) dX7_digest_273 (by decide) (rfl : 273 + 3 = 276) (jI_le (by first | omega | (simp only [bset, reduceIte, Nat.reduceEqDiff]; omega)) (by first | omega | (simp only [bset, reduceIte, Nat.reduceEqDiff]; omega)) (by first | omega | (simp only [bset, reduceIte, Nat.reduceEqDiff]; omega)) (by first | omega | (simp only [bset, reduceIte, Nat.reduceEqDiff]; omega))) (fun h273 => ?_) (fun h273 => ?_)
    · exfalso; omega
    · refine zr_ldc2 dX7_digest_276 (rfl : 276 + 3 = 279) k_X7_196 ?_
      refine zr_lload_n dX7_digest_279 (rfl : 279 + 1 = 280) rfl ?_
      refine zr_lmul dX7_digest_280 (rfl : 280 + 1 = 281) ?_
      refine zr_aload_n dX7_digest_281 (rfl : 281 + 1 = 282) rfl ?_
      refine zr_iload_n dX7_digest_282 (rfl : 282 + 1 = 283) rfl ?_
      refine zr_iconst dX7_digest_283 (rfl : 283 + 1 = 284) ?_
      refine zr_idiv dX7_digest_284 (rfl : 284 + 1 = 285) (fun q => absurd ((jI_z (by first | omega | (simp only [bset, reduceIte, Nat.reduceEqDiff]; omega)) (by first | omega | (simp only [bset, reduceIte, Nat.reduceEqDiff]; omega))).mp q) (by first | omega | (simp only [bset, reduceIte, Nat.reduceEqDiff]; omega))) (jI_div (by first | omega | (simp only [bset, reduceIte, Nat.reduceEqDiff]; omega)) (by first | omega | (simp only [bset, reduceIte, Nat.reduceEqDiff]; omega)) (by first | omega | (simp only [bset, reduceIte, Nat.reduceEqDiff]; omega)) (by first | omega | (simp only [bset, reduceIte, Nat.reduceEqDiff]; omega))) ?_
      refine zr_iload_n dX7_digest_285 (rfl : 285 + 1 = 286) rfl ?_
      refine zr_iconst dX7_digest_286 (rfl : 286 + 1 = 287) ?_
      refine zr_irem dX7_digest_287 (rfl : 287 + 1 = 288) (fun q => absurd ((jI_z (by first | omega | (simp only [bset, reduceIte, Nat.reduceEqDiff]; omega)) (by first | omega | (simp only [bset, reduceIte, Nat.reduceEqDiff]; omega))).mp q) (by first | omega | (simp only [bset, reduceIte, Nat.reduceEqDiff]; omega))) (jI_rem (by first | omega | (simp only [bset, reduceIte, Nat.reduceEqDiff]; omega)) (by first | omega | (simp only [bset, reduceIte, Nat.reduceEqDiff]; omega)) (by first | omega | (simp only [bset, reduceIte, Nat.reduceEqDiff]; omega)) (by first | omega | (simp only [bset, reduceIte, Nat.reduceEqDiff]; omega))) ?_
      refine zr_fnV dX7_digest_288 (rfl : 288 + 3 = 291) l_X7_155 (m_calls (i / 2) (i % 2) (by first | omega | (simp only [bset, reduceIte, Nat.reduceEqDiff]; omega)) (by first | omega | (simp only [bset, reduceIte, Nat.reduceEqDiff]; omega)) h ok) (by first | assumption | exact mw_167 | exact mw_168 | exact mw_169 | exact mw_170 | exact bk_0 | exact bk_1 | exact bk_2 | exact bk_3 | exact bk_4 | exact bk_5 | exact bk_6 | exact bk_7 | exact bk_8 | exact bk_9 | exact bk_10 | exact bk_11 | exact bk_12 | exact bk_13 | exact bk_14 | exact bk_15 | exact bk_16 | exact zup_self | exact (zup_ne (by first | assumption | omega)).trans (by first | assumption | exact zup_self) | exact (zup_ne (by first | assumption | omega)).trans ((zup_ne (by first | assumption | omega)).trans (by first | assumption | exact zup_self)) | exact (bk_out (by first | omega | (simp only [bset, reduceIte, Nat.reduceEqDiff]; omega))).trans (by first | exact bk_0 | exact bk_1 | exact bk_2 | exact bk_3 | exact bk_4 | exact bk_5 | exact bk_6 | exact bk_7 | exact bk_8 | exact bk_9 | exact bk_10 | exact bk_11 | exact bk_12 | exact bk_13 | exact bk_14 | exact bk_15 | exact bk_16 | exact cr_5 | exact cr_23 | exact cr_24 | exact cr_25 | exact cr_26 | exact cr_27 | exact cr_28 | exact cr_29 | exact cr_30 | assumption)) rfl rfl rfl (Nat.le_of_ble_eq_true rfl) ?_
      refine zr_i2l dX7_digest_291 (rfl : 291 + 1 = 292) ?_
      refine zr_ladd dX7_digest_292 (rfl : 292 + 1 = 293) ?_
      refine zr_lstore_n (lv' := [_, _, _, _, _]) dX7_digest_293 (rfl : 293 + 1 = 294) (Nat.le_of_ble_eq_true rfl) rfl ?_
      refine zr_iinc (lv' := [_, _, _, _, _]) dX7_digest_294 (rfl : 294 + 3 = 297) (Nat.le_of_ble_eq_true rfl) rfl (by first | exact jI_add _ _ | rfl) rfl ?_
      refine zr_goto (tgt := 270) dX7_digest_297 (by decide) ?_
      exact hk _ (by rw [jhs_next _ i0, hy]; rfl)
  · intro y hy
    rw [show y = jhs (jh2 B) 20 x from hy]
    refine zr_iload_n dX7_digest_270 (rfl : 270 + 1 = 271) rfl ?_
    refine zr_bipush dX7_digest_271 (rfl : 271 + 2 = 273) (by decide) ?_
    refine zr_icmp_ge (tgt := 300) dX7_digest_273 (by decide) (rfl : 273 + 3 = 276) (jI_le (by first | omega | (simp only [bset, reduceIte, Nat.reduceEqDiff]; omega)) (by first | omega | (simp only [bset, reduceIte, Nat.reduceEqDiff]; omega)) (by first | omega | (simp only [bset, reduceIte, Nat.reduceEqDiff]; omega)) (by first | omega | (simp only [bset, reduceIte, Nat.reduceEqDiff]; omega))) (fun h273 => ?_) (fun h273 => ?_)
    · exact k _
    · exfalso; omega
theorem dg_7 (h : mr S 0 B) (ok : jok B) (k : ∀ o3, zRun Γ md_X7_digest (d + 8) none 332 [some (.ref 167), some (.long (jhs (jh3 B) 16 x)), none, o3, o4] [] μ (mw S st ik th tx ty w) Q) : zRun Γ md_X7_digest (d + 8) none 302 [some (.ref 167), some (.long x), none, some (.int (jI 0)), o4] [] μ (mw S st ik th tx ty w) Q := by
  refine zfor1 0 16 (fun i y => y = jhs (jh3 B) i.toNat x) (fun i y => [some (.ref 167), some (.long y), none, some (.int (jI i)), o4]) (fun _ _ => (mw S st ik th tx ty w)) x rfl ?_ ?_
  · intro i y i0 i1 hy hk
    have i1 : i < 16 := by omega
    refine zr_iload_n dX7_digest_302 (rfl : 302 + 1 = 303) rfl ?_
    refine zr_bipush dX7_digest_303 (rfl : 303 + 2 = 305) (by decide) ?_
    refine zr_icmp_ge (tgt := 332) dX7_digest_305 (by decide) (rfl : 305 + 3 = 308) (jI_le (by first | omega | (simp only [bset, reduceIte, Nat.reduceEqDiff]; omega)) (by first | omega | (simp only [bset, reduceIte, Nat.reduceEqDiff]; omega)) (by first | omega | (simp only [bset, reduceIte, Nat.reduceEqDiff]; omega)) (by first | omega | (simp only [bset, reduceIte, Nat.reduceEqDiff]; omega))) (fun h305 => ?_) (fun h305 => ?_)
    · exfalso; omega
    · refine zr_ldc2 dX7_digest_308 (rfl : 308 + 3 = 311) k_X7_196 ?_
      refine zr_lload_n dX7_digest_311 (rfl : 311 + 1 = 312) rfl ?_
      refine zr_lmul dX7_digest_312 (rfl : 312 + 1 = 313) ?_
      refine zr_aload_n dX7_digest_313 (rfl : 313 + 1 = 314) rfl ?_
      refine zr_iload_n dX7_digest_314 (rfl : 314 + 1 = 315) rfl ?_
      refine zr_iconst dX7_digest_315 (rfl : 315 + 1 = 316) ?_
      refine zr_idiv dX7_digest_316 (rfl : 316 + 1 = 317) (fun q => absurd ((jI_z (by first | omega | (simp only [bset, reduceIte, Nat.reduceEqDiff]; omega)) (by first | omega | (simp only [bset, reduceIte, Nat.reduceEqDiff]; omega))).mp q) (by first | omega | (simp only [bset, reduceIte, Nat.reduceEqDiff]; omega))) (jI_div (by first | omega | (simp only [bset, reduceIte, Nat.reduceEqDiff]; omega)) (by first | omega | (simp only [bset, reduceIte, Nat.reduceEqDiff]; omega)) (by first | omega | (simp only [bset, reduceIte, Nat.reduceEqDiff]; omega)) (by first | omega | (simp only [bset, reduceIte, Nat.reduceEqDiff]; omega))) ?_
      refine zr_iload_n dX7_digest_317 (rfl : 317 + 1 = 318) rfl ?_
      refine zr_iconst dX7_digest_318 (rfl : 318 + 1 = 319) ?_
      refine zr_irem dX7_digest_319 (rfl : 319 + 1 = 320) (fun q => absurd ((jI_z (by first | omega | (simp only [bset, reduceIte, Nat.reduceEqDiff]; omega)) (by first | omega | (simp only [bset, reduceIte, Nat.reduceEqDiff]; omega))).mp q) (by first | omega | (simp only [bset, reduceIte, Nat.reduceEqDiff]; omega))) (jI_rem (by first | omega | (simp only [bset, reduceIte, Nat.reduceEqDiff]; omega)) (by first | omega | (simp only [bset, reduceIte, Nat.reduceEqDiff]; omega)) (by first | omega | (simp only [bset, reduceIte, Nat.reduceEqDiff]; omega)) (by first | omega | (simp only [bset, reduceIte, Nat.reduceEqDiff]; omega))) ?_
      refine zr_fnV dX7_digest_320 (rfl : 320 + 3 = 323) l_X7_158 (m_games (i / 4) (i % 4) (by first | omega | (simp only [bset, reduceIte, Nat.reduceEqDiff]; omega)) (by first | omega | (simp only [bset, reduceIte, Nat.reduceEqDiff]; omega)) h ok) (by first | assumption | exact mw_167 | exact mw_168 | exact mw_169 | exact mw_170 | exact bk_0 | exact bk_1 | exact bk_2 | exact bk_3 | exact bk_4 | exact bk_5 | exact bk_6 | exact bk_7 | exact bk_8 | exact bk_9 | exact bk_10 | exact bk_11 | exact bk_12 | exact bk_13 | exact bk_14 | exact bk_15 | exact bk_16 | exact zup_self | exact (zup_ne (by first | assumption | omega)).trans (by first | assumption | exact zup_self) | exact (zup_ne (by first | assumption | omega)).trans ((zup_ne (by first | assumption | omega)).trans (by first | assumption | exact zup_self)) | exact (bk_out (by first | omega | (simp only [bset, reduceIte, Nat.reduceEqDiff]; omega))).trans (by first | exact bk_0 | exact bk_1 | exact bk_2 | exact bk_3 | exact bk_4 | exact bk_5 | exact bk_6 | exact bk_7 | exact bk_8 | exact bk_9 | exact bk_10 | exact bk_11 | exact bk_12 | exact bk_13 | exact bk_14 | exact bk_15 | exact bk_16 | exact cr_5 | exact cr_23 | exact cr_24 | exact cr_25 | exact cr_26 | exact cr_27 | exact cr_28 | exact cr_29 | exact cr_30 | assumption)) rfl rfl rfl (Nat.le_of_ble_eq_true rfl) ?_
      refine zr_i2l dX7_digest_323 (rfl : 323 + 1 = 324) ?_
      refine zr_ladd dX7_digest_324 (rfl : 324 + 1 = 325) ?_
      refine zr_lstore_n (lv' := [_, _, _, _, _]) dX7_digest_325 (rfl : 325 + 1 = 326) (Nat.le_of_ble_eq_true rfl) rfl ?_
      refine zr_iinc (lv' := [_, _, _, _, _]) dX7_digest_326 (rfl : 326 + 3 = 329) (Nat.le_of_ble_eq_true rfl) rfl (by first | exact jI_add _ _ | rfl) rfl ?_
      refine zr_goto (tgt := 302) dX7_digest_329 (by decide) ?_
      exact hk _ (by rw [jhs_next _ i0, hy]; rfl)
  · intro y hy
    rw [show y = jhs (jh3 B) 16 x from hy]
    refine zr_iload_n dX7_digest_302 (rfl : 302 + 1 = 303) rfl ?_
    refine zr_bipush dX7_digest_303 (rfl : 303 + 2 = 305) (by decide) ?_
    refine zr_icmp_ge (tgt := 332) dX7_digest_305 (by decide) (rfl : 305 + 3 = 308) (jI_le (by first | omega | (simp only [bset, reduceIte, Nat.reduceEqDiff]; omega)) (by first | omega | (simp only [bset, reduceIte, Nat.reduceEqDiff]; omega)) (by first | omega | (simp only [bset, reduceIte, Nat.reduceEqDiff]; omega)) (by first | omega | (simp only [bset, reduceIte, Nat.reduceEqDiff]; omega))) (fun h305 => ?_) (fun h305 => ?_)
    · exact k _
    · exfalso; omega
theorem dg_8 (h : mr S 0 B) (ok : jok B) (lk : jlk B) (k : ∀ o3, zRun Γ md_X7_digest (d + 8) none 366 [some (.ref 167), some (.long (jhs (jh4 B) 18 x)), none, o3, o4] [] μ (mw S st ik th tx ty w) Q) : zRun Γ md_X7_digest (d + 8) none 334 [some (.ref 167), some (.long x), none, some (.int (jI 0)), o4] [] μ (mw S st ik th tx ty w) Q := by
  refine zfor1 0 18 (fun i y => y = jhs (jh4 B) i.toNat x) (fun i y => [some (.ref 167), some (.long y), none, some (.int (jI i)), o4]) (fun _ _ => (mw S st ik th tx ty w)) x rfl ?_ ?_
  · intro i y i0 i1 hy hk
    have i1 : i < 18 := by omega
    have hwr := m_wrong (Γ := Γ) (d := d + 5) (st := st) (ik := ik) (th := th) (tx := tx) (ty := ty) (w := w) (i / 3) (i % 3) 45 (by omega) (by omega) (by decide) h ok lk
    rw [show i / 3 * 3 + i % 3 = i by omega] at hwr
    refine zr_iload_n dX7_digest_334 (rfl : 334 + 1 = 335) rfl ?_
    refine zr_bipush dX7_digest_335 (rfl : 335 + 2 = 337) (by decide) ?_
    refine zr_icmp_ge (tgt := 366) dX7_digest_337 (by decide) (rfl : 337 + 3 = 340) (jI_le (by first | omega | (simp only [bset, reduceIte, Nat.reduceEqDiff]; omega)) (by first | omega | (simp only [bset, reduceIte, Nat.reduceEqDiff]; omega)) (by first | omega | (simp only [bset, reduceIte, Nat.reduceEqDiff]; omega)) (by first | omega | (simp only [bset, reduceIte, Nat.reduceEqDiff]; omega))) (fun h337 => ?_) (fun h337 => ?_)
    · exfalso; omega
    · refine zr_ldc2 dX7_digest_340 (rfl : 340 + 3 = 343) k_X7_196 ?_
      refine zr_lload_n dX7_digest_343 (rfl : 343 + 1 = 344) rfl ?_
      refine zr_lmul dX7_digest_344 (rfl : 344 + 1 = 345) ?_
      refine zr_aload_n dX7_digest_345 (rfl : 345 + 1 = 346) rfl ?_
      refine zr_iload_n dX7_digest_346 (rfl : 346 + 1 = 347) rfl ?_
      refine zr_iconst dX7_digest_347 (rfl : 347 + 1 = 348) ?_
      refine zr_idiv dX7_digest_348 (rfl : 348 + 1 = 349) (fun q => absurd ((jI_z (by first | omega | (simp only [bset, reduceIte, Nat.reduceEqDiff]; omega)) (by first | omega | (simp only [bset, reduceIte, Nat.reduceEqDiff]; omega))).mp q) (by first | omega | (simp only [bset, reduceIte, Nat.reduceEqDiff]; omega))) (jI_div (by first | omega | (simp only [bset, reduceIte, Nat.reduceEqDiff]; omega)) (by first | omega | (simp only [bset, reduceIte, Nat.reduceEqDiff]; omega)) (by first | omega | (simp only [bset, reduceIte, Nat.reduceEqDiff]; omega)) (by first | omega | (simp only [bset, reduceIte, Nat.reduceEqDiff]; omega))) ?_
      refine zr_iload_n dX7_digest_349 (rfl : 349 + 1 = 350) rfl ?_
      refine zr_iconst dX7_digest_350 (rfl : 350 + 1 = 351) ?_
      refine zr_irem dX7_digest_351 (rfl : 351 + 1 = 352) (fun q => absurd ((jI_z (by first | omega | (simp only [bset, reduceIte, Nat.reduceEqDiff]; omega)) (by first | omega | (simp only [bset, reduceIte, Nat.reduceEqDiff]; omega))).mp q) (by first | omega | (simp only [bset, reduceIte, Nat.reduceEqDiff]; omega))) (jI_rem (by first | omega | (simp only [bset, reduceIte, Nat.reduceEqDiff]; omega)) (by first | omega | (simp only [bset, reduceIte, Nat.reduceEqDiff]; omega)) (by first | omega | (simp only [bset, reduceIte, Nat.reduceEqDiff]; omega)) (by first | omega | (simp only [bset, reduceIte, Nat.reduceEqDiff]; omega))) ?_
      refine zr_bipush dX7_digest_352 (rfl : 352 + 2 = 354) (by decide) ?_
      refine zr_fnV dX7_digest_354 (rfl : 354 + 3 = 357) l_X7_47 (hwr) (by first | assumption | exact mw_167 | exact mw_168 | exact mw_169 | exact mw_170 | exact bk_0 | exact bk_1 | exact bk_2 | exact bk_3 | exact bk_4 | exact bk_5 | exact bk_6 | exact bk_7 | exact bk_8 | exact bk_9 | exact bk_10 | exact bk_11 | exact bk_12 | exact bk_13 | exact bk_14 | exact bk_15 | exact bk_16 | exact zup_self | exact (zup_ne (by first | assumption | omega)).trans (by first | assumption | exact zup_self) | exact (zup_ne (by first | assumption | omega)).trans ((zup_ne (by first | assumption | omega)).trans (by first | assumption | exact zup_self)) | exact (bk_out (by first | omega | (simp only [bset, reduceIte, Nat.reduceEqDiff]; omega))).trans (by first | exact bk_0 | exact bk_1 | exact bk_2 | exact bk_3 | exact bk_4 | exact bk_5 | exact bk_6 | exact bk_7 | exact bk_8 | exact bk_9 | exact bk_10 | exact bk_11 | exact bk_12 | exact bk_13 | exact bk_14 | exact bk_15 | exact bk_16 | exact cr_5 | exact cr_23 | exact cr_24 | exact cr_25 | exact cr_26 | exact cr_27 | exact cr_28 | exact cr_29 | exact cr_30 | assumption)) rfl rfl rfl (Nat.le_of_ble_eq_true rfl) ?_
      refine zr_i2l dX7_digest_357 (rfl : 357 + 1 = 358) ?_
      refine zr_ladd dX7_digest_358 (rfl : 358 + 1 = 359) ?_
      refine zr_lstore_n (lv' := [_, _, _, _, _]) dX7_digest_359 (rfl : 359 + 1 = 360) (Nat.le_of_ble_eq_true rfl) rfl ?_
      refine zr_iinc (lv' := [_, _, _, _, _]) dX7_digest_360 (rfl : 360 + 3 = 363) (Nat.le_of_ble_eq_true rfl) rfl (by first | exact jI_add _ _ | rfl) rfl ?_
      refine zr_goto (tgt := 334) dX7_digest_363 (by decide) ?_
      exact hk _ (by rw [jhs_next _ i0, hy]; rfl)
  · intro y hy
    rw [show y = jhs (jh4 B) 18 x from hy]
    refine zr_iload_n dX7_digest_334 (rfl : 334 + 1 = 335) rfl ?_
    refine zr_bipush dX7_digest_335 (rfl : 335 + 2 = 337) (by decide) ?_
    refine zr_icmp_ge (tgt := 366) dX7_digest_337 (by decide) (rfl : 337 + 3 = 340) (jI_le (by first | omega | (simp only [bset, reduceIte, Nat.reduceEqDiff]; omega)) (by first | omega | (simp only [bset, reduceIte, Nat.reduceEqDiff]; omega)) (by first | omega | (simp only [bset, reduceIte, Nat.reduceEqDiff]; omega)) (by first | omega | (simp only [bset, reduceIte, Nat.reduceEqDiff]; omega))) (fun h337 => ?_) (fun h337 => ?_)
    · exact k _
    · exfalso; omega
theorem dg_9 (h : mr S 0 B) (ok : jok B) (lk : jlk B) (k : ∀ S' o3, jagb 4446 S' S → zRun Γ md_X7_digest (d + 8) none 404 [some (.ref 167), some (.long (jhs (fun k => jnb B (k + 1)) 3 x)), none, o3, o4] [] μ (mw S' st ik th tx ty w) Q) : zRun Γ md_X7_digest (d + 8) none 380 [some (.ref 167), some (.long x), none, some (.int (jI 1)), o4] [] μ (mw S st ik th tx ty w) Q := by
  refine zfor2 1 3 (fun i y (S1 : Int → Int) => y = jhs (fun k => jnb B (k + 1)) (i - 1).toNat x ∧ jagb 4446 S1 S) (fun i y _ => [some (.ref 167), some (.long y), none, some (.int (jI i)), o4]) (fun _ _ S1 => mw S1 st ik th tx ty w) x S ⟨rfl, jagb.refl⟩ ?_ ?_
  · intro i y S1 i0 i1 hI hk
    obtain ⟨hy, ag⟩ := hI
    have hm1 := mr_tried h ag ok
    have hnb := m_nextBall (Γ := Γ) (d := d + 4) (st := st) (ik := ik) (th := th) (tx := tx) (ty := ty) (w := w) i ⟨i0, by omega⟩ hm1 ok lk
    refine zr_iload_n dX7_digest_380 (rfl : 380 + 1 = 381) rfl ?_
    refine zr_iconst dX7_digest_381 (rfl : 381 + 1 = 382) ?_
    refine zr_icmp_ge (tgt := 404) dX7_digest_382 (by decide) (rfl : 382 + 3 = 385) (jI_le (by first | omega | (simp only [bset, reduceIte, Nat.reduceEqDiff]; omega)) (by first | omega | (simp only [bset, reduceIte, Nat.reduceEqDiff]; omega)) (by first | omega | (simp only [bset, reduceIte, Nat.reduceEqDiff]; omega)) (by first | omega | (simp only [bset, reduceIte, Nat.reduceEqDiff]; omega))) (fun h382 => ?_) (fun h382 => ?_)
    · exfalso; omega
    · refine zr_ldc2 dX7_digest_385 (rfl : 385 + 3 = 388) k_X7_196 ?_
      refine zr_lload_n dX7_digest_388 (rfl : 388 + 1 = 389) rfl ?_
      refine zr_lmul dX7_digest_389 (rfl : 389 + 1 = 390) ?_
      refine zr_aload_n dX7_digest_390 (rfl : 390 + 1 = 391) rfl ?_
      refine zr_iload_n dX7_digest_391 (rfl : 391 + 1 = 392) rfl ?_
      refine zr_feV dX7_digest_392 (rfl : 392 + 3 = 395) l_X7_187 (hnb) (by first | assumption | exact mw_167 | exact mw_168 | exact mw_169 | exact mw_170 | exact bk_0 | exact bk_1 | exact bk_2 | exact bk_3 | exact bk_4 | exact bk_5 | exact bk_6 | exact bk_7 | exact bk_8 | exact bk_9 | exact bk_10 | exact bk_11 | exact bk_12 | exact bk_13 | exact bk_14 | exact bk_15 | exact bk_16 | exact zup_self | exact (zup_ne (by first | assumption | omega)).trans (by first | assumption | exact zup_self) | exact (zup_ne (by first | assumption | omega)).trans ((zup_ne (by first | assumption | omega)).trans (by first | assumption | exact zup_self)) | exact (bk_out (by first | omega | (simp only [bset, reduceIte, Nat.reduceEqDiff]; omega))).trans (by first | exact bk_0 | exact bk_1 | exact bk_2 | exact bk_3 | exact bk_4 | exact bk_5 | exact bk_6 | exact bk_7 | exact bk_8 | exact bk_9 | exact bk_10 | exact bk_11 | exact bk_12 | exact bk_13 | exact bk_14 | exact bk_15 | exact bk_16 | exact cr_5 | exact cr_23 | exact cr_24 | exact cr_25 | exact cr_26 | exact cr_27 | exact cr_28 | exact cr_29 | exact cr_30 | assumption)) rfl rfl rfl (Nat.le_of_ble_eq_true rfl) ?_
      rintro _ _ ⟨rfl, S392, hS392, rfl⟩
      refine zr_i2l dX7_digest_395 (rfl : 395 + 1 = 396) ?_
      refine zr_ladd dX7_digest_396 (rfl : 396 + 1 = 397) ?_
      refine zr_lstore_n (lv' := [_, _, _, _, _]) dX7_digest_397 (rfl : 397 + 1 = 398) (Nat.le_of_ble_eq_true rfl) rfl ?_
      refine zr_iinc (lv' := [_, _, _, _, _]) dX7_digest_398 (rfl : 398 + 3 = 401) (Nat.le_of_ble_eq_true rfl) rfl (by first | exact jI_add _ _ | rfl) rfl ?_
      refine zr_goto (tgt := 380) dX7_digest_401 (by decide) ?_
      refine hk _ _ ⟨?_, hS392.trans ag⟩
      rw [show i + 1 - 1 = i - 1 + 1 by omega, jhs_next _ (by omega), hy]
      show _ = 31 * _ + (jI (jnb B (i - 1 + 1))).toInt64
      rw [show i - 1 + 1 = i by omega]
  · intro y S1 hI
    obtain ⟨hy, ag⟩ := hI
    rw [show y = jhs (fun k => jnb B (k + 1)) 3 x from hy]
    refine zr_iload_n dX7_digest_380 (rfl : 380 + 1 = 381) rfl ?_
    refine zr_iconst dX7_digest_381 (rfl : 381 + 1 = 382) ?_
    refine zr_icmp_ge (tgt := 404) dX7_digest_382 (by decide) (rfl : 382 + 3 = 385) (jI_le (by first | omega | (simp only [bset, reduceIte, Nat.reduceEqDiff]; omega)) (by first | omega | (simp only [bset, reduceIte, Nat.reduceEqDiff]; omega)) (by first | omega | (simp only [bset, reduceIte, Nat.reduceEqDiff]; omega)) (by first | omega | (simp only [bset, reduceIte, Nat.reduceEqDiff]; omega))) (fun h382 => ?_) (fun h382 => ?_)
    · exact k _ _ ag
    · exfalso; omega
theorem dg_10 {kp : Int → Int} {o3 : Option Value} (e0 : ik 0 = kp 0) (e1 : ik 1 = kp 1) (h0 : 0 ≤ kp 0 ∧ kp 0 ≤ 1) (h1 : 0 ≤ kp 1 ∧ kp 1 ≤ 1) (k : zRun Γ md_X7_digest (d + 8) none 462 [some (.ref 167), some (.long (jhs kp 2 x)), none, o3, o4] [] μ (mw S st ik th tx ty w) Q) : zRun Γ md_X7_digest (d + 8) none 418 [some (.ref 167), some (.long x), none, o3, o4] [] μ (mw S st ik th tx ty w) Q := by
  have e : jhs kp 2 x = 31 * (31 * x + (jI (kp 0)).toInt64) + (jI (kp 1)).toInt64 := rfl
  rw [e] at k
  have snd : ∀ y : Int64, y = 31 * x + (jI (kp 0)).toInt64 → zRun Γ md_X7_digest (d + 8) none 440 [some (.ref 167), some (.long y), none, o3, o4] [] μ (mw S st ik th tx ty w) Q := by
    intro y hy
    rw [← hy] at k
    refine zr_ldc2 dX7_digest_440 (rfl : 440 + 3 = 443) k_X7_196 ?_
    refine zr_lload_n dX7_digest_443 (rfl : 443 + 1 = 444) rfl ?_
    refine zr_lmul dX7_digest_444 (rfl : 444 + 1 = 445) ?_
    refine zr_aload_n dX7_digest_445 (rfl : 445 + 1 = 446) rfl ?_
    refine zr_getf dX7_digest_446 (rfl : 446 + 3 = 449) f_X7_13 (by first | assumption | exact mw_167 | exact mw_168 | exact mw_169 | exact mw_170 | exact bk_0 | exact bk_1 | exact bk_2 | exact bk_3 | exact bk_4 | exact bk_5 | exact bk_6 | exact bk_7 | exact bk_8 | exact bk_9 | exact bk_10 | exact bk_11 | exact bk_12 | exact bk_13 | exact bk_14 | exact bk_15 | exact bk_16 | exact zup_self | exact (zup_ne (by first | assumption | omega)).trans (by first | assumption | exact zup_self) | exact (zup_ne (by first | assumption | omega)).trans ((zup_ne (by first | assumption | omega)).trans (by first | assumption | exact zup_self)) | exact (bk_out (by first | omega | (simp only [bset, reduceIte, Nat.reduceEqDiff]; omega))).trans (by first | exact bk_0 | exact bk_1 | exact bk_2 | exact bk_3 | exact bk_4 | exact bk_5 | exact bk_6 | exact bk_7 | exact bk_8 | exact bk_9 | exact bk_10 | exact bk_11 | exact bk_12 | exact bk_13 | exact bk_14 | exact bk_15 | exact bk_16 | exact cr_5 | exact cr_23 | exact cr_24 | exact cr_25 | exact cr_26 | exact cr_27 | exact cr_28 | exact cr_29 | exact cr_30 | assumption)) rfl ?_
    refine zr_iconst dX7_digest_449 (rfl : 449 + 1 = 450) ?_
    refine zr_zald dX7_digest_450 (rfl : 450 + 1 = 451) (by first | assumption | exact mw_167 | exact mw_168 | exact mw_169 | exact mw_170 | exact bk_0 | exact bk_1 | exact bk_2 | exact bk_3 | exact bk_4 | exact bk_5 | exact bk_6 | exact bk_7 | exact bk_8 | exact bk_9 | exact bk_10 | exact bk_11 | exact bk_12 | exact bk_13 | exact bk_14 | exact bk_15 | exact bk_16 | exact zup_self | exact (zup_ne (by first | assumption | omega)).trans (by first | assumption | exact zup_self) | exact (zup_ne (by first | assumption | omega)).trans ((zup_ne (by first | assumption | omega)).trans (by first | assumption | exact zup_self)) | exact (bk_out (by first | omega | (simp only [bset, reduceIte, Nat.reduceEqDiff]; omega))).trans (by first | exact bk_0 | exact bk_1 | exact bk_2 | exact bk_3 | exact bk_4 | exact bk_5 | exact bk_6 | exact bk_7 | exact bk_8 | exact bk_9 | exact bk_10 | exact bk_11 | exact bk_12 | exact bk_13 | exact bk_14 | exact bk_15 | exact bk_16 | exact cr_5 | exact cr_23 | exact cr_24 | exact cr_25 | exact cr_26 | exact cr_27 | exact cr_28 | exact cr_29 | exact cr_30 | assumption)) (by decide) (by first | omega | (simp only [bset, reduceIte, Nat.reduceEqDiff]; omega)) (by first | omega | (simp only [bset, reduceIte, Nat.reduceEqDiff]; omega)) ?_
    rw [e1]
    refine zr_if_eq (tgt := 458) dX7_digest_451 (by decide) (rfl : 451 + 3 = 454) (by first | exact jb_iff | exact jI_z (by first | omega | (simp only [bset, reduceIte, Nat.reduceEqDiff]; omega)) (by first | omega | (simp only [bset, reduceIte, Nat.reduceEqDiff]; omega))) (fun h451 => ?_) (fun h451 => ?_)
    · rw [h451] at k
      refine zr_iconst dX7_digest_458 (rfl : 458 + 1 = 459) ?_
      refine zr_i2l dX7_digest_459 (rfl : 459 + 1 = 460) ?_
      refine zr_ladd dX7_digest_460 (rfl : 460 + 1 = 461) ?_
      refine zr_lstore_n (lv' := [_, _, _, _, _]) dX7_digest_461 (rfl : 461 + 1 = 462) (Nat.le_of_ble_eq_true rfl) rfl ?_
      exact k
    · rw [show kp 1 = 1 by omega] at k
      refine zr_iconst dX7_digest_454 (rfl : 454 + 1 = 455) ?_
      refine zr_goto (tgt := 459) dX7_digest_455 (by decide) ?_
      refine zr_i2l dX7_digest_459 (rfl : 459 + 1 = 460) ?_
      refine zr_ladd dX7_digest_460 (rfl : 460 + 1 = 461) ?_
      refine zr_lstore_n (lv' := [_, _, _, _, _]) dX7_digest_461 (rfl : 461 + 1 = 462) (Nat.le_of_ble_eq_true rfl) rfl ?_
      exact k
  refine zr_ldc2 dX7_digest_418 (rfl : 418 + 3 = 421) k_X7_196 ?_
  refine zr_lload_n dX7_digest_421 (rfl : 421 + 1 = 422) rfl ?_
  refine zr_lmul dX7_digest_422 (rfl : 422 + 1 = 423) ?_
  refine zr_aload_n dX7_digest_423 (rfl : 423 + 1 = 424) rfl ?_
  refine zr_getf dX7_digest_424 (rfl : 424 + 3 = 427) f_X7_13 (by first | assumption | exact mw_167 | exact mw_168 | exact mw_169 | exact mw_170 | exact bk_0 | exact bk_1 | exact bk_2 | exact bk_3 | exact bk_4 | exact bk_5 | exact bk_6 | exact bk_7 | exact bk_8 | exact bk_9 | exact bk_10 | exact bk_11 | exact bk_12 | exact bk_13 | exact bk_14 | exact bk_15 | exact bk_16 | exact zup_self | exact (zup_ne (by first | assumption | omega)).trans (by first | assumption | exact zup_self) | exact (zup_ne (by first | assumption | omega)).trans ((zup_ne (by first | assumption | omega)).trans (by first | assumption | exact zup_self)) | exact (bk_out (by first | omega | (simp only [bset, reduceIte, Nat.reduceEqDiff]; omega))).trans (by first | exact bk_0 | exact bk_1 | exact bk_2 | exact bk_3 | exact bk_4 | exact bk_5 | exact bk_6 | exact bk_7 | exact bk_8 | exact bk_9 | exact bk_10 | exact bk_11 | exact bk_12 | exact bk_13 | exact bk_14 | exact bk_15 | exact bk_16 | exact cr_5 | exact cr_23 | exact cr_24 | exact cr_25 | exact cr_26 | exact cr_27 | exact cr_28 | exact cr_29 | exact cr_30 | assumption)) rfl ?_
  refine zr_iconst dX7_digest_427 (rfl : 427 + 1 = 428) ?_
  refine zr_zald dX7_digest_428 (rfl : 428 + 1 = 429) (by first | assumption | exact mw_167 | exact mw_168 | exact mw_169 | exact mw_170 | exact bk_0 | exact bk_1 | exact bk_2 | exact bk_3 | exact bk_4 | exact bk_5 | exact bk_6 | exact bk_7 | exact bk_8 | exact bk_9 | exact bk_10 | exact bk_11 | exact bk_12 | exact bk_13 | exact bk_14 | exact bk_15 | exact bk_16 | exact zup_self | exact (zup_ne (by first | assumption | omega)).trans (by first | assumption | exact zup_self) | exact (zup_ne (by first | assumption | omega)).trans ((zup_ne (by first | assumption | omega)).trans (by first | assumption | exact zup_self)) | exact (bk_out (by first | omega | (simp only [bset, reduceIte, Nat.reduceEqDiff]; omega))).trans (by first | exact bk_0 | exact bk_1 | exact bk_2 | exact bk_3 | exact bk_4 | exact bk_5 | exact bk_6 | exact bk_7 | exact bk_8 | exact bk_9 | exact bk_10 | exact bk_11 | exact bk_12 | exact bk_13 | exact bk_14 | exact bk_15 | exact bk_16 | exact cr_5 | exact cr_23 | exact cr_24 | exact cr_25 | exact cr_26 | exact cr_27 | exact cr_28 | exact cr_29 | exact cr_30 | assumption)) (by decide) (by first | omega | (simp only [bset, reduceIte, Nat.reduceEqDiff]; omega)) (by first | omega | (simp only [bset, reduceIte, Nat.reduceEqDiff]; omega)) ?_
  rw [e0]
  refine zr_if_eq (tgt := 436) dX7_digest_429 (by decide) (rfl : 429 + 3 = 432) (by first | exact jb_iff | exact jI_z (by first | omega | (simp only [bset, reduceIte, Nat.reduceEqDiff]; omega)) (by first | omega | (simp only [bset, reduceIte, Nat.reduceEqDiff]; omega))) (fun h429 => ?_) (fun h429 => ?_)
  · refine zr_iconst dX7_digest_436 (rfl : 436 + 1 = 437) ?_
    refine zr_i2l dX7_digest_437 (rfl : 437 + 1 = 438) ?_
    refine zr_ladd dX7_digest_438 (rfl : 438 + 1 = 439) ?_
    refine zr_lstore_n (lv' := [_, _, _, _, _]) dX7_digest_439 (rfl : 439 + 1 = 440) (Nat.le_of_ble_eq_true rfl) rfl ?_
    exact snd _ (by rw [h429])
  · refine zr_iconst dX7_digest_432 (rfl : 432 + 1 = 433) ?_
    refine zr_goto (tgt := 437) dX7_digest_433 (by decide) ?_
    refine zr_i2l dX7_digest_437 (rfl : 437 + 1 = 438) ?_
    refine zr_ladd dX7_digest_438 (rfl : 438 + 1 = 439) ?_
    refine zr_lstore_n (lv' := [_, _, _, _, _]) dX7_digest_439 (rfl : 439 + 1 = 440) (Nat.le_of_ble_eq_true rfl) rfl ?_
    exact snd _ (by rw [show kp 0 = 1 by omega])
theorem dg_11 (hL : 0 ≤ ty ∧ ty ≤ 60) (hP : ∀ w2, zRun Γ md_X7_digest (d + 8) none 504 [some (.ref 167), some (.long (jhs tx ty.toNat x)), none, w2, o4] [] μ (mw S st ik th tx ty w) Q) : zRun Γ md_X7_digest (d + 8) none 476 [some (.ref 167), some (.long x), none, some (.int (jI 0)), o4] [] μ (mw S st ik th tx ty w) Q := by
  refine zfor1 0 ty.toNat (fun i y => y = jhs tx i.toNat x) (fun i y => [some (.ref 167), some (.long y), none, some (.int (jI i)), o4]) (fun _ _ => (mw S st ik th tx ty w)) x rfl ?_ ?_
  · intro i y i0 i1 hy hk
    have i1 : i < ty := by omega
    refine zr_iload_n dX7_digest_476 (rfl : 476 + 1 = 477) rfl ?_
    refine zr_aload_n dX7_digest_477 (rfl : 477 + 1 = 478) rfl ?_
    refine zr_getf dX7_digest_478 (rfl : 478 + 3 = 481) f_X7_121 (by first | assumption | exact mw_167 | exact mw_168 | exact mw_169 | exact mw_170 | exact bk_0 | exact bk_1 | exact bk_2 | exact bk_3 | exact bk_4 | exact bk_5 | exact bk_6 | exact bk_7 | exact bk_8 | exact bk_9 | exact bk_10 | exact bk_11 | exact bk_12 | exact bk_13 | exact bk_14 | exact bk_15 | exact bk_16 | exact zup_self | exact (zup_ne (by first | assumption | omega)).trans (by first | assumption | exact zup_self) | exact (zup_ne (by first | assumption | omega)).trans ((zup_ne (by first | assumption | omega)).trans (by first | assumption | exact zup_self)) | exact (bk_out (by first | omega | (simp only [bset, reduceIte, Nat.reduceEqDiff]; omega))).trans (by first | exact bk_0 | exact bk_1 | exact bk_2 | exact bk_3 | exact bk_4 | exact bk_5 | exact bk_6 | exact bk_7 | exact bk_8 | exact bk_9 | exact bk_10 | exact bk_11 | exact bk_12 | exact bk_13 | exact bk_14 | exact bk_15 | exact bk_16 | exact cr_5 | exact cr_23 | exact cr_24 | exact cr_25 | exact cr_26 | exact cr_27 | exact cr_28 | exact cr_29 | exact cr_30 | assumption)) rfl ?_
    refine zr_icmp_ge (tgt := 504) dX7_digest_481 (by decide) (rfl : 481 + 3 = 484) (jI_le (by first | omega | (simp only [bset, reduceIte, Nat.reduceEqDiff]; omega)) (by first | omega | (simp only [bset, reduceIte, Nat.reduceEqDiff]; omega)) (by first | omega | (simp only [bset, reduceIte, Nat.reduceEqDiff]; omega)) (by first | omega | (simp only [bset, reduceIte, Nat.reduceEqDiff]; omega))) (fun h481 => ?_) (fun h481 => ?_)
    · exfalso; omega
    · refine zr_ldc2 dX7_digest_484 (rfl : 484 + 3 = 487) k_X7_196 ?_
      refine zr_lload_n dX7_digest_487 (rfl : 487 + 1 = 488) rfl ?_
      refine zr_lmul dX7_digest_488 (rfl : 488 + 1 = 489) ?_
      refine zr_aload_n dX7_digest_489 (rfl : 489 + 1 = 490) rfl ?_
      refine zr_getf dX7_digest_490 (rfl : 490 + 3 = 493) f_X7_17 (by first | assumption | exact mw_167 | exact mw_168 | exact mw_169 | exact mw_170 | exact bk_0 | exact bk_1 | exact bk_2 | exact bk_3 | exact bk_4 | exact bk_5 | exact bk_6 | exact bk_7 | exact bk_8 | exact bk_9 | exact bk_10 | exact bk_11 | exact bk_12 | exact bk_13 | exact bk_14 | exact bk_15 | exact bk_16 | exact zup_self | exact (zup_ne (by first | assumption | omega)).trans (by first | assumption | exact zup_self) | exact (zup_ne (by first | assumption | omega)).trans ((zup_ne (by first | assumption | omega)).trans (by first | assumption | exact zup_self)) | exact (bk_out (by first | omega | (simp only [bset, reduceIte, Nat.reduceEqDiff]; omega))).trans (by first | exact bk_0 | exact bk_1 | exact bk_2 | exact bk_3 | exact bk_4 | exact bk_5 | exact bk_6 | exact bk_7 | exact bk_8 | exact bk_9 | exact bk_10 | exact bk_11 | exact bk_12 | exact bk_13 | exact bk_14 | exact bk_15 | exact bk_16 | exact cr_5 | exact cr_23 | exact cr_24 | exact cr_25 | exact cr_26 | exact cr_27 | exact cr_28 | exact cr_29 | exact cr_30 | assumption)) rfl ?_
      refine zr_iload_n dX7_digest_493 (rfl : 493 + 1 = 494) rfl ?_
      refine zr_cald dX7_digest_494 (rfl : 494 + 1 = 495) (by first | assumption | exact mw_167 | exact mw_168 | exact mw_169 | exact mw_170 | exact bk_0 | exact bk_1 | exact bk_2 | exact bk_3 | exact bk_4 | exact bk_5 | exact bk_6 | exact bk_7 | exact bk_8 | exact bk_9 | exact bk_10 | exact bk_11 | exact bk_12 | exact bk_13 | exact bk_14 | exact bk_15 | exact bk_16 | exact zup_self | exact (zup_ne (by first | assumption | omega)).trans (by first | assumption | exact zup_self) | exact (zup_ne (by first | assumption | omega)).trans ((zup_ne (by first | assumption | omega)).trans (by first | assumption | exact zup_self)) | exact (bk_out (by first | omega | (simp only [bset, reduceIte, Nat.reduceEqDiff]; omega))).trans (by first | exact bk_0 | exact bk_1 | exact bk_2 | exact bk_3 | exact bk_4 | exact bk_5 | exact bk_6 | exact bk_7 | exact bk_8 | exact bk_9 | exact bk_10 | exact bk_11 | exact bk_12 | exact bk_13 | exact bk_14 | exact bk_15 | exact bk_16 | exact cr_5 | exact cr_23 | exact cr_24 | exact cr_25 | exact cr_26 | exact cr_27 | exact cr_28 | exact cr_29 | exact cr_30 | assumption)) (by decide) (by first | omega | (simp only [bset, reduceIte, Nat.reduceEqDiff]; omega)) (by first | omega | (simp only [bset, reduceIte, Nat.reduceEqDiff]; omega)) ?_
      refine zr_i2l dX7_digest_495 (rfl : 495 + 1 = 496) ?_
      refine zr_ladd dX7_digest_496 (rfl : 496 + 1 = 497) ?_
      refine zr_lstore_n (lv' := [_, _, _, _, _]) dX7_digest_497 (rfl : 497 + 1 = 498) (Nat.le_of_ble_eq_true rfl) rfl ?_
      refine zr_iinc (lv' := [_, _, _, _, _]) dX7_digest_498 (rfl : 498 + 3 = 501) (Nat.le_of_ble_eq_true rfl) rfl (by first | exact jI_add _ _ | rfl) rfl ?_
      refine zr_goto (tgt := 476) dX7_digest_501 (by decide) ?_
      exact hk _ (by rw [jhs_next _ i0, hy])
  · intro y hy
    rw [show ((0 : Int) + (ty.toNat : Int)) = ty by omega] at hy ⊢
    rw [hy]
    refine zr_iload_n dX7_digest_476 (rfl : 476 + 1 = 477) rfl ?_
    refine zr_aload_n dX7_digest_477 (rfl : 477 + 1 = 478) rfl ?_
    refine zr_getf dX7_digest_478 (rfl : 478 + 3 = 481) f_X7_121 (by first | assumption | exact mw_167 | exact mw_168 | exact mw_169 | exact mw_170 | exact bk_0 | exact bk_1 | exact bk_2 | exact bk_3 | exact bk_4 | exact bk_5 | exact bk_6 | exact bk_7 | exact bk_8 | exact bk_9 | exact bk_10 | exact bk_11 | exact bk_12 | exact bk_13 | exact bk_14 | exact bk_15 | exact bk_16 | exact zup_self | exact (zup_ne (by first | assumption | omega)).trans (by first | assumption | exact zup_self) | exact (zup_ne (by first | assumption | omega)).trans ((zup_ne (by first | assumption | omega)).trans (by first | assumption | exact zup_self)) | exact (bk_out (by first | omega | (simp only [bset, reduceIte, Nat.reduceEqDiff]; omega))).trans (by first | exact bk_0 | exact bk_1 | exact bk_2 | exact bk_3 | exact bk_4 | exact bk_5 | exact bk_6 | exact bk_7 | exact bk_8 | exact bk_9 | exact bk_10 | exact bk_11 | exact bk_12 | exact bk_13 | exact bk_14 | exact bk_15 | exact bk_16 | exact cr_5 | exact cr_23 | exact cr_24 | exact cr_25 | exact cr_26 | exact cr_27 | exact cr_28 | exact cr_29 | exact cr_30 | assumption)) rfl ?_
    refine zr_icmp_ge (tgt := 504) dX7_digest_481 (by decide) (rfl : 481 + 3 = 484) (jI_le (by first | omega | (simp only [bset, reduceIte, Nat.reduceEqDiff]; omega)) (by first | omega | (simp only [bset, reduceIte, Nat.reduceEqDiff]; omega)) (by first | omega | (simp only [bset, reduceIte, Nat.reduceEqDiff]; omega)) (by first | omega | (simp only [bset, reduceIte, Nat.reduceEqDiff]; omega))) (fun h481 => ?_) (fun h481 => ?_)
    · exact hP _
    · exfalso; omega
end DG
section DP
variable {Γ : zΓ} {d : Nat} {S : Int → Int} {ik : Int → Int} {th : Int} {w : zW} {B : zB} {σ : zC}
theorem p_digest (hR : zRel B σ S ik) : zFe Γ md_X7_digest (d + 8) [.ref 167] (mw S σ.sc ik th σ.T σ.L w) (zMQ (some (.long (jdig σ B))) 0 B σ w) := by
  obtain ⟨ok, lk, pk, ck, lx, h, hsv, hkp⟩ := hR
  have hR : zRel B σ S ik := ⟨ok, lk, pk, ck, lx, h, hsv, hkp⟩
  have e0 := (hkp 0 (by decide) (by decide)).1
  have e1 := (hkp 1 (by decide) (by decide)).1
  have k0 := ck.kp 0
  have k1 := ck.kp 1
  have hL := ck.L
  have hck := jck_sr (jsz_r lk) (jdn_le ok lk)
  refine zFe.of_run (lv := [some (.ref 167), none, none, none, none]) (by decide) rfl (Nat.le_of_ble_eq_true rfl) rfl (fun n9 g9 => ?_)
  refine zr_aload_n dX7_digest_0 (rfl : 0 + 1 = 1) rfl ?_
  refine zr_iconst dX7_digest_1 (rfl : 1 + 1 = 2) ?_
  refine zr_putf (fs' := [_, _, _, _, _, _]) dX7_digest_2 (rfl : 2 + 3 = 5) f_X7_21 ft_7_3 (by first | assumption | exact mw_167 | exact mw_168 | exact mw_169 | exact mw_170 | exact bk_0 | exact bk_1 | exact bk_2 | exact bk_3 | exact bk_4 | exact bk_5 | exact bk_6 | exact bk_7 | exact bk_8 | exact bk_9 | exact bk_10 | exact bk_11 | exact bk_12 | exact bk_13 | exact bk_14 | exact bk_15 | exact bk_16 | exact zup_self | exact (zup_ne (by first | assumption | omega)).trans (by first | assumption | exact zup_self) | exact (zup_ne (by first | assumption | omega)).trans ((zup_ne (by first | assumption | omega)).trans (by first | assumption | exact zup_self)) | exact (bk_out (by first | omega | (simp only [bset, reduceIte, Nat.reduceEqDiff]; omega))).trans (by first | exact bk_0 | exact bk_1 | exact bk_2 | exact bk_3 | exact bk_4 | exact bk_5 | exact bk_6 | exact bk_7 | exact bk_8 | exact bk_9 | exact bk_10 | exact bk_11 | exact bk_12 | exact bk_13 | exact bk_14 | exact bk_15 | exact bk_16 | exact cr_5 | exact cr_23 | exact cr_24 | exact cr_25 | exact cr_26 | exact cr_27 | exact cr_28 | exact cr_29 | exact cr_30 | assumption)) (Nat.le_of_ble_eq_true rfl) rfl rfl rfl ?_
  rw [mwu_o]
  refine zr_ldc2 dX7_digest_5 (rfl : 5 + 3 = 8) k_X7_194 ?_
  refine zr_lstore_n (lv' := [_, _, _, _, _]) dX7_digest_8 (rfl : 8 + 1 = 9) (Nat.le_of_ble_eq_true rfl) rfl ?_
  refine zr_iconst dX7_digest_9 (rfl : 9 + 1 = 10) ?_
  refine zr_istore_n (lv' := [_, _, _, _, _]) dX7_digest_10 (rfl : 10 + 1 = 11) (Nat.le_of_ble_eq_true rfl) rfl ?_
  refine dg_1 h ok lk (fun o3 => ?_)
  refine zr_iconst dX7_digest_36 (rfl : 36 + 1 = 37) ?_
  refine zr_istore_n (lv' := [_, _, _, _, _]) dX7_digest_37 (rfl : 37 + 1 = 38) (Nat.le_of_ble_eq_true rfl) rfl ?_
  refine dg_2 h (fun o3 => ?_)
  refine zr_iconst dX7_digest_63 (rfl : 63 + 1 = 64) ?_
  refine zr_istore_n (lv' := [_, _, _, _, _]) dX7_digest_64 (rfl : 64 + 1 = 65) (Nat.le_of_ble_eq_true rfl) rfl ?_
  refine dg_3 h ok lk (fun o3 => ?_)
  refine zr_iconst dX7_digest_104 (rfl : 104 + 1 = 105) ?_
  refine zr_istore_n (lv' := [_, _, _, _, _]) dX7_digest_105 (rfl : 105 + 1 = 106) (Nat.le_of_ble_eq_true rfl) rfl ?_
  refine dg_4 h ok lk (fun S1 o3 o4 ag1 => ?_)
  have hm1 := mr_tried h ag1 ok
  refine zr_iconst dX7_digest_224 (rfl : 224 + 1 = 225) ?_
  refine zr_istore_n (lv' := [_, _, _, _, _]) dX7_digest_225 (rfl : 225 + 1 = 226) (Nat.le_of_ble_eq_true rfl) rfl ?_
  refine dg_5 hm1 ok (fun o3 o4 => ?_)
  refine zr_iconst dX7_digest_268 (rfl : 268 + 1 = 269) ?_
  refine zr_istore_n (lv' := [_, _, _, _, _]) dX7_digest_269 (rfl : 269 + 1 = 270) (Nat.le_of_ble_eq_true rfl) rfl ?_
  refine dg_6 hm1 ok (fun o3 => ?_)
  refine zr_iconst dX7_digest_300 (rfl : 300 + 1 = 301) ?_
  refine zr_istore_n (lv' := [_, _, _, _, _]) dX7_digest_301 (rfl : 301 + 1 = 302) (Nat.le_of_ble_eq_true rfl) rfl ?_
  refine dg_7 hm1 ok (fun o3 => ?_)
  refine zr_iconst dX7_digest_332 (rfl : 332 + 1 = 333) ?_
  refine zr_istore_n (lv' := [_, _, _, _, _]) dX7_digest_333 (rfl : 333 + 1 = 334) (Nat.le_of_ble_eq_true rfl) rfl ?_
  refine dg_8 hm1 ok lk (fun o3 => ?_)
  have hfi := m_first (Γ := Γ) (d := d + 3) (st := σ.sc) (ik := ik) (th := 0) (tx := σ.T) (ty := σ.L) (w := w) hm1 ok lk
  refine zr_ldc2 dX7_digest_366 (rfl : 366 + 3 = 369) k_X7_196 ?_
  refine zr_lload_n dX7_digest_369 (rfl : 369 + 1 = 370) rfl ?_
  refine zr_lmul dX7_digest_370 (rfl : 370 + 1 = 371) ?_
  refine zr_aload_n dX7_digest_371 (rfl : 371 + 1 = 372) rfl ?_
  refine zr_feV dX7_digest_372 (rfl : 372 + 3 = 375) l_X7_184 (hfi) (by first | assumption | exact mw_167 | exact mw_168 | exact mw_169 | exact mw_170 | exact bk_0 | exact bk_1 | exact bk_2 | exact bk_3 | exact bk_4 | exact bk_5 | exact bk_6 | exact bk_7 | exact bk_8 | exact bk_9 | exact bk_10 | exact bk_11 | exact bk_12 | exact bk_13 | exact bk_14 | exact bk_15 | exact bk_16 | exact zup_self | exact (zup_ne (by first | assumption | omega)).trans (by first | assumption | exact zup_self) | exact (zup_ne (by first | assumption | omega)).trans ((zup_ne (by first | assumption | omega)).trans (by first | assumption | exact zup_self)) | exact (bk_out (by first | omega | (simp only [bset, reduceIte, Nat.reduceEqDiff]; omega))).trans (by first | exact bk_0 | exact bk_1 | exact bk_2 | exact bk_3 | exact bk_4 | exact bk_5 | exact bk_6 | exact bk_7 | exact bk_8 | exact bk_9 | exact bk_10 | exact bk_11 | exact bk_12 | exact bk_13 | exact bk_14 | exact bk_15 | exact bk_16 | exact cr_5 | exact cr_23 | exact cr_24 | exact cr_25 | exact cr_26 | exact cr_27 | exact cr_28 | exact cr_29 | exact cr_30 | assumption)) rfl rfl rfl (Nat.le_of_ble_eq_true rfl) ?_
  rintro _ _ ⟨rfl, S372, hS372, rfl⟩
  refine zr_i2l dX7_digest_375 (rfl : 375 + 1 = 376) ?_
  refine zr_ladd dX7_digest_376 (rfl : 376 + 1 = 377) ?_
  refine zr_lstore_n (lv' := [_, _, _, _, _]) dX7_digest_377 (rfl : 377 + 1 = 378) (Nat.le_of_ble_eq_true rfl) rfl ?_
  have ag2 := hS372.trans ag1
  have hm2 := mr_tried h ag2 ok
  refine zr_iconst dX7_digest_378 (rfl : 378 + 1 = 379) ?_
  refine zr_istore_n (lv' := [_, _, _, _, _]) dX7_digest_379 (rfl : 379 + 1 = 380) (Nat.le_of_ble_eq_true rfl) rfl ?_
  refine dg_9 hm2 ok lk (fun S3 o3 ag3 => ?_)
  have ag4 := ag3.trans ag2
  have hm4 := mr_tried h ag4 ok
  refine zr_ldc2 dX7_digest_404 (rfl : 404 + 3 = 407) k_X7_196 ?_
  refine zr_lload_n dX7_digest_407 (rfl : 407 + 1 = 408) rfl ?_
  refine zr_lmul dX7_digest_408 (rfl : 408 + 1 = 409) ?_
  refine zr_aload_n dX7_digest_409 (rfl : 409 + 1 = 410) rfl ?_
  refine zr_fnV dX7_digest_410 (rfl : 410 + 3 = 413) l_X7_190 (m_share hm4 ok lk (jsz_r lk) (jdn_le ok lk)) (by first | assumption | exact mw_167 | exact mw_168 | exact mw_169 | exact mw_170 | exact bk_0 | exact bk_1 | exact bk_2 | exact bk_3 | exact bk_4 | exact bk_5 | exact bk_6 | exact bk_7 | exact bk_8 | exact bk_9 | exact bk_10 | exact bk_11 | exact bk_12 | exact bk_13 | exact bk_14 | exact bk_15 | exact bk_16 | exact zup_self | exact (zup_ne (by first | assumption | omega)).trans (by first | assumption | exact zup_self) | exact (zup_ne (by first | assumption | omega)).trans ((zup_ne (by first | assumption | omega)).trans (by first | assumption | exact zup_self)) | exact (bk_out (by first | omega | (simp only [bset, reduceIte, Nat.reduceEqDiff]; omega))).trans (by first | exact bk_0 | exact bk_1 | exact bk_2 | exact bk_3 | exact bk_4 | exact bk_5 | exact bk_6 | exact bk_7 | exact bk_8 | exact bk_9 | exact bk_10 | exact bk_11 | exact bk_12 | exact bk_13 | exact bk_14 | exact bk_15 | exact bk_16 | exact cr_5 | exact cr_23 | exact cr_24 | exact cr_25 | exact cr_26 | exact cr_27 | exact cr_28 | exact cr_29 | exact cr_30 | assumption)) rfl rfl rfl (Nat.le_of_ble_eq_true rfl) ?_
  refine zr_fnS dX7_digest_413 (rfl : 413 + 3 = 416) l_X7_198 (s_doubleToLongBits _ hck) rfl rfl (Nat.le_of_ble_eq_true rfl) ?_
  refine zr_ladd dX7_digest_416 (rfl : 416 + 1 = 417) ?_
  refine zr_lstore_n (lv' := [_, _, _, _, _]) dX7_digest_417 (rfl : 417 + 1 = 418) (Nat.le_of_ble_eq_true rfl) rfl ?_
  refine dg_10 e0 e1 k0 k1 ?_
  refine zr_ldc2 dX7_digest_462 (rfl : 462 + 3 = 465) k_X7_196 ?_
  refine zr_lload_n dX7_digest_465 (rfl : 465 + 1 = 466) rfl ?_
  refine zr_lmul dX7_digest_466 (rfl : 466 + 1 = 467) ?_
  refine zr_aload_n dX7_digest_467 (rfl : 467 + 1 = 468) rfl ?_
  refine zr_getf dX7_digest_468 (rfl : 468 + 3 = 471) f_X7_121 (by first | assumption | exact mw_167 | exact mw_168 | exact mw_169 | exact mw_170 | exact bk_0 | exact bk_1 | exact bk_2 | exact bk_3 | exact bk_4 | exact bk_5 | exact bk_6 | exact bk_7 | exact bk_8 | exact bk_9 | exact bk_10 | exact bk_11 | exact bk_12 | exact bk_13 | exact bk_14 | exact bk_15 | exact bk_16 | exact zup_self | exact (zup_ne (by first | assumption | omega)).trans (by first | assumption | exact zup_self) | exact (zup_ne (by first | assumption | omega)).trans ((zup_ne (by first | assumption | omega)).trans (by first | assumption | exact zup_self)) | exact (bk_out (by first | omega | (simp only [bset, reduceIte, Nat.reduceEqDiff]; omega))).trans (by first | exact bk_0 | exact bk_1 | exact bk_2 | exact bk_3 | exact bk_4 | exact bk_5 | exact bk_6 | exact bk_7 | exact bk_8 | exact bk_9 | exact bk_10 | exact bk_11 | exact bk_12 | exact bk_13 | exact bk_14 | exact bk_15 | exact bk_16 | exact cr_5 | exact cr_23 | exact cr_24 | exact cr_25 | exact cr_26 | exact cr_27 | exact cr_28 | exact cr_29 | exact cr_30 | assumption)) rfl ?_
  refine zr_i2l dX7_digest_471 (rfl : 471 + 1 = 472) ?_
  refine zr_ladd dX7_digest_472 (rfl : 472 + 1 = 473) ?_
  refine zr_lstore_n (lv' := [_, _, _, _, _]) dX7_digest_473 (rfl : 473 + 1 = 474) (Nat.le_of_ble_eq_true rfl) rfl ?_
  refine zr_iconst dX7_digest_474 (rfl : 474 + 1 = 475) ?_
  refine zr_istore_n (lv' := [_, _, _, _, _]) dX7_digest_475 (rfl : 475 + 1 = 476) (Nat.le_of_ble_eq_true rfl) rfl ?_
  refine dg_11 hL (fun o3 => ?_)
  refine zr_lload_n dX7_digest_504 (rfl : 504 + 1 = 505) rfl ?_
  refine zr_lreE dX7_digest_505 rfl ?_
  exact ⟨rfl, S3, ik, zRel_try hR ag4, rfl⟩
end DP

