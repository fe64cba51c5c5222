/-! shares, walked -/
section SH
variable {Γ : zΓ} {M : zMd} {d : Nat} {σ : zC} {τ : zTau} {u w : zW} {B : zB} {Q : zQ} {μ : zMu} {pc pc' : Nat} {lv : List (Option Value)} {st : List Value}
abbrev zRaw : MethodName := ⟨"java/lang/Double", "doubleToRawLongBits", "(D)J"⟩
theorem zr_raw {idx : Nat} {x : UInt64} (hd : decode M.2.1 pc = .ok (.invokestatic idx, 3)) (hp : pc + 3 = pc') (hg : zG [.methodLink M.1.cls idx zRaw, .native zRaw, .static zRaw, .initialized "java/lang/Double"]) (hcat : (st.map fun v => v.category).sum ≤ 8) (k : zRun Γ M (d + 1) none pc' lv (.long x.toInt64 :: st) μ w Q) : zRun Γ M (d + 1) none pc lv (.double x :: st) μ w Q := by
  subst hp
  refine zr_pure (fun p e R s m args below meth c Qf H locs ls cells slots hc hl h => ?_) k
  have hwd : ∀ y ∈ [Cond.methodLink M.1.cls idx zRaw, .native zRaw, .static zRaw, .initialized "java/lang/Double"], y.before args s = true := fun y hy => zG.word hg hc.2.1 hc.2.2.1 hy
  have hcs : ∀ l : List Value, ((l.map (zcv Γ)).map fun v => v.category).sum = (l.map fun v => v.category).sum := by
    intro l
    induction l with
    | nil => rfl
    | cons a l ih =>
      have ha : (zcv Γ a).category = a.category := by cases a <;> rfl
      simp only [List.map_cons, List.sum_cons, ih, ha]
  have hf := hc.2.2.2.2.2.2.2.1
  have hlc := hc.2.2.2.2.2.2.2.2
  refine vn_d2l hc.1.1 hc.1.2.1 ?_ hc.1.2.2.2 (hwd _ (by simp)) (hwd _ (by simp)) (hwd _ (by simp)) (hwd _ (by simp)) (by omega) (by rw [hcs]; omega) hd h
  rw [hc.1.2.2.1, ← hl.1]
theorem s_bitsOfShare (x : UInt64) (hk : jck x = true) : zFn Γ md_X6_bitsOfShare d [.double x] w (some (.long x.toInt64)) w := by
  unfold jck at hk
  rw [Bool.and_eq_true] at hk
  have hk := hk.2
  refine zFn.of_run (lv := [some (.double x), none, none, none, none, none, none]) (by decide) rfl (Nat.le_of_ble_eq_true rfl) rfl (fun n9 g9 => ?_)
  refine zr_dload_n dX6_bitsOfShare_0 (rfl : 0 + 1 = 1) rfl ?_
  refine zr_dconst0 dX6_bitsOfShare_1 (rfl : 1 + 1 = 2) ?_
  refine zr_dcmp dX6_bitsOfShare_2 (rfl : 2 + 1 = 3) ?_
  refine zr_if_gt (tgt := 8) dX6_bitsOfShare_3 (by decide) (rfl : 3 + 3 = 6) (Iff.rfl) (fun h3 => ?_) (fun h3 => ?_)
  · rw [if_pos h3] at hk
    simp only [Bool.and_eq_true] at hk
    obtain ⟨⟨⟨k1, k2⟩, k3⟩, k4⟩ := hk
    have k4 := of_decide_eq_true k4
    have fin : ∀ (y : UInt64) (e : Int64) (i : Int), (y, e) = jbl 64 x 1023 → zRun Γ md_X6_bitsOfShare d none 49 [some (.double x), none, some (.double y), none, some (.long e), none, some (.int (jI i))] [] (n9, g9, 0, 0) w (zDone md_X6_bitsOfShare (some (.long x.toInt64)) w n9 g9) := by
      intro y e i he
      have e1 : y = (jbl 64 x 1023).1 := by rw [← he]
      have e2 : e = (jbl 64 x 1023).2 := by rw [← he]
      rw [← e1] at k2 k3
      refine zr_lload dX6_bitsOfShare_49 (rfl : 49 + 2 = 51) rfl ?_
      refine zr_bipush dX6_bitsOfShare_51 (rfl : 51 + 2 = 53) (by decide) ?_
      refine zr_lshl dX6_bitsOfShare_53 (rfl : 53 + 1 = 54) ?_
      refine zr_dload_n dX6_bitsOfShare_54 (rfl : 54 + 1 = 55) rfl ?_
      refine zr_dconst1 dX6_bitsOfShare_55 (rfl : 55 + 1 = 56) ?_
      refine zr_dsub dX6_bitsOfShare_56 (rfl : 56 + 1 = 57) (jn64_n k2) ?_
      refine zr_ldc2d dX6_bitsOfShare_57 (rfl : 57 + 3 = 60) k_X6_343 ?_
      refine zr_dmul dX6_bitsOfShare_60 (rfl : 60 + 1 = 61) (jn64_n k3) ?_
      refine zr_d2l dX6_bitsOfShare_61 (rfl : 61 + 1 = 62) ?_
      refine zr_ladd dX6_bitsOfShare_62 (rfl : 62 + 1 = 63) ?_
      refine zr_lret dX6_bitsOfShare_63 rfl ?_ rfl rfl rfl
      rw [← k4]
      unfold jbs
      rw [← e1, ← e2]
    refine zr_dload_n dX6_bitsOfShare_8 (rfl : 8 + 1 = 9) rfl ?_
    refine zr_dstore_n (lv' := [_, _, _, _, _, _, _]) dX6_bitsOfShare_9 (rfl : 9 + 1 = 10) (Nat.le_of_ble_eq_true rfl) rfl ?_
    refine zr_ldc2 dX6_bitsOfShare_10 (rfl : 10 + 3 = 13) k_X6_339 ?_
    refine zr_lstore (lv' := [_, _, _, _, _, _, _]) dX6_bitsOfShare_13 (rfl : 13 + 2 = 15) (Nat.le_of_ble_eq_true rfl) rfl ?_
    refine zr_iconst dX6_bitsOfShare_15 (rfl : 15 + 1 = 16) ?_
    refine zr_istore (lv' := [_, _, _, _, _, _, _]) dX6_bitsOfShare_16 (rfl : 16 + 2 = 18) (Nat.le_of_ble_eq_true rfl) rfl ?_
    refine zfor2 0 64 (fun i y e => jbl (64 - i).toNat y e = jbl 64 x 1023 ∧ jbok (64 - i).toNat y = true) (fun i y e => [some (.double x), none, some (.double y), none, some (.long e), none, some (.int (jI i))]) (fun _ _ _ => w) x 1023 ⟨rfl, k1⟩ ?_ ?_
    · intro i y e i0 i1 hI hk
      obtain ⟨hj, hb⟩ := hI
      rw [show (64 - i).toNat = (64 - (i + 1)).toNat + 1 by omega] at hj hb
      rw [jbl_succ] at hj
      rw [jbok_succ] at hb
      refine zr_iload dX6_bitsOfShare_18 (rfl : 18 + 2 = 20) rfl ?_
      refine zr_bipush dX6_bitsOfShare_20 (rfl : 20 + 2 = 22) (by decide) ?_
      refine zr_icmp_ge (tgt := 49) dX6_bitsOfShare_22 (by decide) (rfl : 22 + 3 = 25) (jI_le (by first | omega | (simp only [bset, reduceIte, Nat.reduceEqDiff]; omega)) (by first | omega | (simp only [bset, reduceIte, Nat.reduceEqDiff]; omega)) (by first | omega | (simp only [bset, reduceIte, Nat.reduceEqDiff]; omega)) (by first | omega | (simp only [bset, reduceIte, Nat.reduceEqDiff]; omega))) (fun h22 => ?_) (fun h22 => ?_)
      · exfalso; omega
      · refine zr_dload_n dX6_bitsOfShare_25 (rfl : 25 + 1 = 26) rfl ?_
        refine zr_dconst1 dX6_bitsOfShare_26 (rfl : 26 + 1 = 27) ?_
        refine zr_dcmp dX6_bitsOfShare_27 (rfl : 27 + 1 = 28) ?_
        refine zr_if_ge (tgt := 49) dX6_bitsOfShare_28 (by decide) (rfl : 28 + 3 = 31) (Iff.rfl) (fun h28 => ?_) (fun h28 => ?_)
        · rw [if_neg (fun q => (of_decide_eq_true q) h28)] at hj
          exact fin y e i hj
        · have hq : jlt1 y = true := decide_eq_true h28
          rw [if_pos hq] at hj hb
          rw [Bool.and_eq_true] at hb
          refine zr_dload_n dX6_bitsOfShare_31 (rfl : 31 + 1 = 32) rfl ?_
          refine zr_ldc2d dX6_bitsOfShare_32 (rfl : 32 + 3 = 35) k_X6_341 ?_
          refine zr_dmul dX6_bitsOfShare_35 (rfl : 35 + 1 = 36) (jn64_n hb.1) ?_
          refine zr_dstore_n (lv' := [_, _, _, _, _, _, _]) dX6_bitsOfShare_36 (rfl : 36 + 1 = 37) (Nat.le_of_ble_eq_true rfl) rfl ?_
          refine zr_lload dX6_bitsOfShare_37 (rfl : 37 + 2 = 39) rfl ?_
          refine zr_lconst dX6_bitsOfShare_39 (rfl : 39 + 1 = 40) ?_
          refine zr_lsub dX6_bitsOfShare_40 (rfl : 40 + 1 = 41) ?_
          refine zr_lstore (lv' := [_, _, _, _, _, _, _]) dX6_bitsOfShare_41 (rfl : 41 + 2 = 43) (Nat.le_of_ble_eq_true rfl) rfl ?_
          refine zr_iinc (lv' := [_, _, _, _, _, _, _]) dX6_bitsOfShare_43 (rfl : 43 + 3 = 46) (Nat.le_of_ble_eq_true rfl) rfl (by first | exact jI_add _ _ | rfl) rfl ?_
          refine zr_goto (tgt := 18) dX6_bitsOfShare_46 (by decide) ?_
          exact hk _ _ ⟨hj, hb.2⟩
    · intro y e hI
      rw [show ((0 : Int) + ((64 : Nat) : Int)) = 64 from rfl] at hI ⊢
      refine zr_iload dX6_bitsOfShare_18 (rfl : 18 + 2 = 20) rfl ?_
      refine zr_bipush dX6_bitsOfShare_20 (rfl : 20 + 2 = 22) (by decide) ?_
      refine zr_icmp_ge (tgt := 49) dX6_bitsOfShare_22 (by decide) (rfl : 22 + 3 = 25) (jI_le (by first | omega | (simp only [bset, reduceIte, Nat.reduceEqDiff]; omega)) (by first | omega | (simp only [bset, reduceIte, Nat.reduceEqDiff]; omega)) (by first | omega | (simp only [bset, reduceIte, Nat.reduceEqDiff]; omega)) (by first | omega | (simp only [bset, reduceIte, Nat.reduceEqDiff]; omega))) (fun h22 => ?_) (fun h22 => ?_)
      · exact fin y e 64 hI.1
      · exfalso; omega
  · rw [if_neg h3] at hk
    refine zr_lconst dX6_bitsOfShare_6 (rfl : 6 + 1 = 7) ?_
    refine zr_lret dX6_bitsOfShare_7 rfl ?_ rfl rfl rfl
    rw [of_decide_eq_true hk]
    rfl
theorem s_isNaN (x : UInt64) (hk : jck x = true) : zFn Γ md_Jxe99ae_isNaN_b9ae7 d [.double x] w (some (.int (jI 0))) w := by
  unfold jck at hk
  simp only [Bool.and_eq_true] at hk
  have hk := of_decide_eq_true hk.1.2
  refine zFn.of_run (lv := [some (.double x), none]) (by decide) rfl (Nat.le_of_ble_eq_true rfl) rfl (fun n9 g9 => ?_)
  refine zr_dload_n dJxe99ae_isNaN_b9ae7_0 (rfl : 0 + 1 = 1) rfl ?_
  refine zr_dload_n dJxe99ae_isNaN_b9ae7_1 (rfl : 1 + 1 = 2) rfl ?_
  refine zr_dcmp dJxe99ae_isNaN_b9ae7_2 (rfl : 2 + 1 = 3) ?_
  rw [hk]
  refine zr_if_eq (tgt := 10) dJxe99ae_isNaN_b9ae7_3 (by decide) (rfl : 3 + 3 = 6) (Iff.rfl) (fun h3 => ?_) (fun h3 => ?_)
  · refine zr_iconst dJxe99ae_isNaN_b9ae7_10 (rfl : 10 + 1 = 11) ?_
    refine zr_iret dJxe99ae_isNaN_b9ae7_11 rfl rfl ?_ rfl rfl rfl
    rfl
  · exact absurd rfl h3
theorem s_doubleToLongBits (x : UInt64) (hk : jck x = true) : zFn Γ md_Jxe99ae_doubleToLongBits_ccdee (d + 1) [.double x] w (some (.long x.toInt64)) w := by
  refine zFn.of_run (lv := [some (.double x), none]) (by decide) rfl (Nat.le_of_ble_eq_true rfl) rfl (fun n9 g9 => ?_)
  refine zr_dload_n dJxe99ae_doubleToLongBits_ccdee_0 (rfl : 0 + 1 = 1) rfl ?_
  refine zr_fnS dJxe99ae_doubleToLongBits_ccdee_1 (rfl : 1 + 3 = 4) l_Jxe99ae_122 (s_isNaN x hk) rfl rfl (Nat.le_of_ble_eq_true rfl) ?_
  refine zr_if_ne (tgt := 12) dJxe99ae_doubleToLongBits_ccdee_4 (by decide) (rfl : 4 + 3 = 7) (Iff.rfl) (fun h4 => ?_) (fun h4 => ?_)
  · exact absurd rfl h4
  · refine zr_dload_n dJxe99ae_doubleToLongBits_ccdee_7 (rfl : 7 + 1 = 8) rfl ?_
    refine zr_raw dJxe99ae_doubleToLongBits_ccdee_8 (rfl : 8 + 3 = 11) (zG.p [1327, 1329, 1328, 82] (by decide +kernel) (by decide +kernel)) (Nat.le_of_ble_eq_true rfl) ?_
    exact zr_lret dJxe99ae_doubleToLongBits_ccdee_11 rfl rfl rfl rfl rfl
def jdp (B : zB) : Nat → Int
  | 0 => 0
  | n + 1 => jdp B n + jmc (B 0) (B 7) n
def jdn (B : zB) : Int := jdp B 6
def jsr (B : zB) : UInt64 := if B 2 0 = 0 then FP.dconst0 else jsh (jdn B) (B 2 0)
theorem jck_sr (h2 : 0 ≤ B 2 0 ∧ B 2 0 ≤ 90) (h3 : 0 ≤ jdn B ∧ jdn B ≤ B 2 0) : jck (jsr B) = true := by
  unfold jsr
  split
  · exact jck_0
  · exact jck_sh (by omega) h3
theorem s_drawnShare (ok : jok B) (h2 : 0 ≤ B 2 0 ∧ B 2 0 ≤ 90) (h3 : 0 ≤ jdn B ∧ jdn B ≤ B 2 0) : zFn Γ md_X6_drawnShare (d + 4) [.ref 5] (bk 6 B (cr σ τ u)) (some (.double (jsr B))) (bk 6 B (cr σ τ u)) := by
  have hck := jck_sr h2 h3
  have hm := fun (c : Int) (h : 0 ≤ c ∧ c < 6) => s_markedInCard (Γ := Γ) (d := d + 1) (w := cr σ τ u) (b := 6) (B := B) (ma := 6 + 9) (mk := B 7) c h ok.P bk_9 ok.dam
  unfold jsr at hck ⊢
  by_cases h0 : B 2 0 = 0
  · rw [if_pos h0]
    refine zFn.of_run (lv := [some (.ref 5), none, none, none]) (by decide) rfl (Nat.le_of_ble_eq_true rfl) rfl (fun n9 g9 => ?_)
    refine zr_aload_n dX6_drawnShare_0 (rfl : 0 + 1 = 1) rfl ?_
    refine zr_getf dX6_drawnShare_1 (rfl : 1 + 3 = 4) f_X6_10 (by first | assumption | exact bk_0 | exact bk_1 | exact bk_2 | exact bk_3 | exact bk_4 | exact bk_5 | exact bk_6 | exact bk_7 | exact bk_8 | exact bk_9 | exact bk_10 | exact bk_11 | exact bk_12 | exact bk_13 | exact bk_14 | exact bk_15 | exact bk_16 | exact zup_self | exact (zup_ne (by first | assumption | omega)).trans (by first | assumption | exact zup_self) | exact (zup_ne (by first | assumption | omega)).trans ((zup_ne (by first | assumption | omega)).trans (by first | assumption | exact zup_self)) | exact (bk_out (by first | omega | (simp only [bset, reduceIte, Nat.reduceEqDiff]; omega))).trans (by first | exact bk_0 | exact bk_1 | exact bk_2 | exact bk_3 | exact bk_4 | exact bk_5 | exact bk_6 | exact bk_7 | exact bk_8 | exact bk_9 | exact bk_10 | exact bk_11 | exact bk_12 | exact bk_13 | exact bk_14 | exact bk_15 | exact bk_16 | exact cr_5 | exact cr_23 | exact cr_24 | exact cr_25 | exact cr_26 | exact cr_27 | exact cr_28 | exact cr_29 | exact cr_30 | assumption)) rfl ?_
    refine zr_getf dX6_drawnShare_4 (rfl : 4 + 3 = 7) f_X6_69 (by first | assumption | exact bk_0 | exact bk_1 | exact bk_2 | exact bk_3 | exact bk_4 | exact bk_5 | exact bk_6 | exact bk_7 | exact bk_8 | exact bk_9 | exact bk_10 | exact bk_11 | exact bk_12 | exact bk_13 | exact bk_14 | exact bk_15 | exact bk_16 | exact zup_self | exact (zup_ne (by first | assumption | omega)).trans (by first | assumption | exact zup_self) | exact (zup_ne (by first | assumption | omega)).trans ((zup_ne (by first | assumption | omega)).trans (by first | assumption | exact zup_self)) | exact (bk_out (by first | omega | (simp only [bset, reduceIte, Nat.reduceEqDiff]; omega))).trans (by first | exact bk_0 | exact bk_1 | exact bk_2 | exact bk_3 | exact bk_4 | exact bk_5 | exact bk_6 | exact bk_7 | exact bk_8 | exact bk_9 | exact bk_10 | exact bk_11 | exact bk_12 | exact bk_13 | exact bk_14 | exact bk_15 | exact bk_16 | exact cr_5 | exact cr_23 | exact cr_24 | exact cr_25 | exact cr_26 | exact cr_27 | exact cr_28 | exact cr_29 | exact cr_30 | assumption)) rfl ?_
    refine zr_getf dX6_drawnShare_7 (rfl : 7 + 3 = 10) f_X6_169 (by first | assumption | exact bk_0 | exact bk_1 | exact bk_2 | exact bk_3 | exact bk_4 | exact bk_5 | exact bk_6 | exact bk_7 | exact bk_8 | exact bk_9 | exact bk_10 | exact bk_11 | exact bk_12 | exact bk_13 | exact bk_14 | exact bk_15 | exact bk_16 | exact zup_self | exact (zup_ne (by first | assumption | omega)).trans (by first | assumption | exact zup_self) | exact (zup_ne (by first | assumption | omega)).trans ((zup_ne (by first | assumption | omega)).trans (by first | assumption | exact zup_self)) | exact (bk_out (by first | omega | (simp only [bset, reduceIte, Nat.reduceEqDiff]; omega))).trans (by first | exact bk_0 | exact bk_1 | exact bk_2 | exact bk_3 | exact bk_4 | exact bk_5 | exact bk_6 | exact bk_7 | exact bk_8 | exact bk_9 | exact bk_10 | exact bk_11 | exact bk_12 | exact bk_13 | exact bk_14 | exact bk_15 | exact bk_16 | exact cr_5 | exact cr_23 | exact cr_24 | exact cr_25 | exact cr_26 | exact cr_27 | exact cr_28 | exact cr_29 | exact cr_30 | assumption)) rfl ?_
    refine zr_istore_n (lv' := [_, _, _, _]) dX6_drawnShare_10 (rfl : 10 + 1 = 11) (Nat.le_of_ble_eq_true rfl) rfl ?_
    refine zr_iload_n dX6_drawnShare_11 (rfl : 11 + 1 = 12) rfl ?_
    refine zr_if_ne (tgt := 17) dX6_drawnShare_12 (by decide) (rfl : 12 + 3 = 15) (by first | exact jb_iff | exact jI_z (by first | omega | (simp only [bset, reduceIte, Nat.reduceEqDiff]; omega)) (by first | omega | (simp only [bset, reduceIte, Nat.reduceEqDiff]; omega))) (fun h12 => ?_) (fun h12 => ?_)
    · exfalso; omega
    · refine zr_dconst0 dX6_drawnShare_15 (rfl : 15 + 1 = 16) ?_
      exact zr_dret dX6_drawnShare_16 rfl rfl rfl rfl rfl
  · rw [if_neg h0] at hck ⊢
    unfold jck at hck
    simp only [Bool.and_eq_true] at hck
    have hn := jn64_n hck.1.1
    refine zFn.of_run (lv := [some (.ref 5), none, none, none]) (by decide) rfl (Nat.le_of_ble_eq_true rfl) rfl (fun n9 g9 => ?_)
    refine zr_aload_n dX6_drawnShare_0 (rfl : 0 + 1 = 1) rfl ?_
    refine zr_getf dX6_drawnShare_1 (rfl : 1 + 3 = 4) f_X6_10 (by first | assumption | exact bk_0 | exact bk_1 | exact bk_2 | exact bk_3 | exact bk_4 | exact bk_5 | exact bk_6 | exact bk_7 | exact bk_8 | exact bk_9 | exact bk_10 | exact bk_11 | exact bk_12 | exact bk_13 | exact bk_14 | exact bk_15 | exact bk_16 | exact zup_self | exact (zup_ne (by first | assumption | omega)).trans (by first | assumption | exact zup_self) | exact (zup_ne (by first | assumption | omega)).trans ((zup_ne (by first | assumption | omega)).trans (by first | assumption | exact zup_self)) | exact (bk_out (by first | omega | (simp only [bset, reduceIte, Nat.reduceEqDiff]; omega))).trans (by first | exact bk_0 | exact bk_1 | exact bk_2 | exact bk_3 | exact bk_4 | exact bk_5 | exact bk_6 | exact bk_7 | exact bk_8 | exact bk_9 | exact bk_10 | exact bk_11 | exact bk_12 | exact bk_13 | exact bk_14 | exact bk_15 | exact bk_16 | exact cr_5 | exact cr_23 | exact cr_24 | exact cr_25 | exact cr_26 | exact cr_27 | exact cr_28 | exact cr_29 | exact cr_30 | assumption)) rfl ?_
    refine zr_getf dX6_drawnShare_4 (rfl : 4 + 3 = 7) f_X6_69 (by first | assumption | exact bk_0 | exact bk_1 | exact bk_2 | exact bk_3 | exact bk_4 | exact bk_5 | exact bk_6 | exact bk_7 | exact bk_8 | exact bk_9 | exact bk_10 | exact bk_11 | exact bk_12 | exact bk_13 | exact bk_14 | exact bk_15 | exact bk_16 | exact zup_self | exact (zup_ne (by first | assumption | omega)).trans (by first | assumption | exact zup_self) | exact (zup_ne (by first | assumption | omega)).trans ((zup_ne (by first | assumption | omega)).trans (by first | assumption | exact zup_self)) | exact (bk_out (by first | omega | (simp only [bset, reduceIte, Nat.reduceEqDiff]; omega))).trans (by first | exact bk_0 | exact bk_1 | exact bk_2 | exact bk_3 | exact bk_4 | exact bk_5 | exact bk_6 | exact bk_7 | exact bk_8 | exact bk_9 | exact bk_10 | exact bk_11 | exact bk_12 | exact bk_13 | exact bk_14 | exact bk_15 | exact bk_16 | exact cr_5 | exact cr_23 | exact cr_24 | exact cr_25 | exact cr_26 | exact cr_27 | exact cr_28 | exact cr_29 | exact cr_30 | assumption)) rfl ?_
    refine zr_getf dX6_drawnShare_7 (rfl : 7 + 3 = 10) f_X6_169 (by first | assumption | exact bk_0 | exact bk_1 | exact bk_2 | exact bk_3 | exact bk_4 | exact bk_5 | exact bk_6 | exact bk_7 | exact bk_8 | exact bk_9 | exact bk_10 | exact bk_11 | exact bk_12 | exact bk_13 | exact bk_14 | exact bk_15 | exact bk_16 | exact zup_self | exact (zup_ne (by first | assumption | omega)).trans (by first | assumption | exact zup_self) | exact (zup_ne (by first | assumption | omega)).trans ((zup_ne (by first | assumption | omega)).trans (by first | assumption | exact zup_self)) | exact (bk_out (by first | omega | (simp only [bset, reduceIte, Nat.reduceEqDiff]; omega))).trans (by first | exact bk_0 | exact bk_1 | exact bk_2 | exact bk_3 | exact bk_4 | exact bk_5 | exact bk_6 | exact bk_7 | exact bk_8 | exact bk_9 | exact bk_10 | exact bk_11 | exact bk_12 | exact bk_13 | exact bk_14 | exact bk_15 | exact bk_16 | exact cr_5 | exact cr_23 | exact cr_24 | exact cr_25 | exact cr_26 | exact cr_27 | exact cr_28 | exact cr_29 | exact cr_30 | assumption)) rfl ?_
    refine zr_istore_n (lv' := [_, _, _, _]) dX6_drawnShare_10 (rfl : 10 + 1 = 11) (Nat.le_of_ble_eq_true rfl) rfl ?_
    refine zr_iload_n dX6_drawnShare_11 (rfl : 11 + 1 = 12) rfl ?_
    refine zr_if_ne (tgt := 17) dX6_drawnShare_12 (by decide) (rfl : 12 + 3 = 15) (by first | exact jb_iff | exact jI_z (by first | omega | (simp only [bset, reduceIte, Nat.reduceEqDiff]; omega)) (by first | omega | (simp only [bset, reduceIte, Nat.reduceEqDiff]; omega))) (fun h12 => ?_) (fun h12 => ?_)
    · refine zr_iconst dX6_drawnShare_17 (rfl : 17 + 1 = 18) ?_
      refine zr_istore_n (lv' := [_, _, _, _]) dX6_drawnShare_18 (rfl : 18 + 1 = 19) (Nat.le_of_ble_eq_true rfl) rfl ?_
      refine zr_iconst dX6_drawnShare_19 (rfl : 19 + 1 = 20) ?_
      refine zr_istore_n (lv' := [_, _, _, _]) dX6_drawnShare_20 (rfl : 20 + 1 = 21) (Nat.le_of_ble_eq_true rfl) rfl ?_
      refine zfor1 0 6 (fun i x => x = jdp B i.toNat) (fun i x => [some (.ref 5), some (.int (jI (B 2 0))), some (.int (jI x)), some (.int (jI i))]) (fun _ _ => bk 6 B (cr σ τ u)) 0 rfl ?_ ?_
      · intro i x i0 i1 hx hk
        refine zr_iload_n dX6_drawnShare_21 (rfl : 21 + 1 = 22) rfl ?_
        refine zr_bipush dX6_drawnShare_22 (rfl : 22 + 2 = 24) (by decide) ?_
        refine zr_icmp_ge (tgt := 57) dX6_drawnShare_24 (by decide) (rfl : 24 + 3 = 27) (jI_le (by first | omega | (simp only [bset, reduceIte, Nat.reduceEqDiff]; omega)) (by first | omega | (simp only [bset, reduceIte, Nat.reduceEqDiff]; omega)) (by first | omega | (simp only [bset, reduceIte, Nat.reduceEqDiff]; omega)) (by first | omega | (simp only [bset, reduceIte, Nat.reduceEqDiff]; omega))) (fun h24 => ?_) (fun h24 => ?_)
        · first
          | (exfalso; omega)
          | (
            exfalso
            omega)
        · first
          | (exfalso; omega)
          | (
            refine zr_iload_n dX6_drawnShare_27 (rfl : 27 + 1 = 28) rfl ?_
            refine zr_aload_n dX6_drawnShare_28 (rfl : 28 + 1 = 29) rfl ?_
            refine zr_getf dX6_drawnShare_29 (rfl : 29 + 3 = 32) f_X6_10 (by first | assumption | exact bk_0 | exact bk_1 | exact bk_2 | exact bk_3 | exact bk_4 | exact bk_5 | exact bk_6 | exact bk_7 | exact bk_8 | exact bk_9 | exact bk_10 | exact bk_11 | exact bk_12 | exact bk_13 | exact bk_14 | exact bk_15 | exact bk_16 | exact zup_self | exact (zup_ne (by first | assumption | omega)).trans (by first | assumption | exact zup_self) | exact (zup_ne (by first | assumption | omega)).trans ((zup_ne (by first | assumption | omega)).trans (by first | assumption | exact zup_self)) | exact (bk_out (by first | omega | (simp only [bset, reduceIte, Nat.reduceEqDiff]; omega))).trans (by first | exact bk_0 | exact bk_1 | exact bk_2 | exact bk_3 | exact bk_4 | exact bk_5 | exact bk_6 | exact bk_7 | exact bk_8 | exact bk_9 | exact bk_10 | exact bk_11 | exact bk_12 | exact bk_13 | exact bk_14 | exact bk_15 | exact bk_16 | exact cr_5 | exact cr_23 | exact cr_24 | exact cr_25 | exact cr_26 | exact cr_27 | exact cr_28 | exact cr_29 | exact cr_30 | assumption)) rfl ?_
            refine zr_getf dX6_drawnShare_32 (rfl : 32 + 3 = 35) f_X6_69 (by first | assumption | exact bk_0 | exact bk_1 | exact bk_2 | exact bk_3 | exact bk_4 | exact bk_5 | exact bk_6 | exact bk_7 | exact bk_8 | exact bk_9 | exact bk_10 | exact bk_11 | exact bk_12 | exact bk_13 | exact bk_14 | exact bk_15 | exact bk_16 | exact zup_self | exact (zup_ne (by first | assumption | omega)).trans (by first | assumption | exact zup_self) | exact (zup_ne (by first | assumption | omega)).trans ((zup_ne (by first | assumption | omega)).trans (by first | assumption | exact zup_self)) | exact (bk_out (by first | omega | (simp only [bset, reduceIte, Nat.reduceEqDiff]; omega))).trans (by first | exact bk_0 | exact bk_1 | exact bk_2 | exact bk_3 | exact bk_4 | exact bk_5 | exact bk_6 | exact bk_7 | exact bk_8 | exact bk_9 | exact bk_10 | exact bk_11 | exact bk_12 | exact bk_13 | exact bk_14 | exact bk_15 | exact bk_16 | exact cr_5 | exact cr_23 | exact cr_24 | exact cr_25 | exact cr_26 | exact cr_27 | exact cr_28 | exact cr_29 | exact cr_30 | assumption)) rfl ?_
            refine zr_iload_n dX6_drawnShare_35 (rfl : 35 + 1 = 36) rfl ?_
            refine zr_aload_n dX6_drawnShare_36 (rfl : 36 + 1 = 37) rfl ?_
            refine zr_getf dX6_drawnShare_37 (rfl : 37 + 3 = 40) f_X6_10 (by first | assumption | exact bk_0 | exact bk_1 | exact bk_2 | exact bk_3 | exact bk_4 | exact bk_5 | exact bk_6 | exact bk_7 | exact bk_8 | exact bk_9 | exact bk_10 | exact bk_11 | exact bk_12 | exact bk_13 | exact bk_14 | exact bk_15 | exact bk_16 | exact zup_self | exact (zup_ne (by first | assumption | omega)).trans (by first | assumption | exact zup_self) | exact (zup_ne (by first | assumption | omega)).trans ((zup_ne (by first | assumption | omega)).trans (by first | assumption | exact zup_self)) | exact (bk_out (by first | omega | (simp only [bset, reduceIte, Nat.reduceEqDiff]; omega))).trans (by first | exact bk_0 | exact bk_1 | exact bk_2 | exact bk_3 | exact bk_4 | exact bk_5 | exact bk_6 | exact bk_7 | exact bk_8 | exact bk_9 | exact bk_10 | exact bk_11 | exact bk_12 | exact bk_13 | exact bk_14 | exact bk_15 | exact bk_16 | exact cr_5 | exact cr_23 | exact cr_24 | exact cr_25 | exact cr_26 | exact cr_27 | exact cr_28 | exact cr_29 | exact cr_30 | assumption)) rfl ?_
            refine zr_getf dX6_drawnShare_40 (rfl : 40 + 3 = 43) f_X6_78 (by first | assumption | exact bk_0 | exact bk_1 | exact bk_2 | exact bk_3 | exact bk_4 | exact bk_5 | exact bk_6 | exact bk_7 | exact bk_8 | exact bk_9 | exact bk_10 | exact bk_11 | exact bk_12 | exact bk_13 | exact bk_14 | exact bk_15 | exact bk_16 | exact zup_self | exact (zup_ne (by first | assumption | omega)).trans (by first | assumption | exact zup_self) | exact (zup_ne (by first | assumption | omega)).trans ((zup_ne (by first | assumption | omega)).trans (by first | assumption | exact zup_self)) | exact (bk_out (by first | omega | (simp only [bset, reduceIte, Nat.reduceEqDiff]; omega))).trans (by first | exact bk_0 | exact bk_1 | exact bk_2 | exact bk_3 | exact bk_4 | exact bk_5 | exact bk_6 | exact bk_7 | exact bk_8 | exact bk_9 | exact bk_10 | exact bk_11 | exact bk_12 | exact bk_13 | exact bk_14 | exact bk_15 | exact bk_16 | exact cr_5 | exact cr_23 | exact cr_24 | exact cr_25 | exact cr_26 | exact cr_27 | exact cr_28 | exact cr_29 | exact cr_30 | assumption)) rfl ?_
            refine zr_getf dX6_drawnShare_43 (rfl : 43 + 3 = 46) f_X6_185 (by first | assumption | exact bk_0 | exact bk_1 | exact bk_2 | exact bk_3 | exact bk_4 | exact bk_5 | exact bk_6 | exact bk_7 | exact bk_8 | exact bk_9 | exact bk_10 | exact bk_11 | exact bk_12 | exact bk_13 | exact bk_14 | exact bk_15 | exact bk_16 | exact zup_self | exact (zup_ne (by first | assumption | omega)).trans (by first | assumption | exact zup_self) | exact (zup_ne (by first | assumption | omega)).trans ((zup_ne (by first | assumption | omega)).trans (by first | assumption | exact zup_self)) | exact (bk_out (by first | omega | (simp only [bset, reduceIte, Nat.reduceEqDiff]; omega))).trans (by first | exact bk_0 | exact bk_1 | exact bk_2 | exact bk_3 | exact bk_4 | exact bk_5 | exact bk_6 | exact bk_7 | exact bk_8 | exact bk_9 | exact bk_10 | exact bk_11 | exact bk_12 | exact bk_13 | exact bk_14 | exact bk_15 | exact bk_16 | exact cr_5 | exact cr_23 | exact cr_24 | exact cr_25 | exact cr_26 | exact cr_27 | exact cr_28 | exact cr_29 | exact cr_30 | assumption)) rfl ?_
            refine zr_fnV dX6_drawnShare_46 (rfl : 46 + 3 = 49) l_X6_188 (hm i (by first | omega | (simp only [bset, reduceIte, Nat.reduceEqDiff]; omega))) (by first | assumption | exact bk_0 | exact bk_1 | exact bk_2 | exact bk_3 | exact bk_4 | exact bk_5 | exact bk_6 | exact bk_7 | exact bk_8 | exact bk_9 | exact bk_10 | exact bk_11 | exact bk_12 | exact bk_13 | exact bk_14 | exact bk_15 | exact bk_16 | exact zup_self | exact (zup_ne (by first | assumption | omega)).trans (by first | assumption | exact zup_self) | exact (zup_ne (by first | assumption | omega)).trans ((zup_ne (by first | assumption | omega)).trans (by first | assumption | exact zup_self)) | exact (bk_out (by first | omega | (simp only [bset, reduceIte, Nat.reduceEqDiff]; omega))).trans (by first | exact bk_0 | exact bk_1 | exact bk_2 | exact bk_3 | exact bk_4 | exact bk_5 | exact bk_6 | exact bk_7 | exact bk_8 | exact bk_9 | exact bk_10 | exact bk_11 | exact bk_12 | exact bk_13 | exact bk_14 | exact bk_15 | exact bk_16 | exact cr_5 | exact cr_23 | exact cr_24 | exact cr_25 | exact cr_26 | exact cr_27 | exact cr_28 | exact cr_29 | exact cr_30 | assumption)) rfl rfl rfl (Nat.le_of_ble_eq_true rfl) ?_
            refine zr_iadd dX6_drawnShare_49 (rfl : 49 + 1 = 50) (by first | exact jI_add _ _ | rfl) ?_
            refine zr_istore_n (lv' := [_, _, _, _]) dX6_drawnShare_50 (rfl : 50 + 1 = 51) (Nat.le_of_ble_eq_true rfl) rfl ?_
            refine zr_iinc (lv' := [_, _, _, _]) dX6_drawnShare_51 (rfl : 51 + 3 = 54) (Nat.le_of_ble_eq_true rfl) rfl (by first | exact jI_add _ _ | rfl) rfl ?_
            refine zr_goto (tgt := 21) dX6_drawnShare_54 (by decide) ?_
            refine hk _ ?_
            rw [show (i + 1).toNat = i.toNat + 1 by omega, hx]
            show _ = jdp B i.toNat + jmc (B 0) (B 7) (i.toNat : Int)
            rw [show (i.toNat : Int) = i by omega])
      · intro x hx
        rw [show x = jdn B from hx]
        refine zr_iload_n dX6_drawnShare_21 (rfl : 21 + 1 = 22) rfl ?_
        refine zr_bipush dX6_drawnShare_22 (rfl : 22 + 2 = 24) (by decide) ?_
        refine zr_icmp_ge (tgt := 57) dX6_drawnShare_24 (by decide) (rfl : 24 + 3 = 27) (jI_le (by first | omega | (simp only [bset, reduceIte, Nat.reduceEqDiff]; omega)) (by first | omega | (simp only [bset, reduceIte, Nat.reduceEqDiff]; omega)) (by first | omega | (simp only [bset, reduceIte, Nat.reduceEqDiff]; omega)) (by first | omega | (simp only [bset, reduceIte, Nat.reduceEqDiff]; omega))) (fun h24 => ?_) (fun h24 => ?_)
        · refine zr_iload_n dX6_drawnShare_57 (rfl : 57 + 1 = 58) rfl ?_
          refine zr_i2d dX6_drawnShare_58 (rfl : 58 + 1 = 59) ?_
          refine zr_iload_n dX6_drawnShare_59 (rfl : 59 + 1 = 60) rfl ?_
          refine zr_i2d dX6_drawnShare_60 (rfl : 60 + 1 = 61) ?_
          refine zr_ddiv dX6_drawnShare_61 (rfl : 61 + 1 = 62) hn ?_
          exact zr_dret dX6_drawnShare_62 rfl rfl rfl rfl rfl
        · exfalso; omega
    · exfalso; omega
end SH

