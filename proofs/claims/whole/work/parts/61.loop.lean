/-! the law's loop -/
theorem jand31 (x : Int) : ∃ m : Int, (0 ≤ m ∧ m < 32) ∧ (jI x &&& jI 31) = jI m := by
  refine ⟨(((jI x &&& jI 31).toBitVec.toNat : Nat) : Int), ?_, ?_⟩
  · have h : (jI x &&& jI 31).toBitVec.toNat < 32 := by
      have e : (jI x &&& jI 31).toBitVec.toNat = (jI x).toBitVec.toNat &&& 31 := by
        rw [Int32.toBitVec_and, BitVec.toNat_and]
        rfl
      rw [e, show (31 : Nat) = 2 ^ 5 - 1 from rfl, Nat.and_two_pow_sub_one_eq_mod]
      exact Nat.mod_lt _ (by decide)
    omega
  · generalize (jI x &&& jI 31) = y
    show y = Int32.ofInt (y.toBitVec.toNat : Int)
    rw [Int32.ofInt_eq_ofNat]
    exact (Int32.toBitVec_inj.mp (by simp)).symm
def lwEnd : zQ := fun ex pc _ st _ _ => ex = none ∧ pc = 1870 ∧ st = [.int (jI 1)]
section LO
variable {Γ : zΓ} {d n L : Nat} {xs : Nat → Int32}
theorem law_loop (hscr : zOld Γ 0 L xs) (hL : L ≤ 2048) : ∀ (N : Nat) (t : Int), t + N = 512 → 0 ≤ t → zHead Γ (d + 9) n N (6 * N) 23 (4 * t) lwEnd := by
  intro N
  induction N with
  | zero =>
    intro t ht t0 g B σ τ S ik th f o5 o6 o7 o8 hR
    refine zr_iload dL_law_23 (rfl : 23 + 2 = 25) rfl ?_
    refine zr_aload_n dL_law_25 (rfl : 25 + 1 = 26) rfl ?_
    refine zr_alenO dL_law_26 (rfl : 26 + 1 = 27) (fun _ => hscr) ?_
    refine zr_iconst dL_law_27 (rfl : 27 + 1 = 28) ?_
    refine zr_isub dL_law_28 (rfl : 28 + 1 = 29) (by first | exact jI_sub _ _ | rfl) ?_
    refine zr_icmp_gt (tgt := 1869) dL_law_29 (by decide) (rfl : 29 + 3 = 32) (jI_lt (by omega) (by omega) (by omega) (by omega)) (fun h => ?_) (fun h => ?_)
    · refine zr_iconst dL_law_1869 (rfl : 1869 + 1 = 1870) ?_
      exact zRun.now ⟨rfl, rfl, rfl⟩
    · exfalso; omega
  | succ N ih =>
    intro t ht t0 g B σ τ S ik th f o5 o6 o7 o8 hR
    refine zr_iload dL_law_23 (rfl : 23 + 2 = 25) rfl ?_
    refine zr_aload_n dL_law_25 (rfl : 25 + 1 = 26) rfl ?_
    refine zr_alenO dL_law_26 (rfl : 26 + 1 = 27) (fun _ => hscr) ?_
    refine zr_iconst dL_law_27 (rfl : 27 + 1 = 28) ?_
    refine zr_isub dL_law_28 (rfl : 28 + 1 = 29) (by first | exact jI_sub _ _ | rfl) ?_
    refine zr_icmp_gt (tgt := 1869) dL_law_29 (by decide) (rfl : 29 + 3 = 32) (jI_lt (by omega) (by omega) (by omega) (by omega)) (fun h => ?_) (fun h => ?_)
    · refine zr_iconst dL_law_1869 (rfl : 1869 + 1 = 1870) ?_
      exact zRun.now ⟨rfl, rfl, rfl⟩
    · have hi : 0 ≤ 4 * t ∧ 4 * t + 4 ≤ (L : Int) := by omega
      have hk : zHead Γ (d + 9) n N (6 * N) 1863 (4 * t) lwEnd := by
        intro g B σ τ S ik th f o5 o6 o7 o8 hR
        refine zr_iinc (lv' := [_, _, _, _, _, _, _, _, _]) dL_law_1863 (rfl : 1863 + 3 = 1866) (Nat.le_of_ble_eq_true rfl) rfl (by first | exact jI_add _ _ | rfl) rfl ?_
        refine zr_goto (tgt := 23) dL_law_1866 (by decide) ?_
        rw [show 4 * t + 4 = 4 * (t + 1) by omega]
        exact ih (t + 1) (by omega) (by omega) g B σ τ S ik th f o5 o6 o7 o8 hR
      rw [show 6 * (N + 1) = 6 * N + 6 by omega]
      refine zr_aload_n dL_law_32 (rfl : 32 + 1 = 33) rfl ?_
      refine zr_iload dL_law_33 (rfl : 33 + 2 = 35) rfl ?_
      refine zr_scr dL_law_35 (rfl : 35 + 1 = 36) hscr hL (by omega) (by omega) ?_
      refine zr_bipush dL_law_36 (rfl : 36 + 2 = 38) (by decide) ?_
      obtain ⟨m, hm, he⟩ := jand31 (jsc' xs (4 * t))
      refine zr_iand dL_law_38 (rfl : 38 + 1 = 39) he ?_
      rcases (by omega : m = 0 ∨ m = 1 ∨ m = 2 ∨ m = 3 ∨ m = 4 ∨ m = 5 ∨ m = 6 ∨ m = 7 ∨ m = 8 ∨ m = 9 ∨ m = 10 ∨ m = 11 ∨ m = 12 ∨ m = 13 ∨ m = 14 ∨ m = 15 ∨ m = 16 ∨ m = 17 ∨ m = 18 ∨ m = 19 ∨ m = 20 ∨ m = 21 ∨ m = 22 ∨ m = 23 ∨ m = 24 ∨ m = 25 ∨ m = 26 ∨ m = 27 ∨ m = 28 ∨ m = 29 ∨ m = 30 ∨ m = 31) with rfl | rfl | rfl | rfl | rfl | rfl | rfl | rfl | rfl | rfl | rfl | rfl | rfl | rfl | rfl | rfl | rfl | rfl | rfl | rfl | rfl | rfl | rfl | rfl | rfl | rfl | rfl | rfl | rfl | rfl | rfl | rfl
      · refine zr_tableIn (off := 137) (tgt := 176) dL_law_39 (by decide) (by decide) (by decide) rfl (by decide) ?_
        exact case_put hscr hL hi hk g B σ τ S ik th f o5 o6 o7 o8 hR
      · refine zr_tableIn (off := 217) (tgt := 256) dL_law_39 (by decide) (by decide) (by decide) rfl (by decide) ?_
        exact case_take hscr hL hi hk g B σ τ S ik th f o5 o6 o7 o8 hR
      · refine zr_tableIn (off := 273) (tgt := 312) dL_law_39 (by decide) (by decide) (by decide) rfl (by decide) ?_
        exact case_fill hscr hL hi hk g B σ τ S ik th f o5 o6 o7 o8 hR
      · refine zr_tableIn (off := 341) (tgt := 380) dL_law_39 (by decide) (by decide) (by decide) rfl (by decide) ?_
        exact case_buy hscr hL hi hk g B σ τ S ik th f o5 o6 o7 o8 hR
      · refine zr_tableIn (off := 397) (tgt := 436) dL_law_39 (by decide) (by decide) (by decide) rfl (by decide) ?_
        exact case_seed hscr hL hi hk g B σ τ S ik th f o5 o6 o7 o8 hR
      · refine zr_tableIn (off := 453) (tgt := 492) dL_law_39 (by decide) (by decide) (by decide) rfl (by decide) ?_
        exact case_set hscr hL hi hk g B σ τ S ik th f o5 o6 o7 o8 hR
      · refine zr_tableIn (off := 521) (tgt := 560) dL_law_39 (by decide) (by decide) (by decide) rfl (by decide) ?_
        exact case_draw hscr hL hi hk g B σ τ S ik th f o5 o6 o7 o8 hR
      · refine zr_tableIn (off := 577) (tgt := 616) dL_law_39 (by decide) (by decide) (by decide) rfl (by decide) ?_
        exact case_claim hscr hL hi hk g B σ τ S ik th f o5 o6 o7 o8 hR
      · refine zr_tableIn (off := 645) (tgt := 684) dL_law_39 (by decide) (by decide) (by decide) rfl (by decide) ?_
        exact case_end hscr hL hi hk g B σ τ S ik th f o5 o6 o7 o8 hR
      · refine zr_tableIn (off := 658) (tgt := 697) dL_law_39 (by decide) (by decide) (by decide) rfl (by decide) ?_
        exact case_append hscr hL hi hk g B σ τ S ik th f o5 o6 o7 o8 hR
      · refine zr_tableIn (off := 714) (tgt := 753) dL_law_39 (by decide) (by decide) (by decide) rfl (by decide) ?_
        exact case_clearBuffer hscr hL hi hk g B σ τ S ik th f o5 o6 o7 o8 hR
      · refine zr_tableIn (off := 727) (tgt := 766) dL_law_39 (by decide) (by decide) (by decide) rfl (by decide) ?_
        exact case_firstError hscr hL hi hk g B σ τ S ik th f o5 o6 o7 o8 hR
      · refine zr_tableIn (off := 740) (tgt := 779) dL_law_39 (by decide) (by decide) (by decide) rfl (by decide) ?_
        exact case_run hscr hL hi hk g B σ τ S ik th f o5 o6 o7 o8 hR
      · refine zr_tableIn (off := 784) (tgt := 823) dL_law_39 (by decide) (by decide) (by decide) rfl (by decide) ?_
        exact case_keep hscr hL hi hk g B σ τ S ik th f o5 o6 o7 o8 hR
      · refine zr_tableIn (off := 840) (tgt := 879) dL_law_39 (by decide) (by decide) (by decide) rfl (by decide) ?_
        exact case_goBack hscr hL hi hk g B σ τ S ik th f o5 o6 o7 o8 hR
      · refine zr_tableIn (off := 896) (tgt := 935) dL_law_39 (by decide) (by decide) (by decide) rfl (by decide) ?_
        exact case_undo hscr hL hi hk g B σ τ S ik th f o5 o6 o7 o8 hR
      · refine zr_tableIn (off := 940) (tgt := 979) dL_law_39 (by decide) (by decide) (by decide) rfl (by decide) ?_
        exact case_at hscr hL hi hk g B σ τ S ik th f o5 o6 o7 o8 hR
      · refine zr_tableIn (off := 1020) (tgt := 1059) dL_law_39 (by decide) (by decide) (by decide) rfl (by decide) ?_
        exact case_cardOf hscr hL hi hk g B σ τ S ik th f o5 o6 o7 o8 hR
      · refine zr_tableIn (off := 1088) (tgt := 1127) dL_law_39 (by decide) (by decide) (by decide) rfl (by decide) ?_
        exact case_numberOf hscr hL hi hk g B σ τ S ik th f o5 o6 o7 o8 hR
      · refine zr_tableIn (off := 1156) (tgt := 1195) dL_law_39 (by decide) (by decide) (by decide) rfl (by decide) ?_
        exact case_call hscr hL hi hk g B σ τ S ik th f o5 o6 o7 o8 hR
      · refine zr_tableIn (off := 1224) (tgt := 1263) dL_law_39 (by decide) (by decide) (by decide) rfl (by decide) ?_
        exact case_gameOf hscr hL hi hk g B σ τ S ik th f o5 o6 o7 o8 hR
      · refine zr_tableIn (off := 1292) (tgt := 1331) dL_law_39 (by decide) (by decide) (by decide) rfl (by decide) ?_
        exact case_count hscr hL hi hk g B σ τ S ik th f o5 o6 o7 o8 hR
      · refine zr_tableIn (off := 1348) (tgt := 1387) dL_law_39 (by decide) (by decide) (by decide) rfl (by decide) ?_
        exact case_setting hscr hL hi hk g B σ τ S ik th f o5 o6 o7 o8 hR
      · refine zr_tableIn (off := 1404) (tgt := 1443) dL_law_39 (by decide) (by decide) (by decide) rfl (by decide) ?_
        exact case_whyNot hscr hL hi hk g B σ τ S ik th f o5 o6 o7 o8 hR
      · refine zr_tableIn (off := 1484) (tgt := 1523) dL_law_39 (by decide) (by decide) (by decide) rfl (by decide) ?_
        exact case_ifClaimed hscr hL hi hk g B σ τ S ik th f o5 o6 o7 o8 hR
      · refine zr_tableIn (off := 1552) (tgt := 1591) dL_law_39 (by decide) (by decide) (by decide) rfl (by decide) ?_
        exact case_missing hscr hL hi hk g B σ τ S ik th f o5 o6 o7 o8 hR
      · refine zr_tableIn (off := 1632) (tgt := 1671) dL_law_39 (by decide) (by decide) (by decide) rfl (by decide) ?_
        exact case_fullAt hscr hL hi hk g B σ τ S ik th f o5 o6 o7 o8 hR
      · refine zr_tableIn (off := 1700) (tgt := 1739) dL_law_39 (by decide) (by decide) (by decide) rfl (by decide) ?_
        exact case_firstFull hscr hL hi hk g B σ τ S ik th f o5 o6 o7 o8 hR
      · refine zr_tableIn (off := 1713) (tgt := 1752) dL_law_39 (by decide) (by decide) (by decide) rfl (by decide) ?_
        exact case_next hscr hL hi hk g B σ τ S ik th f o5 o6 o7 o8 hR
      · refine zr_tableIn (off := 1769) (tgt := 1808) dL_law_39 (by decide) (by decide) (by decide) rfl (by decide) ?_
        exact case_drawnShare hscr hL hi hk g B σ τ S ik th f o5 o6 o7 o8 hR
      · refine zr_tableIn (off := 1810) (tgt := 1849) dL_law_39 (by decide) (by decide) (by decide) rfl (by decide) ?_
        exact case_digest hscr hL hi hk g B σ τ S ik th f o5 o6 o7 o8 hR
      · refine zr_tableOut (tgt := 1863) dL_law_39 (by decide) (Or.inr (by decide)) (by decide) ?_
        refine zRun.less (Nat.le_add_right N 1) (Nat.le_add_right (6 * N) 6) ?_
        exact hk g B σ τ S ik th f o5 o6 o7 o8 hR
end LO
/-! the law's start -/
theorem jpk_B0 : jpk jB0 := by
  show (1 : Int) ≤ 10
  decide
theorem cok_0 : cok jσ0 := ⟨fun _ _ => jok_B0, fun _ => (by decide : (0 : Int) ≤ 0 ∧ (0 : Int) ≤ 1), by decide, by decide, fun _ => (by decide : (0 : Int) ≤ 0 ∧ (0 : Int) ≤ 126), by decide⟩
theorem mr_B0 : mr jμS 0 jB0 := by
  have e7 : ∀ z, 3 < z → jμS z = 0 := fun z hz => by
    unfold jμS
    rw [if_neg (by omega), if_neg (by omega)]
  refine ⟨?_, rfl, ?_, ?_, ?_, ?_, ?_, ?_, ?_, ?_, ?_, ?_, ?_, ?_, ?_, ?_, ?_, ?_, ?_, ?_, ?_⟩
  · intro k h0 h1
    show jμS (0 + k) = if k = 0 then 10 else 0
    unfold jμS
    rw [Int.zero_add, if_neg (by omega)]
  · intro n h0 h1
    rw [e7 _ (by omega), jB0_1 (by omega)]
    rfl
  · intro n h0 h1
    exact e7 _ (by omega)
  · intro n h0 h1
    exact e7 _ (by omega)
  · intro k h0 h1
    have h1 : k < 0 := h1
    omega
  · intro k h0 h1
    have h1 : k < 0 := h1
    omega
  · exact e7 _ (by decide)
  · intro c h0 h1
    rw [e7 _ (by omega)]
    exact (jbit_0 c).symm
  · intro c h0 h1
    rw [e7 _ (by omega)]
    show 0 = jbit 0 c + jbit 0 c * 2 + jbit 0 c * 4 + jbit 0 c * 8
    rw [jbit_0]
    rfl
  · intro c h0 h1
    exact e7 _ (by omega)
  · intro c h0 h1
    exact e7 _ (by omega)
  · intro c h0 h1
    exact e7 _ (by omega)
  · exact e7 _ (by decide)
  · exact e7 _ (by decide)
  · exact e7 _ (by decide)
  · exact e7 _ (by decide)
  · exact e7 _ (by decide)
  · exact e7 _ (by decide)
  · exact e7 _ (by decide)
  · exact e7 _ (by decide)
theorem zRel_0 : zRel jB0 jσ0 jμS (fun _ => 0) :=
  ⟨jok_B0, jlk_B0, jpk_B0, cok_0, fun _ _ => ⟨jlk_B0, jpk_B0⟩, mr_B0, fun i i0 i1 => by have i1 : i ≤ 0 := i1; omega, fun s _ _ => ⟨rfl, fun h => absurd (show (0 : Int) = 1 from h) (by decide)⟩⟩
def zwe : zW := fun _ => none
theorem cr_ind {σ : zC} {τ : zTau} {u u2 : zW} {j : Nat} (h : j = 5 ∨ (23 ≤ j ∧ j < 167)) : cr σ τ u j = cr σ τ u2 j := by
  rcases (by omega : j = 5 ∨ j = 23 ∨ j = 24 ∨ j = 25 ∨ j = 26 ∨ j = 27 ∨ j = 28 ∨ j = 29 ∨ j = 30 ∨ (31 ≤ j ∧ j < 167)) with rfl | rfl | rfl | rfl | rfl | rfl | rfl | rfl | rfl | h
  · rfl
  · rfl
  · rfl
  · rfl
  · rfl
  · rfl
  · rfl
  · rfl
  · rfl
  · rw [cr_bx h, cr_bx h]
section ST
variable {Γ : zΓ} {L : Nat} {xs : Nat → Int32}
theorem law_run (hscr : zOld Γ 0 L xs) (hL : L ≤ 2048) : zRun Γ md_L_law 9 none 0 [some (.ref 0), none, none, none, none, none, none, none, none] [] (0, true, 680, 15160) zwe lwEnd := by
  refine zr_new dL_law_0 (rfl : 0 + 3 = 3) nc_L_8 (by omega) (by omega) ?_
  refine zr_dup dL_law_3 (rfl : 3 + 1 = 4) rfl ?_
  refine zr_newI dL_law_4 (rfl : 4 + 3 = 7) l_L_94 (n_TombolaBooks (d := 3) zup_self) rfl rfl (Nat.le_of_ble_eq_true rfl) (by omega) (by omega) ?_
  refine zr_astore_n (lv' := [_, _, _, _, _, _, _, _, _]) dL_law_7 (rfl : 7 + 1 = 8) (Nat.le_of_ble_eq_true rfl) rfl ?_
  refine zr_new dL_law_8 (rfl : 8 + 3 = 11) nc_L_95 (by omega) (by omega) ?_
  refine zr_dup dL_law_11 (rfl : 11 + 1 = 12) rfl ?_
  refine zr_newI dL_law_12 (rfl : 12 + 3 = 15) l_L_97 (n_Model (d := 6) zup_self) rfl rfl (Nat.le_of_ble_eq_true rfl) (by omega) (by omega) ?_
  refine zr_astore_n (lv' := [_, _, _, _, _, _, _, _, _]) dL_law_15 (rfl : 15 + 1 = 16) (Nat.le_of_ble_eq_true rfl) rfl ?_
  refine zr_iconst dL_law_16 (rfl : 16 + 1 = 17) ?_
  refine zr_newa (tg := 1) dL_law_17 (rfl : 17 + 2 = 19) rfl (Or.inr (Or.inl ⟨rfl, rfl⟩)) ac_long (by decide) (by decide) rfl (by omega) (by omega) ?_
  refine zr_astore_n (lv' := [_, _, _, _, _, _, _, _, _]) dL_law_19 (rfl : 19 + 1 = 20) (Nat.le_of_ble_eq_true rfl) rfl ?_
  refine zr_iconst dL_law_20 (rfl : 20 + 1 = 21) ?_
  refine zr_istore (lv' := [_, _, _, _, _, _, _, _, _]) dL_law_21 (rfl : 21 + 2 = 23) (Nat.le_of_ble_eq_true rfl) rfl ?_
  refine zRun.less (kc' := 512) (ks' := 6 * 512) (by omega) (by omega) ?_
  have hgo := law_loop (d := 0) (n := 167) hscr hL 512 0 rfl (Int.le_refl 0) true jB0 jσ0 jτ0 jμS (fun _ => 0) 0 (fun _ => 0) none none none none zRel_0
  refine Eq.mp (congrArg (fun z => zRun Γ md_L_law 9 none 23 _ [] (167, true, 512, 6 * 512) z lwEnd) ?_) hgo
  funext j
  by_cases h : j < 167 ∨ 171 < j
  · rw [zup_ne (by omega), zup_ne (by omega), zup_ne (by omega), zup_ne (by omega), zup_ne (by omega), zup_ne (by omega)]
    by_cases h2 : 6 ≤ j ∧ j < 23
    · rw [bk_in (by omega), bk_in (by omega)]
    · rw [bk_out (by omega), bk_out (by omega)]
      by_cases h3 : j < 5 ∨ (5 < j ∧ j < 23) ∨ 167 ≤ j
      · rw [cr_out h3, cr_out h3, mw_out (by omega), zup_ne (by omega)]
        unfold zw0 zwe
        rw [if_neg (by omega)]
      · exact cr_ind (by omega)
  · rcases (by omega : j = 167 ∨ j = 168 ∨ j = 169 ∨ j = 170 ∨ j = 171) with rfl | rfl | rfl | rfl | rfl
    · rfl
    · rfl
    · rfl
    · rfl
    · rfl
end ST
