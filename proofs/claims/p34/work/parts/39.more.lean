/-! the law's constants, told as Ints; calls that only return -/
theorem kj_L_7 : zG [.constant RL 7 (jI (47123))] := zG.p [374] (by decide +kernel) (by decide +kernel)
theorem kj_L_8 : zG [.constant RL 8 (jI (2147483647))] := zG.p [375] (by decide +kernel) (by decide +kernel)
theorem kj_L_17 : zG [.constant RL 17 (jI (-2000001))] := zG.p [513] (by decide +kernel) (by decide +kernel)
theorem kj_L_20 : zG [.constant RL 20 (jI (-2000002))] := zG.p [514] (by decide +kernel) (by decide +kernel)
theorem kj_L_31 : zG [.constant RL 31 (jI (-2000003))] := zG.p [572] (by decide +kernel) (by decide +kernel)
theorem kj_L_177 : zG [.constant RL 177 (jI (-2000000))] := zG.p [891] (by decide +kernel) (by decide +kernel)
theorem cst_IOB : Cond.castable zIOB zIOB ∈ lw_tbl := List.mem_of_getElem? (i := 396) (by decide +kernel)
theorem cst_IAE : Cond.castable zIAE zIAE ∈ lw_tbl := List.mem_of_getElem? (i := 468) (by decide +kernel)
theorem cst_ISE : Cond.castable zISE zISE ∈ lw_tbl := List.mem_of_getElem? (i := 529) (by decide +kernel)
/-- a method with handlers that answers v, and behind it stands w2 -/
def zFnH (Γ : zΓ) (M : zMd) (d : Nat) (as : List Value) (w : zW) (v : Option Value) (w2 : zW) : Prop := ∀ n g, zTrH Γ M d 0 0 as n g w (fun r n' g' w' => r = v ∧ n' = n ∧ g' = g ∧ w' = w2) zNo
/-- the same, with an exception made on the way, it may be -/
def zOtH (Γ : zΓ) (M : zMd) (d : Nat) (as : List Value) (w : zW) (v : Option Value) (w2 : zW) : Prop := ∀ n g, zTrH Γ M d 1 6 as n g w (fun r n' _ w' => r = v ∧ n' = n ∧ w' = w2) zNo
/-- a method without handlers, likewise, with room for k exceptions -/
def zOt (Γ : zΓ) (M : zMd) (d k : Nat) (as : List Value) (w : zW) (v : Option Value) (w2 : zW) : Prop := ∀ n g, zTr Γ M d k (6 * k) as n g w (fun r n' _ w' => r = v ∧ n' = n ∧ w' = w2) zNo
section MH
variable {Γ : zΓ} {M M2 : zMd} {d mc ms : Nat} {as : List Value} {n : Nat} {g : Bool} {kc ks : Nat} {w w2 : zW} {v : Option Value} {pc pc' : Nat} {lv : List (Option Value)} {st st0 : List Value} {Q : zQ} {Qr Qr' : zQr} {Qx : zQx}
theorem zr_iretH {x : Int32} (hd : decode M.2.1 pc = .ok (.ireturn, 1)) (hr : M.2.2.2.1 = some .int) (hq : Qr (some (.int x)) n g w) : zRun Γ M d none pc lv [.int x] (n, g, kc, ks) w (zEnd M Qr Qx) :=
  zRun.now ⟨_, Or.inr (Or.inl ⟨x, .int, rfl, rfl, hd, hr, rfl⟩), hq⟩
theorem zr_iretB {x : Int} (hd : decode M.2.1 pc = .ok (.ireturn, 1)) (hr : M.2.2.2.1 = some .boolean) (hx : x = 1) (hq : Qr (some (.int (jI 1))) n g w) : zRun Γ M d none pc lv [.int (jI x)] (n, g, kc, ks) w (zEnd M Qr Qx) := by
  subst hx
  exact zRun.now ⟨_, Or.inr (Or.inl ⟨jI 1, .boolean, rfl, rfl, hd, hr, rfl⟩), hq⟩
theorem zr_fnH {idx na : Nat} (hd : decode M.2.1 pc = .ok (.invokestatic idx, 3)) (hp : pc + 3 = pc') (hl : zLkH M.1.cls idx M2 na) (ht : zFnH Γ M2 d as w v w2) (hna : as.length = na) (hst : as.reverse ++ st = st0) (hcat : (st.map fun v => v.category).sum ≤ 8)
    (k : zRun Γ M (d + 1) none pc' lv (v.toList ++ st) (n, g, kc, ks) w2 Q) : zRun Γ M (d + 1) none pc lv st0 (n, g, kc, ks) w Q :=
  zr_callH hd hp hl (ht n g) hna hst hcat (Nat.zero_le _) (Nat.zero_le _) (fun r n' g' w' hq => by obtain ⟨rfl, rfl, rfl, rfl⟩ := hq; exact k) (fun _ _ _ _ hq => hq.elim)
theorem zr_otH {idx na : Nat} (hd : decode M.2.1 pc = .ok (.invokestatic idx, 3)) (hp : pc + 3 = pc') (hl : zLkH M.1.cls idx M2 na) (ht : zOtH Γ M2 d as w v w2) (hna : as.length = na) (hst : as.reverse ++ st = st0) (hcat : (st.map fun v => v.category).sum ≤ 8) (hmc : 1 ≤ kc) (hms : 6 ≤ ks)
    (k : ∀ g', zRun Γ M (d + 1) none pc' lv (v.toList ++ st) (n, g', kc - 1, ks - 6) w2 Q) : zRun Γ M (d + 1) none pc lv st0 (n, g, kc, ks) w Q :=
  zr_callH hd hp hl (ht n g) hna hst hcat hmc hms (fun r n' g' w' hq => by obtain ⟨rfl, rfl, rfl⟩ := hq; exact k g') (fun _ _ _ _ hq => hq.elim)
theorem zr_ot {idx na j : Nat} (hd : decode M.2.1 pc = .ok (.invokestatic idx, 3)) (hp : pc + 3 = pc') (hl : zLkS M.1.cls idx M2 na) (ht : zOt Γ M2 d j as w v w2) (hna : as.length = na) (hst : as.reverse ++ st = st0) (hcat : (st.map fun v => v.category).sum ≤ 8) (hmc : j ≤ kc) (hms : 6 * j ≤ ks)
    (k : ∀ g', zRun Γ M (d + 1) none pc' lv (v.toList ++ st) (n, g', kc - j, ks - 6 * j) w2 Q) : zRun Γ M (d + 1) none pc lv st0 (n, g, kc, ks) w Q :=
  zr_callS hd hp hl (ht n g) hna hst hcat hmc hms (fun r n' g' w' hq => by obtain ⟨rfl, rfl, rfl⟩ := hq; exact k g') (fun _ _ _ _ hq => hq.elim)
/-- at an end of a method without handlers -/
def zDoneO (M : zMd) (v : Option Value) (w2 : zW) (n : Nat) : zQ := fun ex pc _ st μ w' => ex = none ∧ zRet M pc st v ∧ w' = w2 ∧ μ.1 = n
theorem zOt.of_run {j : Nat} (hy : plainName M.1.cls = true) (hh : M.2.2.2.2 = []) (hlen : (zentl as).length ≤ M.2.2.1) (hlv : zent M.2.2.1 as = lv) (h : ∀ n g, zRun Γ M d none 0 lv [] (n, g, j, 6 * j) w (zDoneO M v w2 n)) : zOt Γ M d j as w v w2 := by
  intro n g
  refine zTr.of_run hy hh hlen hlv ((h n g).mono ?_)
  intro ex pc lv st μ w' hq
  obtain ⟨rfl, h1, rfl, h3⟩ := hq
  exact ⟨v, h1, rfl, h3, rfl⟩
theorem zr_iretO {x : Int32} {ty : FieldType} {n2 : Nat} (hd : decode M.2.1 pc = .ok (.ireturn, 1)) (hr : M.2.2.2.1 = some ty) (hn : narrow ty (.int x) = .int x) (hv : some (.int x) = v) (hw : w = w2) (hn2 : n = n2) : zRun Γ M d none pc lv [.int x] (n, g, kc, ks) w (zDoneO M v w2 n2) := by
  subst hv; subst hw; subst hn2
  exact zRun.now ⟨rfl, Or.inr (Or.inl ⟨x, ty, rfl, rfl, hd, hr, hn⟩), rfl, rfl⟩
end MH

