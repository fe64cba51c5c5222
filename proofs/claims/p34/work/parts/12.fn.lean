/-! METHODS as functions: exactly this answer, exactly this world behind; or exactly this throw, the world as it was -/
def zDone (M : zMd) (v : Option Value) (w2 : zW) (n : Nat) (g : Bool) : zQ := fun ex pc _ st μ w' => ex = none ∧ zRet M pc st v ∧ w' = w2 ∧ μ.1 = n ∧ μ.2.1 = g
def zRaised (E : String) (w : zW) (n : Nat) : zQ := fun ex _ _ _ μ w' => ex = some E ∧ w' = w ∧ μ.1 = n ∧ μ.2.1 = false
def zFn (Γ : zΓ) (M : zMd) (d : Nat) (as : List Value) (w : zW) (v : Option Value) (w2 : zW) : Prop := ∀ n g, zTr Γ M d 0 0 as n g w (fun r n' g' w' => r = v ∧ n' = n ∧ g' = g ∧ w' = w2) zNo
def zThr (Γ : zΓ) (M : zMd) (d : Nat) (as : List Value) (w : zW) (E : String) : Prop := ∀ n g, zTr Γ M d 1 6 as n g w (fun _ _ _ _ => False) (fun E' n' g' w' => E' = E ∧ n' = n ∧ g' = false ∧ w' = w)
/-- a constructor: cells made, slots made -/
def zNew (Γ : zΓ) (M : zMd) (d mc ms : Nat) (as : List Value) (n : Nat) (w : zW) (n2 : Nat) (w2 : zW) : Prop := zTr Γ M d mc ms as n true w (fun r n' g' w' => r = none ∧ n' = n2 ∧ g' = true ∧ w' = w2) zNo
section FN
variable {Γ : zΓ} {M M2 : zMd} {d mc ms : Nat} {as : List Value} {n : Nat} {g : Bool} {kc ks : Nat} {w w2 : zW} {v : Option Value} {pc pc' : Nat} {lv : List (Option Value)} {st st0 : List Value} {Q : zQ} {E : String}
theorem zFn.of_run (hy : plainName M.1.cls = true) (hh : M.2.2.2.2 = []) (hlen : (zentl as).length ≤ M.2.2.1) (hlv : zent M.2.2.1 as = lv) (h : ∀ n g, zRun Γ M d none 0 lv [] (n, g, 0, 0) w (zDone M v w2 n g)) : zFn Γ M d as w v w2 := by
  intro n g
  refine zTr.of_run hy hh hlen hlv ((h n g).mono ?_)
  intro ex pc lv st μ w' hq
  obtain ⟨rfl, h1, rfl, h3, h4⟩ := hq
  exact ⟨v, h1, rfl, h3, h4, rfl⟩
theorem zThr.of_run (hy : plainName M.1.cls = true) (hh : M.2.2.2.2 = []) (hlen : (zentl as).length ≤ M.2.2.1) (hlv : zent M.2.2.1 as = lv) (h : ∀ n g, zRun Γ M d none 0 lv [] (n, g, 1, 6) w (zRaised E w n)) : zThr Γ M d as w E := by
  intro n g
  refine zTr.of_run hy hh hlen hlv ((h n g).mono ?_)
  intro ex pc lv st μ w' hq
  obtain ⟨rfl, rfl, h3, h4⟩ := hq
  exact ⟨hh, rfl, h3, h4, rfl⟩
theorem zNew.of_run {n2 : Nat} (hy : plainName M.1.cls = true) (hh : M.2.2.2.2 = []) (hlen : (zentl as).length ≤ M.2.2.1) (hlv : zent M.2.2.1 as = lv) (h : zRun Γ M d none 0 lv [] (n, true, mc, ms) w (zDone M none w2 n2 true)) : zNew Γ M d mc ms as n w n2 w2 := by
  refine zTr.of_run hy hh hlen hlv (h.mono ?_)
  intro ex pc lv st μ w' hq
  obtain ⟨rfl, h1, rfl, h3, h4⟩ := hq
  exact ⟨none, h1, rfl, h3, h4, rfl⟩
/-! returns -/
theorem zr_iret {x : Int32} {ty : FieldType} {n2 : Nat} {g2 : Bool} (hd : decode M.2.1 pc = .ok (.ireturn, 1)) (hr : M.2.2.2.1 = some ty) (hn : narrow ty (.int x) = .int x) (hv : some (.int x) = v) (hw : w = w2) (hn2 : n = n2) (hg : g = g2) : zRun Γ M d none pc lv [.int x] (n, g, kc, ks) w (zDone M v w2 n2 g2) := by
  subst hv; subst hw; subst hn2; subst hg
  exact zRun.now ⟨rfl, Or.inr (Or.inl ⟨x, ty, rfl, rfl, hd, hr, hn⟩), rfl, rfl, rfl⟩
theorem zr_lret {x : Int64} {n2 : Nat} {g2 : Bool} (hd : decode M.2.1 pc = .ok (.lreturn, 1)) (hr : M.2.2.2.1 = some .long) (hv : some (.long x) = v) (hw : w = w2) (hn2 : n = n2) (hg : g = g2) : zRun Γ M d none pc lv [.long x] (n, g, kc, ks) w (zDone M v w2 n2 g2) := by
  subst hv; subst hw; subst hn2; subst hg
  exact zRun.now ⟨rfl, Or.inr (Or.inr (Or.inl ⟨x, rfl, rfl, hd, hr⟩)), rfl, rfl, rfl⟩
theorem zr_dret {x : UInt64} {n2 : Nat} {g2 : Bool} (hd : decode M.2.1 pc = .ok (.dreturn, 1)) (hr : M.2.2.2.1 = some .double) (hv : some (.double x) = v) (hw : w = w2) (hn2 : n = n2) (hg : g = g2) : zRun Γ M d none pc lv [.double x] (n, g, kc, ks) w (zDone M v w2 n2 g2) := by
  subst hv; subst hw; subst hn2; subst hg
  exact zRun.now ⟨rfl, Or.inr (Or.inr (Or.inr ⟨x, rfl, rfl, hd, hr⟩)), rfl, rfl, rfl⟩
theorem zr_vret {n2 : Nat} {g2 : Bool} (hd : decode M.2.1 pc = .ok (.return_, 1)) (hr : M.2.2.2.1 = none) (hw : w = w2) (hn2 : n = n2) (hg : g = g2) : zRun Γ M d none pc lv [] (n, g, kc, ks) w (zDone M none w2 n2 g2) := by
  subst hw; subst hn2; subst hg
  exact zRun.now ⟨rfl, Or.inl ⟨rfl, rfl, hd, hr⟩, rfl, rfl, rfl⟩
theorem zr_raised {n2 : Nat} (hn : n = n2) : zRun Γ M d (some E) pc lv st (n, false, kc, ks) w (zRaised E w n2) := zRun.now ⟨rfl, rfl, hn, rfl⟩
/-! calls of functions -/
theorem zr_fnV {idx na a ci N : Nat} {T0 : u_T} {fs : List Value} (hd : decode M.2.1 pc = .ok (.invokevirtual idx, 3)) (hp : pc + 3 = pc') (hl : zLkV M.1.cls idx M2 na) (ht : zFn Γ M2 d (.ref a :: as) w v w2) (hw : w a = some (.inr (ci, fs))) (hci : vwCl[ci]? = some (M2.1.cls, T0, N)) (hna : as.length = na) (hst : as.reverse ++ .ref a :: st = st0) (hcat : (st.map fun v => v.category).sum ≤ 8)
    (k : zRun Γ M (d + 1) none pc' lv (v.toList ++ st) (n, g, kc, ks) w2 Q) : zRun Γ M (d + 1) none pc lv st0 (n, g, kc, ks) w Q :=
  zr_callV hd hp hl (ht n g) hw hci hna hst hcat (Nat.zero_le _) (Nat.zero_le _) (fun r n' g' w' hq => by obtain ⟨rfl, rfl, rfl, rfl⟩ := hq; exact k) (fun _ _ _ _ hq => hq.elim)
theorem zr_fnS {idx na : Nat} (hd : decode M.2.1 pc = .ok (.invokestatic idx, 3)) (hp : pc + 3 = pc') (hl : zLkS M.1.cls idx M2 na) (ht : zFn Γ M2 d as w v w2) (hna : as.length = na) (hst : as.reverse ++ st = st0) (hcat : (st.map fun v => v.category).sum ≤ 8)
    (k : zRun Γ M (d + 1) none pc' lv (v.toList ++ st) (n, g, kc, ks) w2 Q) : zRun Γ M (d + 1) none pc lv st0 (n, g, kc, ks) w Q :=
  zr_callS hd hp hl (ht n g) hna hst hcat (Nat.zero_le _) (Nat.zero_le _) (fun r n' g' w' hq => by obtain ⟨rfl, rfl, rfl, rfl⟩ := hq; exact k) (fun _ _ _ _ hq => hq.elim)
theorem zr_fnSN {idx na : Nat} (hd : decode M.2.1 pc = .ok (.invokestatic idx, 3)) (hp : pc + 3 = pc') (hl : zLkSN M.1.cls idx M2 na) (ht : zFn Γ M2 d as w v w2) (hna : as.length = na) (hst : as.reverse ++ st = st0) (hcat : (st.map fun v => v.category).sum ≤ 8)
    (k : zRun Γ M (d + 1) none pc' lv (v.toList ++ st) (n, g, kc, ks) w2 Q) : zRun Γ M (d + 1) none pc lv st0 (n, g, kc, ks) w Q :=
  zr_callSN hd hp hl (ht n g) hna hst hcat (Nat.zero_le _) (Nat.zero_le _) (fun r n' g' w' hq => by obtain ⟨rfl, rfl, rfl, rfl⟩ := hq; exact k)
theorem zr_newI {idx na a n2 : Nat} (hd : decode M.2.1 pc = .ok (.invokespecial idx, 3)) (hp : pc + 3 = pc') (hl : zLkI M.1.cls idx M2 na) (ht : zNew Γ M2 d mc ms (.ref a :: as) n w n2 w2) (hna : as.length = na) (hst : as.reverse ++ .ref a :: st = st0) (hcat : (st.map fun v => v.category).sum ≤ 8) (hmc : mc ≤ kc) (hms : ms ≤ ks)
    (k : zRun Γ M (d + 1) none pc' lv st (n2, true, kc - mc, ks - ms) w2 Q) : zRun Γ M (d + 1) none pc lv st0 (n, true, kc, ks) w Q :=
  zr_callI hd hp hl ht hna hst hcat hmc hms (fun r n' g' w' hq => by obtain ⟨rfl, rfl, rfl, rfl⟩ := hq; exact k)
theorem zr_newIN {idx na a n2 : Nat} (hd : decode M.2.1 pc = .ok (.invokespecial idx, 3)) (hp : pc + 3 = pc') (hl : zLkIN M.1.cls idx M2 na) (ht : zNew Γ M2 d mc ms (.ref a :: as) n w n2 w2) (hna : as.length = na) (hst : as.reverse ++ .ref a :: st = st0) (hcat : (st.map fun v => v.category).sum ≤ 8) (hmc : mc ≤ kc) (hms : ms ≤ ks)
    (k : zRun Γ M (d + 1) none pc' lv st (n2, true, kc - mc, ks - ms) w2 Q) : zRun Γ M (d + 1) none pc lv st0 (n, true, kc, ks) w Q :=
  zr_callIN hd hp hl ht hna hst hcat hmc hms (fun r n' g' w' hq => by obtain ⟨rfl, rfl, rfl, rfl⟩ := hq; exact k)
theorem zr_thV {idx na a ci N : Nat} {T0 : u_T} {fs : List Value} (hd : decode M.2.1 pc = .ok (.invokevirtual idx, 3)) (hl : zLkV M.1.cls idx M2 na) (ht : zThr Γ M2 d (.ref a :: as) w E) (hw : w a = some (.inr (ci, fs))) (hci : vwCl[ci]? = some (M2.1.cls, T0, N)) (hna : as.length = na) (hst : as.reverse ++ .ref a :: st = st0) (hcat : (st.map fun v => v.category).sum ≤ 8) (hmc : 1 ≤ kc) (hms : 6 ≤ ks)
    (k : zRun Γ M (d + 1) (some E) pc lv st (n, false, kc - 1, ks - 6) w Q) : zRun Γ M (d + 1) none pc lv st0 (n, g, kc, ks) w Q :=
  zr_callV hd rfl hl (ht n g) hw hci hna hst hcat hmc hms (fun _ _ _ _ hq => hq.elim) (fun E' n' g' w' hq => by obtain ⟨rfl, rfl, rfl, rfl⟩ := hq; exact k)
theorem zr_thS {idx na : Nat} (hd : decode M.2.1 pc = .ok (.invokestatic idx, 3)) (hl : zLkS M.1.cls idx M2 na) (ht : zThr Γ M2 d as w E) (hna : as.length = na) (hst : as.reverse ++ st = st0) (hcat : (st.map fun v => v.category).sum ≤ 8) (hmc : 1 ≤ kc) (hms : 6 ≤ ks)
    (k : zRun Γ M (d + 1) (some E) pc lv st (n, false, kc - 1, ks - 6) w Q) : zRun Γ M (d + 1) none pc lv st0 (n, g, kc, ks) w Q :=
  zr_callS hd rfl hl (ht n g) hna hst hcat hmc hms (fun _ _ _ _ hq => hq.elim) (fun E' n' g' w' hq => by obtain ⟨rfl, rfl, rfl, rfl⟩ := hq; exact k)
theorem zr_objI {idx a : Nat} {μ : zMu} (hd : decode M.2.1 pc = .ok (.invokespecial idx, 3)) (hp : pc + 3 = pc') (hg : zG [.methodLink M.1.cls idx Lib.objectInit, .instanceMethod Lib.objectInit, .code Lib.objectInit ⟨#[0xb1]⟩ 1 none]) (hcat : (st.map fun v => v.category).sum ≤ 8) (k : zRun Γ M (d + 1) none pc' lv st μ w Q) : zRun Γ M (d + 1) none pc lv (.ref a :: st) μ w Q := by
  subst hp
  intro p e R s m args below meth c Qf hc hQ H locs ls cells slots a1 a2 a3 a4 a5
  have hwd : ∀ x ∈ [Cond.methodLink M.1.cls idx Lib.objectInit, .instanceMethod Lib.objectInit, .code Lib.objectInit ⟨#[0xb1]⟩ 1 none], x.before args s = true := fun x hx => zG.word hg hc.2.1 hc.2.2.1 hx
  refine W.objInit hc.1.1 hc.1.2.1 hc.1.2.2.2 (hwd _ (by simp)) (hwd _ (by simp)) (hwd _ (by simp)) rfl (a3.1.trans hc.1.2.2.1.symm) rfl hd (by have := hc.2.2.2.2.2.2.2.1; omega) ?_ (k p e R s m args below meth c Qf hc hQ H locs ls cells slots a1 a2 a3 a4 a5)
  have := hc.2.2.2.2.2.2.2.2
  have h0 : ((st.map (zcv Γ)).map fun v => v.category).sum ≤ 8 := by rw [zcats]; exact hcat
  show 2 * 0 + _ + 12 ≤ R.locals
  omega
end FN
