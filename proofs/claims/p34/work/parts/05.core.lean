/-! THE CORE: runs of a method's frame told in words of numbered cells, over the kit's rows. A cell's number k stands for the address zad k: below 5 the script and the class's four static arrays, from 5 on the cells made, in the order of their making. -/
abbrev zΓ : Type := Launch × State × va_G × (Nat → ClassId) × (Nat → Nat)
def zo (Γ : zΓ) : Nat := Γ.2.1.heap.size
def zad (Γ : zΓ) (k : Nat) : Nat := if k < 5 then Γ.2.2.2.2 k else zo Γ + (k - 5)
def zcv (Γ : zΓ) : Value → Value
  | .ref a => .ref (zad Γ a)
  | v => v
def zca (Γ : zΓ) (a : vp_A) : vp_A := (a.1, match a.2 with
  | .inr (.inr (.inr (.inr f))) => .inr (.inr (.inr (.inr (fun j => (f j).map (zad Γ)))))
  | x => x)
def zce (Γ : zΓ) (e : va_E) : va_E := match e with
  | .inl x => .inl (Γ.2.2.2.1 x.1, zca Γ x.2)
  | .inr x => .inr (x.1, x.2.map (zcv Γ))
abbrev zW : Type := Nat → Option va_E
def zup (w : zW) (k : Nat) (e : va_E) : zW := fun j => if j = k then some e else w j
def zH (Γ : zΓ) (n : Nat) (w : zW) (H : Heap) : Prop := ∀ k e, w k = some e → 5 ≤ k ∧ k < 5 + n ∧ va_at Γ.2.2.1 vwCl (zad Γ k, zce Γ e) H
def zL (Γ : zΓ) (n : Nat) (w : zW) : va_W := (List.range n).filterMap (fun k => (w (k + 5)).map (fun e => (zo Γ + k, zce Γ e)))
def zfr (Γ : zΓ) : Nat → Prop := fun q => zo Γ ≤ q
theorem zad_ge {Γ : zΓ} {k : Nat} (h : 5 ≤ k) : zad Γ k = zo Γ + (k - 5) := by unfold zad; rw [if_neg (by omega)]
theorem zL_mem {Γ : zΓ} {n : Nat} {w : zW} {k : Nat} {e : va_E} (h : w k = some e) (h5 : 5 ≤ k) (hk : k < 5 + n) : ∃ i : Nat, (zL Γ n w)[i]? = some (zad Γ k, zce Γ e) := by
  have hm : (zad Γ k, zce Γ e) ∈ zL Γ n w := by
    refine List.mem_filterMap.mpr ⟨k - 5, List.mem_range.mpr (by omega), ?_⟩
    rw [show k - 5 + 5 = k by omega, h, zad_ge h5]
    rfl
  exact List.getElem?_of_mem hm
theorem zL_of {Γ : zΓ} {n : Nat} {w : zW} {i : Nat} {q : Nat × va_E} (h : (zL Γ n w)[i]? = some q) : ∃ k e, w k = some e ∧ 5 ≤ k ∧ k < 5 + n ∧ q = (zad Γ k, zce Γ e) := by
  have hm : q ∈ zL Γ n w := List.mem_of_getElem? h
  obtain ⟨k, hk, he⟩ := List.mem_filterMap.mp hm
  rw [List.mem_range] at hk
  cases hw : w (k + 5) with
  | none => rw [hw] at he; cases he
  | some e =>
    rw [hw] at he
    cases he
    refine ⟨k + 5, e, hw, by omega, by omega, ?_⟩
    rw [zad_ge (by omega)]
    rfl
theorem zfm_inj (o : Nat) (g : Nat → Option va_E) : ∀ (L : List Nat), L.Nodup → ∀ (i j : Nat) (p q : Nat × va_E), (L.filterMap (fun k => (g k).map (fun e => (o + k, e))))[i]? = some p → (L.filterMap (fun k => (g k).map (fun e => (o + k, e))))[j]? = some q → p.1 = q.1 → i = j
  | [], _, i, j, p, q, h, _, _ => by simp at h
  | a :: L, hn, i, j, p, q, h1, h2, h12 => by
    obtain ⟨ha, hL⟩ := List.nodup_cons.mp hn
    have key : ∀ (j : Nat) (q : Nat × va_E), (L.filterMap (fun k => (g k).map (fun e => (o + k, e))))[j]? = some q → q.1 ≠ o + a := by
      intro j q h hq
      obtain ⟨k, hk, he⟩ := List.mem_filterMap.mp (List.mem_of_getElem? h)
      cases hg : g k with
      | none => rw [hg] at he; cases he
      | some e =>
        rw [hg] at he
        cases he
        have : k = a := by simp only at hq; omega
        exact ha (this ▸ hk)
    cases hg : g a with
    | none =>
      rw [List.filterMap_cons, hg] at h1 h2
      exact zfm_inj o g L hL i j p q h1 h2 h12
    | some e =>
      rw [List.filterMap_cons, hg] at h1 h2
      simp only [Option.map_some] at h1 h2
      cases i with
      | zero =>
        cases j with
        | zero => rfl
        | succ j =>
          rw [List.getElem?_cons_zero] at h1
          rw [List.getElem?_cons_succ] at h2
          cases h1
          exact absurd h12.symm (key j q h2)
      | succ i =>
        rw [List.getElem?_cons_succ] at h1
        cases j with
        | zero =>
          rw [List.getElem?_cons_zero] at h2
          cases h2
          exact absurd h12 (key i p h1)
        | succ j =>
          rw [List.getElem?_cons_succ] at h2
          rw [zfm_inj o g L hL i j p q h1 h2 h12]
theorem zL_inj {Γ : zΓ} {n : Nat} {w : zW} {i j : Nat} {p q : Nat × va_E} (h1 : (zL Γ n w)[i]? = some p) (h2 : (zL Γ n w)[j]? = some q) (h : p.1 = q.1) : i = j := by
  have e : zL Γ n w = (List.range n).filterMap (fun k => ((fun k => (w (k + 5)).map (zce Γ)) k).map (fun e => (zo Γ + k, e))) := by
    unfold zL
    congr 1
    funext k
    show (w (k + 5)).map (fun e => (zo Γ + k, zce Γ e)) = ((w (k + 5)).map (zce Γ)).map (fun e => (zo Γ + k, e))
    cases w (k + 5) <;> rfl
  rw [e] at h1 h2
  exact zfm_inj _ _ _ List.nodup_range i j p q h1 h2 h
theorem zL_P {Γ : zΓ} {n : Nat} {w : zW} {H : Heap} (h : zH Γ n w H) : va_P Γ.2.2.1 vwCl (zL Γ n w) H := by
  intro i q hq
  obtain ⟨k, e, h1, -, -, rfl⟩ := zL_of hq
  exact (h k e h1).2.2
theorem zL_D {Γ : zΓ} {n : Nat} {w : zW} : va_D (zfr Γ) (zL Γ n w) := by
  refine ⟨fun i j p q h1 h2 h => zL_inj h1 h2 h, fun i q hq => ?_⟩
  obtain ⟨k, e, -, h5, -, rfl⟩ := zL_of hq
  show zo Γ ≤ zad Γ k
  rw [zad_ge h5]
  omega
theorem zad_inj {Γ : zΓ} {j k : Nat} (hj : 5 ≤ j) (hk : 5 ≤ k) (h : zad Γ j = zad Γ k) : j = k := by
  rw [zad_ge hj, zad_ge hk] at h
  omega
theorem zH_set {Γ : zΓ} {n : Nat} {w : zW} {H H1 : Heap} {i k : Nat} {e e1 : va_E} (h : zH Γ n w H) (hk : w k = some e) (hi : (zL Γ n w)[i]? = some (zad Γ k, zce Γ e)) (hP : va_P Γ.2.2.1 vwCl ((zL Γ n w).set i (zad Γ k, zce Γ e1)) H1) : zH Γ n (zup w k e1) H1 := by
  intro j x hx
  have hl := (List.getElem?_eq_some_iff.mp hi).1
  have hk5 := h k e hk
  by_cases hjk : j = k
  · subst hjk
    unfold zup at hx
    rw [if_pos rfl] at hx
    cases hx
    refine ⟨hk5.1, hk5.2.1, ?_⟩
    have := hP i (zad Γ j, zce Γ e1)
    rw [List.getElem?_set_self hl] at this
    exact this rfl
  · unfold zup at hx
    rw [if_neg hjk] at hx
    have hj5 := h j x hx
    refine ⟨hj5.1, hj5.2.1, ?_⟩
    obtain ⟨i2, hi2⟩ := zL_mem (Γ := Γ) (n := n) hx hj5.1 hj5.2.1
    have hne : i ≠ i2 := by
      intro q
      subst q
      rw [hi] at hi2
      have := congrArg Prod.fst (Option.some.inj hi2)
      exact hjk (zad_inj hk5.1 hj5.1 this).symm
    have := hP i2 (zad Γ j, zce Γ x)
    rw [List.getElem?_set_ne hne] at this
    exact this hi2
/-- the heap, as seen from the start Γ.2.1: what was there stands; the cells made -/
def zHp (Γ : zΓ) (n : Nat) (g : Bool) (w : zW) (H : Heap) : Prop := (zo Γ ≤ H.size ∧ ∀ q, q < zo Γ → H[q]? = Γ.2.1.heap[q]?) ∧ zH Γ n w H ∧ (g = true → H.size = zo Γ + n)
def zS (Γ : zΓ) (n : Nat) (g : Bool) (w : zW) (U : State) : Prop := Γ.2.1.WarmedH U.vm ∧ zHp Γ n g w U.heap
/-- what the start gives -/
def zTs : List Cond := lw_tbl.filter goodWord
def ztys (Γ : zΓ) : List (ClassId × FieldType) := [(Γ.2.2.2.1 0, .int), (Γ.2.2.2.1 1, .int), (Γ.2.2.2.1 2, .boolean), (Γ.2.2.2.1 3, .int), (Γ.2.2.2.1 4, .object "TombolaBooks$Book")]
/-- an old array that nobody writes: its number, length, contents -/
def zOld (Γ : zΓ) (k N : Nat) (f : Nat → Int32) : Prop := k < 5 ∧ zad Γ k < zo Γ ∧ va_X (zad Γ k) N f Γ.2.1 Γ.2.1.heap
/-- a static field that holds an old array -/
def zSt (Γ : zΓ) (name : String) (k : Nat) : Prop := k < 5 ∧ va_Z "TombolaBooks" name "[I" (.ref (zad Γ k)) (zfr Γ) Γ.2.1 Γ.2.1.heap
def zNest : List Cond := lw_tbl.filter (fun w => match w with | .methodLinkNest .. => true | .fieldLinkNest .. => true | _ => false)
/-- a method: its name, bytes, locals, type, handlers -/
abbrev zMd : Type := MethodName × ByteArray × Nat × Option FieldType × List (Nat × Nat × Nat × Nat)
def zBase (Γ : zΓ) : Prop := (∃ A0 : Array Value, ∀ w ∈ lw_tbl, w.before A0 Γ.2.1 = true) ∧ va_K Γ.2.2.1 vwCl (ztys Γ) Γ.2.1 ∧ Γ.1.stackTraces = false ∧
  vx_Zq Bundle.tN "UNASSIGNED_STACK" Bundle.steD (zfr Γ) Γ.2.1 Γ.2.1.heap ∧ vx_Zq Bundle.tN "SUPPRESSED_SENTINEL" Bundle.listD (zfr Γ) Γ.2.1 Γ.2.1.heap ∧
  zOld Γ 1 3 (fun j => nI ([10, 0, 0].getD j 0)) ∧ zOld Γ 2 3 (fun j => nI ([1, 0, 0].getD j 0)) ∧ zOld Γ 3 3 (fun j => nI ([99, 99, 1].getD j 0)) ∧ zOld Γ 4 4 (fun j => nI ([10, 10, 20, 40].getD j 0)) ∧
  zSt Γ "FIRST_VALUES" 1 ∧ zSt Γ "LEAST_VALUES" 2 ∧ zSt Γ "GREATEST_VALUES" 3 ∧ zSt Γ "HUNDREDTHS" 4 ∧
  (∃ sa, vk_R "TombolaBooks" 347 "there is no such place, card, game or setting" sa Γ.2.1) ∧ (∃ sa, vk_R "TombolaBooks" 354 "a value is out of range" sa Γ.2.1) ∧ (∃ sa, vk_R "TombolaBooks" 359 "this cannot be done now" sa Γ.2.1) ∧
  va_Nc "java/lang/IllegalArgumentException" "java/lang/IndexOutOfBoundsException" Γ.2.1 ∧ va_Nc "java/lang/IllegalStateException" "java/lang/IndexOutOfBoundsException" Γ.2.1 ∧ va_Nc "java/lang/IllegalStateException" "java/lang/IllegalArgumentException" Γ.2.1
/-- a frame's surroundings -/
def zCtx (Γ : zΓ) (M : zMd) (d : Nat) (p : Program) (R : Room) (s : State) (m : MethodId) (meth : Method) (c : Code) : Prop :=
  (p.tables.exec = Jvm.exec ∧ c.code = M.2.1 ∧ c.maxLocals = M.2.2.1 ∧ s.vm.findClass M.1.cls = some m.cls) ∧ zBase Γ ∧ Γ.2.1.WarmedH s.vm ∧ (zo Γ ≤ s.heap.size ∧ ∀ q, q < zo Γ → s.heap[q]? = Γ.2.1.heap[q]?) ∧ meth.locks = false ∧ meth.name = M.1.name ∧ c.exceptionTable.toList = tableOf M.2.2.2.2 ∧ d ≤ R.frames ∧ 36 * d ≤ R.locals
def zLV (Γ : zΓ) (ls : Array Slot) (nL : Nat) (lv : List (Option Value)) : Prop := ls.size = nL ∧ lv_wf ls ∧ lv.length = nL ∧ ∀ (i : Nat) (v : Value), lv[i]? = some (some v) → ls[i]? = some (.val (zcv Γ v))
abbrev zMu : Type := Nat × Bool × Nat × Nat
def zAt (Γ : zΓ) (M : zMd) (p : Program) (e : Env) (R : Room) (s : State) (m : MethodId) (args : Array Value) (below : List Frame) (meth : Method) (c : Code) (Qf : State → Prop) (ex : Option String) (pc : Nat) (lv : List (Option Value)) (st : List Value) (μ : zMu) (w : zW) : Prop :=
  ∀ (H : Heap) (locs : List Loc) (ls : Array Slot) (cells slots : Nat), zHp Γ μ.1 μ.2.1 w H → va_S (zfr Γ) s.heap H locs → zLV Γ ls M.2.2.1 lv → cells + μ.2.2.1 ≤ R.cells → slots + μ.2.2.2 ≤ R.slots →
  match ex with
  | none => W p Γ.1 e R s m args below meth c H locs cells slots Qf (F0 m pc ls (st.map (zcv Γ)))
  | some E => ∀ (q : Addr) (ce : Cell) (rest : List Value), H[q]? = some ce → ce.vm = .none → s.vm.findClass E = some ce.cls → vx_W p Γ.1 e R s m args below meth c H locs cells slots Qf (F0 m pc ls rest) q
abbrev zQ : Type := Option String → Nat → List (Option Value) → List Value → zMu → zW → Prop
def zRun (Γ : zΓ) (M : zMd) (d : Nat) (ex : Option String) (pc : Nat) (lv : List (Option Value)) (st : List Value) (μ : zMu) (w : zW) (Q : zQ) : Prop :=
  ∀ (p : Program) (e : Env) (R : Room) (s : State) (m : MethodId) (args : Array Value) (below : List Frame) (meth : Method) (c : Code) (Qf : State → Prop), zCtx Γ M d p R s m meth c →
    (∀ ex' pc' lv' st' μ' w', Q ex' pc' lv' st' μ' w' → zAt Γ M p e R s m args below meth c Qf ex' pc' lv' st' μ' w') → zAt Γ M p e R s m args below meth c Qf ex pc lv st μ w
section ZR
variable {Γ : zΓ} {M : zMd} {d : Nat} {ex : Option String} {pc pc' : Nat} {lv lv' : List (Option Value)} {st st' : List Value} {μ μ' : zMu} {w w' : zW} {Q Q' : zQ}
theorem zRun.now (h : Q ex pc lv st μ w) : zRun Γ M d ex pc lv st μ w Q := fun _ _ _ _ _ _ _ _ _ _ _ hQ => hQ _ _ _ _ _ _ h
theorem zRun.cut (h : zRun Γ M d ex pc lv st μ w Q') (k : ∀ ex' pc' lv' st' μ' w', Q' ex' pc' lv' st' μ' w' → zRun Γ M d ex' pc' lv' st' μ' w' Q) : zRun Γ M d ex pc lv st μ w Q :=
  fun p e R s m args below meth c Qf hc hQ => h p e R s m args below meth c Qf hc (fun ex' pc' lv' st' μ' w' hq => k ex' pc' lv' st' μ' w' hq p e R s m args below meth c Qf hc hQ)
theorem zRun.mono (h : zRun Γ M d ex pc lv st μ w Q') (k : ∀ ex' pc' lv' st' μ' w', Q' ex' pc' lv' st' μ' w' → Q ex' pc' lv' st' μ' w') : zRun Γ M d ex pc lv st μ w Q :=
  h.cut fun _ _ _ _ _ _ hq => zRun.now (k _ _ _ _ _ _ hq)
/-- less room to spend -/
theorem zRun.less {n : Nat} {g : Bool} {kc ks kc' ks' : Nat} (h1 : kc' ≤ kc) (h2 : ks' ≤ ks) (h : zRun Γ M d ex pc lv st (n, g, kc', ks') w Q) : zRun Γ M d ex pc lv st (n, g, kc, ks) w Q := by
  intro p e R s m args below meth c Qf hc hQ H locs ls cells slots a1 a2 a3 a4 a5
  exact h p e R s m args below meth c Qf hc hQ H locs ls cells slots a1 a2 a3 (by simp only at a4 ⊢; omega) (by simp only at a5 ⊢; omega)
/-- an instruction that leaves heap and locals -/
theorem zr_pure (h : ∀ (p : Program) (e : Env) (R : Room) (s : State) (m : MethodId) (args : Array Value) (below : List Frame) (meth : Method) (c : Code) (Qf : State → Prop) (H : Heap) (locs : List Loc) (ls : Array Slot) (cells slots : Nat), zCtx Γ M d p R s m meth c → zLV Γ ls M.2.2.1 lv →
      W p Γ.1 e R s m args below meth c H locs cells slots Qf (F0 m pc' ls (st'.map (zcv Γ))) → W p Γ.1 e R s m args below meth c H locs cells slots Qf (F0 m pc ls (st.map (zcv Γ))))
    (k : zRun Γ M d none pc' lv st' μ w Q) : zRun Γ M d none pc lv st μ w Q := by
  intro p e R s m args below meth c Qf hc hQ H locs ls cells slots a1 a2 a3 a4 a5
  exact h p e R s m args below meth c Qf H locs ls cells slots hc a3 (k p e R s m args below meth c Qf hc hQ H locs ls cells slots a1 a2 a3 a4 a5)
/-- a branch -/
theorem zr_branch {P : Prop} {pt : Nat} (h : ∀ (p : Program) (e : Env) (R : Room) (s : State) (m : MethodId) (args : Array Value) (below : List Frame) (meth : Method) (c : Code) (Qf : State → Prop) (H : Heap) (locs : List Loc) (ls : Array Slot) (cells slots : Nat), zCtx Γ M d p R s m meth c →
      (P → W p Γ.1 e R s m args below meth c H locs cells slots Qf (F0 m pt ls (st'.map (zcv Γ)))) → (¬ P → W p Γ.1 e R s m args below meth c H locs cells slots Qf (F0 m pc' ls (st'.map (zcv Γ)))) → W p Γ.1 e R s m args below meth c H locs cells slots Qf (F0 m pc ls (st.map (zcv Γ))))
    (kt : P → zRun Γ M d none pt lv st' μ w Q) (kf : ¬ P → zRun Γ M d none pc' lv st' μ w Q) : zRun Γ M d none pc lv st μ w Q := by
  intro p e R s m args below meth c Qf hc hQ H locs ls cells slots a1 a2 a3 a4 a5
  exact h p e R s m args below meth c Qf H locs ls cells slots hc (fun q => kt q p e R s m args below meth c Qf hc hQ H locs ls cells slots a1 a2 a3 a4 a5) (fun q => kf q p e R s m args below meth c Qf hc hQ H locs ls cells slots a1 a2 a3 a4 a5)
end ZR
theorem zTs_before {Γ : zΓ} {s : State} {args : Array Value} (hB : zBase Γ) (hW : Γ.2.1.WarmedH s.vm) : ∀ w ∈ zTs, w.before args s = true := by
  intro w hw
  obtain ⟨h1, h2⟩ := List.mem_filter.mp hw
  obtain ⟨A0, h0⟩ := hB.1
  exact word_at hW (good_of_word h2) (h0 w h1)
def zG (ws : List Cond) : Prop := ∀ w ∈ ws, w ∈ lw_tbl ∧ goodWord w = true
theorem zG.word {ws : List Cond} (h : zG ws) {Γ : zΓ} {s : State} {args : Array Value} (hB : zBase Γ) (hW : Γ.2.1.WarmedH s.vm) {w : Cond} (hw : w ∈ ws) : w.before args s = true :=
  zTs_before hB hW w (List.mem_filter.mpr (h w hw))
theorem zG.good {ws : List Cond} (h : zG ws) : GoodIn zTs ws := fun w hw => ⟨List.mem_filter.mpr (h w hw), good_of_word (h w hw).2⟩
theorem zG.p {ws : List Cond} (ps : List Nat) (h : ws = ps.filterMap (fun i => lw_tbl[i]?)) (h2 : ws.all goodWord = true) : zG ws := by
  intro w hw
  refine ⟨?_, List.all_eq_true.mp h2 w hw⟩
  rw [h] at hw
  obtain ⟨i, -, hi⟩ := List.mem_filterMap.mp hw
  exact List.mem_of_getElem? hi
theorem zG.app {a b : List Cond} (ha : zG a) (hb : zG b) : zG (a ++ b) := fun w hw => (List.mem_append.mp hw).elim (ha w) (hb w)
/-- the nest's words -/
theorem zNest_at {Γ : zΓ} {s : State} (hB : zBase Γ) (hW : Γ.2.1.WarmedH s.vm) {a : String} {i : Nat} {x : MethodName} {h : String} (hm : Cond.methodLinkNest a i x h ∈ lw_tbl) : va_Nw (.methodLinkNest a i x h) s := by
  obtain ⟨A0, h0⟩ := hB.1
  exact va_Nw.warmM hW (va_Nw.of (A := A0) rfl (h0 _ hm))
theorem zNestF_at {Γ : zΓ} {s : State} (hB : zBase Γ) (hW : Γ.2.1.WarmedH s.vm) {a : String} {i : Nat} {b n d h : String} (hm : Cond.fieldLinkNest a i b n d h ∈ lw_tbl) : va_Nw (.fieldLinkNest a i b n d h) s := by
  obtain ⟨A0, h0⟩ := hB.1
  exact va_Nw.warmF hW (va_Nw.of (A := A0) rfl (h0 _ hm))
