/-! THROWS -/
abbrev zIOB : String := "java/lang/IndexOutOfBoundsException"
abbrev zIAE : String := "java/lang/IllegalArgumentException"
abbrev zISE : String := "java/lang/IllegalStateException"
abbrev zNms : List String := ["java/lang/RuntimeException", "java/lang/Exception"]
def zThW (ik ic : Nat) (E : String) : List Cond := Cond.classLink RX6 ik E :: Cond.initialized E :: vx_atS RX6 ic E zNms
def zCas : Cond → Bool
  | .castable _ _ => true
  | .declares _ => true
  | _ => false
/-- the words of a throw: good ones, and castable ones -/
def zThOk (ik ic : Nat) (E : String) : Prop := Bundle.fit E = true ∧ (∀ w ∈ zThW ik ic E, w ∈ lw_tbl) ∧ (zThW ik ic E).all (fun w => goodWord w || zCas w) = true ∧ (zThW ik ic E).all vx_ot = true
section TH
variable {Γ : zΓ} {M : zMd} {d : Nat} {n : Nat} {g : Bool} {w : zW}
theorem zword_at {s : State} {args : Array Value} (hB : zBase Γ) (hW : Γ.2.1.WarmedH s.vm) {x : Cond} (hx : x ∈ lw_tbl) (hg : (goodWord x || zCas x) = true) : x.before args s = true := by
  obtain ⟨A0, h0⟩ := hB.1
  rcases Bool.or_eq_true _ _ |>.mp hg with h | h
  · exact word_at hW (good_of_word h) (h0 x hx)
  · cases x with
    | castable C T => exact va_Nw.use rfl (va_Nw.warmC hW (va_Nw.of (A := A0) rfl (h0 _ hx)))
    | declares y => exact va_Nw.use rfl (va_Nw.warmD hW (va_Nw.of (A := A0) rfl (h0 _ hx)))
    | _ => simp [zCas] at h
theorem zZq_at {s : State} {C nm dd : String} (hW : Γ.2.1.WarmedH s.vm) (hh : ∀ q, q < zo Γ → s.heap[q]? = Γ.2.1.heap[q]?) (h : vx_Zq C nm dd (zfr Γ) Γ.2.1 Γ.2.1.heap) : vx_Zq C nm dd (zfr Γ) s s.heap :=
  (vx_Zq.moved hW.alike h).kept (fun a ha _ => hh a ha)
theorem zTh_of {ik is ic : Nat} {E text : String} (hcls : M.1.cls = RX6) (hy : plainName M.1.cls = true) (hh : M.2.2.2.2 = []) (hnL : M.2.2.1 = 1) (hok : zThOk ik ic E) (hstr : zBase Γ → ∃ sa, vk_R RX6 is text sa Γ.2.1)
    (d0 : decode M.2.1 0 = .ok (.iload_n 0, 1)) (d1 : decode M.2.1 1 = .ok (.ifCond .ne 14, 3)) (e0 : decode M.2.1 4 = .ok (.new ik, 3)) (e3 : decode M.2.1 (4 + 3) = .ok (.dup, 1)) (e4 : decode M.2.1 (4 + 4) = .ok (.ldc_w is, 3)) (e7 : decode M.2.1 (4 + 7) = .ok (.invokespecial ic, 3)) (e10 : decode M.2.1 (4 + 10) = .ok (.athrow, 1)) :
    zTr Γ M (d + 6) 1 6 [.int (jI 0)] n g w (fun _ _ _ _ => False) (fun E' n' g' w' => E' = E ∧ n' = n ∧ g' = false ∧ w' = w) := by
  intro hB
  refine vx_ofW (cc := M.2.1) (maxL := M.2.2.1) (ret := M.2.2.2.1) (ws' := []) hy rfl ?_
  intro p e s m args below meth c s₁ B hml ht hPc
  obtain ⟨hargs, hW, hHp⟩ := hPc
  subst hargs
  rw [lg_entry_eq]
  have hl := zent_LV (Γ := Γ) (nL := M.2.2.1) (as := [.int (jI 0)]) (by rw [hnL]; decide)
  have hex := B.exec
  have hbt := B.bytes
  refine lv_iload_n hex hbt d0 rfl (hl.2.2.2 0 (.int (jI 0)) (by rw [hnL]; rfl)) ?_
  refine lv_if_ne (tgt := 15) hex hbt d1 rfl (fun q => absurd jI_zero q) (fun _ => ?_)
  have hownM : s.vm.findClass M.1.cls = some m.cls := findClass_of_methodNamed B.named
  have hown : s.vm.findClass RX6 = some m.cls := by rw [← hcls]; exact hownM
  obtain ⟨hfit, hmem, hg1, hg2⟩ := hok
  have hwd : ∀ x ∈ zThW ik ic E, x.before ([Value.int (jI 0)].map (zcv Γ)).toArray s = true := fun x hx => zword_at hB hW (hmem x hx) (List.all_eq_true.mp hg1 x hx)
  obtain ⟨sa, hsa⟩ := hstr hB
  refine vx_throwSW (pc := 4) (names := zNms) (sa := sa) (A := zfr Γ) hex hbt hB.2.2.1 hown hfit (by decide) (hwd _ List.mem_cons_self) (hwd _ (List.mem_cons_of_mem _ List.mem_cons_self)) (vk_R.warm hW hsa) (fun x hx => hwd x (List.mem_cons_of_mem _ (List.mem_cons_of_mem _ hx))) (fun x hx => List.all_eq_true.mp hg2 x hx)
    (zZq_at hW hHp.1.2 hB.2.2.2.1) (zZq_at hW hHp.1.2 hB.2.2.2.2.1) va_S.rf (hl.1.trans hml.symm) e0 e3 e4 e7 e10 (fun x hx => (ht x hx).elim) ?_ ?_ ?_ ?_ B.notSynchronized ?_ (fun z hz => nomatch hz) (Nat.le_refl _) (Nat.le_refl _)
  · show 2 + 3 < d + 6; omega
  · show 0 + (13 * 3 + 43) ≤ 36 * (d + 6); omega
  · show 0 + 1 ≤ 1; omega
  · show 0 + 6 ≤ 6; omega
  · intro t _ hsz hk
    refine ⟨n, false, w, ⟨rfl, rfl, rfl, rfl⟩, ⟨⟨Nat.le_trans hHp.1.1 hsz, fun q hq => (hk q (Nat.lt_of_lt_of_le hq hHp.1.1)).trans (hHp.1.2 q hq)⟩, fun k x hx => ?_, fun h => by cases h⟩, hsz⟩
    have h5 := hHp.2.1 k x hx
    exact ⟨h5.1, h5.2.1, h5.2.2.kept (hk _ h5.2.2.lt)⟩
end TH
/-! handlers -/
def zst0 (lv : List (Option Value)) (i : Nat) : List (Option Value) := (zkill lv i).set i none
theorem zLV_st0 {Γ : zΓ} {ls : Array Slot} {nL i q : Nat} {lv : List (Option Value)} (hlen : lv.length = nL) (h : lv_has ls nL ((i, Value.ref q) :: (zl Γ lv).filter (fun q => !(q.1 == i) && !(q.1 + 1 == i && q.2.category == 2)))) : zLV Γ ls nL (zst0 lv i) := by
  refine ⟨h.1, h.2.1, by unfold zst0; rw [List.length_set, zkill_len, hlen], fun j u hj => ?_⟩
  unfold zst0 at hj
  by_cases hji : i = j
  · subst hji
    rw [List.getElem?_set] at hj
    simp at hj
  · rw [List.getElem?_set_ne hji] at hj
    obtain ⟨h1, h2⟩ := zkill_spec hj
    refine h.2.2 (j, zcv Γ u) (List.mem_cons_of_mem _ (List.mem_filter.mpr ⟨zl_mem h1, ?_⟩))
    simp only [zcv_cat, Bool.and_eq_true, Bool.not_eq_true', beq_eq_false_iff_ne, ne_eq, Bool.and_eq_false_iff]
    refine ⟨fun q => hji q.symm, ?_⟩
    by_cases q : j + 1 = i
    · exact Or.inr fun c => h2 ⟨q, c⟩
    · exact Or.inl q
section CT
variable {Γ : zΓ} {M : zMd} {d : Nat} {pc pc' : Nat} {lv lv' : List (Option Value)} {st : List Value} {μ : zMu} {w : zW} {Q : zQ}
/-- caught by the row x of the table, whose handler lays the exception aside in a local -/
def zNcs (E nm : String) : Prop := (E = zIAE ∧ nm = zIOB) ∨ (E = zISE ∧ nm = zIOB) ∨ (E = zISE ∧ nm = zIAE)
theorem zNcs_at {s : State} {E nm : String} (hB : zBase Γ) (hW : Γ.2.1.WarmedH s.vm) (h : zNcs E nm) : va_Nc E nm s := by
  obtain ⟨-, -, -, -, -, -, -, -, -, -, -, -, -, -, -, -, n1, n2, n3⟩ := hB
  rcases h with ⟨rfl, rfl⟩ | ⟨rfl, rfl⟩ | ⟨rfl, rfl⟩
  · exact n1.moved hW.alike
  · exact n2.moved hW.alike
  · exact n3.moved hW.alike
theorem zr_catch {E nm : String} {i hpc len : Nat} (pre : List (Nat × Nat × Nat × Nat)) (x : Nat × Nat × Nat × Nat) (suf : List (Nat × Nat × Nat × Nat)) (hh : M.2.2.2.2 = pre ++ x :: suf)
    (hpass : ∀ z ∈ tableOf pre, covers z pc = false ∨ (z.catchType ≠ 0 ∧ ∃ n1 : String, zG [.classLink M.1.cls z.catchType n1] ∧ zNcs E n1)) (hx : covers ⟨x.1, x.2.1, x.2.2.1, x.2.2.2⟩ pc = true) (h0 : x.2.2.2 ≠ 0) (hlk : zG [.classLink M.1.cls x.2.2.2 nm]) (hcast : Cond.castable E nm ∈ lw_tbl) (hpc0 : x.2.2.1 = hpc)
    (hd : (decode M.2.1 hpc = .ok (.astore i, 2) ∧ len = 2) ∨ ∃ k : Fin 4, decode M.2.1 hpc = .ok (.astore_n k, 1) ∧ (k : Nat) = i ∧ len = 1) (hi : i < M.2.2.1) (hp : hpc + len = pc') (hs : zst0 lv i = lv') (k : zRun Γ M d none pc' lv' [] μ w Q) : zRun Γ M d (some E) pc lv st μ w Q := by
  subst hp; subst hs; subst hpc0
  intro p e R s m args below meth c Qf hc hQ H locs ls cells slots a1 a2 a3 a4 a5 q ce rest hce hcv hcl
  refine vx_catch (own := M.1.cls) (name := nm) hc.1.2.2.2 (tableOf pre) ⟨x.1, x.2.1, x.2.2.1, x.2.2.2⟩ (tableOf suf) ?_ (fun z hz => ?_) hx h0 (hlk.word hc.2.1 hc.2.2.1 List.mem_cons_self) (zword_at hc.2.1 hc.2.2.1 hcast rfl) hce hcv hcl ?_
  · rw [hc.2.2.2.2.2.2.1, hh]
    simp [tableOf]
  · rcases hpass z hz with h | ⟨h1, n1, h2, h3⟩
    · exact Or.inl h
    · exact Or.inr ⟨h1, n1, h2.word hc.2.1 hc.2.2.1 List.mem_cons_self, zNcs_at hc.2.1 hc.2.2.1 h3⟩
  · rcases hd with ⟨hd, rfl⟩ | ⟨j, hd, rfl, rfl⟩
    · exact lv_astore hc.1.1 hc.1.2.1 hd (zl_has a3) hi rfl (fun ls' h' => k p e R s m args below meth c Qf hc hQ H locs ls' cells slots a1 a2 (zLV_st0 a3.2.2.1 h') a4 a5)
    · exact lv_astore_n hc.1.1 hc.1.2.1 hd rfl (zl_has a3) hi rfl (fun ls' h' => k p e R s m args below meth c Qf hc hQ H locs ls' cells slots a1 a2 (zLV_st0 a3.2.2.1 h') a4 a5)
/-- not caught by any row that covers (a method without a table): an exception goes on -/
theorem zr_raise {E : String} (h : Q (some E) pc lv st μ w) : zRun Γ M d (some E) pc lv st μ w Q := zRun.now h
end CT
/-! Math.min, Math.max of ints -/
section MM
variable {Γ : zΓ} {M : zMd} {d : Nat} {pc pc' : Nat} {lv : List (Option Value)} {st : List Value} {μ : zMu} {w : zW} {Q : zQ}
theorem zr_max {idx : Nat} {a b : Int} (hd : decode M.2.1 pc = .ok (.invokestatic idx, 3)) (hp : pc + 3 = pc') (hg : zG [.methodLink M.1.cls idx Lib.Math.max.name, .static Lib.Math.max.name, .initialized "java/lang/Math", .code Lib.Math.max.name Lib.Math.max.code 2 (some .int)]) (hr : (-2147483648 ≤ a ∧ a < 2147483648) ∧ (-2147483648 ≤ b ∧ b < 2147483648)) (hcat : (st.map fun v => v.category).sum ≤ 8) (k : zRun Γ M (d + 1) none pc' lv (.int (jI (if a < b then b else a)) :: st) μ w Q) : zRun Γ M (d + 1) none pc lv (.int (jI b) :: .int (jI a) :: st) μ w Q := by
  subst hp
  intro p e R s m args below meth c Qf hc hQ H locs ls cells slots a1 a2 a3 a4 a5
  have hwd : ∀ x ∈ [Cond.methodLink M.1.cls idx Lib.Math.max.name, .static Lib.Math.max.name, .initialized "java/lang/Math", .code Lib.Math.max.name Lib.Math.max.code 2 (some .int)], x.before args s = true := fun x hx => hg.word hc.2.1 hc.2.2.1 hx
  refine va_mmax hc.1.1 hc.1.2.1 (hc.1.2.2.1.trans a3.1.symm) hc.1.2.2.2 (hwd _ (by simp)) (hwd _ (by simp)) (hwd _ (by simp)) (hwd _ (by simp)) (by have := hc.2.2.2.2.2.2.2.1; omega) ?_ (by omega) (by omega) hd ?_
  · have := hc.2.2.2.2.2.2.2.2
    rw [zcats]
    omega
  · have e1 : (if jI a < jI b then jI b else jI a) = jI (if a < b then b else a) := by
      by_cases h : a < b
      · rw [if_pos h, if_pos ((jI_lt hr.1.1 hr.1.2 hr.2.1 hr.2.2).mpr h)]
      · rw [if_neg h, if_neg (fun q => h ((jI_lt hr.1.1 hr.1.2 hr.2.1 hr.2.2).mp q))]
    rw [e1]
    exact k p e R s m args below meth c Qf hc hQ H locs ls cells slots a1 a2 a3 a4 a5
theorem zr_min {idx : Nat} {a b : Int} (hd : decode M.2.1 pc = .ok (.invokestatic idx, 3)) (hp : pc + 3 = pc') (hg : zG [.methodLink M.1.cls idx Lib.Math.min.name, .static Lib.Math.min.name, .initialized "java/lang/Math", .code Lib.Math.min.name Lib.Math.min.code 2 (some .int)]) (hr : (-2147483648 ≤ a ∧ a < 2147483648) ∧ (-2147483648 ≤ b ∧ b < 2147483648)) (hcat : (st.map fun v => v.category).sum ≤ 8) (k : zRun Γ M (d + 1) none pc' lv (.int (jI (if b < a then b else a)) :: st) μ w Q) : zRun Γ M (d + 1) none pc lv (.int (jI b) :: .int (jI a) :: st) μ w Q := by
  subst hp
  intro p e R s m args below meth c Qf hc hQ H locs ls cells slots a1 a2 a3 a4 a5
  have hwd : ∀ x ∈ [Cond.methodLink M.1.cls idx Lib.Math.min.name, .static Lib.Math.min.name, .initialized "java/lang/Math", .code Lib.Math.min.name Lib.Math.min.code 2 (some .int)], x.before args s = true := fun x hx => hg.word hc.2.1 hc.2.2.1 hx
  refine va_mmin hc.1.1 hc.1.2.1 (hc.1.2.2.1.trans a3.1.symm) hc.1.2.2.2 (hwd _ (by simp)) (hwd _ (by simp)) (hwd _ (by simp)) (hwd _ (by simp)) (by have := hc.2.2.2.2.2.2.2.1; omega) ?_ (by omega) (by omega) hd ?_
  · have := hc.2.2.2.2.2.2.2.2
    rw [zcats]
    omega
  · first
      | (have e1 : (if jI b < jI a then jI b else jI a) = jI (if b < a then b else a) := by
          by_cases h : b < a
          · rw [if_pos h, if_pos ((jI_lt hr.2.1 hr.2.2 hr.1.1 hr.1.2).mpr h)]
          · rw [if_neg h, if_neg (fun q => h ((jI_lt hr.2.1 hr.2.2 hr.1.1 hr.1.2).mp q))]
         rw [e1]
         exact k p e R s m args below meth c Qf hc hQ H locs ls cells slots a1 a2 a3 a4 a5)
      | (have e1 : (if jI a > jI b then jI b else jI a) = jI (if b < a then b else a) := by
          by_cases h : b < a
          · rw [if_pos h, if_pos ((jI_lt hr.2.1 hr.2.2 hr.1.1 hr.1.2).mpr h)]
          · rw [if_neg h, if_neg (fun q => h ((jI_lt hr.2.1 hr.2.2 hr.1.1 hr.1.2).mp q))]
         rw [e1]
         exact k p e R s m args below meth c Qf hc hQ H locs ls cells slots a1 a2 a3 a4 a5)
end MM
