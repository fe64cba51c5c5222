/-! CONTRACTS and calls -/
def zcode (M : zMd) : Cond := .code M.1 M.2.1 M.2.2.1 M.2.2.2.1
def zcodeH (M : zMd) : Cond := .codeWith M.1 M.2.1 M.2.2.1 M.2.2.2.1 M.2.2.2.2
def zRoom (d mc ms : Nat) : Room := { frames := d, cells := mc, slots := ms, locals := 36 * d }
abbrev zQr : Type := Option Value → Nat → Bool → zW → Prop
abbrev zQx : Type := String → Nat → Bool → zW → Prop
def zPc (Γ : zΓ) (as : List Value) (n : Nat) (g : Bool) (w : zW) : Array Value → State → Prop := fun a U => a = (as.map (zcv Γ)).toArray ∧ zS Γ n g w U
def zQc (Γ : zΓ) (Qr : zQr) : Array Value → State → Outcome → State → Prop := fun _ st oc t => ∃ r n' g' w', oc = .returned (r.map (zcv Γ)) ∧ Qr r n' g' w' ∧ zHp Γ n' g' w' t.heap ∧ st.heap.size ≤ t.heap.size
def zXC (Γ : zΓ) (Qx : zQx) : String → State → State → Prop := fun E st t => ∃ n' g' w', Qx E n' g' w' ∧ zHp Γ n' g' w' t.heap ∧ st.heap.size ≤ t.heap.size
def zTr (Γ : zΓ) (M : zMd) (d mc ms : Nat) (as : List Value) (n : Nat) (g : Bool) (w : zW) (Qr : zQr) (Qx : zQx) : Prop := zBase Γ → vx_Met Γ.1 M.1 [zcode M] (zRoom d mc ms) (zPc Γ as n g w) (zQc Γ Qr) (zXC Γ Qx) mc ms (zfr Γ)
def zTrH (Γ : zΓ) (M : zMd) (d mc ms : Nat) (as : List Value) (n : Nat) (g : Bool) (w : zW) (Qr : zQr) (Qx : zQx) : Prop := zBase Γ → vx_Met Γ.1 M.1 [zcodeH M] (zRoom d mc ms) (zPc Γ as n g w) (zQc Γ Qr) (zXC Γ Qx) mc ms (zfr Γ)
/-- at a return, with r -/
def zRet (M : zMd) (pc : Nat) (st : List Value) (r : Option Value) : Prop :=
  (r = none ∧ st = [] ∧ decode M.2.1 pc = .ok (.return_, 1) ∧ M.2.2.2.1 = none) ∨ (∃ (x : Int32) (ty : FieldType), r = some (.int x) ∧ st = [.int x] ∧ decode M.2.1 pc = .ok (.ireturn, 1) ∧ M.2.2.2.1 = some ty ∧ narrow ty (.int x) = .int x) ∨
  (∃ x : Int64, r = some (.long x) ∧ st = [.long x] ∧ decode M.2.1 pc = .ok (.lreturn, 1) ∧ M.2.2.2.1 = some .long) ∨ (∃ x : UInt64, r = some (.double x) ∧ st = [.double x] ∧ decode M.2.1 pc = .ok (.dreturn, 1) ∧ M.2.2.2.1 = some .double)
def zEnd (M : zMd) (Qr : zQr) (Qx : zQx) : zQ := fun ex pc _ st μ w => match ex with
  | none => ∃ r, zRet M pc st r ∧ Qr r μ.1 μ.2.1 w
  | some E => M.2.2.2.2 = [] ∧ Qx E μ.1 μ.2.1 w
/-! a frame's entry -/
def zentl : List Value → List (Option Value)
  | [] => []
  | v :: vs => match v with
    | .long _ => some v :: none :: zentl vs
    | .double _ => some v :: none :: zentl vs
    | _ => some v :: zentl vs
def zent (nL : Nat) (as : List Value) : List (Option Value) := zentl as ++ List.replicate (nL - (zentl as).length) none
theorem zentl_len (Γ : zΓ) : ∀ as : List Value, (zentl as).length = (lg_sl (as.map (zcv Γ))).length
  | [] => rfl
  | v :: vs => by
    have ih := zentl_len Γ vs
    have e : lg_sl ((v :: vs).map (zcv Γ)) = (if (zcv Γ v).category = 2 then [Slot.val (zcv Γ v), .second] else [.val (zcv Γ v)]) ++ lg_sl (vs.map (zcv Γ)) := rfl
    rw [e, zcv_cat]
    cases v <;> simp [zentl, Value.category, ih] <;> omega
theorem zentl_args (Γ : zΓ) : ∀ (as : List Value) (k i : Nat) (v : Value), (zentl as)[i]? = some (some v) → (k + i, zcv Γ v) ∈ lv_args k (as.map (zcv Γ))
  | [], k, i, v, h => by simp [zentl] at h
  | u :: us, k, i, v, h => by
    have e : lv_args k ((u :: us).map (zcv Γ)) = (k, zcv Γ u) :: lv_args (if (zcv Γ u).category = 2 then k + 2 else k + 1) (us.map (zcv Γ)) := rfl
    rw [e, zcv_cat]
    have two : ∀ (hu : u.category = 2) (hz : zentl (u :: us) = some u :: none :: zentl us), (k + i, zcv Γ v) ∈ (k, zcv Γ u) :: lv_args (if u.category = 2 then k + 2 else k + 1) (us.map (zcv Γ)) := by
      intro hu hz
      rw [hz] at h
      rw [if_pos hu]
      match i, h with
      | 0, h => cases h; exact List.mem_cons_self
      | 1, h => cases h
      | i + 2, h =>
        have := zentl_args Γ us (k + 2) i v h
        rw [show k + (i + 2) = k + 2 + i by omega]
        exact List.mem_cons_of_mem _ this
    have one : ∀ (hu : ¬ u.category = 2) (hz : zentl (u :: us) = some u :: zentl us), (k + i, zcv Γ v) ∈ (k, zcv Γ u) :: lv_args (if u.category = 2 then k + 2 else k + 1) (us.map (zcv Γ)) := by
      intro hu hz
      rw [hz] at h
      rw [if_neg hu]
      match i, h with
      | 0, h => cases h; exact List.mem_cons_self
      | i + 1, h =>
        have := zentl_args Γ us (k + 1) i v h
        rw [show k + (i + 1) = k + 1 + i by omega]
        exact List.mem_cons_of_mem _ this
    cases u with
    | long x => exact two rfl rfl
    | double x => exact two rfl rfl
    | int x => exact one (by simp [Value.category]) rfl
    | float x => exact one (by simp [Value.category]) rfl
    | null => exact one (by simp [Value.category]) rfl
    | ref x => exact one (by simp [Value.category]) rfl
    | retAddr x => exact one (by simp [Value.category]) rfl
theorem zent_LV {Γ : zΓ} {nL : Nat} {as : List Value} (h : (zentl as).length ≤ nL) : zLV Γ ((lg_sl (as.map (zcv Γ)) ++ List.replicate (nL - (lg_sl (as.map (zcv Γ))).length) Slot.unset).toArray) nL (zent nL as) := by
  have hl := lv_entry (as.map (zcv Γ)) (n := nL) (by rw [← zentl_len]; exact h)
  refine ⟨hl.1, hl.2.1, by unfold zent; rw [List.length_append, List.length_replicate]; omega, fun i v hi => ?_⟩
  unfold zent at hi
  by_cases hlt : i < (zentl as).length
  · rw [List.getElem?_append_left hlt] at hi
    have := hl.2.2 _ (zentl_args Γ as 0 i v hi)
    simpa using this
  · rw [List.getElem?_append_right (by omega), List.getElem?_replicate] at hi
    split at hi <;> cases hi
section ZT
variable {Γ : zΓ} {M : zMd} {d mc ms : Nat} {as : List Value} {n : Nat} {g : Bool} {w : zW} {Qr : zQr} {Qx : zQx}
theorem zend_at {p : Program} {e : Env} {s : State} {m : MethodId} {args : Array Value} {below : List Frame} {meth : Method} {c : Code} (hc : zCtx Γ M d p (zRoom d mc ms) s m meth c) (hr : meth.sig.returnType = M.2.2.2.1) : ∀ ex' pc' lv' st' μ' w', zEnd M Qr Qx ex' pc' lv' st' μ' w' → zAt Γ M p e (zRoom d mc ms) s m args below meth c (vx_MQ below (zQc Γ Qr) (zXC Γ Qx) args s mc ms (zfr Γ)) ex' pc' lv' st' μ' w' := by
  intro ex pc lv st μ w' hq H locs ls cells slots a1 a2 a3 a4 a5
  have a4' : cells ≤ mc := Nat.le_trans (Nat.le_add_right _ _) a4
  have a5' : slots ≤ ms := Nat.le_trans (Nat.le_add_right _ _) a5
  have hlocks : meth.locks = false := hc.2.2.2.2.1
  cases ex with
  | none =>
    obtain ⟨r, hret, hqr⟩ := hq
    refine W.widen a4' a5' (vx_ret ?_)
    have hfin : ∀ t : State, t.heap = H → s.WarmedH t.vm → zQc Γ Qr args s (.returned (r.map (zcv Γ))) t := fun t ht _ => ⟨r, μ.1, μ.2.1, w', rfl, hqr, by rw [ht]; exact a1, by rw [ht]; exact a2.1⟩
    rcases hret with ⟨rfl, rfl, hd, h4⟩ | ⟨x, ty, rfl, rfl, hd, h4, h5⟩ | ⟨x, rfl, rfl, hd, h4⟩ | ⟨x, rfl, rfl, hd, h4⟩
    · exact W.vret hc.1.1 hc.1.2.1 (hr.trans h4) hfin a2.2.2 hd hlocks
    · exact W.zret hc.1.1 hc.1.2.1 (hr.trans h4) h5 hfin a2.2.2 hd hlocks
    · exact W.lret hc.1.1 hc.1.2.1 (hr.trans h4) hfin a2.2.2 hd hlocks
    · exact W.dret hc.1.1 hc.1.2.1 (hr.trans h4) hfin a2.2.2 hd hlocks
  | some E =>
    intro q ce rest hce hcv hcl
    refine vx_out (E := E) (fun x hx => ?_) hlocks hce hcv hcl (fun t ht _ => ⟨μ.1, μ.2.1, w', hq.2, by rw [ht]; exact a1, by rw [ht]; exact a2.1⟩) a2.2.2 a4' a5'
    rw [hc.2.2.2.2.2.2.1, hq.1] at hx
    cases hx
theorem zTr.of_run (hy : plainName M.1.cls = true) (hh : M.2.2.2.2 = []) (hlen : (zentl as).length ≤ M.2.2.1) {lv : List (Option Value)} (hlv : zent M.2.2.1 as = lv) (h : zRun Γ M d none 0 lv [] (n, g, mc, ms) w (zEnd M Qr Qx)) : zTr Γ M d mc ms as n g w Qr Qx := by
  subst hlv
  intro hB
  refine vx_ofW (cc := M.2.1) (maxL := M.2.2.1) (ret := M.2.2.2.1) (ws' := []) hy rfl ?_
  intro p e s m args below meth c s₁ B hml ht hPc
  obtain ⟨hargs, hW, hHp⟩ := hPc
  subst hargs
  have htab : c.exceptionTable.toList = tableOf M.2.2.2.2 := by
    rw [hh]
    cases hz : c.exceptionTable.toList with
    | nil => rfl
    | cons a l => exact (ht a (by rw [hz]; exact List.mem_cons_self)).elim
  have hc : zCtx Γ M d p (zRoom d mc ms) s m meth c := ⟨⟨B.exec, B.bytes, hml, findClass_of_methodNamed B.named⟩, hB, hW, ⟨hHp.1.1, hHp.1.2⟩, B.notSynchronized, (name_of_methodNamed B.named B.method).1, htab, Nat.le_refl _, Nat.le_refl _⟩
  rw [lg_entry_eq]
  exact h p e (zRoom d mc ms) s m _ below meth c _ hc (zend_at hc B.returns) s.heap [] _ 0 0 hHp va_S.rf (zent_LV hlen) (by show 0 + mc ≤ mc; omega) (by show 0 + ms ≤ ms; omega)
theorem zTrH.of_run (hy : plainName M.1.cls = true) (hlen : (zentl as).length ≤ M.2.2.1) {lv : List (Option Value)} (hlv : zent M.2.2.1 as = lv) (h : zRun Γ M d none 0 lv [] (n, g, mc, ms) w (zEnd M Qr Qx)) : zTrH Γ M d mc ms as n g w Qr Qx := by
  subst hlv
  intro hB
  refine vx_ofWH (cc := M.2.1) (maxL := M.2.2.1) (ret := M.2.2.2.1) (hh := M.2.2.2.2) (ws' := []) hy rfl ?_
  intro p e s m args below meth c s₁ B hml hPc
  obtain ⟨hargs, hW, hHp⟩ := hPc
  subst hargs
  have htab : c.exceptionTable.toList = tableOf M.2.2.2.2 := vx_table (x := M.1) B (atoms_spec (ws := [zcodeH M]) B.pre _ List.mem_cons_self)
  have hc : zCtx Γ M d p (zRoom d mc ms) s m meth c := ⟨⟨B.exec, B.bytes, hml, findClass_of_methodNamed B.named⟩, hB, hW, ⟨hHp.1.1, hHp.1.2⟩, B.notSynchronized, (name_of_methodNamed B.named B.method).1, htab, Nat.le_refl _, Nat.le_refl _⟩
  rw [lg_entry_eq]
  exact h p e (zRoom d mc ms) s m _ below meth c _ hc (zend_at hc B.returns) s.heap [] _ 0 0 hHp va_S.rf (zent_LV hlen) (by show 0 + mc ≤ mc; omega) (by show 0 + ms ≤ ms; omega)
theorem zMet_of {l : Launch} {y : MethodName} {ws : List Cond} {rm : Room} {Pc : Array Value → State → Prop} {Qc : Array Value → State → Outcome → State → Prop} {XC : String → State → State → Prop} {free : Addr → Prop} (h : vx_Met l y ws rm Pc Qc XC mc ms free) (hx : ∀ E s t, ¬ XC E s t) : Met l y ws rm Pc Qc mc ms free := by
  intro p e h1 h2 h3 s m args below h4 h5 h6 h7
  obtain ⟨k, o, a1, a2, a3, a4⟩ := h p e h1 h2 h3 s m args below h4 h5 h6 h7
  refine ⟨k, o, a1, a2, a3, ?_⟩
  rcases a4 with a4 | ⟨q, -, E, ce, L, a5, -⟩
  · exact a4
  · exact (hx _ _ _ a5).elim
theorem zPc_blind : FrameBlind (zPc Γ as n g w) := fun _ _ _ _ h => h
end ZT
section ZC
variable {Γ : zΓ} {M M2 : zMd} {d mc ms : Nat} {as : List Value} {n : Nat} {g : Bool} {kc ks : Nat} {w : zW} {Qr : zQr} {Qx : zQx} {pc pc' : Nat} {lv : List (Option Value)} {st st0 : List Value} {Q : zQ}
def zArgs (M2 : zMd) (na : Nat) : Prop := M2.1.cls ≠ "java/lang/invoke/MethodHandle" ∧ M2.1.cls ≠ "java/lang/invoke/VarHandle" ∧ (parseMethodDescriptor M2.1.desc).map (fun d => d.parameters.length) = some na
def zLkV (own : String) (idx : Nat) (M2 : zMd) (na : Nat) : Prop := zG (wsV own idx M2.1.cls M2.1 [zcode M2]) ∧ zArgs M2 na ∧ M2.2.2.1 ≤ 17
def zLkS (own : String) (idx : Nat) (M2 : zMd) (na : Nat) : Prop := zG (va_wsS own idx M2.1 [zcode M2]) ∧ zArgs M2 na ∧ M2.2.2.1 ≤ 17
def zLkH (own : String) (idx : Nat) (M2 : zMd) (na : Nat) : Prop := zG (va_wsS own idx M2.1 [zcodeH M2]) ∧ zArgs M2 na ∧ M2.2.2.1 ≤ 17
def zLkI (own : String) (idx : Nat) (M2 : zMd) (na : Nat) : Prop := zG [.methodLink own idx M2.1, .instanceMethod M2.1, .initialized M2.1.cls, zcode M2] ∧ zArgs M2 na ∧ M2.2.2.1 ≤ 17 ∧ M2.1.name = "<init>" ∧ M2.2.2.2.1 = none
/-- nest mates: a constructor, a static method -/
def zLkIN (own : String) (idx : Nat) (M2 : zMd) (na : Nat) : Prop := zG [.instanceMethod M2.1, .initialized M2.1.cls, zcode M2] ∧ Cond.methodLinkNest own idx M2.1 "TombolaBooks" ∈ lw_tbl ∧ zArgs M2 na ∧ M2.2.2.1 ≤ 17 ∧ M2.1.name = "<init>" ∧ M2.2.2.2.1 = none
def zLkSN (own : String) (idx : Nat) (M2 : zMd) (na : Nat) : Prop := zG [.static M2.1, .initialized M2.1.cls, zcode M2] ∧ Cond.methodLinkNest own idx M2.1 "TombolaBooks" ∈ lw_tbl ∧ zArgs M2 na ∧ M2.2.2.1 ≤ 17
theorem zval_list (Γ : zΓ) (r : Option Value) (st : List Value) : (r.toList ++ st).map (zcv Γ) = (r.map (zcv Γ)).toList ++ st.map (zcv Γ) := by
  cases r <;> rfl
theorem zroom_call {R : Room} {p : Program} {s : State} {m : MethodId} {meth : Method} {c : Code} (hc : zCtx Γ M (d + 1) p R s m meth c) (h17 : M2.2.2.1 ≤ 17) : (zRoom d mc ms).frames + 1 ≤ R.frames ∧ 8 + (M2.2.2.1 + 11) + (zRoom d mc ms).locals ≤ R.locals := by
  have h1 := hc.2.2.2.2.2.2.2.1
  have h2 := hc.2.2.2.2.2.2.2.2
  exact ⟨h1, by show 8 + (M2.2.2.1 + 11) + 36 * d ≤ R.locals; omega⟩
theorem zpre_S {R : Room} {p : Program} {s : State} {m : MethodId} {meth : Method} {c : Code} {H : Heap} (hc : zCtx Γ M (d + 1) p R s m meth c) (a1 : zHp Γ n g w H) : PreS s H (zPc Γ as n g w) (as.map (zcv Γ)) :=
  ⟨zPc_blind, fun U hU hW => ⟨rfl, State.WarmedH.trans hc.2.2.1 hW, by rw [hU]; exact a1⟩⟩
/-- behind a call that returns or throws -/
theorem zr_back {p : Program} {e : Env} {R : Room} {s : State} {m : MethodId} {args : Array Value} {below : List Frame} {meth : Method} {c : Code} {H : Heap} {locs : List Loc} {ls : Array Slot} {cells slots : Nat} {Qf : State → Prop} {av : Array Value} {gst : List Value} (hc : zCtx Γ M (d + 1) p R s m meth c) (a2 : va_S (zfr Γ) s.heap H locs) (a3 : zLV Γ ls M.2.2.1 lv) (a4 : cells + kc ≤ R.cells) (a5 : slots + ks ≤ R.slots) (hmc : mc ≤ kc) (hms : ms ≤ ks)
    (hr : vx_Run p Γ.1 e R s m args below meth c H locs cells slots mc ms (F0 m pc ls gst) (st.map (zcv Γ)) (zQc Γ Qr av) (zXC Γ Qx) (zfr Γ))
    (kr : ∀ r n' g' w', Qr r n' g' w' → zAt Γ M p e R s m args below meth c Qf none (pc + 3) lv (r.toList ++ st) (n', g', kc - mc, ks - ms) w')
    (kx : ∀ E n' g' w', Qx E n' g' w' → zAt Γ M p e R s m args below meth c Qf (some E) pc lv st (n', g', kc - mc, ks - ms) w') : W p Γ.1 e R s m args below meth c H locs cells slots Qf (F0 m pc ls gst) := by
  intro T hT X
  have keep : ∀ {t st₀ : State} {L : List Loc} {n' : Nat} {g' : Bool} {w' : zW}, st₀.heap = H → zHp Γ n' g' w' t.heap → st₀.heap.size ≤ t.heap.size → (∀ q ∈ L, zfr Γ q.base) → va_S (zfr Γ) s.heap t.heap (locs ++ L) := by
    intro t st₀ L n' g' w' h0 hz hsz hL
    rw [h0] at hsz
    refine ⟨Nat.le_trans a2.1 hsz, fun q h1 h2 => ?_, fun q hq => ?_⟩
    · have hq : q < zo Γ := Nat.not_le.mp h2
      rw [hz.1.2 q hq, hc.2.2.2.1.2 q hq]
    · rcases List.mem_append.mp hq with h | h
      · exact a2.2.2 q h
      · exact hL q h
  rcases hr T hT X with ⟨v, st₀, t, T', L, h0, X', hL, e1, e2, ⟨r, n', g', w', hv, hq, hz, hsz⟩, stp⟩ | ⟨q, st₀, t, T', L, E, ce, h0, X', hL, e1, e2, ⟨n', g', w', hq, hz, hsz⟩, hce, hcv, hcl, stp⟩
  · cases hv
    have key := kr r n' g' w' hq t.heap (locs ++ L) ls (cells + mc) (slots + ms) hz (keep h0 hz hsz hL) a3 (by show cells + mc + (kc - mc) ≤ _; omega) (by show slots + ms + (ks - ms) ≤ _; omega)
    rw [zval_list] at key
    obtain ⟨t2, b1, b2⟩ := key T' e1 X'
    exact ⟨t2, stp t2 b1, b2⟩
  · have key := kx E n' g' w' hq t.heap (locs ++ L) ls (cells + mc) (slots + ms) hz (keep h0 hz hsz hL) a3 (by show cells + mc + (kc - mc) ≤ _; omega) (by show slots + ms + (ks - ms) ≤ _; omega)
    obtain ⟨t2, b1, b2⟩ := key q ce (st.map (zcv Γ)) hce hcv hcl T' e1 X'
    exact ⟨t2, stp.trans b1, b2⟩
theorem zrev (Γ : zΓ) (as st : List Value) (x : Value) : (as.reverse ++ x :: st).map (zcv Γ) = (as.map (zcv Γ)).reverse ++ zcv Γ x :: st.map (zcv Γ) := by simp
theorem zr_callV {idx na a ci N : Nat} {T0 : u_T} {fs : List Value} (hd : decode M.2.1 pc = .ok (.invokevirtual idx, 3)) (hp : pc + 3 = pc') (hl : zLkV M.1.cls idx M2 na) (ht : zTr Γ M2 d mc ms (.ref a :: as) n g w Qr Qx) (hw : w a = some (.inr (ci, fs))) (hci : vwCl[ci]? = some (M2.1.cls, T0, N)) (hna : as.length = na) (hst : as.reverse ++ .ref a :: st = st0) (hcat : (st.map fun v => v.category).sum ≤ 8) (hmc : mc ≤ kc) (hms : ms ≤ ks)
    (kr : ∀ r n' g' w', Qr r n' g' w' → zRun Γ M (d + 1) none pc' lv (r.toList ++ st) (n', g', kc - mc, ks - ms) w' Q) (kx : ∀ E n' g' w', Qx E n' g' w' → zRun Γ M (d + 1) (some E) pc lv st (n', g', kc - mc, ks - ms) w' Q) : zRun Γ M (d + 1) none pc lv st0 (n, g, kc, ks) w Q := by
  subst hp; subst hst
  intro p e R s m args below meth c Qf hc hQ H locs ls cells slots a1 a2 a3 a4 a5
  have hts := zTs_before (args := args) hc.2.1 hc.2.2.1
  refine zr_back hc a2 a3 a4 a5 hmc hms (vx_runV (As := as.map (zcv Γ)) (b := zad Γ a) ⟨hc.1.1, hc.1.2.1, hc.1.2.2.1, hc.1.2.2.2, hts⟩ (ht hc.2.1) (cwV na hts hl.1.good rfl rfl rfl ⟨rfl, hl.2.1⟩ (zroom_call hc hl.2.2)) ⟨zPc_blind, va_recv (zK hc) (zP1 a1 hw) hci (q0 := 0) rfl, (zpre_S hc a1).2⟩ rfl (by rw [List.length_map]; exact hna) a3.1 (zrev Γ as st (.ref a)) (lv_room (by rw [zcats]; exact hcat)) hd ⟨?_, ?_⟩) (fun r n' g' w' hq => kr r n' g' w' hq p e R s m args below meth c Qf hc hQ) (fun E n' g' w' hq => kx E n' g' w' hq p e R s m args below meth c Qf hc hQ)
  · have a4' : cells + kc ≤ R.cells := a4
    omega
  · have a5' : slots + ks ≤ R.slots := a5
    omega
theorem zr_callS {idx na : Nat} (hd : decode M.2.1 pc = .ok (.invokestatic idx, 3)) (hp : pc + 3 = pc') (hl : zLkS M.1.cls idx M2 na) (ht : zTr Γ M2 d mc ms as n g w Qr Qx) (hna : as.length = na) (hst : as.reverse ++ st = st0) (hcat : (st.map fun v => v.category).sum ≤ 8) (hmc : mc ≤ kc) (hms : ms ≤ ks)
    (kr : ∀ r n' g' w', Qr r n' g' w' → zRun Γ M (d + 1) none pc' lv (r.toList ++ st) (n', g', kc - mc, ks - ms) w' Q) (kx : ∀ E n' g' w', Qx E n' g' w' → zRun Γ M (d + 1) (some E) pc lv st (n', g', kc - mc, ks - ms) w' Q) : zRun Γ M (d + 1) none pc lv st0 (n, g, kc, ks) w Q := by
  subst hp; subst hst
  intro p e R s m args below meth c Qf hc hQ H locs ls cells slots a1 a2 a3 a4 a5
  have hts := zTs_before (args := args) hc.2.1 hc.2.2.1
  refine zr_back hc a2 a3 a4 a5 hmc hms (vx_runS (As := as.map (zcv Γ)) ⟨hc.1.1, hc.1.2.1, hc.1.2.2.1, hc.1.2.2.2, hts⟩ (ht hc.2.1) (va_cwS na hts hl.1.good rfl rfl rfl hl.2.1 (zroom_call hc hl.2.2)) (zpre_S hc a1) rfl (by rw [List.length_map]; exact hna) a3.1 (by simp) (lv_room (by rw [zcats]; exact hcat)) hd ⟨?_, ?_⟩) (fun r n' g' w' hq => kr r n' g' w' hq p e R s m args below meth c Qf hc hQ) (fun E n' g' w' hq => kx E n' g' w' hq p e R s m args below meth c Qf hc hQ)
  · have a4' : cells + kc ≤ R.cells := a4
    omega
  · have a5' : slots + ks ≤ R.slots := a5
    omega
theorem zr_callH {idx na : Nat} (hd : decode M.2.1 pc = .ok (.invokestatic idx, 3)) (hp : pc + 3 = pc') (hl : zLkH M.1.cls idx M2 na) (ht : zTrH Γ M2 d mc ms as n g w Qr Qx) (hna : as.length = na) (hst : as.reverse ++ st = st0) (hcat : (st.map fun v => v.category).sum ≤ 8) (hmc : mc ≤ kc) (hms : ms ≤ ks)
    (kr : ∀ r n' g' w', Qr r n' g' w' → zRun Γ M (d + 1) none pc' lv (r.toList ++ st) (n', g', kc - mc, ks - ms) w' Q) (kx : ∀ E n' g' w', Qx E n' g' w' → zRun Γ M (d + 1) (some E) pc lv st (n', g', kc - mc, ks - ms) w' Q) : zRun Γ M (d + 1) none pc lv st0 (n, g, kc, ks) w Q := by
  subst hp; subst hst
  intro p e R s m args below meth c Qf hc hQ H locs ls cells slots a1 a2 a3 a4 a5
  have hts := zTs_before (args := args) hc.2.1 hc.2.2.1
  refine zr_back hc a2 a3 a4 a5 hmc hms (vx_runSX (As := as.map (zcv Γ)) (hh := M2.2.2.2.2) ⟨hc.1.1, hc.1.2.1, hc.1.2.2.1, hc.1.2.2.2, hts⟩ (ht hc.2.1) (vx_cwSW na hts hl.1.good rfl rfl rfl hl.2.1 (zroom_call hc hl.2.2)) (zpre_S hc a1) rfl (by rw [List.length_map]; exact hna) a3.1 (by simp) (lv_room (by rw [zcats]; exact hcat)) hd ⟨?_, ?_⟩) (fun r n' g' w' hq => kr r n' g' w' hq p e R s m args below meth c Qf hc hQ) (fun E n' g' w' hq => kx E n' g' w' hq p e R s m args below meth c Qf hc hQ)
  · have a4' : cells + kc ≤ R.cells := a4
    omega
  · have a5' : slots + ks ≤ R.slots := a5
    omega
/-- a run that only returns, as the kit's va_Run has it -/
theorem zrun_of {p : Program} {e : Env} {R : Room} {s : State} {m : MethodId} {args : Array Value} {below : List Frame} {meth : Method} {c : Code} {H : Heap} {locs : List Loc} {cells slots : Nat} {av : Array Value} {f : JFrame} {rest : List Value} {Qc : Array Value → State → Outcome → State → Prop} {XC : String → State → State → Prop} {free : Addr → Prop} (h : va_Run p Γ.1 e R s m args below meth c H locs cells slots mc ms f rest (Qc av) free) : vx_Run p Γ.1 e R s m args below meth c H locs cells slots mc ms f rest (Qc av) XC free := fun T hT X => Or.inl (h T hT X)
abbrev zNo : zQx := fun _ _ _ _ => False
theorem zNoX (Γ : zΓ) : ∀ E s t, ¬ zXC Γ zNo E s t := fun _ _ _ ⟨_, _, _, h, _⟩ => h
theorem zr_callI {idx na a : Nat} (hd : decode M.2.1 pc = .ok (.invokespecial idx, 3)) (hp : pc + 3 = pc') (hl : zLkI M.1.cls idx M2 na) (ht : zTr Γ M2 d mc ms (.ref a :: as) n g w Qr zNo) (hna : as.length = na) (hst : as.reverse ++ .ref a :: st = st0) (hcat : (st.map fun v => v.category).sum ≤ 8) (hmc : mc ≤ kc) (hms : ms ≤ ks)
    (kr : ∀ r n' g' w', Qr r n' g' w' → zRun Γ M (d + 1) none pc' lv (r.toList ++ st) (n', g', kc - mc, ks - ms) w' Q) : zRun Γ M (d + 1) none pc lv st0 (n, g, kc, ks) w Q := by
  subst hp; subst hst
  intro p e R s m args below meth c Qf hc hQ H locs ls cells slots a1 a2 a3 a4 a5
  have hts := zTs_before (args := args) hc.2.1 hc.2.2.1
  obtain ⟨hg, har, h17, hnm, hret⟩ := hl
  have hwd : ∀ x ∈ [Cond.methodLink M.1.cls idx M2.1, .instanceMethod M2.1, .initialized M2.1.cls, zcode M2], x.before args s = true := fun x hx => zG.word hg hc.2.1 hc.2.2.1 hx
  have hM := zMet_of (ht hc.2.1) (zNoX Γ)
  have hco : [zcode M2] = [Cond.code M2.1 M2.2.1 M2.2.2.1 none] := by rw [← hret]; rfl
  rw [hco] at hM
  have hGI : GoodIn zTs [Cond.code M2.1 M2.2.1 M2.2.2.1 none] := by rw [← hco]; exact zG.good (fun x hx => hg x (by rw [List.mem_singleton.mp hx]; simp))
  refine zr_back hc a2 a3 a4 a5 hmc hms (zrun_of (Qc := zQc Γ Qr) (va_runI (As := as.map (zcv Γ)) (b := zad Γ a) ⟨hc.1.1, hc.1.2.1, hc.1.2.2.1, hc.1.2.2.2, hts⟩ hM (cwI na hts hGI rfl rfl rfl (hwd _ (by simp)) (hwd _ (by simp)) (hwd _ (by simp)) hnm har (zroom_call hc h17)) (zpre_S hc a1) rfl (by rw [List.length_map]; exact hna) a3.1 (zrev Γ as st (.ref a)) (lv_room (by rw [zcats]; exact hcat)) hd ⟨?_, ?_⟩)) (fun r n' g' w' hq => kr r n' g' w' hq p e R s m args below meth c Qf hc hQ) (Qx := zNo) (fun E n' g' w' hq => hq.elim)
  · have a4' : cells + kc ≤ R.cells := a4
    omega
  · have a5' : slots + ks ≤ R.slots := a5
    omega
theorem zr_callIN {idx na a : Nat} (hd : decode M.2.1 pc = .ok (.invokespecial idx, 3)) (hp : pc + 3 = pc') (hl : zLkIN M.1.cls idx M2 na) (ht : zTr Γ M2 d mc ms (.ref a :: as) n g w Qr zNo) (hna : as.length = na) (hst : as.reverse ++ .ref a :: st = st0) (hcat : (st.map fun v => v.category).sum ≤ 8) (hmc : mc ≤ kc) (hms : ms ≤ ks)
    (kr : ∀ r n' g' w', Qr r n' g' w' → zRun Γ M (d + 1) none pc' lv (r.toList ++ st) (n', g', kc - mc, ks - ms) w' Q) : zRun Γ M (d + 1) none pc lv st0 (n, g, kc, ks) w Q := by
  subst hp; subst hst
  intro p e R s m args below meth c Qf hc hQ H locs ls cells slots a1 a2 a3 a4 a5
  have hts := zTs_before (args := args) hc.2.1 hc.2.2.1
  obtain ⟨hg, hnest, har, h17, hnm, hret⟩ := hl
  have hwd : ∀ x ∈ [Cond.instanceMethod M2.1, .initialized M2.1.cls, zcode M2], x.before args s = true := fun x hx => zG.word hg hc.2.1 hc.2.2.1 hx
  have hM := zMet_of (ht hc.2.1) (zNoX Γ)
  have hco : [zcode M2] = [Cond.code M2.1 M2.2.1 M2.2.2.1 none] := by rw [← hret]; rfl
  rw [hco] at hM
  have hGI : GoodIn zTs [Cond.code M2.1 M2.2.1 M2.2.2.1 none] := by rw [← hco]; exact zG.good (fun x hx => hg x (by rw [List.mem_singleton.mp hx]; simp))
  refine zr_back hc a2 a3 a4 a5 hmc hms (zrun_of (Qc := zQc Γ Qr) (va_runIN (As := as.map (zcv Γ)) (b := zad Γ a) ⟨hc.1.1, hc.1.2.1, hc.1.2.2.1, hc.1.2.2.2, hts⟩ hM ⟨va_cnB na hts hGI rfl rfl rfl (zNest_at hc.2.1 hc.2.2.1 hnest) (hwd _ (by simp)) har (zroom_call hc h17), hnm, hwd _ (by simp)⟩ (zpre_S hc a1) rfl (by rw [List.length_map]; exact hna) a3.1 (zrev Γ as st (.ref a)) (lv_room (by rw [zcats]; exact hcat)) hd ⟨?_, ?_⟩)) (fun r n' g' w' hq => kr r n' g' w' hq p e R s m args below meth c Qf hc hQ) (Qx := zNo) (fun E n' g' w' hq => hq.elim)
  · have a4' : cells + kc ≤ R.cells := a4
    omega
  · have a5' : slots + ks ≤ R.slots := a5
    omega
theorem zr_callSN {idx na : Nat} (hd : decode M.2.1 pc = .ok (.invokestatic idx, 3)) (hp : pc + 3 = pc') (hl : zLkSN M.1.cls idx M2 na) (ht : zTr Γ M2 d mc ms as n g w Qr zNo) (hna : as.length = na) (hst : as.reverse ++ st = st0) (hcat : (st.map fun v => v.category).sum ≤ 8) (hmc : mc ≤ kc) (hms : ms ≤ ks)
    (kr : ∀ r n' g' w', Qr r n' g' w' → zRun Γ M (d + 1) none pc' lv (r.toList ++ st) (n', g', kc - mc, ks - ms) w' Q) : zRun Γ M (d + 1) none pc lv st0 (n, g, kc, ks) w Q := by
  subst hp; subst hst
  intro p e R s m args below meth c Qf hc hQ H locs ls cells slots a1 a2 a3 a4 a5
  have hts := zTs_before (args := args) hc.2.1 hc.2.2.1
  obtain ⟨hg, hnest, har, h17⟩ := hl
  have hwd : ∀ x ∈ [Cond.static M2.1, .initialized M2.1.cls, zcode M2], x.before args s = true := fun x hx => zG.word hg hc.2.1 hc.2.2.1 hx
  have hM := zMet_of (ht hc.2.1) (zNoX Γ)
  have hGI : GoodIn zTs [zcode M2] := zG.good (fun x hx => hg x (by rw [List.mem_singleton.mp hx]; simp))
  refine zr_back hc a2 a3 a4 a5 hmc hms (zrun_of (Qc := zQc Γ Qr) (va_runSN (As := as.map (zcv Γ)) ⟨hc.1.1, hc.1.2.1, hc.1.2.2.1, hc.1.2.2.2, hts⟩ hM ⟨va_cnB na hts hGI rfl rfl rfl (zNest_at hc.2.1 hc.2.2.1 hnest) (hwd _ (by simp)) har (zroom_call hc h17), hwd _ (by simp), trivial⟩ (zpre_S hc a1) rfl (by rw [List.length_map]; exact hna) a3.1 (by simp) (lv_room (by rw [zcats]; exact hcat)) hd ⟨?_, ?_⟩)) (fun r n' g' w' hq => kr r n' g' w' hq p e R s m args below meth c Qf hc hQ) (Qx := zNo) (fun E n' g' w' hq => hq.elim)
  · have a4' : cells + kc ≤ R.cells := a4
    omega
  · have a5' : slots + ks ≤ R.slots := a5
    omega
end ZC
