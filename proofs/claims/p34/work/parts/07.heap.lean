/-! RULES of the heap -/
/-- class ci of the list: name, fields, how many -/
def zCl (ci : Nat) (C : String) (T : u_T) (N : Nat) : Prop := vwCl[ci]? = some (C, T, N) ∧ zG (u_ws C T N) ∧ (∀ a, a < N → ∀ b, b < N → a ≠ b → (T a).2.1 ≠ (T b).2.1) ∧ ∃ ty0 : Nat → FieldType, ∀ k, k < N → parseFieldDescriptor (T k).2.2.1 = some (ty0 k)
/-- the field k of class ci under number idx of class own -/
def zFl (own : String) (idx ci k : Nat) : Prop := ∃ (C : String) (T : u_T) (N : Nat), zCl ci C T N ∧ k < N ∧ zG [.fieldLink own idx (T k).1 (T k).2.1 (T k).2.2.1]
def zFlT (ci k : Nat) (fin : Bool) (ty : FieldType) (dc : String) : Prop := ∀ C T N, vwCl[ci]? = some (C, T, N) → (T k).2.2.2 = fin ∧ parseFieldDescriptor (T k).2.2.1 = some ty ∧ (T k).1 = dc
section RH
variable {Γ : zΓ} {M : zMd} {d : Nat} {pc pc' : Nat} {lv : List (Option Value)} {st : List Value} {n : Nat} {g : Bool} {kc ks : Nat} {w : zW} {Q : zQ}
theorem zput {H H1 : Heap} {k : Nat} {e e1 : va_E} (a1 : zHp Γ n g w H) (hk : w k = some e) (he : va_at Γ.2.2.1 vwCl (zad Γ k, zce Γ e1) H1) (z : H1.size = H.size) (oq : ∀ q : Nat, q ≠ zad Γ k → H1[q]? = H[q]?) : zHp Γ n g (zup w k e1) H1 := by
  have hk5 := a1.2.1 k e hk
  refine ⟨⟨by rw [z]; exact a1.1.1, fun q hq => ?_⟩, fun j x hx => ?_, fun hg => z.trans (a1.2.2 hg)⟩
  · rw [oq q (by rw [zad_ge hk5.1]; omega)]
    exact a1.1.2 q hq
  · unfold zup at hx
    by_cases hjk : j = k
    · subst hjk
      rw [if_pos rfl] at hx
      cases hx
      exact ⟨hk5.1, hk5.2.1, he⟩
    · rw [if_neg hjk] at hx
      have hj5 := a1.2.1 j x hx
      exact ⟨hj5.1, hj5.2.1, hj5.2.2.kept (oq _ (fun q => hjk (zad_inj hj5.1 hk5.1 q)))⟩
theorem zfr_ad {k : Nat} {e : va_E} {H : Heap} (a1 : zHp Γ n g w H) (hk : w k = some e) : zfr Γ (zad Γ k) := by
  have hk5 := a1.2.1 k e hk
  show zo Γ ≤ zad Γ k
  rw [zad_ge hk5.1]
  omega
theorem zP1 {k : Nat} {e : va_E} {H : Heap} (a1 : zHp Γ n g w H) (hk : w k = some e) : va_P Γ.2.2.1 vwCl [(zad Γ k, zce Γ e)] H := by
  intro i q hq
  have hz : i < 1 := (List.getElem?_eq_some_iff.mp hq).1
  rw [show i = 0 by omega] at hq
  cases hq
  exact (a1.2.1 k e hk).2.2
theorem zK {p : Program} {R : Room} {s : State} {m : MethodId} {meth : Method} {c : Code} (hc : zCtx Γ M d p R s m meth c) : va_K Γ.2.2.1 vwCl (ztys Γ) s := va_K.moved hc.2.2.1.alike hc.2.1.2.1
theorem zr_getf {idx ci k a : Nat} {fs : List Value} {v : Value} (hd : decode M.2.1 pc = .ok (.getfield idx, 3)) (hp : pc + 3 = pc') (hf : zFl M.1.cls idx ci k) (hw : w a = some (.inr (ci, fs))) (hv : fs[k]? = some v) (kk : zRun Γ M d none pc' lv (v :: st) (n, g, kc, ks) w Q) : zRun Γ M d none pc lv (.ref a :: st) (n, g, kc, ks) w Q := by
  subst hp
  intro p e R s m args below meth c Qf hc hQ H locs ls cells slots a1 a2 a3 a4 a5
  obtain ⟨C, T, N, hcl, hk, hg⟩ := hf
  refine va_get (ref := (T k).1) hc.1.1 hc.1.2.1 (zTs_before hc.2.1 hc.2.2.1) (fun x hx => List.mem_filter.mpr (hcl.2.1 x hx)) hc.1.2.2.2 (zK hc) (zP1 a1 hw) 0 rfl hcl.1 k hk (hg.word hc.2.1 hc.2.2.1 List.mem_cons_self) (fun x hx => hx) (v := zcv Γ v) ?_ hd ?_
  · rw [List.getElem?_map, hv]; rfl
  · exact kk p e R s m args below meth c Qf hc hQ H locs ls cells slots a1 a2 a3 a4 a5
theorem zr_putf {idx ci k a : Nat} {fs fs' : List Value} {v : Value} {ty : FieldType} {dc : String} (hd : decode M.2.1 pc = .ok (.putfield idx, 3)) (hp : pc + 3 = pc') (hf : zFl M.1.cls idx ci k) (ht : zFlT ci k false ty dc) (hw : w a = some (.inr (ci, fs))) (hl : k < fs.length) (hn : narrow ty (zcv Γ v) = zcv Γ v) (hfit : fits ty (zcv Γ v) = true) (hs : fs.set k v = fs') (kk : zRun Γ M d none pc' lv st (n, g, kc, ks) (zup w a (.inr (ci, fs'))) Q) : zRun Γ M d none pc lv (v :: .ref a :: st) (n, g, kc, ks) w Q := by
  subst hp; subst hs
  intro p e R s m args below meth c Qf hc hQ H locs ls cells slots a1 a2 a3 a4 a5
  obtain ⟨C, T, N, hcl, hk, hg⟩ := hf
  obtain ⟨ty0, hty⟩ := hcl.2.2.2
  obtain ⟨hfin, hd2, hdc⟩ := ht C T N hcl.1
  have hown := hc.1.2.2.2
  have hlink := hg.word (args := args) hc.2.1 hc.2.2.1 List.mem_cons_self
  have hK := zK hc
  have hts := zTs_before (args := args) hc.2.1 hc.2.2.1
  have hin : ∀ x ∈ u_ws C T N, x ∈ zTs := fun x hx => List.mem_filter.mpr (hcl.2.1 x hx)
  have hap := va_apart (own := M.1.cls) hts hin ty0 hty hcl.2.2.1 hK hcl.1
  obtain ⟨r, h1, cell, q1, q2, q3, q4⟩ := (a1.2.1 a _ hw).2.2
  have hr : r = (C, T, N) := Option.some.inj (h1.symm.trans hcl.1)
  subst hr
  obtain ⟨hS, hfc, kC, hkC, hkind⟩ := hK.1 ci _ hcl.1
  obtain ⟨cf, kf, fi, f, hi2, hsl⟩ := hS k hk
  have hlay := hts _ (hin _ (u_in_lay hk))
  unfold u_lay at hlay
  rw [if_neg (by rw [hfin]; decide)] at hlay
  have hst := (u_facts hfc hkC (u_lays hts hin hk) hi2).1
  have h6 := u_store hfc hkC hkind hlay hi2 hd2 hn hfit
  refine W.putK hc.1.1 hc.1.2.1 (f := f) ⟨hown, hlink, ⟨_, _, _, hi2⟩, hst⟩ (by rw [q2]; exact h6) q1 q3 (by rw [hsl]; exact k2_hasslot (q4 k hk)) rfl rfl hd fun H' e1 e2 e3 => ?_
  rw [hsl] at e1 ⊢
  have hP' : va_at Γ.2.2.1 vwCl (zad Γ a, zce Γ (.inr (ci, fs.set k v))) H' := by
    refine ⟨_, hcl.1, t_OB.to (V := updV (vp_V (fs.map (zcv Γ))) k (zcv Γ v)) ⟨_, e1, q2, q3, t_set q4 hap hk (zcv Γ v)⟩ (fun j _ => ?_)⟩
    rw [vp_updV_set (by rw [List.length_map]; exact hl), ← List.map_set]
  exact kk p e R s m args below meth c Qf hc hQ H' _ ls cells slots (zput a1 hw hP' e2 e3) (a2.put e2 e3 (zfr_ad a1 hw)) a3 a4 a5
theorem zr_putF {idx ci k a : Nat} {fs fs' : List Value} {v : Value} {ty : FieldType} {dc : String} (hd : decode M.2.1 pc = .ok (.putfield idx, 3)) (hp : pc + 3 = pc') (hf : zFl M.1.cls idx ci k) (ht : zFlT ci k true ty dc) (hdc0 : dc = M.1.cls) (hini : M.1.name = "<init>") (hw : w a = some (.inr (ci, fs))) (hl : k < fs.length) (hn : narrow ty (zcv Γ v) = zcv Γ v) (hfit : fits ty (zcv Γ v) = true) (hs : fs.set k v = fs') (kk : zRun Γ M d none pc' lv st (n, g, kc, ks) (zup w a (.inr (ci, fs'))) Q) : zRun Γ M d none pc lv (v :: .ref a :: st) (n, g, kc, ks) w Q := by
  subst hp; subst hs
  intro p e R s m args below meth c Qf hc hQ H locs ls cells slots a1 a2 a3 a4 a5
  obtain ⟨C, T, N, hcl, hk, hg⟩ := hf
  obtain ⟨ty0, hty⟩ := hcl.2.2.2
  obtain ⟨hfin, hd2, hdc⟩ := ht C T N hcl.1
  have hown := hc.1.2.2.2
  have hlink := hg.word (args := args) hc.2.1 hc.2.2.1 List.mem_cons_self
  have hK := zK hc
  have hts := zTs_before (args := args) hc.2.1 hc.2.2.1
  have hin : ∀ x ∈ u_ws C T N, x ∈ zTs := fun x hx => List.mem_filter.mpr (hcl.2.1 x hx)
  have hap := va_apart (own := M.1.cls) hts hin ty0 hty hcl.2.2.1 hK hcl.1
  obtain ⟨r, h1, cell, q1, q2, q3, q4⟩ := (a1.2.1 a _ hw).2.2
  have hr : r = (C, T, N) := Option.some.inj (h1.symm.trans hcl.1)
  subst hr
  obtain ⟨hS, hfc, kC, hkC, hkind⟩ := hK.1 ci _ hcl.1
  obtain ⟨cf, kf, fi, f, hi2, hsl⟩ := hS k hk
  have hlay := hts _ (hin _ (u_in_lay hk))
  unfold u_lay at hlay
  rw [if_pos hfin] at hlay
  have hst := (u_facts hfc hkC (u_lays hts hin hk) hi2).1
  have hcf : m.cls = cf := by
    obtain ⟨_, _, c', _, _, _, -, -, hf', -, -, -, hown2, -⟩ := Cond.laysFinal_spec hlay
    have e1 : c' = cf := by have := hi2.symm.trans hf'; simp at this; exact this.1.symm
    rw [hdc, hdc0] at hown2
    rw [← e1]; exact Option.some.inj (hown.symm.trans hown2)
  have h6 := u_fits hfc hkC hkind (Or.inr hlay) hi2 hd2 hn hfit
  refine W.putFinK hc.1.1 hc.1.2.1 hown hlink hi2 hst hcf (hc.2.2.2.2.2.1.trans hini) (by rw [q2]; exact h6) q1 q3 (by rw [hsl]; exact k2_hasslot (q4 k hk)) rfl rfl hd fun H' e1 e2 e3 => ?_
  rw [hsl] at e1 ⊢
  have hP' : va_at Γ.2.2.1 vwCl (zad Γ a, zce Γ (.inr (ci, fs.set k v))) H' := by
    refine ⟨_, hcl.1, t_OB.to (V := updV (vp_V (fs.map (zcv Γ))) k (zcv Γ v)) ⟨_, e1, q2, q3, t_set q4 hap hk (zcv Γ v)⟩ (fun j _ => ?_)⟩
    rw [vp_updV_set (by rw [List.length_map]; exact hl), ← List.map_set]
  exact kk p e R s m args below meth c Qf hc hQ H' _ ls cells slots (zput a1 hw hP' e2 e3) (a2.put e2 e3 (zfr_ad a1 hw)) a3 a4 a5
theorem zr_ialdR {a N : Nat} {f : Nat → Int32} {i : Int32} (hd : decode M.2.1 pc = .ok (.iaload, 1)) (hp : pc + 1 = pc') (hw : w a = some (.inl (0, N, .inl f))) (hin : vp_in i N) (kk : zRun Γ M d none pc' lv (.int (f i.toNatClampNeg) :: st) (n, g, kc, ks) w Q) : zRun Γ M d none pc lv (.int i :: .ref a :: st) (n, g, kc, ks) w Q := by
  subst hp
  intro p e R s m args below meth c Qf hc hQ H locs ls cells slots a1 a2 a3 a4 a5
  exact va_iald hc.1.1 hc.1.2.1 (zK hc) (zP1 a1 hw) 0 0 rfl rfl hin hd (kk p e R s m args below meth c Qf hc hQ H locs ls cells slots a1 a2 a3 a4 a5)
theorem zr_iald {a N : Nat} {f : Int → Int} {i : Int} (hd : decode M.2.1 pc = .ok (.iaload, 1)) (hp : pc + 1 = pc') (hw : w a = some (.inl (0, N, .inl (jf f)))) (hN : N < 2147483648) (h0 : 0 ≤ i) (h1 : i < N) (kk : zRun Γ M d none pc' lv (.int (jI (f i)) :: st) (n, g, kc, ks) w Q) : zRun Γ M d none pc lv (.int (jI i) :: .ref a :: st) (n, g, kc, ks) w Q := by
  refine zr_ialdR hd hp hw (jI_in h0 h1 hN) ?_
  have e : jf f (jI i).toNatClampNeg = jI (f i) := by
    show jI (f (((jI i).toNatClampNeg : Nat) : Int)) = _
    rw [jI_clamp h0 (by omega), Int.toNat_of_nonneg h0]
  rw [e]
  exact kk
theorem zr_zaldR {a N : Nat} {f : Nat → Int32} {i : Int32} (hd : decode M.2.1 pc = .ok (.baload, 1)) (hp : pc + 1 = pc') (hw : w a = some (.inl (2, N, .inl f))) (hin : vp_in i N) (kk : zRun Γ M d none pc' lv (.int (f i.toNatClampNeg) :: st) (n, g, kc, ks) w Q) : zRun Γ M d none pc lv (.int i :: .ref a :: st) (n, g, kc, ks) w Q := by
  subst hp
  intro p e R s m args below meth c Qf hc hQ H locs ls cells slots a1 a2 a3 a4 a5
  exact va_zald hc.1.1 hc.1.2.1 (zK hc) (zP1 a1 hw) 0 2 rfl rfl hin hd (kk p e R s m args below meth c Qf hc hQ H locs ls cells slots a1 a2 a3 a4 a5)
theorem zr_zald {a N : Nat} {f : Int → Int} {i : Int} (hd : decode M.2.1 pc = .ok (.baload, 1)) (hp : pc + 1 = pc') (hw : w a = some (.inl (2, N, .inl (jf f)))) (hN : N < 2147483648) (h0 : 0 ≤ i) (h1 : i < N) (kk : zRun Γ M d none pc' lv (.int (jI (f i)) :: st) (n, g, kc, ks) w Q) : zRun Γ M d none pc lv (.int (jI i) :: .ref a :: st) (n, g, kc, ks) w Q := by
  refine zr_zaldR hd hp hw (jI_in h0 h1 hN) ?_
  have e : jf f (jI i).toNatClampNeg = jI (f i) := by
    show jI (f (((jI i).toNatClampNeg : Nat) : Int)) = _
    rw [jI_clamp h0 (by omega), Int.toNat_of_nonneg h0]
  rw [e]
  exact kk
theorem zr_aald {a N b : Nat} {f : Nat → Option Nat} {i : Int} (hd : decode M.2.1 pc = .ok (.aaload, 1)) (hp : pc + 1 = pc') (hw : w a = some (.inl (4, N, .inr (.inr (.inr (.inr f)))))) (hN : N < 2147483648) (h0 : 0 ≤ i) (h1 : i < N) (hv : f i.toNat = some b) (kk : zRun Γ M d none pc' lv (.ref b :: st) (n, g, kc, ks) w Q) : zRun Γ M d none pc lv (.int (jI i) :: .ref a :: st) (n, g, kc, ks) w Q := by
  subst hp
  intro p e R s m args below meth c Qf hc hQ H locs ls cells slots a1 a2 a3 a4 a5
  refine va_aldq hc.1.1 hc.1.2.1 (zK hc) (zP1 a1 hw) 0 4 rfl rfl (jI_in h0 h1 hN) hd ?_
  have e1 : va_rf ((fun j => (f j).map (zad Γ)) (jI i).toNatClampNeg) = zcv Γ (.ref b) := by
    rw [jI_clamp h0 (by omega)]
    show va_rf ((f i.toNat).map (zad Γ)) = _
    rw [hv]
    rfl
  rw [e1]
  exact kk p e R s m args below meth c Qf hc hQ H locs ls cells slots a1 a2 a3 a4 a5
theorem zr_iastR {a N : Nat} {f : Nat → Int32} {i : Int32} {x : Int32} (hd : decode M.2.1 pc = .ok (.iastore, 1)) (hp : pc + 1 = pc') (hw : w a = some (.inl (0, N, .inl f))) (hin : vp_in i N) (kk : zRun Γ M d none pc' lv st (n, g, kc, ks) (zup w a (.inl (0, N, .inl (upd f i.toNatClampNeg x)))) Q) : zRun Γ M d none pc lv (.int x :: .int i :: .ref a :: st) (n, g, kc, ks) w Q := by
  subst hp
  intro p e R s m args below meth c Qf hc hQ H locs ls cells slots a1 a2 a3 a4 a5
  have hcell := (a1.2.1 a _ hw).2.2
  refine W.iast hc.1.1 hc.1.2.1 hcell (((zK hc).2 0 _ rfl).1 N (fun j => .int (f j))) (fun q => by cases q) (by show ¬ (i < 0 ∨ (arrV _ _ _).slots.size ≤ _); rw [arrV_size]; exact hin) rfl rfl hd fun H1 e1 z oq => ?_
  refine kk p e R s m args below meth c Qf hc hQ H1 _ ls cells slots (zput a1 hw ?_ z oq) (a2.put z oq (zfr_ad a1 hw)) a3 a4 a5
  show H1[zad Γ a]? = some (vp_cell _ _)
  rw [e1]
  show some ((vp_cell (Γ.2.2.2.1 0) (N, .inl f)).setSlot _ _) = some (vp_cell (Γ.2.2.2.1 0) (N, .inl (upd f i.toNatClampNeg x)))
  rw [vp_cell_i, vp_cell_i, arrV_store]
  congr 2
  funext q
  by_cases hq : q = i.toNatClampNeg
  · subst hq
    simp [updV, upd]
    try rfl
  · simp [updV, upd, hq]
theorem zr_zastR {a N : Nat} {f : Nat → Int32} {i : Int32} {x : Int32} (hd : decode M.2.1 pc = .ok (.bastore, 1)) (hp : pc + 1 = pc') (hw : w a = some (.inl (2, N, .inl f))) (hin : vp_in i N) (kk : zRun Γ M d none pc' lv st (n, g, kc, ks) (zup w a (.inl (2, N, .inl (upd f i.toNatClampNeg (vp_nar .boolean x))))) Q) : zRun Γ M d none pc lv (.int x :: .int i :: .ref a :: st) (n, g, kc, ks) w Q := by
  subst hp
  intro p e R s m args below meth c Qf hc hQ H locs ls cells slots a1 a2 a3 a4 a5
  have hcell := (a1.2.1 a _ hw).2.2
  refine W.zast hc.1.1 hc.1.2.1 hcell (((zK hc).2 2 _ rfl).1 N (fun j => .int (f j))) (fun q => by cases q) (by show ¬ (i < 0 ∨ (arrV _ _ _).slots.size ≤ _); rw [arrV_size]; exact hin) rfl rfl hd fun H1 e1 z oq => ?_
  refine kk p e R s m args below meth c Qf hc hQ H1 _ ls cells slots (zput a1 hw ?_ z oq) (a2.put z oq (zfr_ad a1 hw)) a3 a4 a5
  show H1[zad Γ a]? = some (vp_cell _ _)
  rw [e1]
  show some ((vp_cell (Γ.2.2.2.1 2) (N, .inl f)).setSlot _ _) = some (vp_cell (Γ.2.2.2.1 2) (N, .inl (upd f i.toNatClampNeg (vp_nar .boolean x))))
  rw [vp_cell_i, vp_cell_i, arrV_store]
  congr 2
  funext q
  by_cases hq : q = i.toNatClampNeg
  · subst hq
    simp [updV, upd, vp_nar]
    try rfl
  · simp [updV, upd, vp_nar, hq]
theorem zr_iast {a N : Nat} {f f' : Int → Int} {i x : Int} (hd : decode M.2.1 pc = .ok (.iastore, 1)) (hp : pc + 1 = pc') (hw : w a = some (zia N f)) (hN : N < 2147483648) (h0 : 0 ≤ i) (h1 : i < N) (hf : jup f i x = f') (kk : zRun Γ M d none pc' lv st (n, g, kc, ks) (zup w a (zia N f')) Q) : zRun Γ M d none pc lv (.int (jI x) :: .int (jI i) :: .ref a :: st) (n, g, kc, ks) w Q := by
  subst hf
  refine zr_iastR hd hp hw (jI_in h0 h1 hN) ?_
  rw [jI_clamp h0 (by omega), jup_eq h0]
  exact kk
theorem zr_zast {a N : Nat} {f f' : Int → Int} {i x : Int} (hd : decode M.2.1 pc = .ok (.bastore, 1)) (hp : pc + 1 = pc') (hw : w a = some (zba N f)) (hN : N < 2147483648) (h0 : 0 ≤ i) (h1 : i < N) (hx : vp_nar .boolean (jI x) = jI x) (hf : jup f i x = f') (kk : zRun Γ M d none pc' lv st (n, g, kc, ks) (zup w a (zba N f')) Q) : zRun Γ M d none pc lv (.int (jI x) :: .int (jI i) :: .ref a :: st) (n, g, kc, ks) w Q := by
  subst hf
  refine zr_zastR hd hp hw (jI_in h0 h1 hN) ?_
  rw [hx, jI_clamp h0 (by omega), jup_eq h0]
  exact kk
theorem zr_aast {a N b ci : Nat} {fs : List Value} {f : Nat → Option Nat} {i : Int} (hd : decode M.2.1 pc = .ok (.aastore, 1)) (hp : pc + 1 = pc') (hw : w a = some (.inl (4, N, .inr (.inr (.inr (.inr f)))))) (hN : N < 2147483648) (h0 : 0 ≤ i) (h1 : i < N) (hb : w b = some (.inr (ci, fs))) (hci : vwCl[ci]? = some (RX0, TX0, 5)) (kk : zRun Γ M d none pc' lv st (n, g, kc, ks) (zup w a (.inl (4, N, .inr (.inr (.inr (.inr (va_up f i.toNat (some b)))))))) Q) : zRun Γ M d none pc lv (.ref b :: .int (jI i) :: .ref a :: st) (n, g, kc, ks) w Q := by
  subst hp
  intro p e R s m args below meth c Qf hc hQ H locs ls cells slots a1 a2 a3 a4 a5
  have hcell := (a1.2.1 a _ hw).2.2
  obtain ⟨r', hr', cellV, g1, g2, g3, -⟩ := (a1.2.1 b _ hb).2.2
  have hcls := ((zK hc).1 ci _ hci).2
  obtain ⟨kA, comp, k1, k2, k3, -⟩ := ((zK hc).2 4 _ rfl).2
  have hcomp : comp = Γ.2.2.1.1 ci := Option.some.inj (k3.symm.trans hcls.1)
  subst hcomp
  obtain ⟨kC, hkC, -⟩ := hcls.2
  have hcl := jI_clamp h0 (by omega : i < 2147483648)
  have hng : ¬ jI i < 0 := fun q => absurd ((jI_ltz (a := i) (by omega) (by omega)).mp q) (by omega)
  have hlt : i.toNat < N := by omega
  refine W.aast hc.1.1 hc.1.2.1 hcell (fun q h => by cases h) (fun h => by cases h) k1 k2 rfl hkC ⟨hng, by show _ < (arrV _ _ _).slots.size; rw [arrV_size, hcl]; exact hlt⟩ g1 (fun q h => by rw [g3] at h; cases h) (by rw [g2]; exact hkC) (by rw [g2]; exact va_assign hcls) rfl rfl hd fun H1 e1 z oq => ?_
  refine kk p e R s m args below meth c Qf hc hQ H1 _ ls cells slots (zput a1 hw ?_ z oq) (a2.put z oq (zfr_ad a1 hw)) a3 a4 a5
  show H1[zad Γ a]? = some (vp_cell _ _)
  rw [e1, hcl]
  show some ((vp_cell (Γ.2.2.2.1 4) (N, .inr (.inr (.inr (.inr (fun j => (f j).map (zad Γ)))))) : Cell).setSlot _ _) = some (vp_cell (Γ.2.2.2.1 4) (N, .inr (.inr (.inr (.inr (fun j => ((va_up f i.toNat (some b)) j).map (zad Γ)))))))
  rw [vp_cell_q, vp_cell_q, arrV_store]
  congr 2
  funext q
  by_cases hq : q = i.toNat
  · subst hq
    simp [updV, va_up, va_rf]
  · simp [updV, va_up, hq]
theorem zr_alen {a N : Nat} {x : (Nat → Int32) ⊕ (Nat → Int64) ⊕ (Nat → UInt32) ⊕ (Nat → UInt64) ⊕ (Nat → Option Nat)} (hd : decode M.2.1 pc = .ok (.arraylength, 1)) (hp : pc + 1 = pc') (hw : w a = some (.inl (0, N, x))) (kk : zRun Γ M d none pc' lv (.int (jI N) :: st) (n, g, kc, ks) w Q) : zRun Γ M d none pc lv (.ref a :: st) (n, g, kc, ks) w Q := by
  subst hp
  intro p e R s m args below meth c Qf hc hQ H locs ls cells slots a1 a2 a3 a4 a5
  refine va_alen hc.1.1 hc.1.2.1 (zK hc) (zP1 a1 hw) 0 0 rfl (ty := .int) rfl (v := jI N) ?_ hd (kk p e R s m args below meth c Qf hc hQ H locs ls cells slots a1 a2 a3 a4 a5)
  rw [jI_nat]
  rfl
/-! old arrays -/
theorem zOld_at {p : Program} {R : Room} {s : State} {m : MethodId} {meth : Method} {c : Code} (hc : zCtx Γ M d p R s m meth c) {k N : Nat} {f : Nat → Int32} (h : zOld Γ k N f) : va_X (zad Γ k) N f s s.heap := (h.2.2.moved hc.2.2.1.alike).kept (hc.2.2.2.1.2 _ h.2.1)
theorem zr_ialdO {k N : Nat} {f : Nat → Int32} {i : Int32} (hd : decode M.2.1 pc = .ok (.iaload, 1)) (hp : pc + 1 = pc') (hx : zBase Γ → zOld Γ k N f) (hin : vp_in i N) (kk : zRun Γ M d none pc' lv (.int (f i.toNatClampNeg) :: st) (n, g, kc, ks) w Q) : zRun Γ M d none pc lv (.int i :: .ref k :: st) (n, g, kc, ks) w Q := by
  subst hp
  intro p e R s m args below meth c Qf hc hQ H locs ls cells slots a1 a2 a3 a4 a5
  have hx := hx hc.2.1
  exact va_sld hc.1.1 hc.1.2.1 (zOld_at hc hx) (Nat.lt_of_lt_of_le hx.2.1 hc.2.2.2.1.1) (A := zfr Γ) (fun z => by have := hx.2.1; unfold zfr at z; omega) a2 hin hd (kk p e R s m args below meth c Qf hc hQ H locs ls cells slots a1 a2 a3 a4 a5)
theorem zr_alenO {k N : Nat} {f : Nat → Int32} (hd : decode M.2.1 pc = .ok (.arraylength, 1)) (hp : pc + 1 = pc') (hx : zBase Γ → zOld Γ k N f) (kk : zRun Γ M d none pc' lv (.int (jI N) :: st) (n, g, kc, ks) w Q) : zRun Γ M d none pc lv (.ref k :: st) (n, g, kc, ks) w Q := by
  subst hp
  intro p e R s m args below meth c Qf hc hQ H locs ls cells slots a1 a2 a3 a4 a5
  have hx := hx hc.2.1
  refine va_slen hc.1.1 hc.1.2.1 (zOld_at hc hx) (Nat.lt_of_lt_of_le hx.2.1 hc.2.2.2.1.1) (A := zfr Γ) (fun z => by have := hx.2.1; unfold zfr at z; omega) a2 hd ?_
  rw [show Int32.ofNat N = jI N from jI_nat.symm]
  exact kk p e R s m args below meth c Qf hc hQ H locs ls cells slots a1 a2 a3 a4 a5
theorem zSt_at {p : Program} {R : Room} {s : State} {m : MethodId} {meth : Method} {c : Code} (hc : zCtx Γ M d p R s m meth c) {nm : String} {k : Nat} (h : zSt Γ nm k) : va_Z "TombolaBooks" nm "[I" (.ref (zad Γ k)) (zfr Γ) s s.heap := (h.2.moved hc.2.2.1.alike).kept (fun a ha _ => hc.2.2.2.1.2 a ha)
theorem zr_gets {idx k : Nat} {nm : String} (hd : decode M.2.1 pc = .ok (.getstatic idx, 3)) (hp : pc + 3 = pc') (hx : zBase Γ → zSt Γ nm k) (hg : zG [.fieldLink M.1.cls idx "TombolaBooks" nm "[I"]) (kk : zRun Γ M d none pc' lv (.ref k :: st) (n, g, kc, ks) w Q) : zRun Γ M d none pc lv st (n, g, kc, ks) w Q := by
  subst hp
  intro p e R s m args below meth c Qf hc hQ H locs ls cells slots a1 a2 a3 a4 a5
  exact va_gets hc.1.1 hc.1.2.1 (zSt_at hc (hx hc.2.1)) a2 hc.1.2.2.2 (hg.word hc.2.1 hc.2.2.1 List.mem_cons_self) (fun _ h => h) hd (kk p e R s m args below meth c Qf hc hQ H locs ls cells slots a1 a2 a3 a4 a5)
theorem zr_getsN {idx k : Nat} {nm : String} (hd : decode M.2.1 pc = .ok (.getstatic idx, 3)) (hp : pc + 3 = pc') (hx : zBase Γ → zSt Γ nm k) (hg : Cond.fieldLinkNest M.1.cls idx "TombolaBooks" nm "[I" "TombolaBooks" ∈ lw_tbl) (kk : zRun Γ M d none pc' lv (.ref k :: st) (n, g, kc, ks) w Q) : zRun Γ M d none pc lv st (n, g, kc, ks) w Q := by
  subst hp
  intro p e R s m args below meth c Qf hc hQ H locs ls cells slots a1 a2 a3 a4 a5
  exact va_getsN hc.1.1 hc.1.2.1 (zSt_at hc (hx hc.2.1)) a2 hc.1.2.2.2 (va_Nw.use rfl (zNestF_at hc.2.1 hc.2.2.1 hg)) (fun _ h => h) hd (kk p e R s m args below meth c Qf hc hQ H locs ls cells slots a1 a2 a3 a4 a5)
end RH
