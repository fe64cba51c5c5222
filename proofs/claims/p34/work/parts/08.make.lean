/-! RULES: makings, copies, contracts, calls, throws -/
def jcpy (p q : Int → Int) (sp dp n : Int) : Int → Int := fun k => if dp ≤ k ∧ k < dp + n then p (sp + (k - dp)) else q k
theorem jcpy_eq {p q : Int → Int} {sp dp n : Int} (h1 : 0 ≤ sp) (h2 : 0 ≤ dp) (h3 : 0 ≤ n) : va_cpy (jf p) (jf q) sp.toNat dp.toNat n.toNat = jf (jcpy p q sp dp n) := by
  funext k
  show (if dp.toNat ≤ k ∧ k < dp.toNat + n.toNat then jI (p ((sp.toNat + (k - dp.toNat) : Nat) : Int)) else jI (q k)) = jI (if dp ≤ (k : Int) ∧ (k : Int) < dp + n then p (sp + ((k : Int) - dp)) else q k)
  by_cases h : dp.toNat ≤ k ∧ k < dp.toNat + n.toNat
  · rw [if_pos h, if_pos (by omega)]
    congr 2
    omega
  · rw [if_neg h, if_neg (by omega)]
section RC
variable {p : Program} {l : Launch} {e : Env} {R : Room} {s : State} {m : MethodId} {args : Array Value} {below : List Frame} {meth : Method} {c : Code} {H : Heap} {locs : List Loc} {cells slots : Nat} {Q : State → Prop}
variable {cc : ByteArray} {pc : Nat} {ls : Array Slot} {rest : List Value}
/-- System.arraycopy of ints, from any int array to one that we made (follows the proofs of va_copyi, va_copyx) -/
theorem zW_copy (hexec : p.tables.exec = Jvm.exec) (hb : c.code = cc) (hml : c.maxLocals = ls.size) {own : String} {index : Nat} (hown : s.vm.findClass own = some m.cls) (hlink : (Cond.methodLink own index arraycopyName).before args s = true) (hnat : (Cond.native arraycopyName).before args s = true) (hstat : (Cond.static arraycopyName).before args s = true) (hini : (Cond.initialized "java/lang/System").before args s = true)
    {a0 a n0 n1 : Nat} {scr : Cell} {c1 : ClassId} {f g : Nat → Int32} (hc0 : H[a0]? = some scr) (hs2 : s.isArrayOf scr .int) (hs3 : scr.vm ≠ .unknown) (hs4 : scr.slots.size = n0) (hs5 : ∀ j : Nat, j < n0 → scr.slots[j]? = some (.int (f j))) (hc1 : H[a]? = some (vp_cell c1 (n1, .inl g))) (hA : ArrOfT s c1 .int)
    {sp dp n : Int32} (h1 : ¬ sp < 0) (h2 : ¬ dp < 0) (h3 : ¬ n < 0) (h4 : sp.toNatClampNeg + n.toNatClampNeg ≤ n0) (h5 : dp.toNatClampNeg + n.toNatClampNeg ≤ n1)
    (hframes : 1 ≤ R.frames) (hlocals : (rest.map fun v => v.category).sum + (nativeFrameWords "java/lang/System" "arraycopy" 5 + 11) ≤ R.locals) (hdg : decode cc pc = .ok (.invokestatic index, 3))
    (kk : ∀ (H1 : Heap) (locs1 : List Loc), H1[a]? = some (vp_cell c1 (n1, .inl (va_cpy f g sp.toNatClampNeg dp.toNatClampNeg n.toNatClampNeg))) → H1.size = H.size → (∀ q : Nat, q ≠ a → H1[q]? = H[q]?) → (∀ q ∈ locs1, q ∈ locs ∨ q.base = a) → W p l e R s m args below meth c H1 locs1 cells slots Q (F0 m (pc + 3) ls rest)) : W p l e R s m args below meth c H locs cells slots Q (F0 m pc ls (.int n :: .int dp :: .ref a :: .int sp :: .ref a0 :: rest)) := by
  have nn : ∀ z : Int32, ¬ z < 0 → z.toInt = (z.toNatClampNeg : Int) := by
    intro z hz
    have hz0 : (0 : Int) ≤ z.toInt := by
      have := Int32.not_lt.mp hz
      simpa using Int32.le_iff_toInt_le.mp this
    show z.toInt = ((z.toInt.toNat : Nat) : Int)
    omega
  intro T hT X
  obtain ⟨hs6, k0, hk0, cm0, hkk0⟩ := hs2
  obtain ⟨-, k1, hk1, cm1, hkk1⟩ := hA n1 (fun j => .int (g j))
  obtain ⟨vm', X', step⟩ := X.arraycopy hexec hown hlink hnat hstat hini (src := a0) (dst := a) (cs := scr) (cd := vp_cell c1 (n1, .inl g)) (srcPos := sp) (destPos := dp) (n := n) (by rw [hT]; exact hc0) (by rw [hT]; exact hc1)
    hs6 (fun _ h => by cases h) hs3 (fun h => by cases h) hk0 hk1 hkk0 hkk1 (by simp [refKind]) h1 h2 h3
    (by rw [nn sp h1, nn n h3]; rw [hs4]; omega)
    (by rw [nn dp h2, nn n h3]; show ¬ _ > ((arrV c1 n1 (fun j => .int (g j))).slots.size : Int); rw [arrV_size]; omega)
    (fun vm₁ _ i hi => by
      have e : scr.slots.getD (sp.toNatClampNeg + i) .null = .int (f (sp.toNatClampNeg + i)) := by
        rw [Array.getD_eq_getD_getElem?, hs5 _ (by omega)]
        rfl
      refine ⟨?_, ?_⟩
      · rw [e]
        rfl
      · rw [e]
        exact trivial)
    (g := F0 m pc ls (.int n :: .int dp :: .ref a :: .int sp :: .ref a0 :: rest)) rfl (by rw [hml]) (rest := rest) rfl (by rw [hb]; exact hdg) hframes (by show 2 * 0 + _ + _ ≤ _; omega)
  have e1 : copied scr (vp_cell c1 (n1, .inl g)) sp dp n = vp_cell c1 (n1, .inl (va_cpy f g sp.toNatClampNeg dp.toNatClampNeg n.toNatClampNeg)) := va_copiedX (fun z => .int z) scr c1 f g hs5 h4
  rw [e1] at X' step
  have hl : a < H.size := (Array.getElem?_eq_some_iff.mp hc1).1
  have hheap : ((T.setVm vm').setCell a (vp_cell c1 (n1, .inl (va_cpy f g sp.toNatClampNeg dp.toNatClampNeg n.toNatClampNeg)))).heap = H.setIfInBounds a (vp_cell c1 (n1, .inl (va_cpy f g sp.toNatClampNeg dp.toNatClampNeg n.toNatClampNeg))) := by rw [← hT]; rfl
  have oq : ∀ q : Nat, q ≠ a → (H.setIfInBounds a (vp_cell c1 (n1, .inl (va_cpy f g sp.toNatClampNeg dp.toNatClampNeg n.toNatClampNeg))))[q]? = H[q]? := fun q hq => by simp [Array.getElem?_setIfInBounds, Ne.symm hq]
  obtain ⟨t, a1, b1⟩ := kk _ _ (show (H.setIfInBounds a _)[a]? = some _ by simp [Array.getElem?_setIfInBounds, hl]) (by simp) oq (fun q hq => by
      rcases List.mem_append.mp hq with h | h
      · exact Or.inl h
      · obtain ⟨z, -, hz⟩ := List.mem_map.mp h
        rw [← hz]
        exact Or.inr rfl) _ hheap X'
  exact ⟨t, step t a1, b1⟩
end RC
section RD
variable {Γ : zΓ} {M : zMd} {d : Nat} {pc pc' : Nat} {lv : List (Option Value)} {st : List Value} {n : Nat} {g : Bool} {kc ks : Nat} {w : zW} {Q : zQ}
def zCopyW (own : String) (idx : Nat) : Prop := zG [.methodLink own idx arraycopyName, .native arraycopyName, .static arraycopyName, .initialized "java/lang/System"]
theorem va_S.puts {A : Nat → Prop} {H0 H H1 : Heap} {locs locs1 : List Loc} {a : Nat} (h : va_S A H0 H locs) (z : H1.size = H.size) (oq : ∀ q : Nat, q ≠ a → H1[q]? = H[q]?) (ha : A a) (hl : ∀ q ∈ locs1, q ∈ locs ∨ q.base = a) : va_S A H0 H1 locs1 := by
  refine ⟨by rw [z]; exact h.1, fun q h1 h2 => ?_, fun q hq => ?_⟩
  · rw [oq q (fun e => h2 (by rw [e]; exact ha))]
    exact h.2.1 q h1 h2
  · rcases hl q hq with h1 | h1
    · exact h.2.2 q h1
    · rw [h1]
      exact ha
theorem zcopy_room {R : Room} {d : Nat} (h : 36 * (d + 1) ≤ R.locals) {st : List Value} (hcat : (st.map fun v => v.category).sum ≤ 8) : (st.map fun v => v.category).sum + (nativeFrameWords "java/lang/System" "arraycopy" 5 + 11) ≤ R.locals := by
  have : nativeFrameWords "java/lang/System" "arraycopy" 5 ≤ 16 := by decide
  omega
theorem zcats (Γ : zΓ) (st : List Value) : ((st.map (zcv Γ)).map fun v => v.category).sum = (st.map fun v => v.category).sum := by
  rw [List.map_map]
  congr 1
  apply List.map_congr_left
  intro v _
  exact zcv_cat Γ v
theorem zr_copy {idx a0 a n0 n1 : Nat} {f h f' : Int → Int} {sp dp k : Int} (hd : decode M.2.1 pc = .ok (.invokestatic idx, 3)) (hp : pc + 3 = pc') (hl : zCopyW M.1.cls idx) (hw0 : w a0 = some (zia n0 f)) (hw1 : w a = some (zia n1 h)) (h1 : 0 ≤ sp) (h2 : 0 ≤ dp) (h3 : 0 ≤ k) (h4 : sp + k ≤ n0) (h5 : dp + k ≤ n1) (hN : n0 < 2147483648 ∧ n1 < 2147483648) (hcat : (st.map fun v => v.category).sum ≤ 8) (hf : jcpy f h sp dp k = f') (kk : zRun Γ M (d + 1) none pc' lv st (n, g, kc, ks) (zup w a (zia n1 f')) Q) : zRun Γ M (d + 1) none pc lv (.int (jI k) :: .int (jI dp) :: .ref a :: .int (jI sp) :: .ref a0 :: st) (n, g, kc, ks) w Q := by
  subst hp; subst hf
  intro p e R s m args below meth c Qf hc hQ H locs ls cells slots a1 a2 a3 a4 a5
  have hz : ∀ x : Int, 0 ≤ x → x < 2147483648 → ¬ jI x < 0 := fun x hx hx2 q => absurd ((jI_ltz (a := x) (by omega) hx2).mp q) (by omega)
  have hwd : ∀ x ∈ [Cond.methodLink M.1.cls idx arraycopyName, .native arraycopyName, .static arraycopyName, .initialized "java/lang/System"], x.before args s = true := fun x hx => zG.word hl hc.2.1 hc.2.2.1 hx
  refine zW_copy hc.1.1 hc.1.2.1 (hc.1.2.2.1.trans a3.1.symm) hc.1.2.2.2 (hwd _ (by simp)) (hwd _ (by simp)) (hwd _ (by simp)) (hwd _ (by simp)) (n0 := n0) (n1 := n1) (f := jf f) (g := jf h) (c1 := Γ.2.2.2.1 0) (a1.2.1 a0 _ hw0).2.2 (((zK hc).2 0 _ rfl).1 n0 (fun j => .int (jf f j))) (fun q => by cases q) (arrV_size _ _ _) (fun j hj => arrV_read _ _ hj) (a1.2.1 a _ hw1).2.2 ((zK hc).2 0 _ rfl).1 (hz sp h1 (by omega)) (hz dp h2 (by omega)) (hz k h3 (by omega)) ?_ ?_ (by have := hc.2.2.2.2.2.2.2.1; omega) (zcopy_room hc.2.2.2.2.2.2.2.2 (by rw [zcats]; exact hcat)) hd ?_
  · rw [jI_clamp h1 (by omega), jI_clamp h3 (by omega)]; omega
  · rw [jI_clamp h2 (by omega), jI_clamp h3 (by omega)]; omega
  · intro H1 locs1 e1 z oq hloc
    rw [jI_clamp h1 (by omega), jI_clamp h2 (by omega), jI_clamp h3 (by omega), jcpy_eq h1 h2 h3] at e1
    exact kk p e R s m args below meth c Qf hc hQ H1 _ ls cells slots (zput a1 hw1 e1 z oq) (a2.puts z oq (zfr_ad a1 hw1) hloc) a3 a4 a5
theorem zr_copyO {idx a0 a n0 n1 : Nat} {f : Nat → Int32} {h f' : Int → Int} {sp dp k : Int} (hd : decode M.2.1 pc = .ok (.invokestatic idx, 3)) (hp : pc + 3 = pc') (hl : zCopyW M.1.cls idx) (hx : zBase Γ → zOld Γ a0 n0 f) (hw1 : w a = some (zia n1 h)) (h1 : 0 ≤ sp) (h2 : 0 ≤ dp) (h3 : 0 ≤ k) (h4 : sp + k ≤ n0) (h5 : dp + k ≤ n1) (hN : n0 < 2147483648 ∧ n1 < 2147483648) (hcat : (st.map fun v => v.category).sum ≤ 8) (hf : va_cpy f (jf h) sp.toNat dp.toNat k.toNat = jf f') (kk : zRun Γ M (d + 1) none pc' lv st (n, g, kc, ks) (zup w a (zia n1 f')) Q) : zRun Γ M (d + 1) none pc lv (.int (jI k) :: .int (jI dp) :: .ref a :: .int (jI sp) :: .ref a0 :: st) (n, g, kc, ks) w Q := by
  subst hp
  intro p e R s m args below meth c Qf hc hQ H locs ls cells slots a1 a2 a3 a4 a5
  have hx := hx hc.2.1
  obtain ⟨scr, hs1, hs2, hs3, hs4, hs5⟩ := zOld_at hc hx
  have hz : ∀ x : Int, 0 ≤ x → x < 2147483648 → ¬ jI x < 0 := fun x hx hx2 q => absurd ((jI_ltz (a := x) (by omega) hx2).mp q) (by omega)
  have hwd : ∀ x ∈ [Cond.methodLink M.1.cls idx arraycopyName, .native arraycopyName, .static arraycopyName, .initialized "java/lang/System"], x.before args s = true := fun x hx => zG.word hl hc.2.1 hc.2.2.1 hx
  refine zW_copy hc.1.1 hc.1.2.1 (hc.1.2.2.1.trans a3.1.symm) hc.1.2.2.2 (hwd _ (by simp)) (hwd _ (by simp)) (hwd _ (by simp)) (hwd _ (by simp)) (a0 := zad Γ a0) (n0 := n0) (n1 := n1) (f := f) (g := jf h) (c1 := Γ.2.2.2.1 0) (by rw [a2.2.1 _ (Nat.lt_of_lt_of_le hx.2.1 hc.2.2.2.1.1) (fun z => by have := hx.2.1; unfold zfr at z; omega)]; exact hs1) hs2 hs3 hs4 hs5 (a1.2.1 a _ hw1).2.2 ((zK hc).2 0 _ rfl).1 (hz sp h1 (by omega)) (hz dp h2 (by omega)) (hz k h3 (by omega)) ?_ ?_ (by have := hc.2.2.2.2.2.2.2.1; omega) (zcopy_room hc.2.2.2.2.2.2.2.2 (by rw [zcats]; exact hcat)) hd ?_
  · rw [jI_clamp h1 (by omega), jI_clamp h3 (by omega)]; omega
  · rw [jI_clamp h2 (by omega), jI_clamp h3 (by omega)]; omega
  · intro H1 locs1 e1 z oq hloc
    rw [jI_clamp h1 (by omega), jI_clamp h2 (by omega), jI_clamp h3 (by omega), hf] at e1
    exact kk p e R s m args below meth c Qf hc hQ H1 _ ls cells slots (zput a1 hw1 e1 z oq) (a2.puts z oq (zfr_ad a1 hw1) hloc) a3 a4 a5
/-! makings -/
theorem zpush {H H1 : Heap} {x : va_E} (a1 : zHp Γ n true w H) (z : H1.size = H.size + 1) (oq : ∀ q : Nat, q < H.size → H1[q]? = H[q]?) (hx : va_at Γ.2.2.1 vwCl (zad Γ (5 + n), zce Γ x) H1) : zHp Γ (n + 1) true (zup w (5 + n) x) H1 := by
  have hsz := a1.2.2 rfl
  refine ⟨⟨by rw [z]; have := a1.1.1; omega, fun q hq => ?_⟩, fun j y hy => ?_, fun _ => by rw [z, hsz]; omega⟩
  · rw [oq q (by have := a1.1.1; omega)]
    exact a1.1.2 q hq
  · unfold zup at hy
    by_cases hj : j = 5 + n
    · rw [if_pos hj] at hy
      cases hy
      subst hj
      exact ⟨by omega, by omega, hx⟩
    · rw [if_neg hj] at hy
      have hj5 := a1.2.1 j y hy
      refine ⟨hj5.1, by omega, hj5.2.2.kept (oq _ ?_)⟩
      show zad Γ j < H.size
      rw [zad_ge hj5.1, hsz]
      omega
theorem zad_new {H : Heap} (a1 : zHp Γ n true w H) : zad Γ (5 + n) = H.size := by
  rw [zad_ge (by omega), a1.2.2 rfl]
  omega
theorem va_S.grow {A : Nat → Prop} {H0 H H1 : Heap} {locs : List Loc} (hS : va_S A H0 H locs) (z : H1.size = H.size + 1) (oq : ∀ q : Nat, q < H.size → H1[q]? = H[q]?) : va_S A H0 H1 locs :=
  ⟨Nat.le_trans hS.1 (by omega), fun x h1 h2 => (oq x (Nat.lt_of_lt_of_le h1 hS.1)).trans (hS.2.1 x h1 h2), hS.2.2⟩
def zNewC (own : String) (idx ci N : Nat) (fs : List Value) : Prop := ∃ (C : String) (T : u_T) (ty : Nat → FieldType), zCl ci C T N ∧ zG [.classLink own idx C, .instantiable C N, .initialized C] ∧ (∀ k, k < N → parseFieldDescriptor (T k).2.2.1 = some (ty k)) ∧ (∀ j, j < N → defaultValue (ty j) = vp_V fs j) ∧ (∀ v ∈ fs, v = .null ∨ v = .int (jI 0))
theorem zr_new {idx ci N : Nat} {fs : List Value} (hd : decode M.2.1 pc = .ok (.new idx, 3)) (hp : pc + 3 = pc') (hn : zNewC M.1.cls idx ci N fs) (hkc : 1 ≤ kc) (hks : N ≤ ks) (kk : zRun Γ M d none pc' lv (.ref (5 + n) :: st) (n + 1, true, kc - 1, ks - N) (zup w (5 + n) (.inr (ci, fs))) Q) : zRun Γ M d none pc lv st (n, true, kc, ks) w Q := by
  subst hp
  intro p e R s m args below meth c Qf hc hQ H locs ls cells slots a1 a2 a3 a4 a5
  obtain ⟨C, T, ty, hcl, hg, hty, hfs, hz⟩ := hn
  have hKn := (zK hc).1 ci _ hcl.1
  have hwd : ∀ x ∈ [Cond.classLink M.1.cls idx C, .instantiable C N, .initialized C], x.before args s = true := fun x hx => zG.word hg hc.2.1 hc.2.2.1 hx
  have e0 : fs.map (zcv Γ) = fs := by
    have h9 : fs.map (zcv Γ) = fs.map id := List.map_congr_left (fun v hv => by rcases hz v hv with h | h <;> rw [h] <;> rfl)
    rw [h9, List.map_id]
  have a4' : cells + kc ≤ R.cells := a4
  have a5' : slots + ks ≤ R.slots := a5
  refine W.newcK (C := C) (n := N) hc.1.1 hc.1.2.1 hc.1.2.2.2 (hwd _ (by simp)) (hwd _ (by simp)) (hwd _ (by simp)) rfl hd (by omega) (by omega) hKn.2.1 rfl fun H1 kC hkC e1 z1 o1 => ?_
  have hx : va_at Γ.2.2.1 vwCl (zad Γ (5 + n), zce Γ (.inr (ci, fs))) H1 := by
    refine ⟨_, hcl.1, ?_⟩
    show t_OB (zad Γ (5 + n)) _ _ _ H1 (vp_V (fs.map (zcv Γ)))
    rw [e0, zad_new a1]
    exact (u_born ty (zTs_before (args := args) hc.2.1 hc.2.2.1) (fun x hx => List.mem_filter.mpr (hcl.2.1 x hx)) hKn hkC e1 hty).to hfs
  have key := kk p e R s m args below meth c Qf hc hQ H1 locs ls (cells + 1) (slots + N) (zpush a1 z1 o1 hx) (a2.grow z1 o1) a3 (by show cells + 1 + (kc - 1) ≤ _; omega) (by show slots + N + (ks - N) ≤ _; omega)
  rw [← zad_new a1]
  exact key
/-- arrays of a basic type: number of the type, what it holds at first -/
def zArr0 (tg N : Nat) : va_E := match tg with
  | 1 => .inl (1, N, .inr (.inl (fun _ => 0)))
  | t => .inl (t, N, .inl (jf (fun _ => 0)))
theorem zr_newa {atype : ArrayType} {ty : FieldType} {tg N : Nat} {k : Int} (hd : decode M.2.1 pc = .ok (.newarray atype, 2)) (hp : pc + 2 = pc') (hty : newarray.typeOf atype = ty) (htg : (tg = 0 ∧ ty = .int) ∨ (tg = 2 ∧ ty = .boolean)) (hg : zG [.arrayClass ty]) (h0 : 0 ≤ k) (h1 : k < 65536) (hN : k.toNat = N) (hkc : 1 ≤ kc) (hks : N ≤ ks) (kk : zRun Γ M d none pc' lv (.ref (5 + n) :: st) (n + 1, true, kc - 1, ks - N) (zup w (5 + n) (zArr0 tg N)) Q) : zRun Γ M d none pc lv (.int (jI k) :: st) (n, true, kc, ks) w Q := by
  subst hp; subst hty
  intro p e R s m args below meth c Qf hc hQ H locs ls cells slots a1 a2 a3 a4 a5
  have a4' : cells + kc ≤ R.cells := a4
  have a5' : slots + ks ≤ R.slots := a5
  have hN' : (jI k).toNatClampNeg = N := by rw [jI_clamp h0 (by omega)]; exact hN
  refine va_newaK hc.1.1 hc.1.2.1 (zG.word hg hc.2.1 hc.2.2.1 List.mem_cons_self) rfl hd rfl (fun q => absurd ((jI_ltz (a := k) (by omega) (by omega)).mp q) (by omega)) hN' (by
    rcases htg with ⟨-, h⟩ | ⟨-, h⟩ <;> rw [h] <;> simp only [componentBytes] <;> omega) (by omega) (by omega) rfl fun H1 cA e1 z1 o1 hAr hNm => ?_
  have hx : va_at Γ.2.2.1 vwCl (zad Γ (5 + n), zce Γ (zArr0 tg N)) H1 := by
    rw [zad_new a1]
    rcases htg with ⟨rfl, h⟩ | ⟨rfl, h⟩
    · have hA : Γ.2.2.2.1 0 = cA := by
        have := ((zK hc).2 0 _ rfl).2
        rw [h] at hNm
        exact Option.some.inj (Eq.trans (Eq.symm this) hNm)
      rw [h] at e1
      show H1[H.size]? = some (vp_cell (Γ.2.2.2.1 0) (N, .inl (jf (fun _ => 0))))
      rw [e1, hA]
      rfl
    · have hA : Γ.2.2.2.1 2 = cA := by
        have := ((zK hc).2 2 _ rfl).2
        rw [h] at hNm
        exact Option.some.inj (Eq.trans (Eq.symm this) hNm)
      rw [h] at e1
      show H1[H.size]? = some (vp_cell (Γ.2.2.2.1 2) (N, .inl (jf (fun _ => 0))))
      rw [e1, hA]
      rfl
  have key := kk p e R s m args below meth c Qf hc hQ H1 locs ls (cells + 1) (slots + N) (zpush a1 z1 o1 hx) (a2.grow z1 o1) a3 (by show cells + 1 + (kc - 1) ≤ _; omega) (by show slots + N + (ks - N) ≤ _; omega)
  rw [← zad_new a1]
  exact key
theorem zr_anewa {idx N : Nat} {k : Int} (hd : decode M.2.1 pc = .ok (.anewarray idx, 3)) (hp : pc + 3 = pc') (hg : zG [.classLink M.1.cls idx "TombolaBooks$Book"]) (hov : Cond.arrayOver (.object "TombolaBooks$Book") ∈ lw_tbl) (h0 : 0 ≤ k) (h1 : k < 65536) (hN : k.toNat = N) (hkc : 1 ≤ kc) (hks : N ≤ ks) (kk : zRun Γ M d none pc' lv (.ref (5 + n) :: st) (n + 1, true, kc - 1, ks - N) (zup w (5 + n) (.inl (4, N, .inr (.inr (.inr (.inr (fun _ => none))))))) Q) : zRun Γ M d none pc lv (.int (jI k) :: st) (n, true, kc, ks) w Q := by
  subst hp; subst hN
  intro p e R s m args below meth c Qf hc hQ H locs ls cells slots a1 a2 a3 a4 a5
  have a4' : cells + kc ≤ R.cells := a4
  have a5' : slots + ks ≤ R.slots := a5
  have hcl := jI_clamp h0 (by omega : k < 2147483648)
  have hao : va_AO "TombolaBooks$Book" s := by
    obtain ⟨A0, hA0⟩ := hc.2.1.1
    exact va_AO.moved hc.2.2.1.alike (hA0 _ hov)
  refine W.anew hc.1.1 hc.1.2.1 hc.1.2.2.2 (zG.word hg hc.2.1 hc.2.2.1 List.mem_cons_self) (va_AO.use hao) rfl hd rfl (fun q => absurd ((jI_ltz (a := k) (by omega) (by omega)).mp q) (by omega)) (by rw [hcl]; omega) (by omega) (by rw [hcl]; omega) fun cA kA comp f1 f2 f3 f4 => ?_
  rw [hcl]
  generalize hH1 : H.push ({ cls := cA, slots := Array.replicate k.toNat .null, vm := .none } : Cell) = H1
  have z1 : H1.size = H.size + 1 := by rw [← hH1, Array.size_push]
  have e1 : H1[H.size]? = some (arrV cA k.toNat (fun _ => .null)) := by rw [← hH1, Array.getElem?_push_size, ← arrV_new]
  have o1 : ∀ q : Nat, q < H.size → H1[q]? = H[q]? := fun q hq => by rw [← hH1, Array.getElem?_push, if_neg (Nat.ne_of_lt hq)]
  have hx : va_at Γ.2.2.1 vwCl (zad Γ (5 + n), zce Γ (.inl (4, k.toNat, .inr (.inr (.inr (.inr (fun _ => none))))))) H1 := by
    rw [zad_new a1]
    have hA : Γ.2.2.2.1 4 = cA := by
      obtain ⟨-, -, -, -, -, h4⟩ := ((zK hc).2 4 _ rfl).2
      exact Option.some.inj (h4.symm.trans f1)
    show H1[H.size]? = some (vp_cell (Γ.2.2.2.1 4) (k.toNat, .inr (.inr (.inr (.inr (fun _ => none))))))
    rw [e1, hA]
    rfl
  have key := kk p e R s m args below meth c Qf hc hQ H1 locs ls (cells + 1) (slots + k.toNat) (zpush a1 z1 o1 hx) (a2.grow z1 o1) a3 (by show cells + 1 + (kc - 1) ≤ _; omega) (by show slots + k.toNat + (ks - k.toNat) ≤ _; omega)
  rw [← zad_new a1]
  exact key
end RD
