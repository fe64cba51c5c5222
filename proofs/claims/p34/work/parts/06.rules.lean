/-! RULES: an instruction, a rule -/
def jI (z : Int) : Int32 := Int32.ofInt z
theorem jI_toInt {z : Int} (h1 : -2147483648 ≤ z) (h2 : z < 2147483648) : (jI z).toInt = z := Int32.toInt_ofInt_of_le h1 h2
theorem jI_add (a b : Int) : jI a + jI b = jI (a + b) := (Int32.ofInt_add a b).symm
theorem jI_sub (a b : Int) : jI a - jI b = jI (a - b) := (Int32.ofInt_sub a b).symm
theorem jI_mul (a b : Int) : jI a * jI b = jI (a * b) := (Int32.ofInt_mul a b).symm
theorem jI_lt {a b : Int} (h1 : -2147483648 ≤ a) (h2 : a < 2147483648) (h3 : -2147483648 ≤ b) (h4 : b < 2147483648) : (jI a < jI b) ↔ (a < b) := by
  rw [Int32.lt_iff_toInt_lt, jI_toInt h1 h2, jI_toInt h3 h4]
theorem jI_le {a b : Int} (h1 : -2147483648 ≤ a) (h2 : a < 2147483648) (h3 : -2147483648 ≤ b) (h4 : b < 2147483648) : (jI a ≤ jI b) ↔ (a ≤ b) := by
  rw [Int32.le_iff_toInt_le, jI_toInt h1 h2, jI_toInt h3 h4]
theorem jI_eq {a b : Int} (h1 : -2147483648 ≤ a) (h2 : a < 2147483648) (h3 : -2147483648 ≤ b) (h4 : b < 2147483648) : (jI a = jI b) ↔ (a = b) := by
  rw [← Int32.toInt_inj, jI_toInt h1 h2, jI_toInt h3 h4]
theorem jI_zero : jI 0 = 0 := rfl
theorem jI_z {a : Int} (h1 : -2147483648 ≤ a) (h2 : a < 2147483648) : (jI a = 0) ↔ (a = 0) := by
  rw [← jI_zero]; exact jI_eq h1 h2 (by decide) (by decide)
theorem jI_ltz {a : Int} (h1 : -2147483648 ≤ a) (h2 : a < 2147483648) : (jI a < 0) ↔ (a < 0) := by
  rw [← jI_zero]; exact jI_lt h1 h2 (by decide) (by decide)
theorem jI_lez {a : Int} (h1 : -2147483648 ≤ a) (h2 : a < 2147483648) : (jI a ≤ 0) ↔ (a ≤ 0) := by
  rw [← jI_zero]; exact jI_le h1 h2 (by decide) (by decide)
theorem jI_gtz {a : Int} (h1 : -2147483648 ≤ a) (h2 : a < 2147483648) : (0 < jI a) ↔ (0 < a) := by
  rw [← jI_zero]; exact jI_lt (by decide) (by decide) h1 h2
theorem jI_gez {a : Int} (h1 : -2147483648 ≤ a) (h2 : a < 2147483648) : (0 ≤ jI a) ↔ (0 ≤ a) := by
  rw [← jI_zero]; exact jI_le (by decide) (by decide) h1 h2
theorem jI_surj (x : Int32) : x = jI x.toInt := (Int32.ofInt_toInt x).symm
theorem jI_nat {n : Nat} : jI (n : Int) = nI n := Int32.ofInt_eq_ofNat
theorem jI_clamp {z : Int} (h1 : 0 ≤ z) (h2 : z < 2147483648) : (jI z).toNatClampNeg = z.toNat := Int32.toNatClampNeg_ofInt_of_le (by omega) h2
theorem jI_in {z : Int} {n : Nat} (h1 : 0 ≤ z) (h2 : z < n) (h3 : n < 2147483648) : vp_in (jI z) n := by
  intro h
  rcases h with h | h
  · rw [jI_ltz (by omega) (by omega)] at h; omega
  · rw [jI_clamp h1 (by omega)] at h; omega
theorem jI_div {a b : Int} (h1 : 0 ≤ a) (h2 : a < 2147483648) (h3 : 0 < b) (h4 : b < 2147483648) : jI a / jI b = jI (a / b) := by
  apply Int32.toInt_inj.mp
  have hb : (jI b).toInt = b := jI_toInt (by omega) h4
  rw [Int32.toInt_div_of_ne_right _ _ (by intro q; have := congrArg Int32.toInt q; rw [hb] at this; rw [show (-1 : Int32).toInt = -1 from rfl] at this; omega), hb, jI_toInt (by omega) h2, Int.tdiv_eq_ediv_of_nonneg h1, jI_toInt]
  · have := Int.ediv_nonneg h1 (Int.le_of_lt h3); omega
  · have := Int.ediv_le_self b h1; omega
theorem jI_rem {a b : Int} (h1 : 0 ≤ a) (h2 : a < 2147483648) (h3 : 0 < b) (h4 : b < 2147483648) : jI a - jI a / jI b * jI b = jI (a % b) := by
  rw [jI_div h1 h2 h3 h4, jI_mul, jI_sub]
  congr 1
  have := Int.emod_add_mul_ediv a b
  rw [Int.mul_comm] at this
  omega
/-- an int array's contents, by numbers -/
abbrev jf (p : Int → Int) : Nat → Int32 := fun j => jI (p (j : Int))
abbrev zia (N : Nat) (p : Int → Int) : va_E := .inl (0, N, .inl (jf p))
abbrev zba (N : Nat) (p : Int → Int) : va_E := .inl (2, N, .inl (jf p))
abbrev zca_ (N : Nat) (p : Int → Int) : va_E := .inl (3, N, .inl (jf p))
def jup (p : Int → Int) (z v : Int) : Int → Int := fun j => if j = z then v else p j
theorem jup_eq {p : Int → Int} {z v : Int} (h : 0 ≤ z) : upd (jf p) z.toNat (jI v) = jf (jup p z v) := by
  funext j
  unfold upd jup jf
  by_cases hj : j = z.toNat
  · rw [if_pos hj]
    show _ = jI (if (j : Int) = z then v else p j)
    rw [if_pos (by omega)]
  · rw [if_neg hj]
    show _ = jI (if (j : Int) = z then v else p j)
    rw [if_neg (by omega)]
/-! locals -/
def zkill (lv : List (Option Value)) (i : Nat) : List (Option Value) := match i with
  | 0 => lv
  | j + 1 => match lv[j]? with
    | some (some (.long _)) => lv.set j none
    | some (some (.double _)) => lv.set j none
    | _ => lv
def zst1 (lv : List (Option Value)) (i : Nat) (v : Value) : List (Option Value) := (zkill lv i).set i (some v)
def zst2 (lv : List (Option Value)) (i : Nat) (v : Value) : List (Option Value) := ((zkill lv i).set i (some v)).set (i + 1) none
theorem zkill_len (lv : List (Option Value)) (i : Nat) : (zkill lv i).length = lv.length := by
  unfold zkill
  split
  · rfl
  · split <;> simp
theorem zkill_spec {lv : List (Option Value)} {i j : Nat} {u : Value} (h : (zkill lv i)[j]? = some (some u)) : lv[j]? = some (some u) ∧ ¬ (j + 1 = i ∧ u.category = 2) := by
  unfold zkill at h
  split at h
  · exact ⟨h, fun q => by omega⟩
  · rename_i k
    split at h
    · by_cases hk : k = j
      · subst hk
        rw [List.getElem?_set] at h
        simp at h
      · rw [List.getElem?_set_ne hk] at h
        exact ⟨h, fun q => by omega⟩
    · by_cases hk : k = j
      · subst hk
        rw [List.getElem?_set] at h
        simp at h
      · rw [List.getElem?_set_ne hk] at h
        exact ⟨h, fun q => by omega⟩
    · rename_i h1 h2
      refine ⟨h, fun q => ?_⟩
      have hk : k = j := by omega
      subst hk
      cases u with
      | long x => exact h1 x h
      | double x => exact h2 x h
      | _ => simp [Value.category] at q
theorem zcv_cat (Γ : zΓ) (v : Value) : (zcv Γ v).category = v.category := by cases v <;> rfl
def zl (Γ : zΓ) (lv : List (Option Value)) : List (Nat × Value) := (List.range lv.length).filterMap (fun i => ((lv[i]?).join).map (fun v => (i, zcv Γ v)))
theorem zl_mem {Γ : zΓ} {lv : List (Option Value)} {i : Nat} {v : Value} (h : lv[i]? = some (some v)) : (i, zcv Γ v) ∈ zl Γ lv := by
  refine List.mem_filterMap.mpr ⟨i, List.mem_range.mpr (List.getElem?_eq_some_iff.mp h).1, ?_⟩
  rw [h]
  rfl
theorem zl_has {Γ : zΓ} {ls : Array Slot} {nL : Nat} {lv : List (Option Value)} (h : zLV Γ ls nL lv) : lv_has ls nL (zl Γ lv) := by
  refine ⟨h.1, h.2.1, fun q hq => ?_⟩
  obtain ⟨i, -, hi⟩ := List.mem_filterMap.mp hq
  cases hv : lv[i]? with
  | none => rw [hv] at hi; cases hi
  | some o =>
    rw [hv] at hi
    cases o with
    | none => cases hi
    | some v =>
      cases hi
      exact h.2.2.2 i v hv
theorem zLV_st1 {Γ : zΓ} {ls : Array Slot} {nL i : Nat} {lv : List (Option Value)} {v : Value} (hlen : lv.length = nL) (h : lv_has ls nL ((i, zcv Γ v) :: (zl Γ lv).filter (fun q => !(q.1 == i) && !(q.1 + 1 == i && q.2.category == 2)))) : zLV Γ ls nL (zst1 lv i v) := by
  refine ⟨h.1, h.2.1, by unfold zst1; rw [List.length_set, zkill_len, hlen], fun j u hj => ?_⟩
  unfold zst1 at hj
  by_cases hji : i = j
  · subst hji
    rw [List.getElem?_set] at hj
    simp only [if_true] at hj
    split at hj
    · cases hj
      exact h.2.2 _ List.mem_cons_self
    · cases hj
  · rw [List.getElem?_set_ne hji] at hj
    obtain ⟨h1, h2⟩ := zkill_spec hj
    refine h.2.2 (j, zcv Γ u) (List.mem_cons_of_mem _ (List.mem_filter.mpr ⟨zl_mem h1, ?_⟩))
    simp only [zcv_cat, Bool.and_eq_true, Bool.not_eq_true', beq_eq_false_iff_ne, ne_eq, Bool.and_eq_false_iff]
    refine ⟨fun q => hji q.symm, ?_⟩
    by_cases q : j + 1 = i
    · exact Or.inr fun c => h2 ⟨q, c⟩
    · exact Or.inl q
theorem zLV_st2 {Γ : zΓ} {ls : Array Slot} {nL i : Nat} {lv : List (Option Value)} {v : Value} (hlen : lv.length = nL) (h : lv_has ls nL ((i, zcv Γ v) :: (zl Γ lv).filter (fun q => !(q.1 == i) && (!(q.1 == i + 1) && !(q.1 + 1 == i && q.2.category == 2))))) : zLV Γ ls nL (zst2 lv i v) := by
  refine ⟨h.1, h.2.1, by unfold zst2; rw [List.length_set, List.length_set, zkill_len, hlen], fun j u hj => ?_⟩
  unfold zst2 at hj
  by_cases hj1 : i + 1 = j
  · subst hj1
    rw [List.getElem?_set] at hj
    simp at hj
  · rw [List.getElem?_set_ne hj1] at hj
    by_cases hji : i = j
    · subst hji
      rw [List.getElem?_set] at hj
      simp only [if_true] at hj
      split at hj
      · cases hj
        exact h.2.2 _ List.mem_cons_self
      · cases hj
    · rw [List.getElem?_set_ne hji] at hj
      obtain ⟨h1, h2⟩ := zkill_spec hj
      refine h.2.2 (j, zcv Γ u) (List.mem_cons_of_mem _ (List.mem_filter.mpr ⟨zl_mem h1, ?_⟩))
      simp only [zcv_cat, Bool.and_eq_true, Bool.not_eq_true', beq_eq_false_iff_ne, ne_eq, Bool.and_eq_false_iff]
      refine ⟨fun q => hji q.symm, fun q => hj1 q.symm, ?_⟩
      by_cases q : j + 1 = i
      · exact Or.inr fun c => h2 ⟨q, c⟩
      · exact Or.inl q
section RU
variable {Γ : zΓ} {M : zMd} {d : Nat} {pc pc' : Nat} {lv : List (Option Value)} {st : List Value} {μ : zMu} {w : zW} {Q : zQ}

theorem zc_bi {n : Int} (h : (-128 ≤ n ∧ n < 128)) : (Int8.ofInt n).toInt32 = jI n := by
  apply Int32.toInt_inj.mp
  rw [jI_toInt (by omega) (by omega), Int8.toInt_toInt32, Int8.toInt_ofInt_of_le (by omega) (by omega)]
theorem zc_si {n : Int} (h : (-32768 ≤ n ∧ n < 32768)) : (Int16.ofInt n).toInt32 = jI n := by
  apply Int32.toInt_inj.mp
  rw [jI_toInt (by omega) (by omega), Int16.toInt_toInt32, Int16.toInt_ofInt_of_le (by omega) (by omega)]
theorem zr_iconst {n : Int} (hd : decode M.2.1 pc = .ok (.iconst n, 1)) (hp : pc + 1 = pc')  (k : zRun Γ M d none pc' lv (.int (jI n) :: st) μ w Q) : zRun Γ M d none pc lv (st) μ w Q := by
  subst hp
  exact zr_pure (fun p e R s m args below meth c Qf H locs ls cells slots hc hl h => lv_iconst hc.1.1 hc.1.2.1 hd rfl h) k
theorem zr_bipush {n : Int} (hd : decode M.2.1 pc = .ok (.bipush n, 2)) (hp : pc + 2 = pc') (hn : -128 ≤ n ∧ n < 128) (k : zRun Γ M d none pc' lv (.int (jI n) :: st) μ w Q) : zRun Γ M d none pc lv (st) μ w Q := by
  subst hp
  exact zr_pure (fun p e R s m args below meth c Qf H locs ls cells slots hc hl h => lv_bipush hc.1.1 hc.1.2.1 hd (zc_bi hn) h) k
theorem zr_sipush {n : Int} (hd : decode M.2.1 pc = .ok (.sipush n, 3)) (hp : pc + 3 = pc') (hn : -32768 ≤ n ∧ n < 32768) (k : zRun Γ M d none pc' lv (.int (jI n) :: st) μ w Q) : zRun Γ M d none pc lv (st) μ w Q := by
  subst hp
  exact zr_pure (fun p e R s m args below meth c Qf H locs ls cells slots hc hl h => lv_sipush hc.1.1 hc.1.2.1 hd (zc_si hn) h) k
theorem zr_lconst {n : Fin 2} (hd : decode M.2.1 pc = .ok (.lconst n, 1)) (hp : pc + 1 = pc')  (k : zRun Γ M d none pc' lv (.long (Int64.ofNat (n : Nat)) :: st) μ w Q) : zRun Γ M d none pc lv (st) μ w Q := by
  subst hp
  exact zr_pure (fun p e R s m args below meth c Qf H locs ls cells slots hc hl h => lv_lconst hc.1.1 hc.1.2.1 hd rfl h) k
theorem zr_dconst0  (hd : decode M.2.1 pc = .ok (.dconst 0, 1)) (hp : pc + 1 = pc')  (k : zRun Γ M d none pc' lv (.double FP.dconst0 :: st) μ w Q) : zRun Γ M d none pc lv (st) μ w Q := by
  subst hp
  exact zr_pure (fun p e R s m args below meth c Qf H locs ls cells slots hc hl h => lv_dconst0 hc.1.1 hc.1.2.1 hd h) k
theorem zr_dconst1  (hd : decode M.2.1 pc = .ok (.dconst 1, 1)) (hp : pc + 1 = pc')  (k : zRun Γ M d none pc' lv (.double FP.dconst1 :: st) μ w Q) : zRun Γ M d none pc lv (st) μ w Q := by
  subst hp
  exact zr_pure (fun p e R s m args below meth c Qf H locs ls cells slots hc hl h => lv_dconst1 hc.1.1 hc.1.2.1 hd h) k
theorem zr_iload_n {i : Fin 4} {x : Int32} (hd : decode M.2.1 pc = .ok (.iload_n i, 1)) (hp : pc + 1 = pc') (hv : lv[(i : Nat)]? = some (some (.int x))) (k : zRun Γ M d none pc' lv (.int x :: st) μ w Q) : zRun Γ M d none pc lv (st) μ w Q := by
  subst hp
  exact zr_pure (fun p e R s m args below meth c Qf H locs ls cells slots hc hl h => lv_iload_n hc.1.1 hc.1.2.1 hd rfl (hl.2.2.2 _ _ hv) h) k
theorem zr_iload {i : Nat} {x : Int32} (hd : decode M.2.1 pc = .ok (.iload i, 2)) (hp : pc + 2 = pc') (hv : lv[i]? = some (some (.int x))) (k : zRun Γ M d none pc' lv (.int x :: st) μ w Q) : zRun Γ M d none pc lv (st) μ w Q := by
  subst hp
  exact zr_pure (fun p e R s m args below meth c Qf H locs ls cells slots hc hl h => lv_iload hc.1.1 hc.1.2.1 hd (hl.2.2.2 _ _ hv) h) k
theorem zr_lload_n {i : Fin 4} {x : Int64} (hd : decode M.2.1 pc = .ok (.lload_n i, 1)) (hp : pc + 1 = pc') (hv : lv[(i : Nat)]? = some (some (.long x))) (k : zRun Γ M d none pc' lv (.long x :: st) μ w Q) : zRun Γ M d none pc lv (st) μ w Q := by
  subst hp
  exact zr_pure (fun p e R s m args below meth c Qf H locs ls cells slots hc hl h => lv_lload_n hc.1.1 hc.1.2.1 hd rfl (hl.2.2.2 _ _ hv) h) k
theorem zr_lload {i : Nat} {x : Int64} (hd : decode M.2.1 pc = .ok (.lload i, 2)) (hp : pc + 2 = pc') (hv : lv[i]? = some (some (.long x))) (k : zRun Γ M d none pc' lv (.long x :: st) μ w Q) : zRun Γ M d none pc lv (st) μ w Q := by
  subst hp
  exact zr_pure (fun p e R s m args below meth c Qf H locs ls cells slots hc hl h => lv_lload hc.1.1 hc.1.2.1 hd (hl.2.2.2 _ _ hv) h) k
theorem zr_dload_n {i : Fin 4} {x : UInt64} (hd : decode M.2.1 pc = .ok (.dload_n i, 1)) (hp : pc + 1 = pc') (hv : lv[(i : Nat)]? = some (some (.double x))) (k : zRun Γ M d none pc' lv (.double x :: st) μ w Q) : zRun Γ M d none pc lv (st) μ w Q := by
  subst hp
  exact zr_pure (fun p e R s m args below meth c Qf H locs ls cells slots hc hl h => lv_dload_n hc.1.1 hc.1.2.1 hd rfl (hl.2.2.2 _ _ hv) h) k
theorem zr_dload {i : Nat} {x : UInt64} (hd : decode M.2.1 pc = .ok (.dload i, 2)) (hp : pc + 2 = pc') (hv : lv[i]? = some (some (.double x))) (k : zRun Γ M d none pc' lv (.double x :: st) μ w Q) : zRun Γ M d none pc lv (st) μ w Q := by
  subst hp
  exact zr_pure (fun p e R s m args below meth c Qf H locs ls cells slots hc hl h => lv_dload hc.1.1 hc.1.2.1 hd (hl.2.2.2 _ _ hv) h) k
theorem zr_aload_n {i : Fin 4} {x : Nat} (hd : decode M.2.1 pc = .ok (.aload_n i, 1)) (hp : pc + 1 = pc') (hv : lv[(i : Nat)]? = some (some (.ref x))) (k : zRun Γ M d none pc' lv (.ref x :: st) μ w Q) : zRun Γ M d none pc lv (st) μ w Q := by
  subst hp
  exact zr_pure (fun p e R s m args below meth c Qf H locs ls cells slots hc hl h => lv_aload_n hc.1.1 hc.1.2.1 hd rfl (hl.2.2.2 _ _ hv) h) k
theorem zr_aload {i : Nat} {x : Nat} (hd : decode M.2.1 pc = .ok (.aload i, 2)) (hp : pc + 2 = pc') (hv : lv[i]? = some (some (.ref x))) (k : zRun Γ M d none pc' lv (.ref x :: st) μ w Q) : zRun Γ M d none pc lv (st) μ w Q := by
  subst hp
  exact zr_pure (fun p e R s m args below meth c Qf H locs ls cells slots hc hl h => lv_aload hc.1.1 hc.1.2.1 hd (hl.2.2.2 _ _ hv) h) k
theorem zr_iadd {x y z : Int32} (hd : decode M.2.1 pc = .ok (.iadd, 1)) (hp : pc + 1 = pc') (hz : x + y = z) (k : zRun Γ M d none pc' lv (.int z :: st) μ w Q) : zRun Γ M d none pc lv (.int y :: .int x :: st) μ w Q := by
  subst hp; subst hz
  exact zr_pure (fun p e R s m args below meth c Qf H locs ls cells slots hc hl h => lv_iadd hc.1.1 hc.1.2.1 hd h) k
theorem zr_isub {x y z : Int32} (hd : decode M.2.1 pc = .ok (.isub, 1)) (hp : pc + 1 = pc') (hz : x - y = z) (k : zRun Γ M d none pc' lv (.int z :: st) μ w Q) : zRun Γ M d none pc lv (.int y :: .int x :: st) μ w Q := by
  subst hp; subst hz
  exact zr_pure (fun p e R s m args below meth c Qf H locs ls cells slots hc hl h => lv_isub hc.1.1 hc.1.2.1 hd h) k
theorem zr_imul {x y z : Int32} (hd : decode M.2.1 pc = .ok (.imul, 1)) (hp : pc + 1 = pc') (hz : x * y = z) (k : zRun Γ M d none pc' lv (.int z :: st) μ w Q) : zRun Γ M d none pc lv (.int y :: .int x :: st) μ w Q := by
  subst hp; subst hz
  exact zr_pure (fun p e R s m args below meth c Qf H locs ls cells slots hc hl h => lv_imul hc.1.1 hc.1.2.1 hd h) k
theorem zr_iand {x y z : Int32} (hd : decode M.2.1 pc = .ok (.iand, 1)) (hp : pc + 1 = pc') (hz : x &&& y = z) (k : zRun Γ M d none pc' lv (.int z :: st) μ w Q) : zRun Γ M d none pc lv (.int y :: .int x :: st) μ w Q := by
  subst hp; subst hz
  exact zr_pure (fun p e R s m args below meth c Qf H locs ls cells slots hc hl h => lv_iand hc.1.1 hc.1.2.1 hd h) k
theorem zr_ior {x y z : Int32} (hd : decode M.2.1 pc = .ok (.ior, 1)) (hp : pc + 1 = pc') (hz : x ||| y = z) (k : zRun Γ M d none pc' lv (.int z :: st) μ w Q) : zRun Γ M d none pc lv (.int y :: .int x :: st) μ w Q := by
  subst hp; subst hz
  exact zr_pure (fun p e R s m args below meth c Qf H locs ls cells slots hc hl h => lv_ior hc.1.1 hc.1.2.1 hd h) k
theorem zr_ishl {x y z : Int32} (hd : decode M.2.1 pc = .ok (.ishl, 1)) (hp : pc + 1 = pc') (hz : x <<< (y &&& 31) = z) (k : zRun Γ M d none pc' lv (.int z :: st) μ w Q) : zRun Γ M d none pc lv (.int y :: .int x :: st) μ w Q := by
  subst hp; subst hz
  exact zr_pure (fun p e R s m args below meth c Qf H locs ls cells slots hc hl h => lv_ishl hc.1.1 hc.1.2.1 hd h) k
theorem zr_ishr {x y z : Int32} (hd : decode M.2.1 pc = .ok (.ishr, 1)) (hp : pc + 1 = pc') (hz : x >>> (y &&& 31) = z) (k : zRun Γ M d none pc' lv (.int z :: st) μ w Q) : zRun Γ M d none pc lv (.int y :: .int x :: st) μ w Q := by
  subst hp; subst hz
  exact zr_pure (fun p e R s m args below meth c Qf H locs ls cells slots hc hl h => lv_ishr hc.1.1 hc.1.2.1 hd h) k
theorem zr_iushr {x y z : Int32} (hd : decode M.2.1 pc = .ok (.iushr, 1)) (hp : pc + 1 = pc') (hz : (x.toUInt32 >>> (y.toUInt32 &&& Int32.toUInt32 31)).toInt32 = z) (k : zRun Γ M d none pc' lv (.int z :: st) μ w Q) : zRun Γ M d none pc lv (.int y :: .int x :: st) μ w Q := by
  subst hp
  exact zr_pure (fun p e R s m args below meth c Qf H locs ls cells slots hc hl h => lv_iushr hc.1.1 hc.1.2.1 hd hz h) k
theorem zr_idiv {x y z : Int32} (hd : decode M.2.1 pc = .ok (.idiv, 1)) (hp : pc + 1 = pc') (hne : ¬ y = 0) (hz : x / y = z) (k : zRun Γ M d none pc' lv (.int z :: st) μ w Q) : zRun Γ M d none pc lv (.int y :: .int x :: st) μ w Q := by
  subst hp; subst hz
  exact zr_pure (fun p e R s m args below meth c Qf H locs ls cells slots hc hl h => lv_idiv hc.1.1 hc.1.2.1 hd hne h) k
theorem zr_irem {x y z : Int32} (hd : decode M.2.1 pc = .ok (.irem, 1)) (hp : pc + 1 = pc') (hne : ¬ y = 0) (hz : x - x / y * y = z) (k : zRun Γ M d none pc' lv (.int z :: st) μ w Q) : zRun Γ M d none pc lv (.int y :: .int x :: st) μ w Q := by
  subst hp; subst hz
  exact zr_pure (fun p e R s m args below meth c Qf H locs ls cells slots hc hl h => lv_irem hc.1.1 hc.1.2.1 hd hne h) k
theorem zr_ladd {x y : Int64} (hd : decode M.2.1 pc = .ok (.ladd, 1)) (hp : pc + 1 = pc') (k : zRun Γ M d none pc' lv (.long (x + y) :: st) μ w Q) : zRun Γ M d none pc lv (.long y :: .long x :: st) μ w Q := by
  subst hp
  exact zr_pure (fun p e R s m args below meth c Qf H locs ls cells slots hc hl h => lv_ladd hc.1.1 hc.1.2.1 hd h) k
theorem zr_lsub {x y : Int64} (hd : decode M.2.1 pc = .ok (.lsub, 1)) (hp : pc + 1 = pc') (k : zRun Γ M d none pc' lv (.long (x - y) :: st) μ w Q) : zRun Γ M d none pc lv (.long y :: .long x :: st) μ w Q := by
  subst hp
  exact zr_pure (fun p e R s m args below meth c Qf H locs ls cells slots hc hl h => lv_lsub hc.1.1 hc.1.2.1 hd h) k
theorem zr_lmul {x y : Int64} (hd : decode M.2.1 pc = .ok (.lmul, 1)) (hp : pc + 1 = pc') (k : zRun Γ M d none pc' lv (.long (x * y) :: st) μ w Q) : zRun Γ M d none pc lv (.long y :: .long x :: st) μ w Q := by
  subst hp
  exact zr_pure (fun p e R s m args below meth c Qf H locs ls cells slots hc hl h => lv_lmul hc.1.1 hc.1.2.1 hd h) k
theorem zr_lshl {x : Int64} {y : Int32} (hd : decode M.2.1 pc = .ok (.lshl, 1)) (hp : pc + 1 = pc')  (k : zRun Γ M d none pc' lv (.long (x <<< (y.toInt64 &&& 63)) :: st) μ w Q) : zRun Γ M d none pc lv (.int y :: .long x :: st) μ w Q := by
  subst hp
  exact zr_pure (fun p e R s m args below meth c Qf H locs ls cells slots hc hl h => lv_lshl hc.1.1 hc.1.2.1 hd rfl h) k
theorem zr_i2l {x : Int32} (hd : decode M.2.1 pc = .ok (.i2l, 1)) (hp : pc + 1 = pc')  (k : zRun Γ M d none pc' lv (.long x.toInt64 :: st) μ w Q) : zRun Γ M d none pc lv (.int x :: st) μ w Q := by
  subst hp
  exact zr_pure (fun p e R s m args below meth c Qf H locs ls cells slots hc hl h => lv_i2l hc.1.1 hc.1.2.1 hd rfl h) k
theorem zr_i2c {x z : Int32} (hd : decode M.2.1 pc = .ok (.i2c, 1)) (hp : pc + 1 = pc') (hz : (x.toUInt32 % 65536).toInt32 = z) (k : zRun Γ M d none pc' lv (.int z :: st) μ w Q) : zRun Γ M d none pc lv (.int x :: st) μ w Q := by
  subst hp
  exact zr_pure (fun p e R s m args below meth c Qf H locs ls cells slots hc hl h => lv_i2c hc.1.1 hc.1.2.1 hd hz h) k
theorem zr_i2d {x : Int32} (hd : decode M.2.1 pc = .ok (.i2d, 1)) (hp : pc + 1 = pc')  (k : zRun Γ M d none pc' lv (.double (FP.i2d x) :: st) μ w Q) : zRun Γ M d none pc lv (.int x :: st) μ w Q := by
  subst hp
  exact zr_pure (fun p e R s m args below meth c Qf H locs ls cells slots hc hl h => lv_i2d hc.1.1 hc.1.2.1 hd h) k
theorem zr_d2l {x : UInt64} (hd : decode M.2.1 pc = .ok (.d2l, 1)) (hp : pc + 1 = pc')  (k : zRun Γ M d none pc' lv (.long (FP.d2l x) :: st) μ w Q) : zRun Γ M d none pc lv (.double x :: st) μ w Q := by
  subst hp
  exact zr_pure (fun p e R s m args below meth c Qf H locs ls cells slots hc hl h => lv_d2l hc.1.1 hc.1.2.1 hd h) k
theorem zr_dmul {x y : UInt64} (hd : decode M.2.1 pc = .ok (.dmul, 1)) (hp : pc + 1 = pc') (hn : vf_n64 (FP.dmul x y)) (k : zRun Γ M d none pc' lv (.double (FP.dmul x y) :: st) μ w Q) : zRun Γ M d none pc lv (.double y :: .double x :: st) μ w Q := by
  subst hp
  exact zr_pure (fun p e R s m args below meth c Qf H locs ls cells slots hc hl h => lv_dmul hc.1.1 hc.1.2.1 hd hn h) k
theorem zr_dsub {x y : UInt64} (hd : decode M.2.1 pc = .ok (.dsub, 1)) (hp : pc + 1 = pc') (hn : vf_n64 (FP.dsub x y)) (k : zRun Γ M d none pc' lv (.double (FP.dsub x y) :: st) μ w Q) : zRun Γ M d none pc lv (.double y :: .double x :: st) μ w Q := by
  subst hp
  exact zr_pure (fun p e R s m args below meth c Qf H locs ls cells slots hc hl h => lv_dsub hc.1.1 hc.1.2.1 hd hn h) k
theorem zr_ddiv {x y : UInt64} (hd : decode M.2.1 pc = .ok (.ddiv, 1)) (hp : pc + 1 = pc') (hn : vf_n64 (FP.ddiv x y)) (k : zRun Γ M d none pc' lv (.double (FP.ddiv x y) :: st) μ w Q) : zRun Γ M d none pc lv (.double y :: .double x :: st) μ w Q := by
  subst hp
  exact zr_pure (fun p e R s m args below meth c Qf H locs ls cells slots hc hl h => lv_ddiv hc.1.1 hc.1.2.1 hd hn h) k
theorem zr_lcmp {x y : Int64} (hd : decode M.2.1 pc = .ok (.lcmp, 1)) (hp : pc + 1 = pc')  (k : zRun Γ M d none pc' lv (.int (lg_cmp x y) :: st) μ w Q) : zRun Γ M d none pc lv (.long y :: .long x :: st) μ w Q := by
  subst hp
  exact zr_pure (fun p e R s m args below meth c Qf H locs ls cells slots hc hl h => W.lcmp hc.1.1 hc.1.2.1 hd h) k
theorem zr_dcmp {x y : UInt64} {op : CmpOp} (hd : decode M.2.1 pc = .ok (.dcmp op, 1)) (hp : pc + 1 = pc')  (k : zRun Γ M d none pc' lv (.int (Op.cmpValue (FP.dcmp x y) op) :: st) μ w Q) : zRun Γ M d none pc lv (.double y :: .double x :: st) μ w Q := by
  subst hp
  exact zr_pure (fun p e R s m args below meth c Qf H locs ls cells slots hc hl h => lv_dcmp hc.1.1 hc.1.2.1 hd h) k
theorem zr_dup {v : Value} (hd : decode M.2.1 pc = .ok (.dup, 1)) (hp : pc + 1 = pc') (hv : v.category = 1) (k : zRun Γ M d none pc' lv (v :: v :: st) μ w Q) : zRun Γ M d none pc lv (v :: st) μ w Q := by
  subst hp
  exact zr_pure (fun p e R s m args below meth c Qf H locs ls cells slots hc hl h => lv_dup hc.1.1 hc.1.2.1 hd ((zcv_cat Γ v).trans hv) h) k
theorem zr_pop {v : Value} (hd : decode M.2.1 pc = .ok (.pop, 1)) (hp : pc + 1 = pc') (hv : v.category = 1) (k : zRun Γ M d none pc' lv (st) μ w Q) : zRun Γ M d none pc lv (v :: st) μ w Q := by
  subst hp
  exact zr_pure (fun p e R s m args below meth c Qf H locs ls cells slots hc hl h => lv_pop hc.1.1 hc.1.2.1 hd ((zcv_cat Γ v).trans hv) h) k
theorem zr_dup2 {v u : Value} (hd : decode M.2.1 pc = .ok (.dup2, 1)) (hp : pc + 1 = pc') (hv : v.category = 1) (hu : u.category = 1) (k : zRun Γ M d none pc' lv (v :: u :: v :: u :: st) μ w Q) : zRun Γ M d none pc lv (v :: u :: st) μ w Q := by
  subst hp
  exact zr_pure (fun p e R s m args below meth c Qf H locs ls cells slots hc hl h => lv_dup2_11 hc.1.1 hc.1.2.1 hd ((zcv_cat Γ v).trans hv) ((zcv_cat Γ u).trans hu) h) k
theorem zr_if_eq {P : Prop} {x : Int32} {off : Int} {tgt : Nat} (hd : decode M.2.1 pc = .ok (.ifCond .eq off, 3)) (ht : (pc : Int) + off = (tgt : Int)) (hp : pc + 3 = pc') (hI : (x = 0) ↔ P) (kt : P → zRun Γ M d none tgt lv st μ w Q) (kf : ¬ P → zRun Γ M d none pc' lv st μ w Q) : zRun Γ M d none pc lv (.int x :: st) μ w Q := by
  subst hp
  refine zr_branch (P := P) (fun p e R s m args below meth c Qf H locs ls cells slots hc k1 k2 => lv_if_eq hc.1.1 hc.1.2.1 hd ht (fun q => k1 ?_) (fun q => k2 ?_)) kt kf
  · exact hI.mp q
  · exact fun z => q (hI.mpr z)
theorem zr_if_ne {P : Prop} {x : Int32} {off : Int} {tgt : Nat} (hd : decode M.2.1 pc = .ok (.ifCond .ne off, 3)) (ht : (pc : Int) + off = (tgt : Int)) (hp : pc + 3 = pc') (hI : (x = 0) ↔ P) (kt : ¬ P → zRun Γ M d none tgt lv st μ w Q) (kf : P → zRun Γ M d none pc' lv st μ w Q) : zRun Γ M d none pc lv (.int x :: st) μ w Q := by
  subst hp
  refine zr_branch (P := ¬ P) (fun p e R s m args below meth c Qf H locs ls cells slots hc k1 k2 => lv_if_ne hc.1.1 hc.1.2.1 hd ht (fun q => k1 ?_) (fun q => k2 ?_)) kt (fun q => kf (Classical.not_not.mp q))
  · first | exact fun z => q (hI.mpr z) | exact (not_congr hI).mp q
  · first | exact fun z => z (hI.mp (Classical.not_not.mp q)) | exact fun z => q (fun y => z (hI.mp y)) | exact fun z => z (hI.mp q)
theorem zr_if_lt {P : Prop} {x : Int32} {off : Int} {tgt : Nat} (hd : decode M.2.1 pc = .ok (.ifCond .lt off, 3)) (ht : (pc : Int) + off = (tgt : Int)) (hp : pc + 3 = pc') (hI : (x < 0) ↔ P) (kt : P → zRun Γ M d none tgt lv st μ w Q) (kf : ¬ P → zRun Γ M d none pc' lv st μ w Q) : zRun Γ M d none pc lv (.int x :: st) μ w Q := by
  subst hp
  refine zr_branch (P := P) (fun p e R s m args below meth c Qf H locs ls cells slots hc k1 k2 => lv_if_lt hc.1.1 hc.1.2.1 hd ht (fun q => k1 ?_) (fun q => k2 ?_)) kt kf
  · exact hI.mp q
  · exact fun z => q (hI.mpr z)
theorem zr_if_ge {P : Prop} {x : Int32} {off : Int} {tgt : Nat} (hd : decode M.2.1 pc = .ok (.ifCond .ge off, 3)) (ht : (pc : Int) + off = (tgt : Int)) (hp : pc + 3 = pc') (hI : (0 ≤ x) ↔ P) (kt : P → zRun Γ M d none tgt lv st μ w Q) (kf : ¬ P → zRun Γ M d none pc' lv st μ w Q) : zRun Γ M d none pc lv (.int x :: st) μ w Q := by
  subst hp
  refine zr_branch (P := P) (fun p e R s m args below meth c Qf H locs ls cells slots hc k1 k2 => lv_if_ge hc.1.1 hc.1.2.1 hd ht (fun q => k1 ?_) (fun q => k2 ?_)) kt kf
  · exact hI.mp q
  · exact fun z => q (hI.mpr z)
theorem zr_if_gt {P : Prop} {x : Int32} {off : Int} {tgt : Nat} (hd : decode M.2.1 pc = .ok (.ifCond .gt off, 3)) (ht : (pc : Int) + off = (tgt : Int)) (hp : pc + 3 = pc') (hI : (0 < x) ↔ P) (kt : P → zRun Γ M d none tgt lv st μ w Q) (kf : ¬ P → zRun Γ M d none pc' lv st μ w Q) : zRun Γ M d none pc lv (.int x :: st) μ w Q := by
  subst hp
  refine zr_branch (P := P) (fun p e R s m args below meth c Qf H locs ls cells slots hc k1 k2 => lv_if_gt hc.1.1 hc.1.2.1 hd ht (fun q => k1 ?_) (fun q => k2 ?_)) kt kf
  · exact hI.mp q
  · exact fun z => q (hI.mpr z)
theorem zr_if_le {P : Prop} {x : Int32} {off : Int} {tgt : Nat} (hd : decode M.2.1 pc = .ok (.ifCond .le off, 3)) (ht : (pc : Int) + off = (tgt : Int)) (hp : pc + 3 = pc') (hI : (x ≤ 0) ↔ P) (kt : P → zRun Γ M d none tgt lv st μ w Q) (kf : ¬ P → zRun Γ M d none pc' lv st μ w Q) : zRun Γ M d none pc lv (.int x :: st) μ w Q := by
  subst hp
  refine zr_branch (P := P) (fun p e R s m args below meth c Qf H locs ls cells slots hc k1 k2 => lv_if_le hc.1.1 hc.1.2.1 hd ht (fun q => k1 ?_) (fun q => k2 ?_)) kt kf
  · exact hI.mp q
  · exact fun z => q (hI.mpr z)
theorem zr_icmp_eq {P : Prop} {x y : Int32} {off : Int} {tgt : Nat} (hd : decode M.2.1 pc = .ok (.if_icmp .eq off, 3)) (ht : (pc : Int) + off = (tgt : Int)) (hp : pc + 3 = pc') (hI : (x = y) ↔ P) (kt : P → zRun Γ M d none tgt lv st μ w Q) (kf : ¬ P → zRun Γ M d none pc' lv st μ w Q) : zRun Γ M d none pc lv (.int y :: .int x :: st) μ w Q := by
  subst hp
  refine zr_branch (P := P) (fun p e R s m args below meth c Qf H locs ls cells slots hc k1 k2 => lv_icmp_eq hc.1.1 hc.1.2.1 hd ht (fun q => k1 ?_) (fun q => k2 ?_)) kt kf
  · exact hI.mp q
  · exact fun z => q (hI.mpr z)
theorem zr_icmp_ne {P : Prop} {x y : Int32} {off : Int} {tgt : Nat} (hd : decode M.2.1 pc = .ok (.if_icmp .ne off, 3)) (ht : (pc : Int) + off = (tgt : Int)) (hp : pc + 3 = pc') (hI : (x = y) ↔ P) (kt : ¬ P → zRun Γ M d none tgt lv st μ w Q) (kf : P → zRun Γ M d none pc' lv st μ w Q) : zRun Γ M d none pc lv (.int y :: .int x :: st) μ w Q := by
  subst hp
  refine zr_branch (P := ¬ P) (fun p e R s m args below meth c Qf H locs ls cells slots hc k1 k2 => lv_icmp_ne hc.1.1 hc.1.2.1 hd ht (fun q => k1 ?_) (fun q => k2 ?_)) kt (fun q => kf (Classical.not_not.mp q))
  · first | exact fun z => q (hI.mpr z) | exact (not_congr hI).mp q
  · first | exact fun z => z (hI.mp (Classical.not_not.mp q)) | exact fun z => q (fun y => z (hI.mp y)) | exact fun z => z (hI.mp q)
theorem zr_icmp_lt {P : Prop} {x y : Int32} {off : Int} {tgt : Nat} (hd : decode M.2.1 pc = .ok (.if_icmp .lt off, 3)) (ht : (pc : Int) + off = (tgt : Int)) (hp : pc + 3 = pc') (hI : (x < y) ↔ P) (kt : P → zRun Γ M d none tgt lv st μ w Q) (kf : ¬ P → zRun Γ M d none pc' lv st μ w Q) : zRun Γ M d none pc lv (.int y :: .int x :: st) μ w Q := by
  subst hp
  refine zr_branch (P := P) (fun p e R s m args below meth c Qf H locs ls cells slots hc k1 k2 => lv_icmp_lt hc.1.1 hc.1.2.1 hd ht (fun q => k1 ?_) (fun q => k2 ?_)) kt kf
  · exact hI.mp q
  · exact fun z => q (hI.mpr z)
theorem zr_icmp_ge {P : Prop} {x y : Int32} {off : Int} {tgt : Nat} (hd : decode M.2.1 pc = .ok (.if_icmp .ge off, 3)) (ht : (pc : Int) + off = (tgt : Int)) (hp : pc + 3 = pc') (hI : (y ≤ x) ↔ P) (kt : P → zRun Γ M d none tgt lv st μ w Q) (kf : ¬ P → zRun Γ M d none pc' lv st μ w Q) : zRun Γ M d none pc lv (.int y :: .int x :: st) μ w Q := by
  subst hp
  refine zr_branch (P := P) (fun p e R s m args below meth c Qf H locs ls cells slots hc k1 k2 => lv_icmp_ge hc.1.1 hc.1.2.1 hd ht (fun q => k1 ?_) (fun q => k2 ?_)) kt kf
  · exact hI.mp q
  · exact fun z => q (hI.mpr z)
theorem zr_icmp_gt {P : Prop} {x y : Int32} {off : Int} {tgt : Nat} (hd : decode M.2.1 pc = .ok (.if_icmp .gt off, 3)) (ht : (pc : Int) + off = (tgt : Int)) (hp : pc + 3 = pc') (hI : (y < x) ↔ P) (kt : P → zRun Γ M d none tgt lv st μ w Q) (kf : ¬ P → zRun Γ M d none pc' lv st μ w Q) : zRun Γ M d none pc lv (.int y :: .int x :: st) μ w Q := by
  subst hp
  refine zr_branch (P := P) (fun p e R s m args below meth c Qf H locs ls cells slots hc k1 k2 => lv_icmp_gt hc.1.1 hc.1.2.1 hd ht (fun q => k1 ?_) (fun q => k2 ?_)) kt kf
  · exact hI.mp q
  · exact fun z => q (hI.mpr z)
theorem zr_icmp_le {P : Prop} {x y : Int32} {off : Int} {tgt : Nat} (hd : decode M.2.1 pc = .ok (.if_icmp .le off, 3)) (ht : (pc : Int) + off = (tgt : Int)) (hp : pc + 3 = pc') (hI : (x ≤ y) ↔ P) (kt : P → zRun Γ M d none tgt lv st μ w Q) (kf : ¬ P → zRun Γ M d none pc' lv st μ w Q) : zRun Γ M d none pc lv (.int y :: .int x :: st) μ w Q := by
  subst hp
  refine zr_branch (P := P) (fun p e R s m args below meth c Qf H locs ls cells slots hc k1 k2 => lv_icmp_le hc.1.1 hc.1.2.1 hd ht (fun q => k1 ?_) (fun q => k2 ?_)) kt kf
  · exact hI.mp q
  · exact fun z => q (hI.mpr z)
theorem zr_goto {off : Int} {tgt : Nat} (hd : decode M.2.1 pc = .ok (.goto off, 3)) (ht : (pc : Int) + off = (tgt : Int)) (k : zRun Γ M d none tgt lv st μ w Q) : zRun Γ M d none pc lv st μ w Q :=
  zr_pure (fun p e R s m args below meth c Qf H locs ls cells slots hc hl h => lv_goto hc.1.1 hc.1.2.1 hd ht h) k
theorem zr_tableIn {dflt lo hi : Int} {offs : Array Int} {len : Nat} {x : Int} {off : Int} {tgt : Nat} (hd : decode M.2.1 pc = .ok (.tableswitch dflt lo hi offs, len)) (h0 : -2147483648 ≤ x ∧ x < 2147483648) (h1 : lo ≤ x) (h2 : x ≤ hi) (ho : offs[(x - lo).toNat]? = some off) (ht : (pc : Int) + off = (tgt : Int)) (k : zRun Γ M d none tgt lv st μ w Q) : zRun Γ M d none pc lv (.int (jI x) :: st) μ w Q :=
  zr_pure (fun p e R s m args below meth c Qf H locs ls cells slots hc hl h => lv_tableIn hc.1.1 hc.1.2.1 hd (by rw [jI_toInt h0.1 h0.2]; omega) (by rw [jI_toInt h0.1 h0.2]; omega) (by rw [jI_toInt h0.1 h0.2]; exact ho) ht h) k
theorem zr_tableOut {dflt lo hi : Int} {offs : Array Int} {len : Nat} {x : Int} {tgt : Nat} (hd : decode M.2.1 pc = .ok (.tableswitch dflt lo hi offs, len)) (h0 : -2147483648 ≤ x ∧ x < 2147483648) (h1 : x < lo ∨ hi < x) (ht : (pc : Int) + dflt = (tgt : Int)) (k : zRun Γ M d none tgt lv st μ w Q) : zRun Γ M d none pc lv (.int (jI x) :: st) μ w Q :=
  zr_pure (fun p e R s m args below meth c Qf H locs ls cells slots hc hl h => lv_tableOut hc.1.1 hc.1.2.1 hd (by rw [jI_toInt h0.1 h0.2]; exact h1) ht h) k
theorem zr_lookup {dflt : Int} {ps : Array (Int × Int)} {len : Nat} {x : Int} {off : Int} {tgt : Nat} (hd : decode M.2.1 pc = .ok (.lookupswitch dflt ps, len)) (h0 : -2147483648 ≤ x ∧ x < 2147483648) (hps : (ps.toList.zip (ps.toList.drop 1)).all (fun (a, next) => a.1 < next.1) = true) (ho : Op.lookupswitch.offset ps.toList dflt x = off) (ht : (pc : Int) + off = (tgt : Int)) (k : zRun Γ M d none tgt lv st μ w Q) : zRun Γ M d none pc lv (.int (jI x) :: st) μ w Q :=
  zr_pure (fun p e R s m args below meth c Qf H locs ls cells slots hc hl h => lv_lookup hc.1.1 hc.1.2.1 hd hps (by rw [jI_toInt h0.1 h0.2]; exact ho) ht h) k
theorem zr_istore_n {i : Fin 4} {x : Int32} {lv' : List (Option Value)} (hd : decode M.2.1 pc = .ok (.istore_n i, 1)) (hp : pc + 1 = pc') (hi : (i : Nat) < M.2.2.1) (hs : zst1 lv (i : Nat) (Value.int x) = lv') (k : zRun Γ M d none pc' lv' st μ w Q) : zRun Γ M d none pc lv (Value.int x :: st) μ w Q := by
  subst hp; subst hs
  intro p e R s m args below meth c Qf hc hQ H locs ls cells slots a1 a2 a3 a4 a5
  exact lv_istore_n hc.1.1 hc.1.2.1 hd rfl (zl_has a3) hi rfl (fun ls' h' => k p e R s m args below meth c Qf hc hQ H locs ls' cells slots a1 a2 (zLV_st1 (v := Value.int x) a3.2.2.1 h') a4 a5)
theorem zr_istore {i : Nat} {x : Int32} {lv' : List (Option Value)} (hd : decode M.2.1 pc = .ok (.istore i, 2)) (hp : pc + 2 = pc') (hi : (i : Nat) < M.2.2.1) (hs : zst1 lv (i : Nat) (Value.int x) = lv') (k : zRun Γ M d none pc' lv' st μ w Q) : zRun Γ M d none pc lv (Value.int x :: st) μ w Q := by
  subst hp; subst hs
  intro p e R s m args below meth c Qf hc hQ H locs ls cells slots a1 a2 a3 a4 a5
  exact lv_istore hc.1.1 hc.1.2.1 hd (zl_has a3) hi rfl (fun ls' h' => k p e R s m args below meth c Qf hc hQ H locs ls' cells slots a1 a2 (zLV_st1 (v := Value.int x) a3.2.2.1 h') a4 a5)
theorem zr_lstore_n {i : Fin 4} {x : Int64} {lv' : List (Option Value)} (hd : decode M.2.1 pc = .ok (.lstore_n i, 1)) (hp : pc + 1 = pc') (hi : (i : Nat) + 1 < M.2.2.1) (hs : zst2 lv (i : Nat) (Value.long x) = lv') (k : zRun Γ M d none pc' lv' st μ w Q) : zRun Γ M d none pc lv (Value.long x :: st) μ w Q := by
  subst hp; subst hs
  intro p e R s m args below meth c Qf hc hQ H locs ls cells slots a1 a2 a3 a4 a5
  exact lv_lstore_n hc.1.1 hc.1.2.1 hd rfl (zl_has a3) hi rfl (fun ls' h' => k p e R s m args below meth c Qf hc hQ H locs ls' cells slots a1 a2 (zLV_st2 (v := Value.long x) a3.2.2.1 h') a4 a5)
theorem zr_lstore {i : Nat} {x : Int64} {lv' : List (Option Value)} (hd : decode M.2.1 pc = .ok (.lstore i, 2)) (hp : pc + 2 = pc') (hi : (i : Nat) + 1 < M.2.2.1) (hs : zst2 lv (i : Nat) (Value.long x) = lv') (k : zRun Γ M d none pc' lv' st μ w Q) : zRun Γ M d none pc lv (Value.long x :: st) μ w Q := by
  subst hp; subst hs
  intro p e R s m args below meth c Qf hc hQ H locs ls cells slots a1 a2 a3 a4 a5
  exact lv_lstore hc.1.1 hc.1.2.1 hd (zl_has a3) hi rfl (fun ls' h' => k p e R s m args below meth c Qf hc hQ H locs ls' cells slots a1 a2 (zLV_st2 (v := Value.long x) a3.2.2.1 h') a4 a5)
theorem zr_dstore_n {i : Fin 4} {x : UInt64} {lv' : List (Option Value)} (hd : decode M.2.1 pc = .ok (.dstore_n i, 1)) (hp : pc + 1 = pc') (hi : (i : Nat) + 1 < M.2.2.1) (hs : zst2 lv (i : Nat) (Value.double x) = lv') (k : zRun Γ M d none pc' lv' st μ w Q) : zRun Γ M d none pc lv (Value.double x :: st) μ w Q := by
  subst hp; subst hs
  intro p e R s m args below meth c Qf hc hQ H locs ls cells slots a1 a2 a3 a4 a5
  exact lv_dstore_n hc.1.1 hc.1.2.1 hd rfl (zl_has a3) hi rfl (fun ls' h' => k p e R s m args below meth c Qf hc hQ H locs ls' cells slots a1 a2 (zLV_st2 (v := Value.double x) a3.2.2.1 h') a4 a5)
theorem zr_dstore {i : Nat} {x : UInt64} {lv' : List (Option Value)} (hd : decode M.2.1 pc = .ok (.dstore i, 2)) (hp : pc + 2 = pc') (hi : (i : Nat) + 1 < M.2.2.1) (hs : zst2 lv (i : Nat) (Value.double x) = lv') (k : zRun Γ M d none pc' lv' st μ w Q) : zRun Γ M d none pc lv (Value.double x :: st) μ w Q := by
  subst hp; subst hs
  intro p e R s m args below meth c Qf hc hQ H locs ls cells slots a1 a2 a3 a4 a5
  exact lv_dstore hc.1.1 hc.1.2.1 hd (zl_has a3) hi rfl (fun ls' h' => k p e R s m args below meth c Qf hc hQ H locs ls' cells slots a1 a2 (zLV_st2 (v := Value.double x) a3.2.2.1 h') a4 a5)
theorem zr_astore_n {i : Fin 4} {x : Nat} {lv' : List (Option Value)} (hd : decode M.2.1 pc = .ok (.astore_n i, 1)) (hp : pc + 1 = pc') (hi : (i : Nat) < M.2.2.1) (hs : zst1 lv (i : Nat) (Value.ref x) = lv') (k : zRun Γ M d none pc' lv' st μ w Q) : zRun Γ M d none pc lv (Value.ref x :: st) μ w Q := by
  subst hp; subst hs
  intro p e R s m args below meth c Qf hc hQ H locs ls cells slots a1 a2 a3 a4 a5
  exact lv_astore_n hc.1.1 hc.1.2.1 hd rfl (zl_has a3) hi rfl (fun ls' h' => k p e R s m args below meth c Qf hc hQ H locs ls' cells slots a1 a2 (zLV_st1 (v := Value.ref x) a3.2.2.1 h') a4 a5)
theorem zr_astore {i : Nat} {x : Nat} {lv' : List (Option Value)} (hd : decode M.2.1 pc = .ok (.astore i, 2)) (hp : pc + 2 = pc') (hi : (i : Nat) < M.2.2.1) (hs : zst1 lv (i : Nat) (Value.ref x) = lv') (k : zRun Γ M d none pc' lv' st μ w Q) : zRun Γ M d none pc lv (Value.ref x :: st) μ w Q := by
  subst hp; subst hs
  intro p e R s m args below meth c Qf hc hQ H locs ls cells slots a1 a2 a3 a4 a5
  exact lv_astore hc.1.1 hc.1.2.1 hd (zl_has a3) hi rfl (fun ls' h' => k p e R s m args below meth c Qf hc hQ H locs ls' cells slots a1 a2 (zLV_st1 (v := Value.ref x) a3.2.2.1 h') a4 a5)
theorem zr_iinc {i : Nat} {n : Int} {x z : Int32} {lv' : List (Option Value)} (hd : decode M.2.1 pc = .ok (.iinc i n, 3)) (hp : pc + 3 = pc') (hi : i < M.2.2.1) (hv : lv[i]? = some (some (.int x))) (hz : x + jI n = z) (hs : zst1 lv i (.int z) = lv') (k : zRun Γ M d none pc' lv' st μ w Q) : zRun Γ M d none pc lv st μ w Q := by
  subst hp; subst hs
  intro p e R s m args below meth c Qf hc hQ H locs ls cells slots a1 a2 a3 a4 a5
  obtain ⟨j, hj⟩ := List.getElem?_of_mem (zl_mem (Γ := Γ) hv)
  exact lv_iinc hc.1.1 hc.1.2.1 hd (zl_has a3) hj hz hi rfl (fun ls' h' => k p e R s m args below meth c Qf hc hQ H locs ls' cells slots a1 a2 (zLV_st1 (v := .int z) a3.2.2.1 h') a4 a5)
theorem zr_ldc {i : Nat} {x : Int32} (hd : decode M.2.1 pc = .ok (.ldc i, 2)) (hp : pc + 2 = pc') (hg : zG [.constant M.1.cls i x]) (k : zRun Γ M d none pc' lv (.int x :: st) μ w Q) : zRun Γ M d none pc lv st μ w Q := by
  subst hp
  exact zr_pure (fun p e R s m args below meth c Qf H locs ls cells slots hc hl h => lv_ldc hc.1.1 hc.1.2.1 hc.1.2.2.2 (hg.word hc.2.1 hc.2.2.1 List.mem_cons_self) hd h) k
theorem zr_ldcw {i : Nat} {x : Int32} (hd : decode M.2.1 pc = .ok (.ldc_w i, 3)) (hp : pc + 3 = pc') (hg : zG [.constant M.1.cls i x]) (k : zRun Γ M d none pc' lv (.int x :: st) μ w Q) : zRun Γ M d none pc lv st μ w Q := by
  subst hp
  exact zr_pure (fun p e R s m args below meth c Qf H locs ls cells slots hc hl h => lv_ldcw hc.1.1 hc.1.2.1 hc.1.2.2.2 (hg.word hc.2.1 hc.2.2.1 List.mem_cons_self) hd h) k
theorem zr_ldc2 {i : Nat} {x : Int64} (hd : decode M.2.1 pc = .ok (.ldc2_w i, 3)) (hp : pc + 3 = pc') (hg : zG [.constantLong M.1.cls i x]) (k : zRun Γ M d none pc' lv (.long x :: st) μ w Q) : zRun Γ M d none pc lv st μ w Q := by
  subst hp
  exact zr_pure (fun p e R s m args below meth c Qf H locs ls cells slots hc hl h => lv_ldc2 hc.1.1 hc.1.2.1 hc.1.2.2.2 (hg.word hc.2.1 hc.2.2.1 List.mem_cons_self) hd h) k
theorem zr_ldc2d {i : Nat} {x : UInt64} (hd : decode M.2.1 pc = .ok (.ldc2_w i, 3)) (hp : pc + 3 = pc') (hg : zG [.constantDouble M.1.cls i x]) (k : zRun Γ M d none pc' lv (.double x :: st) μ w Q) : zRun Γ M d none pc lv st μ w Q := by
  subst hp
  exact zr_pure (fun p e R s m args below meth c Qf H locs ls cells slots hc hl h => lv_ldc2d hc.1.1 hc.1.2.1 hc.1.2.2.2 (hg.word hc.2.1 hc.2.2.1 List.mem_cons_self) hd h) k
end RU
