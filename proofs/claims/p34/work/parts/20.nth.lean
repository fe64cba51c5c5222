/-! numbers by their rank among those that are such -/
def jrk (q : Int → Bool) (n : Int) : Int := jcnt (n - 1).toNat (fun z => q (z + 1))
def jall (q : Int → Bool) : Int := jcnt 90 (fun z => q (z + 1))
def jnt : Nat → Int → (Int → Bool) → Int → Int
  | 0, _, _, _ => 0
  | m + 1, n, q, k => if q n = true then (if k = 0 then n else jnt m (n + 1) q (k - 1)) else jnt m (n + 1) q k
def jnth (q : Int → Bool) (k : Int) : Int := jnt 90 1 q k
theorem jrk_1 (q : Int → Bool) : jrk q 1 = 0 := rfl
theorem jrk_91 (q : Int → Bool) : jrk q 91 = jall q := rfl
theorem jrk_succ {q : Int → Bool} {n : Int} (h : 1 ≤ n) : jrk q (n + 1) = jrk q n + jb (q n = true) := by
  unfold jrk
  have := jcnt_next (q := fun z => q (z + 1)) (i := n - 1) (by omega)
  rw [show n - 1 + 1 = n + 1 - 1 by omega] at this
  rw [this, show n + 1 - 1 = n by omega]
theorem jrk_nn (q : Int → Bool) (n : Int) : 0 ≤ jrk q n := (jcnt_nn _ _).1
theorem jall_r (q : Int → Bool) : 0 ≤ jall q ∧ jall q ≤ 90 := jcnt_nn 90 _
theorem jrk_mono {q : Int → Bool} {n : Int} (h : 1 ≤ n) : ∀ k : Nat, jrk q n ≤ jrk q (n + k) := by
  intro k
  induction k with
  | zero => simp
  | succ k ih =>
    have e := jrk_succ (q := q) (n := n + k) (by omega)
    have b := jb_r (P := q (n + (k : Int)) = true)
    rw [show n + ((k + 1 : Nat) : Int) = n + k + 1 by omega, e]
    omega
theorem jrk_le {q : Int → Bool} {n m : Int} (h : 1 ≤ n) (hm : n ≤ m) : jrk q n ≤ jrk q m := by
  have := jrk_mono (q := q) h (m - n).toNat
  rw [show n + ((m - n).toNat : Int) = m by omega] at this
  exact this
theorem jrk_lt {q : Int → Bool} {n m : Int} (h : 1 ≤ n) (hm : n < m) (hq : q n = true) : jrk q n < jrk q m := by
  have h1 := jrk_succ (q := q) h
  rw [jb_pos hq] at h1
  have h2 := jrk_le (q := q) (n := n + 1) (m := m) (by omega) (by omega)
  omega
theorem jrk_inj {q : Int → Bool} {n m : Int} (hn : 1 ≤ n) (hm : 1 ≤ m) (qn : q n = true) (qm : q m = true) (h : jrk q n = jrk q m) : n = m := by
  rcases Int.lt_trichotomy n m with a | a | a
  · have := jrk_lt hn a qn
    omega
  · exact a
  · have := jrk_lt hm a qm
    omega
theorem jnt_spec {q : Int → Bool} {A : Int} (hA : jrk q 91 = A) (m : Nat) : ∀ (n k : Int), 1 ≤ n → n + m = 91 → 0 ≤ k → k < A - jrk q n → n ≤ jnt m n q k ∧ jnt m n q k ≤ 90 ∧ q (jnt m n q k) = true ∧ jrk q (jnt m n q k) = jrk q n + k := by
  induction m with
  | zero =>
    intro n k h1 h2 h3 h4
    have hn : n = 91 := by omega
    subst hn
    omega
  | succ m ih =>
    intro n k h1 h2 h3 h4
    have hs := jrk_succ (q := q) h1
    by_cases hq : q n = true
    · rw [jb_pos hq] at hs
      have e : jnt (m + 1) n q k = if k = 0 then n else jnt m (n + 1) q (k - 1) := by
        show (if q n = true then (if k = 0 then n else jnt m (n + 1) q (k - 1)) else jnt m (n + 1) q k) = _
        rw [if_pos hq]
      rw [e]
      by_cases hk : k = 0
      · rw [if_pos hk]
        exact ⟨Int.le_refl _, by omega, hq, by omega⟩
      · rw [if_neg hk]
        obtain ⟨a1, a2, a3, a4⟩ := ih (n + 1) (k - 1) (by omega) (by omega) (by omega) (by omega)
        exact ⟨by omega, a2, a3, by omega⟩
    · rw [jb_neg hq] at hs
      have e : jnt (m + 1) n q k = jnt m (n + 1) q k := by
        show (if q n = true then (if k = 0 then n else jnt m (n + 1) q (k - 1)) else jnt m (n + 1) q k) = _
        rw [if_neg hq]
      rw [e]
      obtain ⟨a1, a2, a3, a4⟩ := ih (n + 1) k (by omega) (by omega) (by omega) (by omega)
      exact ⟨by omega, a2, a3, by omega⟩
theorem jnth_spec {q : Int → Bool} {k : Int} (h0 : 0 ≤ k) (h : k < jall q) : 1 ≤ jnth q k ∧ jnth q k ≤ 90 ∧ q (jnth q k) = true ∧ jrk q (jnth q k) = k := by
  have := jnt_spec (q := q) (jrk_91 q) 90 1 k (by omega) (by omega) h0 (by rw [jrk_1]; omega)
  rw [jrk_1, Int.zero_add] at this
  exact this
theorem jnth_at {q : Int → Bool} {n : Int} (h : 1 ≤ n) (h9 : n ≤ 90) (hq : q n = true) : jnth q (jrk q n) = n := by
  have hlt : jrk q n < jall q := by
    rw [← jrk_91]
    exact jrk_lt h (by omega) hq
  obtain ⟨a1, a2, a3, a4⟩ := jnth_spec (jrk_nn q n) hlt
  exact jrk_inj a1 h a3 hq a4
theorem jnth_of {q : Int → Bool} {n k : Int} (h : 1 ≤ n) (h9 : n ≤ 90) (hq : q n = true) (hk : jrk q n = k) : n = jnth q k := by
  rw [← hk, jnth_at h h9 hq]
/-- without the number m -/
def jwo (q : Int → Bool) (m : Int) : Int → Bool := fun n => q n && decide (n ≠ m)
theorem jrk_wo {q : Int → Bool} {m : Int} (hm : 1 ≤ m) (hq : q m = true) : ∀ k : Nat, jrk (jwo q m) (1 + k) = jrk q (1 + k) - jb (m < 1 + k) := by
  intro k
  induction k with
  | zero => rw [jb_neg (by omega)]; rfl
  | succ k ih =>
    have e1 := jrk_succ (q := jwo q m) (n := 1 + k) (by omega)
    have e2 := jrk_succ (q := q) (n := 1 + k) (by omega)
    rw [show (1 : Int) + ((k + 1 : Nat) : Int) = 1 + k + 1 by omega, e1, e2, ih]
    by_cases hk : (1 : Int) + k = m
    · rw [jb_neg (P := jwo q m (1 + k) = true) (by unfold jwo; simp [hk]), jb_pos (P := q (1 + k) = true) (by rw [hk]; exact hq), jb_neg (P := m < 1 + k) (by omega), jb_pos (P := m < 1 + k + 1) (by omega)]
      omega
    · have : jb (jwo q m (1 + k) = true) = jb (q (1 + k) = true) := jb_congr (by unfold jwo; simp [hk])
      rw [this]
      have h2 : jb (m < 1 + k) = jb (m < 1 + k + 1) := jb_congr (by omega)
      rw [h2]
      omega
theorem jrk_wo' {q : Int → Bool} {m n : Int} (hm : 1 ≤ m) (hq : q m = true) (hn : 1 ≤ n) : jrk (jwo q m) n = jrk q n - jb (m < n) := by
  have := jrk_wo hm hq (n - 1).toNat
  rw [show (1 : Int) + ((n - 1).toNat : Int) = n by omega] at this
  exact this
theorem jall_wo {q : Int → Bool} {m : Int} (hm : 1 ≤ m) (h9 : m ≤ 90) (hq : q m = true) : jall (jwo q m) = jall q - 1 := by
  have := jrk_wo' hm hq (n := 91) (by omega)
  rw [jrk_91, jrk_91, jb_pos (by omega)] at this
  exact this
/-- a drum holds, ascending, the numbers that are such -/
def jdi (q : Int → Bool) (f : Int → Int) (s : Int) : Prop := s = jall q ∧ ∀ j : Int, 0 ≤ j → j < s → f j = jnth q j
theorem jdi_take {q : Int → Bool} {f : Int → Int} {s k : Int} (h : jdi q f s) (h0 : 0 ≤ k) (h1 : k < s) : jdi (jwo q (jnth q k)) (jtk f s k) (s - 1) := by
  obtain ⟨hs, hf⟩ := h
  obtain ⟨n1, n2, n3, n4⟩ := jnth_spec (q := q) h0 (by omega)
  refine ⟨by rw [jall_wo n1 n2 n3]; omega, fun j j0 j1 => ?_⟩
  have step : ∀ i : Int, 0 ≤ i → i < s → i ≠ k → (j = i - jb (k < i)) → jnth q i = jnth (jwo q (jnth q k)) j := by
    intro i i0 i1 ik hj
    obtain ⟨m1, m2, m3, m4⟩ := jnth_spec (q := q) i0 (by omega)
    have hne : jnth q i ≠ jnth q k := fun e => ik (by rw [← m4, ← n4, e])
    refine jnth_of m1 m2 (by unfold jwo; simp [m3, hne]) ?_
    rw [jrk_wo' n1 n3 m1, m4, hj]
    congr 1
    refine jb_congr ?_
    constructor
    · intro hlt
      have := jrk_lt n1 hlt n3
      omega
    · intro hlt
      rcases Int.lt_trichotomy (jnth q k) (jnth q i) with b | b | b
      · exact b
      · exact absurd b.symm hne
      · have := jrk_lt m1 b m3
        omega
  unfold jtk jcpy
  by_cases hjk : j < k
  · rw [if_neg (by omega), hf j j0 (by omega)]
    exact step j j0 (by omega) (by omega) (by rw [jb_neg (by omega)]; omega)
  · rw [if_pos (by omega), show k + 1 + (j - k) = j + 1 by omega, hf (j + 1) (by omega) (by omega)]
    exact step (j + 1) (by omega) (by omega) (by omega) (by rw [jb_pos (by omega)]; omega)
theorem jdi_congr {q q' : Int → Bool} {f : Int → Int} {s : Int} (h : jdi q f s) (hq : ∀ n, 1 ≤ n → n ≤ 90 → q n = q' n) : jdi q' f s := by
  have hrk : ∀ n, 1 ≤ n → n ≤ 91 → jrk q n = jrk q' n := fun n n1 n2 => jcnt_congr (fun z z1 z2 => hq _ (by omega) (by omega))
  have hall : jall q = jall q' := hrk 91 (by omega) (by omega)
  refine ⟨h.1.trans hall, fun j j0 j1 => ?_⟩
  obtain ⟨m1, m2, m3, m4⟩ := jnth_spec (q := q) j0 (by rw [← h.1]; exact j1)
  rw [h.2 j j0 j1]
  exact jnth_of m1 m2 (by rw [← hq _ m1 m2]; exact m3) (by rw [← hrk _ m1 (by omega)]; exact m4)
theorem jnth_congr {q q' : Int → Bool} {k : Int} (hq : ∀ n, 1 ≤ n → n ≤ 90 → q n = q' n) (h0 : 0 ≤ k) (h1 : k < jall q) : jnth q k = jnth q' k := by
  have hrk : ∀ n, 1 ≤ n → n ≤ 91 → jrk q n = jrk q' n := fun n n1 n2 => jcnt_congr (fun z z1 z2 => hq _ (by omega) (by omega))
  obtain ⟨m1, m2, m3, m4⟩ := jnth_spec (q := q) h0 h1
  exact jnth_of m1 m2 (by rw [← hq _ m1 m2]; exact m3) (by rw [← hrk _ m1 (by omega)]; exact m4)

