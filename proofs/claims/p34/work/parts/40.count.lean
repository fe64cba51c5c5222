/-! counting and sums -/
theorem jup_ne {p : Int → Int} {z v k : Int} (h : k ≠ z) : jup p z v k = p k := by
  unfold jup
  rw [if_neg h]
theorem jup_at {p : Int → Int} {z v k : Int} (h : k = z) : jup p z v k = v := by
  unfold jup
  rw [if_pos h]
/-- two tests that differ at one point alone -/
theorem jcnt_pt {n : Nat} {q r : Int → Bool} {m : Int} (h0 : 0 ≤ m) (h1 : m < n) (hq : ∀ z : Int, 0 ≤ z → z < n → z ≠ m → q z = r z) : jcnt n q = jcnt n r + jb (q m = true) - jb (r m = true) := by
  induction n with
  | zero => omega
  | succ n ih =>
    rw [jcnt_succ n q, jcnt_succ n r]
    by_cases h : m = n
    · subst h
      rw [jcnt_congr (r := r) (fun z z0 z1 => hq z z0 (by omega) (by omega))]
      omega
    · rw [ih (by omega) (fun z z0 z1 z2 => hq z z0 (by omega) z2), hq n (by omega) (by omega) (fun e => h e.symm)]
      omega
theorem jcnt_rm {n : Nat} {q : Int → Bool} {m : Int} (h0 : 0 ≤ m) (h1 : m < n) (hq : q m = true) : jcnt n (fun z => q z && decide (z ≠ m)) = jcnt n q - 1 := by
  have e := jcnt_pt (n := n) (q := fun z => q z && decide (z ≠ m)) (r := q) h0 h1 (fun z _ _ zn => by simp [zn])
  have e1 : jb ((q m && decide (m ≠ m)) = true) = 0 := jb_neg (by simp)
  have e2 : jb (q m = true) = 1 := jb_pos hq
  have e3 : jcnt n (fun z => q z && decide (z ≠ m)) = jcnt n q + jb ((q m && decide (m ≠ m)) = true) - jb (q m = true) := e
  omega
/-- what goes one to one into another is no more -/
theorem jcnt_inj {n2 : Nat} (f : Int → Int) : ∀ (n1 : Nat) (q1 q2 : Int → Bool), (∀ z : Int, 0 ≤ z → z < n1 → q1 z = true → 0 ≤ f z ∧ f z < n2 ∧ q2 (f z) = true) → (∀ y z : Int, 0 ≤ y → y < n1 → 0 ≤ z → z < n1 → q1 y = true → q1 z = true → f y = f z → y = z) → jcnt n1 q1 ≤ jcnt n2 q2
  | 0, _, q2, _, _ => (jcnt_nn n2 q2).1
  | n + 1, q1, q2, h1, h2 => by
    rw [jcnt_succ n q1]
    by_cases hq : q1 n = true
    · obtain ⟨a1, a2, a3⟩ := h1 n (by omega) (by omega) hq
      have ih := jcnt_inj (n2 := n2) f n q1 (fun z => q2 z && decide (z ≠ f n)) (fun z z0 z1 zq => by
        obtain ⟨b1, b2, b3⟩ := h1 z z0 (by omega) zq
        refine ⟨b1, b2, ?_⟩
        have hne : f z ≠ f n := fun e => by
          have := h2 z n z0 (by omega) (by omega) (by omega) zq hq e
          omega
        simp [b3, hne]) (fun y z y0 y1 z0 z1 yq zq e => h2 y z y0 (by omega) z0 (by omega) yq zq e)
      have e := jcnt_rm (n := n2) (q := q2) a1 a2 a3
      rw [jb_pos hq]
      omega
    · rw [jb_neg hq]
      have := jcnt_inj (n2 := n2) f n q1 q2 (fun z z0 z1 zq => h1 z z0 (by omega) zq) (fun y z y0 y1 z0 z1 yq zq e => h2 y z y0 (by omega) z0 (by omega) yq zq e)
      omega
/-- one to one, both ways -/
theorem jcnt_bij {n1 n2 : Nat} {q1 q2 : Int → Bool} (f g : Int → Int) (hf : ∀ z : Int, 0 ≤ z → z < n1 → q1 z = true → 0 ≤ f z ∧ f z < n2 ∧ q2 (f z) = true ∧ g (f z) = z) (hg : ∀ z : Int, 0 ≤ z → z < n2 → q2 z = true → 0 ≤ g z ∧ g z < n1 ∧ q1 (g z) = true ∧ f (g z) = z) : jcnt n1 q1 = jcnt n2 q2 := by
  refine Int.le_antisymm ?_ ?_
  · refine jcnt_inj f n1 q1 q2 (fun z z0 z1 zq => ?_) (fun y z y0 y1 z0 z1 yq zq e => ?_)
    · obtain ⟨a, b, c, -⟩ := hf z z0 z1 zq
      exact ⟨a, b, c⟩
    · have ey := (hf y y0 y1 yq).2.2.2
      have ez := (hf z z0 z1 zq).2.2.2
      rw [← ey, ← ez, e]
  · refine jcnt_inj g n2 q2 q1 (fun z z0 z1 zq => ?_) (fun y z y0 y1 z0 z1 yq zq e => ?_)
    · obtain ⟨a, b, c, -⟩ := hg z z0 z1 zq
      exact ⟨a, b, c⟩
    · have ey := (hg y y0 y1 yq).2.2.2
      have ez := (hg z z0 z1 zq).2.2.2
      rw [← ey, ← ez, e]
theorem jcnt_add (a : Nat) (q : Int → Bool) : ∀ b : Nat, jcnt (a + b) q = jcnt a q + jcnt b (fun k => q (a + k))
  | 0 => by
    show jcnt a q = jcnt a q + 0
    omega
  | b + 1 => by
    show jcnt (a + b) q + jb (q ((a + b : Nat) : Int) = true) = jcnt a q + (jcnt b (fun k => q (a + k)) + jb (q ((a : Int) + (b : Int)) = true))
    rw [jcnt_add a q b, show ((a + b : Nat) : Int) = (a : Int) + (b : Int) by omega]
    omega
theorem jcnt_front (q : Int → Bool) : ∀ n : Nat, jcnt (n + 1) q = jb (q 0 = true) + jcnt n (fun k => q (k + 1))
  | 0 => by
    show 0 + jb (q ((0 : Nat) : Int) = true) = jb (q 0 = true) + 0
    rw [show ((0 : Nat) : Int) = 0 from rfl]
    omega
  | n + 1 => by
    show jcnt (n + 1) q + jb (q ((n + 1 : Nat) : Int) = true) = jb (q 0 = true) + (jcnt n (fun k => q (k + 1)) + jb (q ((n : Int) + 1) = true))
    rw [jcnt_front q n, show ((n + 1 : Nat) : Int) = (n : Int) + 1 by omega]
    omega
theorem jcnt_rev (q : Int → Bool) : ∀ n : Nat, jcnt n (fun k => q ((n : Int) - 1 - k)) = jcnt n q
  | 0 => rfl
  | n + 1 => by
    rw [jcnt_front, jcnt_succ n q, ← jcnt_rev q n]
    have e1 : jcnt n (fun k => q (((n + 1 : Nat) : Int) - 1 - (k + 1))) = jcnt n (fun k => q ((n : Int) - 1 - k)) := jcnt_congr (fun z z0 z1 => by
      show q (((n + 1 : Nat) : Int) - 1 - (z + 1)) = q ((n : Int) - 1 - z)
      rw [show ((n + 1 : Nat) : Int) - 1 - (z + 1) = (n : Int) - 1 - z by omega])
    have e2 : jb (q (((n + 1 : Nat) : Int) - 1 - 0) = true) = jb (q (n : Int) = true) := by
      rw [show ((n + 1 : Nat) : Int) - 1 - 0 = (n : Int) by omega]
    rw [e1, e2]
    omega
theorem jcnt_all {n : Nat} {q : Int → Bool} (h : ∀ z : Int, 0 ≤ z → z < n → q z = true) : jcnt n q = n := by
  induction n with
  | zero => rfl
  | succ n ih =>
    rw [jcnt_succ, ih (fun z z0 z1 => h z z0 (by omega)), jb_pos (h n (by omega) (by omega))]
    omega
/-- those that are, and those that are not -/
theorem jcnt_not {n : Nat} {q r : Int → Bool} (h : ∀ z : Int, 0 ≤ z → z < n → r z = !q z) : jcnt n q + jcnt n r = n := by
  induction n with
  | zero => rfl
  | succ n ih =>
    have hn := h n (by omega) (by omega)
    have ih := ih (fun z z0 z1 => h z z0 (by omega))
    rw [jcnt_succ n q, jcnt_succ n r]
    cases hq : q (n : Int) with
    | true =>
      rw [hq] at hn
      rw [hn, jb_pos (P := true = true) rfl, jb_neg (P := (!true) = true) (by decide)]
      omega
    | false =>
      rw [hq] at hn
      rw [hn, jb_pos (P := (!false) = true) rfl, jb_neg (P := false = true) (by decide)]
      omega
theorem jcnt_zero_all {n : Nat} {q : Int → Bool} (h : jcnt n q = 0) : ∀ z : Int, 0 ≤ z → z < n → q z = false := by
  intro z z0 z1
  cases hq : q z with
  | false => rfl
  | true => exact absurd h (jcnt_pos z0 z1 hq)
theorem jcnt_dec {n : Nat} {p q : Int → Prop} [∀ z, Decidable (p z)] [∀ z, Decidable (q z)] (h : ∀ z : Int, 0 ≤ z → z < n → (p z ↔ q z)) : jcnt n (fun z => decide (p z)) = jcnt n (fun z => decide (q z)) :=
  jcnt_congr (fun z z0 z1 => decide_eq_decide.mpr (h z z0 z1))
def jsum : Nat → (Int → Int) → Int
  | 0, _ => 0
  | n + 1, f => jsum n f + f n
theorem jsum_succ (n : Nat) (f : Int → Int) : jsum (n + 1) f = jsum n f + f n := rfl
theorem jsum_congr {n : Nat} {f g : Int → Int} (h : ∀ z : Int, 0 ≤ z → z < n → f z = g z) : jsum n f = jsum n g := by
  induction n with
  | zero => rfl
  | succ n ih => rw [jsum_succ, jsum_succ, ih (fun z z0 z1 => h z z0 (by omega)), h n (by omega) (by omega)]
theorem jsum_pt {n : Nat} {f g : Int → Int} {m : Int} (h0 : 0 ≤ m) (h1 : m < n) (hq : ∀ z : Int, 0 ≤ z → z < n → z ≠ m → f z = g z) : jsum n f = jsum n g + f m - g m := by
  induction n with
  | zero => omega
  | succ n ih =>
    rw [jsum_succ n f, jsum_succ n g]
    by_cases h : m = n
    · subst h
      rw [jsum_congr (g := g) (fun z z0 z1 => hq z z0 (by omega) (by omega))]
      omega
    · rw [ih (by omega) (fun z z0 z1 z2 => hq z z0 (by omega) z2), hq n (by omega) (by omega) (fun e => h e.symm)]
      omega
theorem jsum_zero {n : Nat} {f : Int → Int} (h : ∀ z : Int, 0 ≤ z → z < n → f z = 0) : jsum n f = 0 := by
  induction n with
  | zero => rfl
  | succ n ih => rw [jsum_succ, ih (fun z z0 z1 => h z z0 (by omega)), h n (by omega) (by omega)]; rfl
/-- next, told by an Int -/
theorem jsum_next {f : Int → Int} {i : Int} (h : 0 ≤ i) : jsum (i + 1).toNat f = jsum i.toNat f + f i := by
  rw [show (i + 1).toNat = i.toNat + 1 by omega, jsum_succ, show (i.toNat : Int) = i by omega]
/-! rows of places -/
theorem jrs_up {P : Int → Int} {r c v : Int} (hc : 0 ≤ c ∧ c < 9) : jrs (jup P (r * 9 + c) v) r = jrs P r + jb (v ≠ 0) - jb (P (r * 9 + c) ≠ 0) := by
  have e : jrs (jup P (r * 9 + c) v) r = jrs P r + jb (decide (jup P (r * 9 + c) v (r * 9 + c) ≠ 0) = true) - jb (decide (P (r * 9 + c) ≠ 0) = true) := jcnt_pt (n := 9) (q := fun z => decide (jup P (r * 9 + c) v (r * 9 + z) ≠ 0)) (r := fun z => decide (P (r * 9 + z) ≠ 0)) (m := c) hc.1 (by omega) (fun z z0 z1 zn => by
    show decide (jup P (r * 9 + c) v (r * 9 + z) ≠ 0) = decide (P (r * 9 + z) ≠ 0)
    rw [jup_ne (by omega)])
  have e1 : jb (decide (jup P (r * 9 + c) v (r * 9 + c) ≠ 0) = true) = jb (v ≠ 0) := jb_congr (by rw [jup_at rfl]; exact decide_eq_true_iff)
  have e2 : jb (decide (P (r * 9 + c) ≠ 0) = true) = jb (P (r * 9 + c) ≠ 0) := jb_congr decide_eq_true_iff
  rw [e, e1, e2]
theorem jrs_up_ne {P : Int → Int} {r r' c v : Int} (hc : 0 ≤ c ∧ c < 9) (h : r' ≠ r) : jrs (jup P (r * 9 + c) v) r' = jrs P r' := jcnt_congr (fun z z0 z1 => by
  show decide (jup P (r * 9 + c) v (r' * 9 + z) ≠ 0) = decide (P (r' * 9 + z) ≠ 0)
  rw [jup_ne (by omega)])
theorem jcs_up_ne {P : Int → Int} {r c k v : Int} (hc : 0 ≤ c ∧ c < 9) (h : k ≠ r / 3) : jcs (jup P (r * 9 + c) v) k = jcs P k := by
  unfold jcs
  rw [jrs_up_ne hc (by omega), jrs_up_ne hc (by omega), jrs_up_ne hc (by omega)]
theorem jrs_congr {P P' : Int → Int} {r : Int} (h : ∀ z : Int, r * 9 ≤ z → z < r * 9 + 9 → P z = P' z) : jrs P r = jrs P' r := jcnt_congr (fun z z0 z1 => by
  show decide (P (r * 9 + z) ≠ 0) = decide (P' (r * 9 + z) ≠ 0)
  rw [h _ (by omega) (by omega)])
theorem jcs_congr {P P' : Int → Int} {c : Int} (h : ∀ z : Int, c * 27 ≤ z → z < c * 27 + 27 → P z = P' z) : jcs P c = jcs P' c := by
  unfold jcs
  rw [jrs_congr (P := P) (P' := P') (r := c * 3) (fun z z0 z1 => h z (by omega) (by omega)), jrs_congr (P := P) (P' := P') (r := c * 3 + 1) (fun z z0 z1 => h z (by omega) (by omega)), jrs_congr (P := P) (P' := P') (r := c * 3 + 1 + 1) (fun z z0 z1 => h z (by omega) (by omega))]
/-- a card's places, one behind the other -/
theorem jcs_27 (P : Int → Int) (c : Int) : jcs P c = jcnt 27 (fun k => decide (P (c * 27 + k) ≠ 0)) := by
  have h1 := jcnt_add 9 (fun k => decide (P (c * 27 + k) ≠ 0)) 18
  have h2 := jcnt_add 9 (fun k => decide (P (c * 27 + (((9 : Nat) : Int) + k)) ≠ 0)) 9
  have e1 : jrs P (c * 3) = jcnt 9 (fun k => decide (P (c * 27 + k) ≠ 0)) := jcnt_congr (fun z z0 z1 => by
    show decide (P (c * 3 * 9 + z) ≠ 0) = decide (P (c * 27 + z) ≠ 0)
    rw [show c * 3 * 9 + z = c * 27 + z by omega])
  have e2 : jrs P (c * 3 + 1) = jcnt 9 (fun k => decide (P (c * 27 + (((9 : Nat) : Int) + k)) ≠ 0)) := jcnt_congr (fun z z0 z1 => by
    show decide (P ((c * 3 + 1) * 9 + z) ≠ 0) = decide (P (c * 27 + (((9 : Nat) : Int) + z)) ≠ 0)
    rw [show (c * 3 + 1) * 9 + z = c * 27 + (((9 : Nat) : Int) + z) by omega])
  have e3 : jrs P (c * 3 + 1 + 1) = jcnt 9 (fun k => decide (P (c * 27 + (((9 : Nat) : Int) + (((9 : Nat) : Int) + k))) ≠ 0)) := jcnt_congr (fun z z0 z1 => by
    show decide (P ((c * 3 + 1 + 1) * 9 + z) ≠ 0) = decide (P (c * 27 + (((9 : Nat) : Int) + (((9 : Nat) : Int) + z))) ≠ 0)
    rw [show (c * 3 + 1 + 1) * 9 + z = c * 27 + (((9 : Nat) : Int) + (((9 : Nat) : Int) + z)) by omega])
  have h3 : jcnt 27 (fun k => decide (P (c * 27 + k) ≠ 0)) = jcnt (9 + 18) (fun k => decide (P (c * 27 + k) ≠ 0)) := rfl
  have h4 : jcnt 18 (fun k => decide (P (c * 27 + (((9 : Nat) : Int) + k)) ≠ 0)) = jcnt (9 + 9) (fun k => decide (P (c * 27 + (((9 : Nat) : Int) + k)) ≠ 0)) := rfl
  unfold jcs
  rw [e1, e2, e3, h3, h1, h4, h2]
  omega

