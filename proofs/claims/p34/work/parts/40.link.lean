/-! what ties a book's parts; counting -/
/-- the numbers that aren't drawn -/
def jund (B : zB) : Int → Bool := fun n => decide (B 7 n = 0)
def jlk (B : zB) : Prop := (∀ n, 1 ≤ n → n ≤ 90 → B 1 n ≠ -1 → B 0 (B 1 n * 9 + jcol n) = n) ∧ (∀ z, 0 ≤ z → z < 162 → B 0 z ≠ 0 → 1 ≤ B 0 z ∧ B 1 (B 0 z) = z / 9 ∧ jcol (B 0 z) = z % 9) ∧ (B 2 0 = 90 - jall (jfree B)) ∧ (∀ r, 0 ≤ r → r < 18 → jrs (B 0) r ≤ 5) ∧ (jdi (jund B) (B 3) (B 4 0)) ∧ (∀ k, 0 ≤ k → k < B 12 0 → 1 ≤ B 5 k ∧ B 7 (B 5 k) = k + 1) ∧ (∀ n, 1 ≤ n → n ≤ 90 → B 7 n ≠ 0 → B 5 (B 7 n - 1) = n) ∧ (∀ c, 0 ≤ c → c < 6 → jbit (B 11 0) c = 1 → jcs (B 0) c = 15) ∧ (∀ g, 0 ≤ g → g < 4 → (B 9 g = 0 ↔ B 10 g = 0))
theorem jlk.pr {B : zB} (h : jlk B) : ∀ n, 1 ≤ n → n ≤ 90 → B 1 n ≠ -1 → B 0 (B 1 n * 9 + jcol n) = n := h.1
theorem jlk.rp {B : zB} (h : jlk B) : ∀ z, 0 ≤ z → z < 162 → B 0 z ≠ 0 → 1 ≤ B 0 z ∧ B 1 (B 0 z) = z / 9 ∧ jcol (B 0 z) = z % 9 := h.2.1
theorem jlk.sz {B : zB} (h : jlk B) : B 2 0 = 90 - jall (jfree B) := h.2.2.1
theorem jlk.r5 {B : zB} (h : jlk B) : ∀ r, 0 ≤ r → r < 18 → jrs (B 0) r ≤ 5 := h.2.2.2.1
theorem jlk.di {B : zB} (h : jlk B) : jdi (jund B) (B 3) (B 4 0) := h.2.2.2.2.1
theorem jlk.dk {B : zB} (h : jlk B) : ∀ k, 0 ≤ k → k < B 12 0 → 1 ≤ B 5 k ∧ B 7 (B 5 k) = k + 1 := h.2.2.2.2.2.1
theorem jlk.kd {B : zB} (h : jlk B) : ∀ n, 1 ≤ n → n ≤ 90 → B 7 n ≠ 0 → B 5 (B 7 n - 1) = n := h.2.2.2.2.2.2.1
theorem jlk.bw {B : zB} (h : jlk B) : ∀ c, 0 ≤ c → c < 6 → jbit (B 11 0) c = 1 → jcs (B 0) c = 15 := h.2.2.2.2.2.2.2.1
theorem jlk.wg {B : zB} (h : jlk B) : ∀ g, 0 ≤ g → g < 4 → (B 9 g = 0 ↔ B 10 g = 0) := h.2.2.2.2.2.2.2.2
/-! counting -/
theorem jcnt_rm {p : Int → Bool} {c0 : Int} : ∀ M : Nat, 0 ≤ c0 → c0 < M → p c0 = true → jcnt M p = jcnt M (fun c => p c && decide (c ≠ c0)) + 1
  | 0, h0, h1, _ => absurd h1 (by omega)
  | M + 1, h0, h1, hp => by
    rw [jcnt_succ, jcnt_succ]
    by_cases hc : c0 = M
    · rw [jb_pos (by rw [← hc]; exact hp), jb_neg (by simp [hc]), Int.add_zero]
      congr 1
      refine jcnt_congr fun z z0 z1 => ?_
      have : z ≠ c0 := by omega
      simp [this]
    · rw [jcnt_rm M h0 (by omega) hp]
      have hne : ((M : Nat) : Int) ≠ c0 := fun e => hc e.symm
      have e : (p (M : Int) && decide ((M : Int) ≠ c0)) = p (M : Int) := by simp [hne]
      rw [e]
      omega
theorem jcnt_bij {M : Nat} (f g : Int → Int) : ∀ (N : Nat) {q p : Int → Bool}, (∀ z : Int, 0 ≤ z → z < N → q z = true → 0 ≤ f z ∧ f z < M ∧ p (f z) = true ∧ g (f z) = z) → (∀ c : Int, 0 ≤ c → c < M → p c = true → 0 ≤ g c ∧ g c < N ∧ q (g c) = true ∧ f (g c) = c) → jcnt N q = jcnt M p
  | 0, q, p, hf, hg => by
    refine Eq.trans rfl (jcnt_none fun k k0 k1 => ?_).symm
    by_cases hp : p k = true
    · have := hg k k0 k1 hp
      omega
    · simpa using hp
  | N + 1, q, p, hf, hg => by
    rw [jcnt_succ]
    by_cases hq : q (N : Int) = true
    · obtain ⟨f0, f1, f2, f3⟩ := hf N (by omega) (by omega) hq
      rw [jb_pos hq, jcnt_rm M f0 f1 f2]
      congr 1
      refine jcnt_bij f g N (fun z z0 z1 hz => ?_) (fun c c0 c1 hc => ?_)
      · obtain ⟨a0, a1, a2, a3⟩ := hf z z0 (by omega) hz
        refine ⟨a0, a1, ?_, a3⟩
        have : f z ≠ f N := fun e => by
          rw [e, f3] at a3
          omega
        simp [a2, this]
      · rw [Bool.and_eq_true] at hc
        obtain ⟨a0, a1, a2, a3⟩ := hg c c0 c1 hc.1
        have hne := of_decide_eq_true hc.2
        refine ⟨a0, ?_, a2, a3⟩
        have : g c ≠ N := fun e => by
          rw [e] at a3
          exact hne a3.symm
        omega
    · rw [jb_neg hq, Int.add_zero]
      refine jcnt_bij f g N (fun z z0 z1 hz => hf z z0 (by omega) hz) (fun c c0 c1 hc => ?_)
      obtain ⟨a0, a1, a2, a3⟩ := hg c c0 c1 hc
      refine ⟨a0, ?_, a2, a3⟩
      have : g c ≠ N := fun e => hq (by rw [← e]; exact a2)
      omega
theorem jcnt_add {q p r : Int → Bool} : ∀ N : Nat, (∀ z : Int, 0 ≤ z → z < N → jb (q z = true) = jb (p z = true) + jb (r z = true)) → jcnt N q = jcnt N p + jcnt N r
  | 0, _ => rfl
  | N + 1, h => by
    rw [jcnt_succ, jcnt_succ, jcnt_succ, h N (by omega) (by omega), jcnt_add N (fun z z0 z1 => h z z0 (by omega))]
    omega
section LK
variable {B : zB}
theorem jcol_9 {n : Int} (h : 1 ≤ n ∧ n ≤ 90) : 0 ≤ jcol n ∧ jcol n < 9 := jcol_r (by omega)
/-- by numbers, by columns -/
theorem jrow_cnt (ok : jok B) (lk : jlk B) {r : Int} (hr : 0 ≤ r ∧ r < 18) (Q : Int → Bool) : jcnt 90 (fun z => decide (B 1 (z + 1) = r) && Q (z + 1)) = jcnt 9 (fun c => decide (B 0 (r * 9 + c) ≠ 0) && Q (B 0 (r * 9 + c))) := by
  refine jcnt_bij (fun z => jcol (z + 1)) (fun c => B 0 (r * 9 + c) - 1) 90 (fun z z0 z1 hz => ?_) (fun c c0 c1 hc => ?_)
  · rw [Bool.and_eq_true] at hz
    have h1 := of_decide_eq_true hz.1
    have hc := jcol_9 (n := z + 1) (by omega)
    have hp := lk.pr (z + 1) (by omega) (by omega) (by omega)
    rw [h1] at hp
    refine ⟨hc.1, hc.2, ?_, ?_⟩
    · show (decide (B 0 (r * 9 + jcol (z + 1)) ≠ 0) && Q (B 0 (r * 9 + jcol (z + 1)))) = true
      rw [hp, hz.2, Bool.and_true]
      exact decide_eq_true (by omega)
    · show B 0 (r * 9 + jcol (z + 1)) - 1 = z
      rw [hp]
      omega
  · rw [Bool.and_eq_true] at hc
    have h1 := of_decide_eq_true hc.1
    have h2 := lk.rp (r * 9 + c) (by omega) (by omega) h1
    have h3 := ok.P (r * 9 + c)
    show 0 ≤ B 0 (r * 9 + c) - 1 ∧ B 0 (r * 9 + c) - 1 < 90 ∧ (decide (B 1 (B 0 (r * 9 + c) - 1 + 1) = r) && Q (B 0 (r * 9 + c) - 1 + 1)) = true ∧ jcol (B 0 (r * 9 + c) - 1 + 1) = c
    rw [show B 0 (r * 9 + c) - 1 + 1 = B 0 (r * 9 + c) by omega]
    refine ⟨by omega, by omega, ?_, by omega⟩
    rw [hc.2, Bool.and_true]
    exact decide_eq_true (by omega)
def jorw (B : zB) (r k : Int) : Int := if k = 0 then jrs (B 0) r else if k = 1 then jrs (B 0) r - jur (B 0) (B 7) r else jrs (B 0) r - jur (B 0) (B 8) r
theorem jrs_jur (P mk : Int → Int) (hP : ∀ z, 0 ≤ P z) (r : Int) : jrs P r - jur P mk r = jcnt 9 (fun c => decide (P (r * 9 + c) ≠ 0) && decide (mk (P (r * 9 + c)) ≠ 0)) := by
  have : jrs P r = jur P mk r + jcnt 9 (fun c => decide (P (r * 9 + c) ≠ 0) && decide (mk (P (r * 9 + c)) ≠ 0)) := by
    refine jcnt_add 9 fun z z0 z1 => ?_
    have hp := hP (r * 9 + z)
    by_cases h1 : P (r * 9 + z) = 0
    · rw [jb_neg (by simp [h1]), jb_neg (by simp [h1]), jb_neg (by simp [h1])]
      rfl
    · by_cases h2 : mk (P (r * 9 + z)) = 0
      · rw [jb_pos (by simpa using h1), jb_pos (by simp [h2]; omega), jb_neg (by simp [h2])]
        rfl
      · rw [jb_pos (by simpa using h1), jb_neg (by simp [h2]), jb_pos (by simp [h1, h2])]
        rfl
  omega
theorem jorw_eq (ok : jok B) (lk : jlk B) {r k : Int} (hr : 0 ≤ r ∧ r < 18) : jorw B r k = jcnt 90 (fun z => decide (B 1 (z + 1) = r) && (decide (k = 0) || (if k = 1 then decide (B 7 (z + 1) ≠ 0) else decide (B 8 (z + 1) ≠ 0)))) := by
  have h := jrow_cnt ok lk hr (fun n => decide (k = 0) || (if k = 1 then decide (B 7 n ≠ 0) else decide (B 8 n ≠ 0)))
  rw [h]
  unfold jorw
  by_cases k0 : k = 0
  · rw [if_pos k0]
    refine jcnt_congr fun c _ _ => ?_
    simp [k0]
  · rw [if_neg k0]
    by_cases k1 : k = 1
    · rw [if_pos k1, jrs_jur _ _ (fun z => (ok.P z).1)]
      refine jcnt_congr fun c _ _ => ?_
      simp [k1]
    · rw [if_neg k1, jrs_jur _ _ (fun z => (ok.P z).1)]
      refine jcnt_congr fun c _ _ => ?_
      simp [k0, k1]
theorem jorw_r (B : zB) (r k : Int) : 0 ≤ jrs (B 0) r ∧ jrs (B 0) r ≤ 9 ∧ -9 ≤ jorw B r k ∧ jorw B r k ≤ 9 := by
  have h1 := jrs_r (B 0) r
  have h2 := jur_r (B 0) (B 7) r
  have h3 := jur_r (B 0) (B 8) r
  unfold jorw
  split
  · omega
  · split <;> omega
theorem jwh_iff (lk : jlk B) {c : Int} (hc : 0 ≤ c ∧ c < 6) : (jrs (B 0) (c * 3 + 0) = 5 ∧ jrs (B 0) (c * 3 + 1) = 5 ∧ jrs (B 0) (c * 3 + 2) = 5) ↔ jcs (B 0) c = 15 := by
  have h0 := lk.r5 (c * 3) (by omega) (by omega)
  have h1 := lk.r5 (c * 3 + 1) (by omega) (by omega)
  have h2 := lk.r5 (c * 3 + 2) (by omega) (by omega)
  unfold jcs
  rw [show c * 3 + 0 = c * 3 by omega, show c * 3 + 1 + 1 = c * 3 + 2 by omega]
  omega
theorem jrap_eq (B : zB) (r n : Int) : jrap B r n = if B 1 n ≠ -1 then 1 else if B 0 (r * 9 + jcol n) ≠ 0 then 2 else if jrs (B 0) r = 5 then 3 else if jbrk (B 0) r n then 4 else if jbit (B 11 0) (r / 3) = 1 then 5 else 0 := by
  unfold jrap jra
  by_cases h1 : B 1 n ≠ -1
  · rw [if_pos h1, if_pos h1, if_neg (by omega)]
  · rw [if_neg h1, if_neg h1]
    by_cases h2 : B 0 (r * 9 + jcol n) ≠ 0
    · rw [if_pos h2, if_pos h2, if_neg (by omega)]
    · rw [if_neg h2, if_neg h2]
      by_cases h3 : jrs (B 0) r = 5
      · rw [if_pos h3, if_pos h3, if_neg (by omega)]
      · rw [if_neg h3, if_neg h3]
        by_cases h4 : jbrk (B 0) r n
        · rw [if_pos h4, if_pos h4, if_neg (by omega)]
        · rw [if_neg h4, if_neg h4]
          by_cases h5 : jbit (B 11 0) (r / 3) = 1
          · rw [if_pos ⟨rfl, h5⟩, if_pos h5]
          · rw [if_neg (fun q => h5 q.2), if_neg h5]
end LK

