/-! all balls; cards in the order of calls; small facts -/
section TI
variable {B : zB} {c : Int}
theorem jb_1 {P : Prop} [Decidable P] (h : jb P = 1) : P := by
  unfold jb at h
  by_cases hp : P
  · exact hp
  · rw [if_neg hp] at h
    exact absurd h (by decide)
theorem jcnt_ex {q : Int → Bool} {N : Nat} (h : jcnt N q ≠ 0) : ∃ z : Int, 0 ≤ z ∧ z < N ∧ q z = true := by
  by_cases hx : ∃ z : Int, 0 ≤ z ∧ z < N ∧ q z = true
  · exact hx
  · refine absurd (jcnt_none fun k k0 k1 => ?_) h
    by_cases hq : q k = true
    · exact absurd ⟨k, k0, k1, hq⟩ hx
    · simpa using hq
def jall9 (B : zB) : zB := jdrs (B 4 0).toNat B
theorem jdrs_5 (B : zB) : ∀ m : Nat, ∀ i : Int, i < B 12 0 + m → jdrs m B 5 i = if i < B 12 0 then B 5 i else jball (jdrs (i - B 12 0).toNat B)
  | 0, i, h => by
    rw [if_pos (by omega)]
    rfl
  | m + 1, i, h => by
    show jdr1 (jdrs m B) 5 i = _
    rw [(jdr1_5 _).1, jdrs_ca]
    by_cases e : i = B 12 0 + m
    · rw [jup_at e, if_neg (by omega), show (i - B 12 0).toNat = m by omega]
    · rw [jup_ne e]
      exact jdrs_5 B m i (by omega)
theorem jod_all (ok : jok B) {i : Int} (h : i < 90) : jall9 B 5 i = jod B i := by
  have hco := ok.ca
  have hds := ok.ds
  unfold jall9 jod
  exact jdrs_5 B _ i (by omega)
theorem jall9_ca (ok : jok B) : jall9 B 12 0 = 90 := by
  have hco := ok.ca
  have hds := ok.ds
  unfold jall9
  rw [jdrs_ca]
  omega
theorem jok_all9 (ok : jok B) : jok (jall9 B) := by
  have hco := ok.ca
  have hds := ok.ds
  exact jok_drs ok _ (by omega)
theorem jlk_all9 (ok : jok B) (lk : jlk B) : jlk (jall9 B) := by
  have hco := ok.ca
  have hds := ok.ds
  exact jlk_drs ok lk _ (by omega)
theorem jdrs_p (B : zB) : ∀ m : Nat, jdrs m B 0 = B 0 ∧ jdrs m B 1 = B 1
  | 0 => ⟨rfl, rfl⟩
  | m + 1 => by
    obtain ⟨p0, p1, -⟩ := jdr1_p (jdrs m B)
    obtain ⟨i0, i1⟩ := jdrs_p B m
    exact ⟨p0.trans i0, p1.trans i1⟩
theorem jcall_od (ok : jok B) (lk : jlk B) {n : Int} (hn : 1 ≤ n ∧ n ≤ 90) : 1 ≤ jall9 B 7 n ∧ jall9 B 7 n ≤ 90 ∧ jod B (jall9 B 7 n - 1) = n := by
  have ok9 := jok_all9 ok
  have lk9 := jlk_all9 ok lk
  have hca9 := jall9_ca ok
  have hda := ok9.da n
  have hne : jall9 B 7 n ≠ 0 := by
    intro h0
    have hz := lk9.di.1
    rw [ok9.ds, hca9] at hz
    have := jcnt_pos (n := 90) (q := fun z => jund (jall9 B) (z + 1)) (k := n - 1) (by omega) (by omega) (by show decide (jall9 B 7 (n - 1 + 1) = 0) = true; rw [show n - 1 + 1 = n by omega]; exact decide_eq_true h0)
    exact this hz.symm
  refine ⟨by omega, hda.2, ?_⟩
  rw [← jod_all ok (by omega)]
  exact lk9.kd n hn.1 hn.2 hne
theorem jod_call (ok : jok B) (lk : jlk B) {i : Int} (hi : 0 ≤ i ∧ i < 90) : 1 ≤ jod B i ∧ jod B i ≤ 90 ∧ jall9 B 7 (jod B i) = i + 1 := by
  have ok9 := jok_all9 ok
  have lk9 := jlk_all9 ok lk
  have hca9 := jall9_ca ok
  have := lk9.dk i hi.1 (by omega)
  rw [jod_all ok hi.2] at this
  have h2 := ok9.dr i
  rw [jod_all ok hi.2] at h2
  exact ⟨this.1, h2.2, this.2⟩
theorem jlo_spec {od : Int → Int} {c : Int} : ∀ n : Nat, (jlo od B c n = -1 ∧ ∀ i : Int, 0 ≤ i → i < n → ¬ json B c (od i)) ∨ (∃ i : Int, 0 ≤ i ∧ i < n ∧ json B c (od i) ∧ jlo od B c n = i + 1 ∧ ∀ j : Int, i < j → j < n → ¬ json B c (od j))
  | 0 => Or.inl ⟨rfl, fun i i0 i1 => absurd i1 (by omega)⟩
  | n + 1 => by
    by_cases hj : json B c (od n)
    · refine Or.inr ⟨n, by omega, by omega, hj, ?_, fun j j0 j1 => by omega⟩
      show (if json B c (od n) then (n : Int) + 1 else jlo od B c n) = _
      rw [if_pos hj]
    · have e : jlo od B c (n + 1) = jlo od B c n := by
        show (if json B c (od n) then (n : Int) + 1 else jlo od B c n) = _
        rw [if_neg hj]
      rw [e]
      rcases jlo_spec (od := od) (c := c) n with ⟨h1, h2⟩ | ⟨i, i0, i1, i2, i3, i4⟩
      · refine Or.inl ⟨h1, fun i i0 i1 => ?_⟩
        by_cases ei : i = n
        · rw [ei]
          exact hj
        · exact h2 i i0 (by omega)
      · refine Or.inr ⟨i, i0, by omega, i2, i3, fun j j0 j1 => ?_⟩
        by_cases ej : j = n
        · rw [ej]
          exact hj
        · exact i4 j j0 (by omega)
theorem jcard_cnt (ok : jok B) (lk : jlk B) {c : Int} (hc : 0 ≤ c ∧ c < 6) : jcnt 90 (fun i => decide (json B c (jod B i))) = jcs (B 0) c := by
  have h1 : jcnt 90 (fun i => decide (json B c (jod B i))) = jcnt 90 (fun z => decide (0 ≤ B 1 (z + 1) - c * 3 ∧ B 1 (z + 1) - c * 3 ≤ 2)) := by
    refine jcnt_bij (fun i => jod B i - 1) (fun z => jall9 B 7 (z + 1) - 1) 90 (fun i i0 i1 hi => ?_) (fun z z0 z1 hz => ?_)
    · have hi := of_decide_eq_true hi
      obtain ⟨a1, a2, a3⟩ := jod_call ok lk ⟨i0, i1⟩
      refine ⟨by show 0 ≤ jod B i - 1; omega, by show jod B i - 1 < 90; omega, decide_eq_true ?_, ?_⟩
      · rw [show jod B i - 1 + 1 = jod B i by omega]
        have := hi.2
        omega
      · show jall9 B 7 (jod B i - 1 + 1) - 1 = i
        rw [show jod B i - 1 + 1 = jod B i by omega, a3]
        omega
    · have hz := of_decide_eq_true hz
      obtain ⟨a1, a2, a3⟩ := jcall_od ok lk (n := z + 1) (by omega)
      refine ⟨by show 0 ≤ jall9 B 7 (z + 1) - 1; omega, by show jall9 B 7 (z + 1) - 1 < 90; omega, decide_eq_true ?_, ?_⟩
      · rw [a3]
        exact ⟨by omega, by omega, by omega⟩
      · show jod B (jall9 B 7 (z + 1) - 1) - 1 = z
        rw [a3]
        omega
  rw [h1]
  have r0 := jrow_cnt ok lk (r := c * 3) (by omega) (fun _ => true)
  have r1 := jrow_cnt ok lk (r := c * 3 + 1) (by omega) (fun _ => true)
  have r2 := jrow_cnt ok lk (r := c * 3 + 1 + 1) (by omega) (fun _ => true)
  simp only [Bool.and_true] at r0 r1 r2
  unfold jcs jrs
  rw [← r0, ← r1, ← r2]
  have h2 : jcnt 90 (fun z => decide (0 ≤ B 1 (z + 1) - c * 3 ∧ B 1 (z + 1) - c * 3 ≤ 1)) = jcnt 90 (fun z => decide (B 1 (z + 1) = c * 3)) + jcnt 90 (fun z => decide (B 1 (z + 1) = c * 3 + 1)) := by
    refine jcnt_add 90 fun z z0 z1 => ?_
    by_cases e0 : B 1 (z + 1) = c * 3
    · rw [jb_pos (decide_eq_true (by omega)), jb_pos (decide_eq_true e0), jb_neg (by rw [decide_eq_true_eq]; omega)]
      rfl
    · by_cases e1 : B 1 (z + 1) = c * 3 + 1
      · rw [jb_pos (decide_eq_true (by omega)), jb_neg (by rw [decide_eq_true_eq]; omega), jb_pos (decide_eq_true e1)]
        rfl
      · rw [jb_neg (by rw [decide_eq_true_eq]; omega), jb_neg (by rw [decide_eq_true_eq]; omega), jb_neg (by rw [decide_eq_true_eq]; omega)]
        rfl
  rw [← h2]
  refine jcnt_add 90 fun z z0 z1 => ?_
  by_cases e0 : 0 ≤ B 1 (z + 1) - c * 3 ∧ B 1 (z + 1) - c * 3 ≤ 1
  · rw [jb_pos (decide_eq_true (by omega)), jb_pos (decide_eq_true e0), jb_neg (by rw [decide_eq_true_eq]; omega)]
    rfl
  · by_cases e1 : B 1 (z + 1) = c * 3 + 1 + 1
    · rw [jb_pos (decide_eq_true (by omega)), jb_neg (by rw [decide_eq_true_eq]; omega), jb_pos (decide_eq_true e1)]
      rfl
    · rw [jb_neg (by rw [decide_eq_true_eq]; omega), jb_neg (by rw [decide_eq_true_eq]; omega), jb_neg (by rw [decide_eq_true_eq]; omega)]
      rfl
theorem jcnt_split {q : Int → Bool} {n : Nat} {i : Int} (h : n ≤ i) (hq : q i = true) : ∀ m : Nat, i < m → jcnt n q + 1 ≤ jcnt m q
  | 0, hm => absurd hm (by omega)
  | m + 1, hm => by
    rw [jcnt_succ]
    by_cases e : i = m
    · rw [jb_pos (by rw [← e]; exact hq)]
      have : ∀ k : Nat, n ≤ k → jcnt n q ≤ jcnt k q := by
        intro k
        induction k with
        | zero =>
          intro hk
          have : n = 0 := by omega
          rw [this]
          exact Int.le_refl _
        | succ k ih =>
          intro hk
          by_cases e2 : n = k + 1
          · rw [e2]
            exact Int.le_refl _
          · rw [jcnt_succ]
            have := ih (by omega)
            have := jb_r (P := q (k : Int) = true)
            omega
      have := this m (by omega)
      omega
    · have := jcnt_split h hq m (by omega)
      have := jb_r (P := q (m : Int) = true)
      omega
theorem jfb_eq (ok : jok B) (lk : jlk B) {c : Int} (hc : 0 ≤ c ∧ c < 6) (hw : jcs (B 0) c = 15) : (jfb B c 90 1 0).1 = jlc B c := by
  have ht := jcard_cnt ok lk hc
  rw [hw] at ht
  have key : ∀ (n : Nat) (i f : Int), (n : Int) + i = 91 → 1 ≤ i → f = jcnt (i - 1).toNat (fun i => decide (json B c (jod B i))) → f < 15 → (jfb B c n i f).1 = jlc B c := by
    intro n
    induction n with
    | zero =>
      intro i f h1 h2 h3 h4
      have e : (i - 1).toNat = 90 := by omega
      rw [e, ht] at h3
      omega
    | succ n ih =>
      intro i f h1 h2 h3 h4
      rw [jfb_succ]
      have hn := jcnt_next (q := fun i => decide (json B c (jod B i))) (i := i - 1) (by omega)
      have ejb : jb ((fun i => decide (json B c (jod B i))) (i - 1) = true) = jb (json B c (jod B (i - 1))) := jb_congr (by simp)
      rw [ejb, ← h3] at hn
      have hbr := jb_r (P := json B c (jod B (i - 1)))
      by_cases h5 : f + jb (json B c (jod B (i - 1))) = 15
      · rw [if_pos h5]
        show i = jlc B c
        have hj : json B c (jod B (i - 1)) := jb_1 (by omega)
        unfold jlc
        rcases jlo_spec (B := B) (od := jod B) (c := c) 90 with ⟨-, l2⟩ | ⟨j, j0, j1, j2, j3, j4⟩
        · exact absurd hj (l2 (i - 1) (by omega) (by omega))
        · rw [j3]
          rcases Int.lt_trichotomy j (i - 1) with e | e | e
          · exact absurd hj (j4 (i - 1) e (by omega))
          · omega
          · have := jcnt_split (q := fun i => decide (json B c (jod B i))) (n := (i - 1 + 1).toNat) (i := j) (by omega) (decide_eq_true j2) 90 j1
            rw [hn, ht] at this
            omega
      · rw [if_neg h5]
        refine ih (i + 1) _ (by omega) (by omega) ?_ (by omega)
        rw [show i + 1 - 1 = i - 1 + 1 by omega, hn]
  exact key 90 1 0 (by decide) (by decide) rfl (by decide)
theorem jsz_r (lk : jlk B) : 0 ≤ B 2 0 ∧ B 2 0 ≤ 90 := by
  have h1 := lk.sz
  have h2 := jall_r (jfree B)
  omega
theorem jur_le (P mk : Int → Int) (hP : ∀ z, 0 ≤ P z) (r : Int) : jur P mk r ≤ jrs P r := by
  unfold jur jrs
  refine jcnt_le 9 fun z z0 z1 h => ?_
  have := of_decide_eq_true h
  exact decide_eq_true (by omega)
theorem jgw_bit {W : Int → Int} {c g : Int} (hg : 0 ≤ g ∧ g < 4) : jbit (jgw W c) g = jbit (W g) c := by
  have h0 := jbit_r (W 0) c
  have h1 := jbit_r (W 1) c
  have h2 := jbit_r (W 2) c
  have h3 := jbit_r (W 3) c
  unfold jgw
  have key : ∀ (x0 x1 x2 x3 : Fin 2), jbit (((x0.val : Nat) : Int) + ((x1.val : Nat) : Int) * 2 + ((x2.val : Nat) : Int) * 4 + ((x3.val : Nat) : Int) * 8) 0 = x0.val ∧ jbit (((x0.val : Nat) : Int) + ((x1.val : Nat) : Int) * 2 + ((x2.val : Nat) : Int) * 4 + ((x3.val : Nat) : Int) * 8) 1 = x1.val ∧ jbit (((x0.val : Nat) : Int) + ((x1.val : Nat) : Int) * 2 + ((x2.val : Nat) : Int) * 4 + ((x3.val : Nat) : Int) * 8) 2 = x2.val ∧ jbit (((x0.val : Nat) : Int) + ((x1.val : Nat) : Int) * 2 + ((x2.val : Nat) : Int) * 4 + ((x3.val : Nat) : Int) * 8) 3 = x3.val := by decide +kernel
  obtain ⟨x0, e0⟩ := jfin (N := 2) (m := jbit (W 0) c) (by omega)
  obtain ⟨x1, e1⟩ := jfin (N := 2) (m := jbit (W 1) c) (by omega)
  obtain ⟨x2, e2⟩ := jfin (N := 2) (m := jbit (W 2) c) (by omega)
  obtain ⟨x3, e3⟩ := jfin (N := 2) (m := jbit (W 3) c) (by omega)
  obtain ⟨k0, k1, k2, k3⟩ := key x0 x1 x2 x3
  rw [e0, e1, e2, e3]
  rcases (by omega : g = 0 ∨ g = 1 ∨ g = 2 ∨ g = 3) with h | h | h | h
  · rw [h, e0]
    exact k0
  · rw [h, e1]
    exact k1
  · rw [h, e2]
    exact k2
  · rw [h, e3]
    exact k3
theorem jgw_r (W : Int → Int) (c : Int) : 0 ≤ jgw W c ∧ jgw W c < 16 := by
  have h0 := jbit_r (W 0) c
  have h1 := jbit_r (W 1) c
  have h2 := jbit_r (W 2) c
  have h3 := jbit_r (W 3) c
  unfold jgw
  omega
theorem jlt_succ (B : zB) {m : Int} (hm : 0 ≤ m) : jcnt 90 (fun z => decide (0 ≤ B 1 (z + 1) ∧ B 1 (z + 1) < m + 1)) = jcnt 90 (fun z => decide (0 ≤ B 1 (z + 1) ∧ B 1 (z + 1) < m)) + jcnt 90 (fun z => decide (B 1 (z + 1) = m)) := by
  refine jcnt_add 90 fun z _ _ => ?_
  generalize B 1 (z + 1) = x
  by_cases h1 : x = m
  · rw [jb_pos (decide_eq_true (by omega)), jb_neg (fun q => absurd (of_decide_eq_true q) (by omega)), jb_pos (decide_eq_true h1)]
    rfl
  · by_cases h2 : 0 ≤ x ∧ x < m
    · rw [jb_pos (decide_eq_true (by omega)), jb_pos (decide_eq_true h2), jb_neg (fun q => h1 (of_decide_eq_true q))]
      rfl
    · rw [jb_neg (fun q => absurd (of_decide_eq_true q) (by omega)), jb_neg (fun q => h2 (of_decide_eq_true q)), jb_neg (fun q => h1 (of_decide_eq_true q))]
      rfl
theorem jrs_num (ok : jok B) (lk : jlk B) {r : Int} (hr : 0 ≤ r ∧ r < 18) : jrs (B 0) r = jcnt 90 (fun z => decide (B 1 (z + 1) = r)) := by
  have h := jrow_cnt ok lk hr (fun _ => true)
  simp only [Bool.and_true] at h
  exact h.symm
theorem jcnt_true : ∀ n : Nat, jcnt n (fun _ => true) = n
  | 0 => rfl
  | n + 1 => by
    rw [jcnt_succ, jcnt_true n, jb_pos rfl]
    omega
theorem jfa_eq (ok : jok B) (lk : jlk B) {c : Int} (hc : 0 ≤ c ∧ c < 6) (k : Int) : jfa B c k = (if jcs (B 0) c = 15 then jlc B c else -1) := by
  unfold jfa
  by_cases hw : jcs (B 0) c = 15
  · rw [if_pos hw, if_pos hw]
    split
    · exact jfb_eq ok lk hc hw
    · rfl
  · rw [if_neg hw, if_neg hw]
end TI

