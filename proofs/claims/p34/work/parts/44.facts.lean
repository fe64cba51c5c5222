/-! what the books' parts tell of each other -/
theorem jcnt_front (q : Int → Bool) : ∀ n : Nat, jcnt (n + 1) q = jb (q 0 = true) + jcnt n (fun k => q (k + 1))
  | 0 => by
    show 0 + jb (q ((0 : Nat) : Int) = true) = jb (q 0 = true) + 0
    rw [show ((0 : Nat) : Int) = 0 from rfl]
    omega
  | n + 1 => by
    show jcnt (n + 1) q + jb (q ((n + 1 : Nat) : Int) = true) = jb (q 0 = true) + (jcnt n (fun k => q (k + 1)) + jb (q ((n : Int) + 1) = true))
    rw [jcnt_front q n, show ((n + 1 : Nat) : Int) = (n : Int) + 1 by omega]
    omega
theorem jcnt_rev (q : Int → Bool) : ∀ n : Nat, jcnt n (fun k => q ((n : Int) - 1 - k)) = jcnt n q
  | 0 => rfl
  | n + 1 => by
    rw [jcnt_front, jcnt_succ n q, ← jcnt_rev q n]
    have e1 : jcnt n (fun k => q (((n + 1 : Nat) : Int) - 1 - (k + 1))) = jcnt n (fun k => q ((n : Int) - 1 - k)) := jcnt_congr (fun z z0 z1 => by
      show q (((n + 1 : Nat) : Int) - 1 - (z + 1)) = q ((n : Int) - 1 - z)
      rw [show ((n + 1 : Nat) : Int) - 1 - (z + 1) = (n : Int) - 1 - z by omega])
    have e2 : jb (q (((n + 1 : Nat) : Int) - 1 - 0) = true) = jb (q (n : Int) = true) := by
      rw [show ((n + 1 : Nat) : Int) - 1 - 0 = (n : Int) by omega]
    rw [e1, e2]
    omega
theorem jcnt_zero_all {n : Nat} {q : Int → Bool} (h : jcnt n q = 0) : ∀ z : Int, 0 ≤ z → z < n → q z = false := by
  intro z z0 z1
  cases hq : q z with
  | false => rfl
  | true => exact absurd h (jcnt_pos z0 z1 hq)
/-- those that are, and those that are not -/
theorem jcnt_not {n : Nat} {q r : Int → Bool} (h : ∀ z : Int, 0 ≤ z → z < n → r z = !q z) : jcnt n q + jcnt n r = n := by
  have e := jcnt_add (q := fun _ => true) (p := q) (r := r) n (fun z z0 z1 => by
    have hz := h z z0 z1
    cases hq : q z with
    | true =>
      rw [hq] at hz
      rw [hz]
      rfl
    | false =>
      rw [hq] at hz
      rw [hz]
      rfl)
  rw [jcnt_true] at e
  omega
/-- no such one from m on -/
theorem jcnt_tail {q : Int → Bool} {m : Nat} : ∀ n : Nat, (∀ z : Int, m ≤ z → z < n → q z = false) → jcnt n q ≤ m
  | 0, _ => by
    show (0 : Int) ≤ m
    omega
  | n + 1, h => by
    have ih := jcnt_tail n (fun z z0 z1 => h z z0 (by omega))
    by_cases e : n + 1 ≤ m
    · have := (jcnt_nn (n + 1) q).2
      omega
    · rw [jcnt_succ, jb_neg (by rw [h n (by omega) (by omega)]; decide)]
      omega
section FA
variable {B : zB} {n c g : Int}
theorem jno_0 : jno B n 0 = if B 1 n = -1 then -1 else B 1 n / 3 := rfl
theorem jno_1 : jno B n 1 = if B 1 n = -1 then -1 else B 1 n % 3 := rfl
theorem jno_2 : jno B n 2 = B 7 n := rfl
theorem jno_3 : jno B n 3 = B 8 n := rfl
theorem fa_num (h : jin B) (hn : 1 ≤ n ∧ n ≤ 90) : (jno B n 0 = -1 ∧ jno B n 1 = -1 ∧ B 1 n = -1) ∨ (0 ≤ jno B n 0 ∧ jno B n 0 < 6 ∧ 0 ≤ jno B n 1 ∧ jno B n 1 < 3 ∧ B 1 n ≠ -1 ∧ B 0 ((jno B n 0 * 3 + jno B n 1) * 9 + jcol n) = n) := by
  have hR := h.ok.R n
  rw [jno_0, jno_1]
  by_cases e : B 1 n = -1
  · rw [if_pos e, if_pos e]
    exact Or.inl ⟨rfl, rfl, e⟩
  · rw [if_neg e, if_neg e]
    refine Or.inr ⟨by omega, by omega, by omega, by omega, e, ?_⟩
    rw [show B 1 n / 3 * 3 + B 1 n % 3 = B 1 n by omega]
    exact h.lk.pr n hn.1 hn.2 e
theorem jcl_at {a k : Int} (h : a < B 12 0) : jcl B a k = if k = 0 then B 5 (B 12 0 - 1 - a) else B 6 (B 12 0 - 1 - a) := by
  unfold jcl
  rw [if_neg (by omega)]
theorem jcl_r (ok : jok B) (a k : Int) : -1 ≤ jcl B a k ∧ jcl B a k ≤ 90 := by
  have h1 := ok.dr (B 12 0 - 1 - a)
  have h2 := ok.sd (B 12 0 - 1 - a)
  unfold jcl
  split
  · decide
  · split <;> omega
theorem fa_call (h : jin B) (hn : 1 ≤ n ∧ n ≤ 90) : 0 ≤ B 7 n ∧ B 7 n ≤ B 12 0 ∧ (B 7 n = 0 ∨ jcl B (B 12 0 - B 7 n) 0 = n) := by
  have h1 := h.ok.da n
  have h2 := h.ok.da2 n (by omega) (by omega)
  refine ⟨h1.1, h2, ?_⟩
  by_cases e : B 7 n = 0
  · exact Or.inl e
  · refine Or.inr ?_
    rw [jcl_at (by omega), if_pos rfl, show B 12 0 - 1 - (B 12 0 - B 7 n) = B 7 n - 1 by omega]
    exact h.lk.kd n hn.1 hn.2 e
theorem fa_drawn (h : jin B) : jcnt 90 (fun z => decide (B 7 (z + 1) ≠ 0)) = B 12 0 := by
  have e := jcnt_not (n := 90) (q := fun z => jund B (z + 1)) (r := fun z => decide (B 7 (z + 1) ≠ 0)) (fun z _ _ => by
    show decide (B 7 (z + 1) ≠ 0) = !decide (B 7 (z + 1) = 0)
    simp)
  have e2 : B 4 0 = jcnt 90 (fun z => jund B (z + 1)) := h.lk.di.1
  have e3 := h.ok.ds
  omega
theorem fa_stand (h : jin B) : jcnt 90 (fun z => decide (B 1 (z + 1) ≠ -1)) = B 2 0 := by
  have e := jcnt_not (n := 90) (q := fun z => jfree B (z + 1)) (r := fun z => decide (B 1 (z + 1) ≠ -1)) (fun z _ _ => by
    show decide (B 1 (z + 1) ≠ -1) = !decide (B 1 (z + 1) = -1)
    simp)
  have e2 : B 2 0 = 90 - jcnt 90 (fun z => jfree B (z + 1)) := h.lk.sz
  omega
theorem fa_slips (h : jin B) : jcnt (B 12 0).toNat (fun k => decide (jcl B k 0 ≠ jcl B k 1)) = B 13 0 := by
  have hc := h.ok.ca
  rw [h.ex.sl, ← jcnt_rev (fun k => decide (B 5 k ≠ B 6 k))]
  refine jcnt_congr fun z z0 z1 => ?_
  have e : ((B 12 0).toNat : Int) = B 12 0 := by omega
  rw [e] at z1 ⊢
  show decide (jcl B z 0 ≠ jcl B z 1) = decide (B 5 (B 12 0 - 1 - z) ≠ B 6 (B 12 0 - 1 - z))
  rw [jcl_at z1, jcl_at z1, if_pos rfl, if_neg (by decide)]
theorem fa_numbers (h : jin B) : ∀ m : Nat, m ≤ 6 → jsum m (fun c => jcs (B 0) c) = jcnt 90 (fun z => decide (0 ≤ B 1 (z + 1) ∧ B 1 (z + 1) < (m : Int) * 3))
  | 0, _ => by
    refine Eq.symm (jcnt_none fun z _ _ => decide_eq_false ?_)
    omega
  | m + 1, hm => by
    have ih := fa_numbers h m (by omega)
    have r0 := jrs_num h.ok h.lk (r := (m : Int) * 3) (by omega)
    have r1 := jrs_num h.ok h.lk (r := (m : Int) * 3 + 1) (by omega)
    have r2 := jrs_num h.ok h.lk (r := (m : Int) * 3 + 1 + 1) (by omega)
    have c0 := jlt_succ B (m := (m : Int) * 3) (by omega)
    have c1 := jlt_succ B (m := (m : Int) * 3 + 1) (by omega)
    have c2 := jlt_succ B (m := (m : Int) * 3 + 1 + 1) (by omega)
    rw [jsum_succ, ih, show ((m + 1 : Nat) : Int) * 3 = (m : Int) * 3 + 1 + 1 + 1 by omega]
    show _ + jcs (B 0) (m : Int) = _
    unfold jcs
    omega
theorem fa_cards (h : jin B) : jsum 6 (fun c => jcs (B 0) c) = B 2 0 := by
  rw [fa_numbers h 6 (Nat.le_refl 6), ← fa_stand h]
  refine jcnt_congr fun z z0 z1 => decide_eq_decide.mpr ?_
  have hR := h.ok.R (z + 1)
  omega
theorem jb_bit (m c : Int) : jb (jbit m c = 1) = jbit m c := by
  have := jbit_r m c
  by_cases e : jbit m c = 1
  · rw [jb_pos e, e]
  · rw [jb_neg e]
    omega
theorem fa_bought (m : Int) : jsum 6 (fun c => jb (jbit m c = 1)) = jbc m := by
  have e : jsum 6 (fun c => jb (jbit m c = 1)) = 0 + jb (jbit m 0 = 1) + jb (jbit m 1 = 1) + jb (jbit m 2 = 1) + jb (jbit m 3 = 1) + jb (jbit m 4 = 1) + jb (jbit m 5 = 1) := rfl
  rw [e, jb_bit, jb_bit, jb_bit, jb_bit, jb_bit, jb_bit]
  unfold jbc
  omega
theorem jmc_le (ok : jok B) (mk : Int → Int) (c : Int) : jmc (B 0) mk c ≤ jcs (B 0) c ∧ 0 ≤ jmc (B 0) mk c := by
  have u1 := jur_r (B 0) mk (c * 3)
  have u2 := jur_r (B 0) mk (c * 3 + 1)
  have u3 := jur_r (B 0) mk (c * 3 + 1 + 1)
  have l1 := jur_le (B 0) mk (fun z => (ok.P z).1) (c * 3)
  have l2 := jur_le (B 0) mk (fun z => (ok.P z).1) (c * 3 + 1)
  have l3 := jur_le (B 0) mk (fun z => (ok.P z).1) (c * 3 + 1 + 1)
  unfold jmc jcs
  omega
/-- all of a row is marked -/
theorem jur_zero {P mk : Int → Int} {r : Int} : jur P mk r = 0 ↔ ∀ i : Int, 0 ≤ i → i < 9 → 0 < P (r * 9 + i) → mk (P (r * 9 + i)) ≠ 0 := by
  constructor
  · intro h i i0 i1 hp hm
    have := jcnt_zero_all h i i0 i1
    exact absurd (decide_eq_true (⟨hp, hm⟩ : 0 < P (r * 9 + i) ∧ mk (P (r * 9 + i)) = 0)) (by rw [this]; decide)
  · intro h
    refine jcnt_none fun i i0 i1 => decide_eq_false ?_
    rintro ⟨hp, hm⟩
    exact h i i0 i1 hp hm
/-- when a whole card is full -/
theorem fa_full (h : jin B) (hc : 0 ≤ c ∧ c < 6) (hw : jcs (B 0) c = 15) : 15 ≤ jlc B c ∧ jlc B c ≤ 90 ∧ (jlc B c ≤ B 12 0 ↔ jmc (B 0) (B 7) c = 15) := by
  have ok := h.ok
  have lk := h.lk
  have hca := ok.ca
  have ht := jcard_cnt ok lk hc
  rw [hw] at ht
  have hsp : ∃ j : Int, 0 ≤ j ∧ j < 90 ∧ json B c (jod B j) ∧ jlc B c = j + 1 ∧ ∀ i : Int, j < i → i < 90 → ¬ json B c (jod B i) := by
    rcases jlo_spec (B := B) (od := jod B) (c := c) 90 with ⟨-, l2⟩ | l
    · have := jcnt_none (n := 90) (q := fun i => decide (json B c (jod B i))) (fun k k0 k1 => decide_eq_false (l2 k k0 k1))
      omega
    · exact l
  obtain ⟨j, j0, j1, j2, j3, j4⟩ := hsp
  have htl := jcnt_tail (m := (j + 1).toNat) (q := fun i => decide (json B c (jod B i))) 90 (fun z z0 z1 => decide_eq_false (j4 z (by omega) z1))
  have hu : jmc (B 0) (B 7) c = 15 ↔ jur (B 0) (B 7) (c * 3) = 0 ∧ jur (B 0) (B 7) (c * 3 + 1) = 0 ∧ jur (B 0) (B 7) (c * 3 + 1 + 1) = 0 := by
    have u1 := jur_r (B 0) (B 7) (c * 3)
    have u2 := jur_r (B 0) (B 7) (c * 3 + 1)
    have u3 := jur_r (B 0) (B 7) (c * 3 + 1 + 1)
    unfold jcs at hw
    unfold jmc
    omega
  refine ⟨by omega, by omega, ?_⟩
  rw [hu]
  constructor
  · intro hle
    have row : ∀ r : Int, 0 ≤ r → r < 18 → r / 3 = c → jur (B 0) (B 7) r = 0 := by
      intro r r0 r1 hr
      refine jur_zero.mpr fun i i0 i1 hp hm => ?_
      obtain ⟨p1, p2, p3⟩ := lk.rp (r * 9 + i) (by omega) (by omega) (by omega)
      have p4 := (ok.P (r * 9 + i)).2
      obtain ⟨a1, a2, a3⟩ := jcall_od ok lk (n := B 0 (r * 9 + i)) ⟨p1, p4⟩
      have hj : json B c (jod B (jall9 B 7 (B 0 (r * 9 + i)) - 1)) := by
        rw [a3]
        exact ⟨⟨p1, p4⟩, by omega, by omega⟩
      have hle2 : jall9 B 7 (B 0 (r * 9 + i)) - 1 ≤ j := Int.not_lt.mp fun q => j4 _ q (by omega) hj
      have hd : jod B (jall9 B 7 (B 0 (r * 9 + i)) - 1) = B 5 (jall9 B 7 (B 0 (r * 9 + i)) - 1) := if_pos (by omega)
      have hk := lk.dk (jall9 B 7 (B 0 (r * 9 + i)) - 1) (by omega) (by omega)
      rw [← hd, a3] at hk
      omega
    exact ⟨row _ (by omega) (by omega) (by omega), row _ (by omega) (by omega) (by omega), row _ (by omega) (by omega) (by omega)⟩
  · rintro ⟨z0, z1, z2⟩
    obtain ⟨⟨n1, n2⟩, n3, n4⟩ := j2
    have hR := ok.R (jod B j)
    have hcol := jcol_r (n := jod B j) (by omega)
    have hp := lk.pr (jod B j) n1 n2 n3
    have hz : jur (B 0) (B 7) (B 1 (jod B j)) = 0 := by
      rcases (by omega : B 1 (jod B j) = c * 3 ∨ B 1 (jod B j) = c * 3 + 1 ∨ B 1 (jod B j) = c * 3 + 1 + 1) with e | e | e
      · rw [e]; exact z0
      · rw [e]; exact z1
      · rw [e]; exact z2
    have hm := jur_zero.mp hz (jcol (jod B j)) hcol.1 hcol.2 (by omega)
    rw [hp] at hm
    have hk := lk.kd (jod B j) n1 n2 hm
    have hda := ok.da2 (jod B j) (by omega) (by omega)
    have hda0 := ok.da (jod B j)
    have hd : jod B (B 7 (jod B j) - 1) = B 5 (B 7 (jod B j) - 1) := if_pos (by omega)
    have a := (jod_call ok lk (i := j) ⟨j0, j1⟩).2.2
    have b := (jod_call ok lk (i := B 7 (jod B j) - 1) (by omega)).2.2
    rw [hd, hk] at b
    omega
theorem fa_card (h : jin B) (hc : 0 ≤ c ∧ c < 6) : (jbit (B 11 0) c = 1 → jcs (B 0) c = 15) ∧ (jgw (B 9) c = 0 ∨ jbit (B 11 0) c = 1) ∧ (jcs (B 0) c = 15 → jms B c 3 0 = 15 - jmc (B 0) (B 7) c) ∧ (jcs (B 0) c ≠ 15 → jms B c 0 0 = -1) := by
  refine ⟨h.lk.bw c hc.1 hc.2, ?_, fun hw => ?_, fun hw => ?_⟩
  · by_cases hb : jbit (B 11 0) c = 1
    · exact Or.inr hb
    · have hz : ∀ g : Int, 0 ≤ g → g < 4 → jbit (B 9 g) c = 0 := by
        intro g g0 g1
        have h1 := jbit_r (B 9 g) c
        by_cases q : jbit (B 9 g) c = 1
        · exact absurd (h.ex.wb g c g0 g1 hc.1 hc.2 q) hb
        · omega
      refine Or.inl ?_
      unfold jgw
      rw [hz 0 (by decide) (by decide), hz 1 (by decide) (by decide), hz 2 (by decide) (by decide), hz 3 (by decide) (by decide)]
      rfl
  · have e : jms B c 3 0 = juo (B 0) (B 7) c 3 := if_pos hw
    have e2 : juo (B 0) (B 7) c 3 = 0 + jur (B 0) (B 7) (c * 3) + jur (B 0) (B 7) (c * 3 + 1) + jur (B 0) (B 7) (c * 3 + 1 + 1) := rfl
    rw [e, e2]
    unfold jcs at hw
    unfold jmc
    omega
  · exact if_neg hw
theorem jff_spec (h : jin B) : ∀ m : Nat, m ≤ 6 → ((jff B m).1 = -1 ∧ (jff B m).2 = 91 ∧ ∀ c : Int, 0 ≤ c → c < m → jcs (B 0) c ≠ 15) ∨ (0 ≤ (jff B m).1 ∧ (jff B m).1 < m ∧ jcs (B 0) (jff B m).1 = 15 ∧ (jff B m).2 = jlc B (jff B m).1 ∧ ∀ c : Int, 0 ≤ c → c < m → jcs (B 0) c = 15 → jlc B (jff B m).1 ≤ jlc B c)
  | 0, _ => Or.inl ⟨rfl, rfl, fun c c0 c1 => absurd c1 (by omega)⟩
  | m + 1, hm => by
    have ih := jff_spec h m (by omega)
    by_cases hw : jcs (B 0) m = 15
    · have hf := fa_full h (c := m) (by omega) hw
      by_cases hl : jlc B m < (jff B m).2
      · have e : jff B (m + 1) = ((m : Int), jlc B m) := if_pos ⟨hw, by omega, hl⟩
        rw [e]
        refine Or.inr ⟨by show (0 : Int) ≤ m; omega, by show (m : Int) < ((m + 1 : Nat) : Int); omega, hw, rfl, fun c c0 c1 cw => ?_⟩
        show jlc B m ≤ jlc B c
        by_cases e2 : c = m
        · rw [e2]
          exact Int.le_refl _
        · rcases ih with ⟨-, -, i3⟩ | ⟨-, -, -, i4, i5⟩
          · exact absurd cw (i3 c c0 (by omega))
          · have := i5 c c0 (by omega) cw
            omega
      · have e : jff B (m + 1) = jff B m := if_neg (fun q => hl q.2.2)
        rw [e]
        rcases ih with ⟨i1, i2, i3⟩ | ⟨i1, i2, i3, i4, i5⟩
        · omega
        · refine Or.inr ⟨i1, by omega, i3, i4, fun c c0 c1 cw => ?_⟩
          by_cases e2 : c = m
          · rw [e2]
            omega
          · exact i5 c c0 (by omega) cw
    · have e : jff B (m + 1) = jff B m := if_neg (fun q => hw q.1)
      rw [e]
      rcases ih with ⟨i1, i2, i3⟩ | ⟨i1, i2, i3, i4, i5⟩
      · refine Or.inl ⟨i1, i2, fun c c0 c1 => ?_⟩
        by_cases e2 : c = m
        · rw [e2]
          exact hw
        · exact i3 c c0 (by omega)
      · refine Or.inr ⟨i1, by omega, i3, i4, fun c c0 c1 cw => ?_⟩
        by_cases e2 : c = m
        · rw [e2] at cw
          exact absurd cw hw
        · exact i5 c c0 (by omega) cw
/-- the first card that is full -/
theorem fa_first (h : jin B) : ((jff B 6).1 = -1 ∧ jcnt 6 (fun c => decide (jcs (B 0) c = 15)) = 0 ∧ ∀ c : Int, 0 ≤ c → c < 6 → jcs (B 0) c ≠ 15) ∨ (0 ≤ (jff B 6).1 ∧ (jff B 6).1 < 6 ∧ jcs (B 0) (jff B 6).1 = 15 ∧ jcnt 6 (fun c => decide (jcs (B 0) c = 15)) ≠ 0 ∧ ∀ c : Int, 0 ≤ c → c < 6 → jcs (B 0) c = 15 → jlc B (jff B 6).1 ≤ jlc B c) := by
  rcases jff_spec h 6 (Nat.le_refl 6) with ⟨i1, -, i3⟩ | ⟨i1, i2, i3, -, i5⟩
  · exact Or.inl ⟨i1, jcnt_none (fun c c0 c1 => decide_eq_false (i3 c c0 c1)), i3⟩
  · exact Or.inr ⟨i1, i2, i3, jcnt_pos i1 i2 (decide_eq_true i3), i5⟩
theorem jbc_0 {m : Int} (hm : 0 ≤ m ∧ m < 64) : jbc m = 0 ↔ m = 0 := by
  have key : ∀ x : Fin 64, jbc ((x.val : Nat) : Int) = 0 ↔ ((x.val : Nat) : Int) = 0 := by decide +kernel
  obtain ⟨x, rfl⟩ := jfin (N := 64) hm
  exact key x
theorem fa_game (h : jin B) (hg : 0 ≤ g ∧ g < 4) : (B 9 g = 0 ↔ B 10 g = 0) ∧ B 10 g ≤ B 12 0 ∧ 0 ≤ B 10 g ∧ (jbc (B 9 g) = 0 ↔ B 9 g = 0) := ⟨h.lk.wg g hg.1 hg.2, h.ex.wl g hg.1 hg.2, (h.ok.wa g).1, jbc_0 (h.ok.W g)⟩
end FA

