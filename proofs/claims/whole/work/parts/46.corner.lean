/-! corners, told by numbers and by columns -/
section CO
variable {B : zB}
theorem jcol_mono {m n : Int} (hm : 1 ≤ m) (h : m ≤ n) (hn : n ≤ 90) : jcol m ≤ jcol n := by
  unfold jcol
  split <;> split <;> omega
/-- the first of a row's numbers -/
def jlow (B : zB) (r : Int) : Int := jfst 9 (fun i => B 0 (r * 9 + i))
def jhigh (B : zB) (r : Int) : Int := jfst 9 (fun i => B 0 (r * 9 + (8 - i)))
theorem jcell (lk : jlk B) {n r : Int} (hn : 1 ≤ n ∧ n ≤ 90) (h : B 1 n = r) (hr : 0 ≤ r) : B 0 (r * 9 + jcol n) = n := by
  have := lk.pr n hn.1 hn.2 (by omega)
  rw [h] at this
  exact this
theorem jback (ok : jok B) (lk : jlk B) {r i : Int} (hr : 0 ≤ r ∧ r < 18) (hi : 0 ≤ i ∧ i < 9) (h : B 0 (r * 9 + i) ≠ 0) : 1 ≤ B 0 (r * 9 + i) ∧ B 0 (r * 9 + i) ≤ 90 ∧ B 1 (B 0 (r * 9 + i)) = r ∧ jcol (B 0 (r * 9 + i)) = i := by
  have h1 := lk.rp (r * 9 + i) (by omega) (by omega) h
  have h2 := ok.P (r * 9 + i)
  omega
theorem jlow_iff (ok : jok B) (lk : jlk B) {n r : Int} (hn : 1 ≤ n ∧ n ≤ 90) (h : B 1 n = r) (hr : 0 ≤ r ∧ r < 18) : (∀ m, 1 ≤ m → m < n → B 1 m ≠ r) ↔ jlow B r = n := by
  have hc := jcell lk hn h hr.1
  have hcl := jcol_9 hn
  constructor
  · intro hm
    unfold jlow
    rw [jfst_at (k := jcol n) hcl.1 hcl.2 (by rw [hc]; omega) (fun i i0 i1 => ?_), hc]
    by_cases h0 : B 0 (r * 9 + i) = 0
    · exact h0
    · obtain ⟨a1, a2, a3, a4⟩ := jback ok lk hr (i := i) (by omega) h0
      by_cases hlt : B 0 (r * 9 + i) < n
      · exact absurd a3 (hm _ a1 hlt)
      · have := jcol_mono hn.1 (Int.not_lt.mp hlt) a2
        omega
  · intro hl m m0 m1 hB
    have hcm := jcell lk ⟨m0, by omega⟩ hB hr.1
    have hclm := jcol_9 (n := m) ⟨m0, by omega⟩
    have hmono := jcol_mono m0 (Int.le_of_lt m1) hn.2
    have hne : jcol m ≠ jcol n := fun e => by rw [e, hc] at hcm; omega
    unfold jlow at hl
    rcases jfst_spec 9 (fun i => B 0 (r * 9 + i)) with ⟨z1, -⟩ | ⟨k, k0, k1, k2, k3, k4⟩
    · rw [hl] at z1
      omega
    · have k3 : jfst 9 (fun i => B 0 (r * 9 + i)) = B 0 (r * 9 + k) := k3
      have a4 := (jback ok lk hr ⟨k0, by omega⟩ k2).2.2.2
      rw [hl] at k3
      rw [← k3] at a4
      have : B 0 (r * 9 + jcol m) = 0 := k4 (jcol m) hclm.1 (by omega)
      omega
theorem jhigh_iff (ok : jok B) (lk : jlk B) {n r : Int} (hn : 1 ≤ n ∧ n ≤ 90) (h : B 1 n = r) (hr : 0 ≤ r ∧ r < 18) : (∀ m, n < m → m ≤ 90 → B 1 m ≠ r) ↔ jhigh B r = n := by
  have hc := jcell lk hn h hr.1
  have hcl := jcol_9 hn
  constructor
  · intro hm
    unfold jhigh
    rw [jfst_at (k := 8 - jcol n) (by omega) (by omega) (by rw [show 8 - (8 - jcol n) = jcol n by omega, hc]; omega) (fun i i0 i1 => ?_), show 8 - (8 - jcol n) = jcol n by omega, hc]
    by_cases h0 : B 0 (r * 9 + (8 - i)) = 0
    · exact h0
    · obtain ⟨a1, a2, a3, a4⟩ := jback ok lk hr (i := 8 - i) (by omega) h0
      by_cases hlt : n < B 0 (r * 9 + (8 - i))
      · exact absurd a3 (hm _ hlt a2)
      · have := jcol_mono a1 (Int.not_lt.mp hlt) hn.2
        omega
  · intro hl m m0 m1 hB
    have hcm := jcell lk ⟨by omega, m1⟩ hB hr.1
    have hclm := jcol_9 (n := m) ⟨by omega, m1⟩
    have hmono := jcol_mono hn.1 (Int.le_of_lt m0) m1
    have hne : jcol m ≠ jcol n := fun e => by rw [e, hc] at hcm; omega
    unfold jhigh at hl
    rcases jfst_spec 9 (fun i => B 0 (r * 9 + (8 - i))) with ⟨z1, -⟩ | ⟨k, k0, k1, k2, k3, k4⟩
    · rw [hl] at z1
      omega
    · have k3 : jfst 9 (fun i => B 0 (r * 9 + (8 - i))) = B 0 (r * 9 + (8 - k)) := k3
      have a4 := (jback ok lk hr (i := 8 - k) ⟨by omega, by omega⟩ k2).2.2.2
      rw [hl] at k3
      rw [← k3] at a4
      have : B 0 (r * 9 + (8 - (8 - jcol m))) = 0 := k4 (8 - jcol m) (by omega) (by omega)
      rw [show 8 - (8 - jcol m) = jcol m by omega] at this
      omega
/-- a number is a corner of the card -/
def jcnb (B : zB) (c n : Int) : Bool := (decide (B 1 n = c * 3) || decide (B 1 n = c * 3 + 2)) && (decide (jlow B (B 1 n) = n) || decide (jhigh B (B 1 n) = n))
theorem jlowhigh (ok : jok B) (lk : jlk B) {n r : Int} (hn : 1 ≤ n ∧ n ≤ 90) (h : B 1 n = r) (hr : 0 ≤ r ∧ r < 18) (h1 : jlow B r = n) (h2 : jhigh B r = n) : jrs (B 0) r ≤ 1 := by
  have a1 := (jlow_iff ok lk hn h hr).mpr h1
  have a2 := (jhigh_iff ok lk hn h hr).mpr h2
  have hcl := jcol_9 hn
  have hc := jcell lk hn h hr.1
  unfold jrs
  rw [jcnt_rm (c0 := jcol n) 9 hcl.1 hcl.2 (decide_eq_true (by rw [hc]; omega)), jcnt_none]
  · decide
  · intro k k0 k1
    by_cases hk : k = jcol n
    · simp [hk]
    · by_cases h0 : B 0 (r * 9 + k) = 0
      · simp [h0]
      · obtain ⟨b1, b2, b3, b4⟩ := jback ok lk hr (i := k) (by omega) h0
        rcases Int.lt_trichotomy (B 0 (r * 9 + k)) n with hl | hl | hl
        · exact absurd b3 (a1 _ b1 hl)
        · rw [hl] at b4
          omega
        · exact absurd b3 (a2 _ hl b2)
theorem jcor_row (P : Int → Int) (c k : Int) (hk : 0 ≤ k ∧ k < 4) : jcor P c k = jfst 9 (fun i => P ((c * 3 + (if k < 2 then 0 else 2)) * 9 + (if k % 2 = 0 then i else 8 - i))) := rfl
theorem jcor_eq (B : zB) (c k : Int) (hk : 0 ≤ k ∧ k < 4) : jcor (B 0) c k = if k % 2 = 0 then jlow B (c * 3 + (if k < 2 then 0 else 2)) else jhigh B (c * 3 + (if k < 2 then 0 else 2)) := by
  rw [jcor_row _ _ _ hk]
  unfold jlow jhigh
  by_cases h : k % 2 = 0
  · rw [if_pos h]
    simp only [h, if_true]
  · rw [if_neg h]
    simp only [h, if_false]
/-- the corner's rank -/
def jcrk (B : zB) (c n : Int) : Int := (if B 1 n = c * 3 then 0 else 2) + (if jlow B (B 1 n) = n then 0 else 1)
theorem jcnb_cor {c n : Int} (hc : 0 ≤ c ∧ c < 6) (h : jcnb B c n = true) : 0 ≤ jcrk B c n ∧ jcrk B c n < 4 ∧ jcor (B 0) c (jcrk B c n) = n ∧ 0 ≤ B 1 n := by
  unfold jcnb at h
  simp only [Bool.and_eq_true, Bool.or_eq_true, decide_eq_true_eq] at h
  obtain ⟨h1, h2⟩ := h
  have hr : 0 ≤ jcrk B c n ∧ jcrk B c n < 4 := by
    unfold jcrk
    split <;> split <;> omega
  refine ⟨hr.1, hr.2, ?_, by omega⟩
  rw [jcor_eq B c _ hr]
  have e : c * 3 + (if jcrk B c n < 2 then 0 else 2) = B 1 n := by
    unfold jcrk
    rcases h1 with h1 | h1
    · rw [if_pos h1]
      split <;> (try split) <;> omega
    · rw [if_neg (c := B 1 n = c * 3) (by omega)]
      split <;> (try split) <;> omega
  rw [e]
  by_cases hl : jlow B (B 1 n) = n
  · have : jcrk B c n % 2 = 0 := by
      unfold jcrk
      rw [if_pos hl]
      split <;> rfl
    rw [if_pos this]
    exact hl
  · have : jcrk B c n % 2 ≠ 0 := by
      unfold jcrk
      rw [if_neg hl]
      split <;> decide
    rw [if_neg this]
    rcases h2 with h2 | h2
    · exact absurd h2 hl
    · exact h2
theorem jcor_cnb (ok : jok B) (lk : jlk B) {c k : Int} (hc : 0 ≤ c ∧ c < 6) (hk : 0 ≤ k ∧ k < 4) (hw : jcs (B 0) c = 15) (h : 0 < jcor (B 0) c k) : 1 ≤ jcor (B 0) c k ∧ jcor (B 0) c k ≤ 90 ∧ jcnb B c (jcor (B 0) c k) = true ∧ jcrk B c (jcor (B 0) c k) = k := by
  obtain ⟨w0, -, w2⟩ := (jwh_iff lk hc).mpr hw
  rw [jcor_eq B c k hk] at h ⊢
  generalize hR : c * 3 + (if k < 2 then 0 else 2) = R at h ⊢
  have hRr : 0 ≤ R ∧ R < 18 := by
    rw [← hR]
    split <;> omega
  have hR5 : jrs (B 0) R = 5 := by
    rw [← hR]
    split
    · exact w0
    · exact w2
  have hRk : (k < 2 ∧ R = c * 3) ∨ (¬ k < 2 ∧ R = c * 3 + 2) := by
    by_cases h2 : k < 2
    · rw [if_pos h2] at hR
      exact Or.inl ⟨h2, by omega⟩
    · rw [if_neg h2] at hR
      exact Or.inr ⟨h2, by omega⟩
  by_cases he : k % 2 = 0
  · rw [if_pos he] at h ⊢
    have hn : 1 ≤ jlow B R ∧ jlow B R ≤ 90 ∧ B 1 (jlow B R) = R := by
      unfold jlow at h ⊢
      rcases jfst_spec 9 (fun i => B 0 (R * 9 + i)) with ⟨z1, -⟩ | ⟨j, j0, j1, j2, j3, -⟩
      · omega
      · have j3 : jfst 9 (fun i => B 0 (R * 9 + i)) = B 0 (R * 9 + j) := j3
        rw [j3]
        obtain ⟨b1, b2, b3, -⟩ := jback ok lk hRr ⟨j0, by omega⟩ j2
        exact ⟨b1, b2, b3⟩
    obtain ⟨n0, n1, nB⟩ := hn
    refine ⟨n0, n1, ?_, ?_⟩
    · unfold jcnb
      rw [nB]
      simp only [Bool.and_eq_true, Bool.or_eq_true, decide_eq_true_eq]
      exact ⟨by omega, Or.inl trivial⟩
    · unfold jcrk
      rw [nB, if_pos rfl]
      split <;> omega
  · rw [if_neg he] at h ⊢
    have hn : 1 ≤ jhigh B R ∧ jhigh B R ≤ 90 ∧ B 1 (jhigh B R) = R := by
      unfold jhigh at h ⊢
      rcases jfst_spec 9 (fun i => B 0 (R * 9 + (8 - i))) with ⟨z1, -⟩ | ⟨j, j0, j1, j2, j3, -⟩
      · omega
      · have j3 : jfst 9 (fun i => B 0 (R * 9 + (8 - i))) = B 0 (R * 9 + (8 - j)) := j3
        rw [j3]
        obtain ⟨b1, b2, b3, -⟩ := jback ok lk hRr (i := 8 - j) ⟨by omega, by omega⟩ j2
        exact ⟨b1, b2, b3⟩
    obtain ⟨n0, n1, nB⟩ := hn
    have hnl : ¬ jlow B R = jhigh B R := fun e => by
      have := jlowhigh ok lk ⟨n0, n1⟩ nB hRr e rfl
      omega
    refine ⟨n0, n1, ?_, ?_⟩
    · unfold jcnb
      rw [nB]
      simp only [Bool.and_eq_true, Bool.or_eq_true, decide_eq_true_eq]
      exact ⟨by omega, Or.inr trivial⟩
    · unfold jcrk
      rw [nB, if_neg hnl]
      split <;> omega
/-- corners are counted -/
theorem jcor_cnt (ok : jok B) (lk : jlk B) {c : Int} (hc : 0 ≤ c ∧ c < 6) (hw : jcs (B 0) c = 15) (Q : Int → Bool) : jcnt 90 (fun z => jcnb B c (z + 1) && Q (z + 1)) = jcnt 4 (fun k => decide (0 < jcor (B 0) c k) && Q (jcor (B 0) c k)) := by
  refine jcnt_bij (fun z => jcrk B c (z + 1)) (fun k => jcor (B 0) c k - 1) 90 (fun z z0 z1 hz => ?_) (fun k k0 k1 hk => ?_)
  · rw [Bool.and_eq_true] at hz
    obtain ⟨a1, a2, a3, -⟩ := jcnb_cor hc hz.1
    refine ⟨a1, a2, ?_, ?_⟩
    · show (decide (0 < jcor (B 0) c (jcrk B c (z + 1))) && Q (jcor (B 0) c (jcrk B c (z + 1)))) = true
      rw [a3, hz.2, Bool.and_true]
      exact decide_eq_true (by omega)
    · show jcor (B 0) c (jcrk B c (z + 1)) - 1 = z
      rw [a3]
      omega
  · rw [Bool.and_eq_true] at hk
    obtain ⟨a1, a2, a3, a4⟩ := jcor_cnb ok lk hc ⟨k0, k1⟩ hw (of_decide_eq_true hk.1)
    show 0 ≤ jcor (B 0) c k - 1 ∧ jcor (B 0) c k - 1 < 90 ∧ (jcnb B c (jcor (B 0) c k - 1 + 1) && Q (jcor (B 0) c k - 1 + 1)) = true ∧ jcrk B c (jcor (B 0) c k - 1 + 1) = k
    rw [show jcor (B 0) c k - 1 + 1 = jcor (B 0) c k by omega]
    exact ⟨by omega, by omega, by rw [a3, hk.2]; rfl, a4⟩
theorem jucor_cnt (ok : jok B) (lk : jlk B) {c : Int} (hc : 0 ≤ c ∧ c < 6) (hw : jcs (B 0) c = 15) (mk : Int → Int) : jucor (B 0) mk c = jcnt 90 (fun z => jcnb B c (z + 1) && decide (mk (z + 1) = 0)) := by
  rw [jcor_cnt ok lk hc hw (fun n => decide (mk n = 0))]
  unfold jucor
  refine jcnt_congr fun k _ _ => ?_
  exact Bool.decide_and _ _
theorem jisco_iff (ok : jok B) (lk : jlk B) {c n : Int} (hc : 0 ≤ c ∧ c < 6) (hw : jcs (B 0) c = 15) (hn : 1 ≤ n ∧ n ≤ 90) : jisco (B 0) c n ≠ 0 ↔ jcnb B c n = true := by
  constructor
  · intro h
    by_cases hq : jcnb B c n = true
    · exact hq
    · refine absurd (jcnt_none fun k k0 k1 => ?_) h
      refine decide_eq_false fun e => hq ?_
      have := jcor_cnb ok lk hc ⟨k0, k1⟩ hw (by rw [e]; omega)
      rw [e] at this
      exact this.2.2.1
  · intro h
    obtain ⟨a1, a2, a3, -⟩ := jcnb_cor hc h
    exact jcnt_pos a1 a2 (decide_eq_true a3)
/-- the greatest number with a property; 0 if there is none -/
def jgr (q : Int → Bool) : Nat → Int
  | 0 => 0
  | n + 1 => if q n = true then (n : Int) + 1 else jgr q n
theorem jgr_one {q : Int → Bool} {z0 : Int} : ∀ N : Nat, jcnt N q = 1 → 0 ≤ z0 → z0 < N → q z0 = true → jgr q N = z0 + 1
  | 0, h, _, _, _ => absurd (show (0 : Int) = 1 from h) (by decide)
  | N + 1, h, h0, h1, hq => by
    unfold jgr
    rw [jcnt_succ] at h
    by_cases hN : q (N : Int) = true
    · rw [if_pos hN]
      rw [jb_pos hN] at h
      by_cases e : z0 = N
      · rw [e]
      · exact absurd (show jcnt N q = 0 by omega) (jcnt_pos h0 (by omega) hq)
    · rw [if_neg hN]
      rw [jb_neg hN, Int.add_zero] at h
      have : z0 ≠ N := fun e => hN (by rw [← e]; exact hq)
      exact jgr_one N h h0 (by omega) hq
theorem jgr_r {q : Int → Bool} : ∀ N : Nat, 0 ≤ jgr q N ∧ jgr q N ≤ N
  | 0 => ⟨Int.le_refl _, Int.le_refl _⟩
  | N + 1 => by
    have ih : 0 ≤ jgr q N ∧ jgr q N ≤ N := jgr_r N
    unfold jgr
    split <;> omega
/-- the only unmarked one of a row -/
def jqr (B : zB) (r : Int) : Int → Bool := fun z => decide (B 1 (z + 1) = r) && decide (B 7 (z + 1) = 0)
theorem jur_cnt (ok : jok B) (lk : jlk B) {r : Int} (hr : 0 ≤ r ∧ r < 18) : jur (B 0) (B 7) r = jcnt 90 (jqr B r) := by
  unfold jqr
  rw [jrow_cnt ok lk hr (fun n => decide (B 7 n = 0))]
  unfold jur
  refine jcnt_congr fun k _ _ => ?_
  have := (ok.P (r * 9 + k)).1
  by_cases h : B 0 (r * 9 + k) = 0
  · simp [h]
  · have h2 : 0 < B 0 (r * 9 + k) := by omega
    simp [h, h2]
theorem jfui_one (ok : jok B) (lk : jlk B) {r : Int} (hr : 0 ≤ r ∧ r < 18) (h : jur (B 0) (B 7) r = 1) : jfui (B 0) (B 7) r = jgr (jqr B r) 90 := by
  have hc := h
  rw [jur_cnt ok lk hr] at hc
  unfold jfui
  rcases jfst_spec 9 (fun i => if 0 < B 0 (r * 9 + i) ∧ B 7 (B 0 (r * 9 + i)) = 0 then B 0 (r * 9 + i) else 0) with ⟨-, z2⟩ | ⟨j, j0, j1, j2, j3, -⟩
  · exfalso
    have : jur (B 0) (B 7) r = 0 := by
      unfold jur
      refine jcnt_none fun k k0 k1 => decide_eq_false fun hq => ?_
      have := z2 k k0 k1
      simp only [hq, and_self, if_true] at this
      omega
    omega
  · have hq : 0 < B 0 (r * 9 + j) ∧ B 7 (B 0 (r * 9 + j)) = 0 := by
      by_cases hq : 0 < B 0 (r * 9 + j) ∧ B 7 (B 0 (r * 9 + j)) = 0
      · exact hq
      · simp only [hq, if_false] at j2
        exact absurd rfl j2
    have e : jfst 9 (fun i => if 0 < B 0 (r * 9 + i) ∧ B 7 (B 0 (r * 9 + i)) = 0 then B 0 (r * 9 + i) else 0) = B 0 (r * 9 + j) := by
      rw [j3]
      exact if_pos hq
    rw [e]
    obtain ⟨b1, b2, b3, -⟩ := jback ok lk hr (i := j) ⟨j0, by omega⟩ (by omega)
    unfold jn1
    rw [if_neg (by omega), jgr_one (z0 := B 0 (r * 9 + j) - 1) 90 hc (by omega) (by omega) ?_]
    · omega
    · unfold jqr
      rw [show B 0 (r * 9 + j) - 1 + 1 = B 0 (r * 9 + j) by omega, b3, hq.2]
      simp
/-- the only unmarked corner -/
def jqc (B : zB) (c : Int) : Int → Bool := fun z => jcnb B c (z + 1) && decide (B 7 (z + 1) = 0)
theorem jfuc_one (ok : jok B) (lk : jlk B) {c : Int} (hc : 0 ≤ c ∧ c < 6) (hw : jcs (B 0) c = 15) (h : jucor (B 0) (B 7) c = 1) : jfuc (B 0) (B 7) c = jgr (jqc B c) 90 := by
  have hq1 : jcnt 90 (jqc B c) = 1 := by
    rw [← h, jucor_cnt ok lk hc hw]
    rfl
  unfold jfuc
  rcases jfst_spec 4 (fun k => if 0 < jcor (B 0) c k ∧ B 7 (jcor (B 0) c k) = 0 then jcor (B 0) c k else 0) with ⟨-, z2⟩ | ⟨j, j0, j1, j2, j3, -⟩
  · exfalso
    have : jucor (B 0) (B 7) c = 0 := by
      unfold jucor
      refine jcnt_none fun k k0 k1 => decide_eq_false fun hq => ?_
      have := z2 k k0 k1
      simp only [hq, and_self, if_true] at this
      omega
    omega
  · have hq : 0 < jcor (B 0) c j ∧ B 7 (jcor (B 0) c j) = 0 := by
      by_cases hq : 0 < jcor (B 0) c j ∧ B 7 (jcor (B 0) c j) = 0
      · exact hq
      · simp only [hq, if_false] at j2
        exact absurd rfl j2
    have e : jfst 4 (fun k => if 0 < jcor (B 0) c k ∧ B 7 (jcor (B 0) c k) = 0 then jcor (B 0) c k else 0) = jcor (B 0) c j := by
      rw [j3]
      exact if_pos hq
    rw [e]
    obtain ⟨b1, b2, b3, -⟩ := jcor_cnb ok lk hc ⟨j0, j1⟩ hw hq.1
    unfold jn1
    rw [if_neg (by omega), jgr_one (z0 := jcor (B 0) c j - 1) 90 hq1 (by omega) (by omega) ?_]
    · omega
    · unfold jqc
      rw [show jcor (B 0) c j - 1 + 1 = jcor (B 0) c j by omega, b3, hq.2]
      rfl
end CO

