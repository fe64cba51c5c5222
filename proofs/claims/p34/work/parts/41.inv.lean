/-! what holds of every book that the law meets -/
/-- cards: places P, rows R, size, bought -/
def jiC (P R : Int → Int) (sz bo : Int) : Prop :=
  (∀ n : Int, 1 ≤ n → n ≤ 90 → R n ≠ -1 → P (R n * 9 + jcol n) = n) ∧
  (∀ r c : Int, 0 ≤ r → r < 18 → 0 ≤ c → c < 9 → P (r * 9 + c) ≠ 0 → R (P (r * 9 + c)) = r ∧ jcol (P (r * 9 + c)) = c) ∧
  (∀ r : Int, 0 ≤ r → r < 18 → jrs P r ≤ 5) ∧ sz = jcnt 90 (fun z => decide (R (z + 1) ≠ -1)) ∧
  (∀ c : Int, 0 ≤ c → c < 6 → jbit bo c = 1 → jcs P c = 15)
/-- the drum: its numbers and size, drawn, said, drawnAt, saidTimes, calls, slips -/
def jiD (nu : Int → Int) (ds : Int) (dr sd da sa : Int → Int) (ca sl : Int) : Prop :=
  (∀ k : Int, 0 ≤ k → k < ca → 1 ≤ dr k ∧ dr k ≤ 90 ∧ da (dr k) = k + 1) ∧
  (∀ n : Int, 1 ≤ n → n ≤ 90 → da n ≠ 0 → dr (da n - 1) = n) ∧
  jdi (fun n => decide (da n = 0)) nu ds ∧ jsum 90 (fun z => sa (z + 1)) = ca ∧
  sl = jcnt ca.toNat (fun k => decide (dr k ≠ sd k))
/-- games: winners, wonAt, calls, bought -/
def jiG (W wa : Int → Int) (ca bo : Int) : Prop :=
  (∀ g : Int, 0 ≤ g → g < 4 → (W g = 0 ↔ wa g = 0) ∧ wa g ≤ ca) ∧
  (∀ g c : Int, 0 ≤ g → g < 4 → 0 ≤ c → c < 6 → jbit (W g) c = 1 → jbit bo c = 1)
/-- coins, counts -/
def jiM (co td : Int → Int) (po ci pa ho tu : Int) : Prop := ci = po + pa + ho ∧ jsum 6 co = pa ∧ jsum 6 td = tu
def jin (B : zB) : Prop := jok B ∧ jiC (B 0) (B 1) (B 2 0) (B 11 0) ∧ jiD (B 3) (B 4 0) (B 5) (B 6) (B 7) (B 8) (B 12 0) (B 13 0) ∧ jiG (B 9) (B 10) (B 12 0) (B 11 0) ∧ jiM (B 14) (B 15) (B 16 0) (B 17 0) (B 18 0) (B 19 0) (B 21 0)
theorem jin.ok {B : zB} (h : jin B) : jok B := h.1
theorem jin.C {B : zB} (h : jin B) : jiC (B 0) (B 1) (B 2 0) (B 11 0) := h.2.1
theorem jin.D {B : zB} (h : jin B) : jiD (B 3) (B 4 0) (B 5) (B 6) (B 7) (B 8) (B 12 0) (B 13 0) := h.2.2.1
theorem jin.G {B : zB} (h : jin B) : jiG (B 9) (B 10) (B 12 0) (B 11 0) := h.2.2.2.1
theorem jin.M {B : zB} (h : jin B) : jiM (B 14) (B 15) (B 16 0) (B 17 0) (B 18 0) (B 19 0) (B 21 0) := h.2.2.2.2
/-! put, take -/
section JC
variable {P R : Int → Int} {sz bo r n : Int}
theorem jiC_st (h : jiC P R sz bo) (hP : ∀ z, 0 ≤ P z ∧ P z ≤ 90) (hr : 0 ≤ r ∧ r < 18) (hn : 1 ≤ n ∧ n ≤ 90) (h1 : R n = -1) (h2 : P (r * 9 + jcol n) = 0) (h3 : jrs P r ≠ 5) (h4 : jbit bo (r / 3) ≠ 1) : jiC (jup P (r * 9 + jcol n) n) (jup R n r) (sz + 1) bo := by
  obtain ⟨a1, a2, a3, a4, a5⟩ := h
  have hc := jcol_r (n := n) (by omega)
  refine ⟨?_, ?_, ?_, ?_, ?_⟩
  · intro m m1 m9 hm
    by_cases e : m = n
    · rw [e, jup_at (p := R) rfl, jup_at rfl]
    · rw [jup_ne (p := R) e] at hm ⊢
      have h := a1 m m1 m9 hm
      rw [jup_ne (fun q => by rw [q, h2] at h; omega)]
      exact h
  · intro r' c' r0 r1 c0 c1 hne
    by_cases q : r' * 9 + c' = r * 9 + jcol n
    · have e1 : r' = r := by omega
      have e2 : c' = jcol n := by omega
      rw [jup_at q, jup_at rfl]
      exact ⟨e1.symm, e2.symm⟩
    · rw [jup_ne q] at hne ⊢
      obtain ⟨i1, i2⟩ := a2 r' c' r0 r1 c0 c1 hne
      refine ⟨?_, i2⟩
      rw [jup_ne (fun e => by rw [e] at i1; omega)]
      exact i1
  · intro r' r0 r1
    by_cases q : r' = r
    · rw [q, jrs_up hc]
      have := a3 r hr.1 hr.2
      have := jb_r (P := n ≠ 0)
      have := jb_r (P := P (r * 9 + jcol n) ≠ 0)
      omega
    · rw [jrs_up_ne hc q]
      exact a3 r' r0 r1
  · have e := jcnt_pt (n := 90) (q := fun z => decide (jup R n r (z + 1) ≠ -1)) (r := fun z => decide (R (z + 1) ≠ -1)) (m := n - 1) (by omega) (by omega) (fun z z0 z1 zn => by
      show decide (jup R n r (z + 1) ≠ -1) = decide (R (z + 1) ≠ -1)
      rw [jup_ne (by omega)])
    have e1 : jb (decide (jup R n r (n - 1 + 1) ≠ -1) = true) = 1 := jb_pos (decide_eq_true (by rw [jup_at (by omega)]; omega))
    have e2 : jb (decide (R (n - 1 + 1) ≠ -1) = true) = 0 := jb_neg (by rw [show n - 1 + 1 = n by omega, h1]; decide)
    have e3 : jcnt 90 (fun z => decide (jup R n r (z + 1) ≠ -1)) = jcnt 90 (fun z => decide (R (z + 1) ≠ -1)) + jb (decide (jup R n r (n - 1 + 1) ≠ -1) = true) - jb (decide (R (n - 1 + 1) ≠ -1) = true) := e
    omega
  · intro c c0 c6 hb
    rw [jcs_up_ne hc (fun e => h4 (by rw [← e]; exact hb))]
    exact a5 c c0 c6 hb
theorem jiC_lift (h : jiC P R sz bo) (hP : ∀ z, 0 ≤ P z ∧ P z ≤ 90) (hn : 1 ≤ n ∧ n ≤ 90) (hr : 0 ≤ R n ∧ R n < 18) (h4 : jbit bo (R n / 3) ≠ 1) : jiC (jup P (R n * 9 + jcol n) 0) (jup R n (-1)) (sz - 1) bo := by
  obtain ⟨a1, a2, a3, a4, a5⟩ := h
  have hc := jcol_r (n := n) (by omega)
  have hp := a1 n hn.1 hn.2 (by omega)
  refine ⟨?_, ?_, ?_, ?_, ?_⟩
  · intro m m1 m9 hm
    by_cases e : m = n
    · rw [jup_at (p := R) e] at hm
      exact absurd rfl hm
    · rw [jup_ne (p := R) e] at hm ⊢
      have h := a1 m m1 m9 hm
      rw [jup_ne (fun q => by rw [q, hp] at h; omega)]
      exact h
  · intro r' c' r0 r1 c0 c1 hne
    by_cases q : r' * 9 + c' = R n * 9 + jcol n
    · rw [jup_at q] at hne
      exact absurd rfl hne
    · rw [jup_ne q] at hne ⊢
      obtain ⟨i1, i2⟩ := a2 r' c' r0 r1 c0 c1 hne
      refine ⟨?_, i2⟩
      rw [jup_ne (fun e => by rw [e] at i1 i2; omega)]
      exact i1
  · intro r' r0 r1
    by_cases q : r' = R n
    · rw [q, jrs_up hc]
      have := a3 (R n) hr.1 hr.2
      have := jb_neg (P := (0 : Int) ≠ 0) (by decide)
      have := jb_r (P := P (R n * 9 + jcol n) ≠ 0)
      omega
    · rw [jrs_up_ne hc q]
      exact a3 r' r0 r1
  · have e := jcnt_pt (n := 90) (q := fun z => decide (jup R n (-1) (z + 1) ≠ -1)) (r := fun z => decide (R (z + 1) ≠ -1)) (m := n - 1) (by omega) (by omega) (fun z z0 z1 zn => by
      show decide (jup R n (-1) (z + 1) ≠ -1) = decide (R (z + 1) ≠ -1)
      rw [jup_ne (by omega)])
    have e1 : jb (decide (jup R n (-1) (n - 1 + 1) ≠ -1) = true) = 0 := jb_neg (by rw [jup_at (by omega)]; decide)
    have e2 : jb (decide (R (n - 1 + 1) ≠ -1) = true) = 1 := jb_pos (decide_eq_true (by rw [show n - 1 + 1 = n by omega]; omega))
    have e3 : jcnt 90 (fun z => decide (jup R n (-1) (z + 1) ≠ -1)) = jcnt 90 (fun z => decide (R (z + 1) ≠ -1)) + jb (decide (jup R n (-1) (n - 1 + 1) ≠ -1) = true) - jb (decide (R (n - 1 + 1) ≠ -1) = true) := e
    omega
  · intro c c0 c6 hb
    rw [jcs_up_ne hc (fun e => h4 (by rw [← e]; exact hb))]
    exact a5 c c0 c6 hb
end JC
section JI
variable {B B2 : zB} {r n c g : Int}
theorem jrap_0 (h : jrap B r n = 0) : B 1 n = -1 ∧ B 0 (r * 9 + jcol n) = 0 ∧ jrs (B 0) r ≠ 5 ∧ jbit (B 11 0) (r / 3) ≠ 1 := by
  unfold jrap at h
  by_cases hc : jra (B 0) (B 1) r n = 0 ∧ jbit (B 11 0) (r / 3) = 1
  · rw [if_pos hc] at h
    omega
  · rw [if_neg hc] at h
    have hb : jbit (B 11 0) (r / 3) ≠ 1 := fun e => hc ⟨h, e⟩
    unfold jra at h
    by_cases c1 : B 1 n ≠ -1
    · rw [if_pos c1] at h
      omega
    · rw [if_neg c1] at h
      by_cases c2 : B 0 (r * 9 + jcol n) ≠ 0
      · rw [if_pos c2] at h
        omega
      · rw [if_neg c2] at h
        by_cases c3 : jrs (B 0) r = 5
        · rw [if_pos c3] at h
          omega
        · exact ⟨by omega, by omega, c3, hb⟩
theorem jin_st (h : jin B) (hr : 0 ≤ r ∧ r < 18) (hn : 1 ≤ n ∧ n ≤ 90) (h0 : jrap B r n = 0) : jin (jst B r n) := by
  obtain ⟨h1, h2, h3, h4⟩ := jrap_0 h0
  exact ⟨jok_st h.ok hr hn, jiC_st h.C h.ok.P hr hn h1 h2 h3 h4, h.D, h.G, h.M⟩
theorem jin_pl (h : jin B) (hr : 0 ≤ r ∧ r < 18) (hn : 1 ≤ n ∧ n ≤ 90) : jin (jpl B r n) := by
  unfold jpl
  split
  · exact jin_st h hr hn (by assumption)
  · exact h
theorem jin_lift (h : jin B) (hn : 1 ≤ n ∧ n ≤ 90) (h2 : B 1 n ≠ -1) (h3 : jbit (B 11 0) (B 1 n / 3) ≠ 1) : jin (jlift B n) := by
  have hR := h.ok.R n
  exact ⟨jok_lift h.ok, jiC_lift h.C h.ok.P hn (by omega) h3, h.D, h.G, h.M⟩
theorem jin_lot {x : Int} (h : jin B) (hx : 0 ≤ x ∧ x < 10000) : jin (bset B 24 (fun _ => x)) := ⟨jok_lot h.ok hx, h.C, h.D, h.G, h.M⟩
theorem jin_set {s x : Int} (h : jin B) (hx : 0 ≤ x ∧ x < 100) : jin (bset B 23 (jup (B 23) s x)) := ⟨jok_set h.ok hx, h.C, h.D, h.G, h.M⟩
theorem jin_fl1 {k : Int} (h : jin B) (hc : 0 ≤ c ∧ c < 6) : jin (jfl1 c B k).1 ∧ k ≤ (jfl1 c B k).2 ∧ (jfl1 c B k).2 ≤ k + 1 := by
  unfold jfl1
  by_cases h0 : jall (jfree B) = 0
  · rw [if_pos h0]
    exact ⟨h, by simp only; omega, by simp only; omega⟩
  · rw [if_neg h0]
    have hl := jlot_r h.ok.lo
    have h1 := jin_lot h hl
    have ha := jall_r (jfree B)
    obtain ⟨n1, n2, -, -⟩ := jnth_spec (q := jfree B) (k := jlot (B 24 0) % jall (jfree B)) (Int.emod_nonneg _ (by omega)) (Int.emod_lt_of_pos _ (by omega))
    split
    · exact ⟨h1, by simp only; omega, by simp only; omega⟩
    · rename_i hj
      rcases jfrf_r (bset B 24 (fun _ => jlot (B 24 0))) (n := jnth (jfree B) (jlot (B 24 0) % jall (jfree B))) hc with h2 | ⟨h2, h3, -, h5⟩
      · exact absurd h2 hj
      · exact ⟨jin_st h1 ⟨h2, h3⟩ ⟨n1, n2⟩ h5, by simp only; omega, by simp only; omega⟩
theorem jin_flB (h : jin B) (hc : 0 ≤ c ∧ c < 6) : ∀ m : Nat, jin (jflB c m B).1 ∧ 0 ≤ (jflB c m B).2 ∧ (jflB c m B).2 ≤ m
  | 0 => ⟨h, by show (0 : Int) ≤ 0; omega, by show (0 : Int) ≤ ((0 : Nat) : Int); omega⟩
  | m + 1 => by
    obtain ⟨i1, i2, i3⟩ := jin_flB h hc m
    rw [jflB_succ]
    obtain ⟨j1, j2, j3⟩ := jin_fl1 (k := (jflB c m B).2) i1 hc
    exact ⟨j1, by omega, by omega⟩
theorem jin_sell (h : jin B) (hc : 0 ≤ c ∧ c < 6) (hs : jfs B c) : jin (jsell B c) := by
  refine ⟨jok_sell h.ok hc hs, ?_, h.D, ?_, ?_⟩
  · obtain ⟨a1, a2, a3, a4, a5⟩ := h.C
    refine ⟨a1, a2, a3, a4, fun c' c0 c1 hb => ?_⟩
    have e : jbit (jset (B 11 0) c) c' = if c' = c then 1 else jbit (B 11 0) c' := jbit_jset h.ok.bo hc ⟨c0, c1⟩
    by_cases q : c' = c
    · rw [q]
      exact hs.2.1
    · rw [if_neg q] at e
      exact a5 c' c0 c1 (by rw [← e]; exact hb)
  · obtain ⟨a1, a2⟩ := h.G
    refine ⟨a1, fun g c' g0 g1 c0 c1 hb => ?_⟩
    have e : jbit (jset (B 11 0) c) c' = if c' = c then 1 else jbit (B 11 0) c' := jbit_jset h.ok.bo hc ⟨c0, c1⟩
    show jbit (jset (B 11 0) c) c' = 1
    rw [e]
    split
    · rfl
    · exact a2 g c' g0 g1 c0 c1 hb
  · obtain ⟨a1, a2, a3⟩ := h.M
    refine ⟨?_, a2, a3⟩
    show B 17 0 + B 23 0 = B 16 0 + B 23 0 + B 18 0 + B 19 0
    omega
/-! drawing -/
theorem jiD_tl {nu nu' : Int → Int} {ds : Int} {dr sd da sa : Int → Int} {ca sl n sp s1 : Int} (h : jiD nu ds dr sd da sa ca sl) (hd : jdi (jwo (fun m => decide (da m = 0)) n) nu' (ds - 1)) (hc : 0 ≤ ca) (hn : 1 ≤ n ∧ n ≤ 90) (h0 : da n = 0) (hsp : 1 ≤ sp ∧ sp ≤ 90) (hs1 : s1 = jb (n ≠ sp)) : jiD nu' (ds - 1) (jup dr ca n) (jup sd ca sp) (jup da n (ca + 1)) (jup sa sp (sa sp + 1)) (ca + 1) (sl + s1) := by
  obtain ⟨a1, a2, a3, a4, a5⟩ := h
  refine ⟨?_, ?_, ?_, ?_, ?_⟩
  · intro k k0 k1
    by_cases q : k = ca
    · rw [jup_at (p := dr) q, jup_at rfl]
      exact ⟨hn.1, hn.2, by omega⟩
    · obtain ⟨b1, b2, b3⟩ := a1 k k0 (by omega)
      rw [jup_ne (p := dr) q, jup_ne (fun e => by rw [e] at b3; omega)]
      exact ⟨b1, b2, b3⟩
  · intro m m1 m9 hm
    by_cases q : m = n
    · rw [jup_at q, jup_at (by omega)]
      exact q.symm
    · rw [jup_ne q] at hm ⊢
      have h2 := a2 m m1 m9 hm
      rw [jup_ne (fun e => ?_)]
      · exact h2
      · rw [e] at h2
        sorry
  · refine jdi_congr hd (fun m m1 m9 => ?_)
    unfold jwo
    by_cases q : m = n
    · rw [jup_at q]
      have e1 : decide (m ≠ n) = false := decide_eq_false (fun x => x q)
      have e2 : decide (ca + 1 = 0) = false := decide_eq_false (by omega)
      rw [e1, e2, Bool.and_false]
    · rw [jup_ne q, decide_eq_true (p := m ≠ n) q, Bool.and_true]
  · have e := jsum_pt (n := 90) (f := fun z => jup sa sp (sa sp + 1) (z + 1)) (g := fun z => sa (z + 1)) (m := sp - 1) (by omega) (by omega) (fun z z0 z1 zn => by
      show jup sa sp (sa sp + 1) (z + 1) = sa (z + 1)
      rw [jup_ne (by omega)])
    have e1 : jup sa sp (sa sp + 1) (sp - 1 + 1) = sa sp + 1 := jup_at (by omega)
    have e2 : sa (sp - 1 + 1) = sa sp := by rw [show sp - 1 + 1 = sp by omega]
    have e3 : jsum 90 (fun z => jup sa sp (sa sp + 1) (z + 1)) = jsum 90 (fun z => sa (z + 1)) + jup sa sp (sa sp + 1) (sp - 1 + 1) - sa (sp - 1 + 1) := e
    omega
  · rw [jcnt_next hc]
    have e1 : jcnt ca.toNat (fun k => decide (jup dr ca n k ≠ jup sd ca sp k)) = jcnt ca.toNat (fun k => decide (dr k ≠ sd k)) := jcnt_congr (fun z z0 z1 => by
      show decide (jup dr ca n z ≠ jup sd ca sp z) = decide (dr z ≠ sd z)
      rw [jup_ne (by omega), jup_ne (by omega)])
    have e2 : jb (decide (jup dr ca n ca ≠ jup sd ca sp ca) = true) = jb (n ≠ sp) := jb_congr (by rw [jup_at rfl, jup_at rfl]; exact decide_eq_true_iff)
    rw [e1, e2, ← hs1, ← a5]
end JI

