/-! more that holds of every book that the law meets: games, said numbers, slips, coins -/
def jsum : Nat → (Int → Int) → Int
  | 0, _ => 0
  | n + 1, f => jsum n f + f n
theorem jsum_succ (n : Nat) (f : Int → Int) : jsum (n + 1) f = jsum n f + f n := rfl
theorem jsum_congr {n : Nat} {f g : Int → Int} (h : ∀ z : Int, 0 ≤ z → z < n → f z = g z) : jsum n f = jsum n g := by
  induction n with
  | zero => rfl
  | succ n ih => rw [jsum_succ, jsum_succ, ih (fun z z0 z1 => h z z0 (by omega)), h n (by omega) (by omega)]
theorem jsum_pt {n : Nat} {f g : Int → Int} {m : Int} (h0 : 0 ≤ m) (h1 : m < n) (hq : ∀ z : Int, 0 ≤ z → z < n → z ≠ m → f z = g z) : jsum n f = jsum n g + f m - g m := by
  induction n with
  | zero => omega
  | succ n ih =>
    rw [jsum_succ n f, jsum_succ n g]
    by_cases h : m = n
    · subst h
      rw [jsum_congr (g := g) (fun z z0 z1 => hq z z0 (by omega) (by omega))]
      omega
    · rw [ih (by omega) (fun z z0 z1 z2 => hq z z0 (by omega) z2), hq n (by omega) (by omega) (fun e => h e.symm)]
      omega
theorem jsum_zero {n : Nat} {f : Int → Int} (h : ∀ z : Int, 0 ≤ z → z < n → f z = 0) : jsum n f = 0 := by
  induction n with
  | zero => rfl
  | succ n ih =>
    rw [jsum_succ, ih (fun z z0 z1 => h z z0 (by omega)), h n (by omega) (by omega)]
    rfl
theorem jsum_next {f : Int → Int} {i : Int} (h : 0 ≤ i) : jsum (i + 1).toNat f = jsum i.toNat f + f i := by
  rw [show (i + 1).toNat = i.toNat + 1 by omega, jsum_succ, show (i.toNat : Int) = i by omega]
theorem jsum_up {n : Nat} {f : Int → Int} {m v : Int} (h0 : 0 ≤ m) (h1 : m < n) : jsum n (jup f m v) = jsum n f + v - f m := by
  have e := jsum_pt (n := n) (f := jup f m v) (g := f) h0 h1 (fun z _ _ zn => jup_ne zn)
  rw [e, jup_at (p := f) (z := m) (v := v) rfl]
def jex (B : zB) : Prop := (∀ g : Int, 0 ≤ g → g < 4 → B 10 g ≤ B 12 0) ∧ (∀ g c : Int, 0 ≤ g → g < 4 → 0 ≤ c → c < 6 → jbit (B 9 g) c = 1 → jbit (B 11 0) c = 1) ∧ jsum 90 (fun z => B 8 (z + 1)) = B 12 0 ∧ B 13 0 = jcnt (B 12 0).toNat (fun k => decide (B 5 k ≠ B 6 k)) ∧ B 17 0 = B 16 0 + B 18 0 + B 19 0 ∧ jsum 6 (B 14) = B 18 0 ∧ jsum 6 (B 15) = B 21 0
theorem jex.wl {B : zB} (h : jex B) : ∀ g : Int, 0 ≤ g → g < 4 → B 10 g ≤ B 12 0 := h.1
theorem jex.wb {B : zB} (h : jex B) : ∀ g c : Int, 0 ≤ g → g < 4 → 0 ≤ c → c < 6 → jbit (B 9 g) c = 1 → jbit (B 11 0) c = 1 := h.2.1
theorem jex.sd {B : zB} (h : jex B) : jsum 90 (fun z => B 8 (z + 1)) = B 12 0 := h.2.2.1
theorem jex.sl {B : zB} (h : jex B) : B 13 0 = jcnt (B 12 0).toNat (fun k => decide (B 5 k ≠ B 6 k)) := h.2.2.2.1
theorem jex.co {B : zB} (h : jex B) : B 17 0 = B 16 0 + B 18 0 + B 19 0 := h.2.2.2.2.1
theorem jex.ca {B : zB} (h : jex B) : jsum 6 (B 14) = B 18 0 := h.2.2.2.2.2.1
theorem jex.td {B : zB} (h : jex B) : jsum 6 (B 15) = B 21 0 := h.2.2.2.2.2.2
section EX
variable {B B2 : zB} {r n c g : Int}
theorem jex_st (h : jex B) : jex (jst B r n) := h
theorem jex_pl (h : jex B) : jex (jpl B r n) := by
  unfold jpl
  split
  · exact jex_st h
  · exact h
theorem jex_lift (h : jex B) : jex (jlift B n) := h
theorem jex_lot {x : Int} (h : jex B) : jex (bset B 24 (fun _ => x)) := h
theorem jex_set {s x : Int} (h : jex B) : jex (bset B 23 (jup (B 23) s x)) := h
theorem jex_fl1 {k : Int} (h : jex B) : jex (jfl1 c B k).1 ∧ k ≤ (jfl1 c B k).2 ∧ (jfl1 c B k).2 ≤ k + 1 := by
  unfold jfl1
  split
  · exact ⟨h, by simp only; omega, by simp only; omega⟩
  · split
    · exact ⟨h, by simp only; omega, by simp only; omega⟩
    · exact ⟨h, by simp only; omega, by simp only; omega⟩
theorem jex_flB (h : jex B) : ∀ m : Nat, jex (jflB c m B).1 ∧ 0 ≤ (jflB c m B).2 ∧ (jflB c m B).2 ≤ m
  | 0 => ⟨h, by show (0 : Int) ≤ 0; omega, by show (0 : Int) ≤ ((0 : Nat) : Int); omega⟩
  | m + 1 => by
    obtain ⟨i1, i2, i3⟩ := jex_flB h m
    rw [jflB_succ]
    obtain ⟨j1, j2, j3⟩ := jex_fl1 (c := c) (k := (jflB c m B).2) i1
    exact ⟨j1, by omega, by omega⟩
theorem jex_sell (ok : jok B) (h : jex B) (hc : 0 ≤ c ∧ c < 6) : jex (jsell B c) := by
  refine ⟨h.wl, ?_, h.sd, h.sl, ?_, h.ca, h.td⟩
  · intro g c' g0 g1 c0 c1 hb
    show jbit (jset (B 11 0) c) c' = 1
    rw [jbit_jset ok.bo hc ⟨c0, c1⟩]
    split
    · rfl
    · exact h.wb g c' g0 g1 c0 c1 hb
  · have := h.co
    show B 17 0 + B 23 0 = B 16 0 + B 23 0 + B 18 0 + B 19 0
    omega
theorem jex_tl {sp sl : Int} (h : jex B) (ca : 0 ≤ B 12 0) (hsp : 1 ≤ sp ∧ sp ≤ 90) (hsl : sl = jb (n ≠ sp)) : jex (jtl B n sp sl) := by
  refine ⟨?_, h.wb, ?_, ?_, h.co, h.ca, h.td⟩
  · intro g g0 g1
    have := h.wl g g0 g1
    show B 10 g ≤ B 12 0 + 1
    omega
  · have e := jsum_pt (n := 90) (f := fun z => jup (B 8) sp (B 8 sp + 1) (z + 1)) (g := fun z => B 8 (z + 1)) (m := sp - 1) (by omega) (by omega) (fun z z0 z1 zn => by
      show jup (B 8) sp (B 8 sp + 1) (z + 1) = B 8 (z + 1)
      rw [jup_ne (by omega)])
    have e1 : jup (B 8) sp (B 8 sp + 1) (sp - 1 + 1) = B 8 sp + 1 := jup_at (by omega)
    have e2 : B 8 (sp - 1 + 1) = B 8 sp := by rw [show sp - 1 + 1 = sp by omega]
    have e3 : jsum 90 (fun z => jup (B 8) sp (B 8 sp + 1) (z + 1)) = jsum 90 (fun z => B 8 (z + 1)) + jup (B 8) sp (B 8 sp + 1) (sp - 1 + 1) - B 8 (sp - 1 + 1) := e
    have e4 := h.sd
    show jsum 90 (fun z => jup (B 8) sp (B 8 sp + 1) (z + 1)) = B 12 0 + 1
    omega
  · show B 13 0 + sl = jcnt (B 12 0 + 1).toNat (fun k => decide (jup (B 5) (B 12 0) n k ≠ jup (B 6) (B 12 0) sp k))
    rw [jcnt_next ca]
    have e1 : jcnt (B 12 0).toNat (fun k => decide (jup (B 5) (B 12 0) n k ≠ jup (B 6) (B 12 0) sp k)) = jcnt (B 12 0).toNat (fun k => decide (B 5 k ≠ B 6 k)) := jcnt_congr (fun z z0 z1 => by
      show decide (jup (B 5) (B 12 0) n z ≠ jup (B 6) (B 12 0) sp z) = decide (B 5 z ≠ B 6 z)
      rw [jup_ne (by omega), jup_ne (by omega)])
    have e2 : jb (decide (jup (B 5) (B 12 0) n (B 12 0) ≠ jup (B 6) (B 12 0) sp (B 12 0)) = true) = jb (n ≠ sp) := jb_congr (by rw [jup_at rfl, jup_at rfl]; exact decide_eq_true_iff)
    rw [e1, e2, ← hsl, h.sl]
theorem jex_dr1 (ok : jok B) (h : jex B) (hc : B 12 0 < 90) : jex (jdr1 B) := by
  obtain ⟨b1, b2, -, -⟩ := jball_r ok hc
  have h0 : jex (jdr0 B) := h
  unfold jdr1
  split
  · exact jex_tl h0 ok.ca.1 (by omega) (by rw [jb_pos (by omega)])
  · exact jex_tl h0 ok.ca.1 ⟨b1, b2⟩ (by rw [jb_neg (by omega)])
theorem jex_drs (ok : jok B) (h : jex B) : ∀ m : Nat, B 12 0 + m ≤ 90 → jex (jdrs m B)
  | 0, _ => h
  | m + 1, hm => jex_dr1 (jok_drs ok m (by omega)) (jex_drs ok h m (by omega)) (by rw [jdrs_ca]; omega)
theorem jex_sc (ok : jok B) (h : jex B) (hc : 0 ≤ c ∧ c < 6) (hb : jbit (B 11 0) c = 1) : jex (jsc B c g) := by
  unfold jsc
  split
  · refine ⟨?_, ?_, h.sd, h.sl, h.co, h.ca, h.td⟩
    · intro g' g0 g1
      show jup (B 10) g (B 12 0) g' ≤ B 12 0
      unfold jup
      split
      · exact Int.le_refl _
      · exact h.wl g' g0 g1
    · intro g' c' g0 g1 c0 c1 hj
      show jbit (B 11 0) c' = 1
      have hj : jbit (jup (B 9) g (jset (B 9 g) c) g') c' = 1 := hj
      by_cases e : g' = g
      · rw [jup_at e, jbit_jset (ok.W g) hc ⟨c0, c1⟩] at hj
        by_cases e2 : c' = c
        · rw [e2]
          exact hb
        · rw [if_neg e2, ← e] at hj
          exact h.wb g' c' g0 g1 c0 c1 hj
      · rw [jup_ne e] at hj
        exact h.wb g' c' g0 g1 c0 c1 hj
  · refine ⟨h.wl, h.wb, h.sd, h.sl, h.co, h.ca, ?_⟩
    have := h.td
    show jsum 6 (jup (B 15) c (B 15 c + 1)) = B 21 0 + 1
    rw [jsum_up hc.1 (by omega)]
    omega
/-! the end of an evening -/
theorem jpi_yes {p g : Int} {m : Nat} (hb : jbit (jpi p g m B 9 g) m = 1) : jpi p g (m + 1) B = bset (bset (jpi p g m B) 14 (jup (jpi p g m B 14) m (jpi p g m B 14 m + p))) 18 (fun _ => jpi p g m B 18 0 + p) := if_pos hb
theorem jpi_sum {p g : Int} : ∀ m : Nat, m ≤ 6 → jsum 6 (jpi p g m B 14) - jpi p g m B 18 0 = jsum 6 (B 14) - B 18 0
  | 0, _ => rfl
  | m + 1, hm => by
    have ih := jpi_sum (p := p) (g := g) m (by omega)
    by_cases hb : jbit (jpi p g m B 9 g) m = 1
    · have e1 : jpi p g (m + 1) B 14 = jup (jpi p g m B 14) m (jpi p g m B 14 m + p) := by
        rw [jpi_yes hb]
        rfl
      have e2 : jpi p g (m + 1) B 18 0 = jpi p g m B 18 0 + p := by
        rw [jpi_yes hb]
        rfl
      rw [e1, e2, jsum_up (by omega) (by omega)]
      omega
    · have e1 : jpi p g (m + 1) B = jpi p g m B := by
        show (if jbit (jpi p g m B 9 g) m = 1 then _ else _) = _
        rw [if_neg hb]
      rw [e1]
      exact ih
theorem jpi_18 {p g : Int} (hp : 0 ≤ p ∧ p ≤ 237) : ∀ m : Nat, B 18 0 ≤ jpi p g m B 18 0 ∧ jpi p g m B 18 0 ≤ B 18 0 + 237 * m
  | 0 => ⟨Int.le_refl _, by show B 18 0 ≤ B 18 0 + 237 * ((0 : Nat) : Int); omega⟩
  | m + 1 => by
    have ih := jpi_18 (g := g) hp m
    by_cases hb : jbit (jpi p g m B 9 g) m = 1
    · have e2 : jpi p g (m + 1) B 18 0 = jpi p g m B 18 0 + p := by
        rw [jpi_yes hb]
        rfl
      rw [e2]
      omega
    · have e1 : jpi p g (m + 1) B = jpi p g m B := by
        show (if jbit (jpi p g m B 9 g) m = 1 then _ else _) = _
        rw [if_neg hb]
      rw [e1]
      omega
theorem jpo_sum : ∀ m : Nat, jsum 6 (jpo m B 14) - jpo m B 18 0 = jsum 6 (B 14) - B 18 0
  | 0 => rfl
  | m + 1 => by
    have ih := jpo_sum m
    have h := jpi_sum (B := jpo m B) (p := jpz (jpo m B) m) (g := m) 6 (by omega)
    show jsum 6 (jpi (jpz (jpo m B) m) m 6 (jpo m B) 14) - jpi (jpz (jpo m B) m) m 6 (jpo m B) 18 0 = _
    omega
theorem jpo_18 (hp : 0 ≤ B 16 0 ∧ B 16 0 ≤ 594) : ∀ m : Nat, B 18 0 ≤ jpo m B 18 0 ∧ jpo m B 18 0 ≤ B 18 0 + 1422 * m
  | 0 => ⟨Int.le_refl _, by show B 18 0 ≤ B 18 0 + 1422 * ((0 : Nat) : Int); omega⟩
  | m + 1 => by
    have ih := jpo_18 hp m
    have e16 : jpo m B 16 = B 16 := jpo_ne (by decide) (by decide) B m
    have hz := jpz_r (B := jpo m B) (by rw [e16]; exact hp) m
    have h := jpi_18 (B := jpo m B) (g := m) hz 6
    show B 18 0 ≤ jpi (jpz (jpo m B) m) m 6 (jpo m B) 18 0 ∧ jpi (jpz (jpo m B) m) m 6 (jpo m B) 18 0 ≤ _
    omega
theorem jleft_r (ok : jok B) : -5688 ≤ jleft B ∧ jleft B ≤ B 16 0 := by
  have h := jpo_18 ok.po2 4
  have hp := ok.po2
  unfold jleft
  omega
theorem jex_end (h : jex B) : jex (jend B) := by
  have e14 := jpo_sum (B := B) 4
  have e15 : jpo 4 B 15 = B 15 := jpo_ne (by decide) (by decide) B 4
  have e17 : jpo 4 B 17 = B 17 := jpo_ne (by decide) (by decide) B 4
  have e19 : jpo 4 B 19 = B 19 := jpo_ne (by decide) (by decide) B 4
  have e21 : jpo 4 B 21 = B 21 := jpo_ne (by decide) (by decide) B 4
  obtain ⟨-, -, -, p9, p10, -, p8, -⟩ := jend_p B
  refine ⟨?_, ?_, ?_, rfl, ?_, ?_, ?_⟩
  · intro g g0 g1
    rw [p10, jfil_at ⟨g0, g1⟩]
    exact Int.le_refl _
  · intro g c g0 g1 c0 c1 hb
    rw [p9, jfil_at ⟨g0, g1⟩, jbit_0] at hb
    exact absurd hb (by decide)
  · rw [p8]
    show _ = (0 : Int)
    exact jsum_zero (fun z z0 z1 => jfil_at (by omega))
  · have := h.co
    show jpo 4 B 17 0 = 0 + jpo 4 B 18 0 + (jpo 4 B 19 0 + jleft B)
    rw [e17, e19]
    unfold jleft
    omega
  · have := h.ca
    show jsum 6 (jpo 4 B 14) = jpo 4 B 18 0
    omega
  · show jsum 6 (jpo 4 B 15) = jpo 4 B 21 0
    rw [e15, e21]
    exact h.td
theorem jex_cp (ok2 : jok B2) (h : jex B2) : jex (jcp B B2) := by
  have h5 : jcp B B2 5 = jcpy (B2 5) (B 5) 0 0 90 := rfl
  have h6 : jcp B B2 6 = jcpy (B2 6) (B 6) 0 0 90 := rfl
  have h8 : jcp B B2 8 = jcpy (B2 8) (B 8) 0 0 91 := rfl
  have h9 : jcp B B2 9 = jcpy (B2 9) (B 9) 0 0 4 := rfl
  have h10 : jcp B B2 10 = jcpy (B2 10) (B 10) 0 0 4 := rfl
  have h14 : jcp B B2 14 = jcpy (B2 14) (B 14) 0 0 6 := rfl
  have h15 : jcp B B2 15 = jcpy (B2 15) (B 15) 0 0 6 := rfl
  have hca := ok2.ca
  refine ⟨?_, ?_, ?_, ?_, h.co, ?_, ?_⟩
  · intro g g0 g1
    rw [h10, jcpy_at ⟨g0, g1⟩]
    exact h.wl g g0 g1
  · intro g c g0 g1 c0 c1 hb
    rw [h9, jcpy_at ⟨g0, g1⟩] at hb
    exact h.wb g c g0 g1 c0 c1 hb
  · rw [h8]
    refine Eq.trans (jsum_congr fun z z0 z1 => ?_) h.sd
    exact jcpy_at (by omega)
  · rw [h5, h6]
    refine h.sl.trans (jcnt_congr fun z z0 z1 => ?_)
    show decide (B2 5 z ≠ B2 6 z) = decide (jcpy (B2 5) (B 5) 0 0 90 z ≠ jcpy (B2 6) (B 6) 0 0 90 z)
    rw [jcpy_at (by omega), jcpy_at (by omega)]
  · rw [h14]
    exact Eq.trans (jsum_congr fun z z0 z1 => jcpy_at ⟨z0, z1⟩) h.ca
  · rw [h15]
    exact Eq.trans (jsum_congr fun z z0 z1 => jcpy_at ⟨z0, z1⟩) h.td
theorem jex_B0 : jex jB0 := by
  refine ⟨fun g _ _ => Int.le_refl 0, fun g c _ _ _ _ hb => ?_, ?_, rfl, rfl, ?_, ?_⟩
  · have hb : jbit 0 c = 1 := hb
    rw [jbit_0] at hb
    exact absurd hb (by decide)
  · exact jsum_zero (fun z _ _ => rfl)
  · exact jsum_zero (fun z _ _ => rfl)
  · exact jsum_zero (fun z _ _ => rfl)
/-! all of it -/
def jin (B : zB) : Prop := jok B ∧ jlk B ∧ jex B
theorem jin.ok {B : zB} (h : jin B) : jok B := h.1
theorem jin.lk {B : zB} (h : jin B) : jlk B := h.2.1
theorem jin.ex {B : zB} (h : jin B) : jex B := h.2.2
theorem jin_pl (h : jin B) (hr : 0 ≤ r ∧ r < 18) (hn : 1 ≤ n ∧ n ≤ 90) : jin (jpl B r n) := ⟨jok_pl h.ok hr hn, jlk_pl h.ok h.lk hr hn, jex_pl h.ex⟩
theorem jin_lift (h : jin B) (hn : 1 ≤ n ∧ n ≤ 90) (h1 : B 1 n ≠ -1) (h2 : jbit (B 11 0) (B 1 n / 3) ≠ 1) : jin (jlift B n) := ⟨jok_lift h.ok, jlk_lift h.ok h.lk hn h1 h2, jex_lift h.ex⟩
theorem jin_flB (h : jin B) (hc : 0 ≤ c ∧ c < 6) (m : Nat) : jin (jflB c m B).1 := ⟨jok_flB h.ok hc m, jlk_flB h.ok h.lk hc m, (jex_flB h.ex m).1⟩
theorem jin_sell (h : jin B) (hc : 0 ≤ c ∧ c < 6) (hs : jfs B c) : jin (jsell B c) := ⟨jok_sell h.ok hc hs, jlk_sell h.ok h.lk hc hs, jex_sell h.ok h.ex hc⟩
theorem jin_lot {x : Int} (h : jin B) (hx : 0 ≤ x ∧ x < 10000) : jin (bset B 24 (fun _ => x)) := ⟨jok_lot h.ok hx, jlk_lot h.lk, jex_lot h.ex⟩
theorem jin_set {s x : Int} (h : jin B) (hx : 0 ≤ x ∧ x < 100) : jin (bset B 23 (jup (B 23) s x)) := ⟨jok_set h.ok hx, jlk_set h.lk, jex_set h.ex⟩
theorem jin_drs (h : jin B) (m : Nat) (hm : B 12 0 + m ≤ 90) : jin (jdrs m B) := ⟨jok_drs h.ok m hm, jlk_drs h.ok h.lk m hm, jex_drs h.ok h.ex m hm⟩
theorem jin_sc (h : jin B) (hc : 0 ≤ c ∧ c < 6) (hg : 0 ≤ g ∧ g < 4) (hb : jbit (B 11 0) c = 1) : jin (jsc B c g) := ⟨jok_sc h.ok hc, jlk_sc h.ok h.lk hc hg hb, jex_sc h.ok h.ex hc hb⟩
theorem jin_end (h : jin B) : jin (jend B) := ⟨jok_end h.ok, jlk_end h.ok h.lk, jex_end h.ex⟩
theorem jin_cp (ok : jok B) (h : jin B2) : jin (jcp B B2) := ⟨jok_cp ok h.ok, jlk_cp ok h.ok h.lk, jex_cp h.ok h.ex⟩
theorem jin_B0 : jin jB0 := ⟨jok_B0, jlk_B0, jex_B0⟩
/-- the class's state -/
def jsn (σ : zC) : Prop := cok σ ∧ ∀ s : Int, 0 ≤ s → s < 2 → σ.kp s = 1 → jin (σ.X s.toNat)
theorem jsn_sv {σ : zC} (h : jsn σ) (ok : jok B) : jsn (jsv σ B) := ⟨cok_save h.1 ok, fun s s0 s1 hk => by
  rw [jsv_X ⟨s0, s1⟩]
  exact h.2 s s0 s1 hk⟩
theorem jsv_sc (σ : zC) (B : zB) : (jsv σ B).sc = js2 σ + 1 := rfl
theorem jsn_keep {σ : zC} {s : Int} (h : jsn σ) (hs : 0 ≤ s ∧ s < 2) (hi : jin B) : jsn (zC.sk (zC.sX σ (zxu σ.X s.toNat (jcp (σ.X s.toNat) B))) (jup σ.kp s 1)) := by
  have okX := h.1.X s.toNat (by omega)
  have c1 := cok_xu (i := s.toNat) h.1 (jok_cp okX hi.ok)
  refine ⟨⟨c1.1, jup_r h.1.kp (by decide), c1.2.2⟩, fun s' s0 s1 hk => ?_⟩
  show jin (zxu σ.X s.toNat (jcp (σ.X s.toNat) B) s'.toNat)
  unfold zxu
  by_cases e : s'.toNat = s.toNat
  · rw [if_pos e]
    exact jin_cp okX hi
  · rw [if_neg e]
    have hk : jup σ.kp s 1 s' = 1 := hk
    rw [jup_ne (by omega)] at hk
    exact h.2 s' s0 s1 hk
end EX

