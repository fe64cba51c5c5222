/-! the class's state and the reference's -/
def zRel (B : zB) (σ : zC) (S : Int → Int) (ik : Int → Int) : Prop := jok B ∧ jlk B ∧ jpk B ∧ cok σ ∧ (∀ i, i < 8 → jlk (σ.X i) ∧ jpk (σ.X i)) ∧ mr S 0 B ∧ (∀ i : Int, 1 ≤ i → i ≤ σ.sc → mr S (494 * i) (σ.X (2 + ((σ.old + (i - 1)) % 6).toNat))) ∧ (∀ s : Int, 0 ≤ s → s < 2 → ik s = σ.kp s ∧ (σ.kp s = 1 → mr S (494 * (7 + s)) (σ.X s.toNat)))
def zMQ (v : Option Value) (th : Int) (B : zB) (σ : zC) (w : zW) : zPo := fun r w2 => r = v ∧ ∃ S' ik', zRel B σ S' ik' ∧ w2 = mw S' σ.sc ik' th σ.T σ.L w
section RL
variable {S S' : Int → Int} {ik : Int → Int} {B B' : zB} {σ : zC}
theorem mr_lift {n : Int} (h : mr S 0 B) (hn : 1 ≤ n ∧ n ≤ 90) : mr (jup S (4 + n) 0) 0 (jlift B n) := by
  refine ⟨?_, ?_, ?_, ?_, ?_, ?_, ?_, ?_, ?_, ?_, ?_, ?_, ?_, ?_, ?_, ?_, ?_, ?_, ?_, ?_, ?_⟩
  · intro k h0 h1
    rw [jup_ne (by omega)]
    exact h.se k h0 h1
  · rw [jup_ne (by omega)]
    exact h.lo
  · intro m h0 h1
    show _ = jup (B 1) n (-1) m + 1
    by_cases e : m = n
    · rw [jup_at (by omega), jup_at e]
      rfl
    · rw [jup_ne (by omega), jup_ne e]
      exact h.pl m h0 h1
  · intro n h0 h1
    rw [jup_ne (by omega)]
    exact h.da n h0 h1
  · intro n h0 h1
    rw [jup_ne (by omega)]
    exact h.sa n h0 h1
  · intro k h0 h1
    have h1 : k < B 12 0 := h1
    rw [jup_ne (by omega)]
    exact h.dr k h0 h1
  · intro k h0 h1
    have h1 : k < B 12 0 := h1
    rw [jup_ne (by omega)]
    exact h.sd k h0 h1
  · rw [jup_ne (by omega)]
    exact h.ca
  · intro c h0 h1
    rw [jup_ne (by omega)]
    exact h.bo c h0 h1
  · intro c h0 h1
    rw [jup_ne (by omega)]
    exact h.wo c h0 h1
  · intro c h0 h1
    rw [jup_ne (by omega)]
    exact h.co c h0 h1
  · intro c h0 h1
    rw [jup_ne (by omega)]
    exact h.dn c h0 h1
  · intro g h0 h1
    rw [jup_ne (by omega)]
    exact h.ga g h0 h1
  · rw [jup_ne (by omega)]
    exact h.po
  · rw [jup_ne (by omega)]
    exact h.ci
  · rw [jup_ne (by omega)]
    exact h.pa
  · rw [jup_ne (by omega)]
    exact h.ho
  · rw [jup_ne (by omega)]
    exact h.wi
  · rw [jup_ne (by omega)]
    exact h.tu
  · rw [jup_ne (by omega)]
    exact h.ev
  · rw [jup_ne (by omega)]
    exact h.sl
theorem mr_lot {x : Int} (h : mr S 0 B) : mr (jup S 3 x) 0 (bset B 24 (fun _ => x)) := by
  refine ⟨?_, ?_, ?_, ?_, ?_, ?_, ?_, ?_, ?_, ?_, ?_, ?_, ?_, ?_, ?_, ?_, ?_, ?_, ?_, ?_, ?_⟩
  · intro k h0 h1
    rw [jup_ne (by omega)]
    exact h.se k h0 h1
  · rw [jup_at (by omega)]
    rfl
  · intro n h0 h1
    rw [jup_ne (by omega)]
    exact h.pl n h0 h1
  · intro n h0 h1
    rw [jup_ne (by omega)]
    exact h.da n h0 h1
  · intro n h0 h1
    rw [jup_ne (by omega)]
    exact h.sa n h0 h1
  · intro k h0 h1
    have h1 : k < B 12 0 := h1
    rw [jup_ne (by omega)]
    exact h.dr k h0 h1
  · intro k h0 h1
    have h1 : k < B 12 0 := h1
    rw [jup_ne (by omega)]
    exact h.sd k h0 h1
  · rw [jup_ne (by omega)]
    exact h.ca
  · intro c h0 h1
    rw [jup_ne (by omega)]
    exact h.bo c h0 h1
  · intro c h0 h1
    rw [jup_ne (by omega)]
    exact h.wo c h0 h1
  · intro c h0 h1
    rw [jup_ne (by omega)]
    exact h.co c h0 h1
  · intro c h0 h1
    rw [jup_ne (by omega)]
    exact h.dn c h0 h1
  · intro g h0 h1
    rw [jup_ne (by omega)]
    exact h.ga g h0 h1
  · rw [jup_ne (by omega)]
    exact h.po
  · rw [jup_ne (by omega)]
    exact h.ci
  · rw [jup_ne (by omega)]
    exact h.pa
  · rw [jup_ne (by omega)]
    exact h.ho
  · rw [jup_ne (by omega)]
    exact h.wi
  · rw [jup_ne (by omega)]
    exact h.tu
  · rw [jup_ne (by omega)]
    exact h.ev
  · rw [jup_ne (by omega)]
    exact h.sl
theorem mr_set {s x : Int} (h : mr S 0 B) (hs : 0 ≤ s ∧ s < 3) : mr (jup S s x) 0 (bset B 23 (jup (B 23) s x)) := by
  refine ⟨?_, ?_, ?_, ?_, ?_, ?_, ?_, ?_, ?_, ?_, ?_, ?_, ?_, ?_, ?_, ?_, ?_, ?_, ?_, ?_, ?_⟩
  · intro k h0 h1
    show _ = jup (B 23) s x k
    by_cases e : k = s
    · rw [jup_at (by omega), jup_at e]
    · rw [jup_ne (by omega), jup_ne e]
      exact h.se k h0 h1
  · rw [jup_ne (by omega)]
    exact h.lo
  · intro n h0 h1
    rw [jup_ne (by omega)]
    exact h.pl n h0 h1
  · intro n h0 h1
    rw [jup_ne (by omega)]
    exact h.da n h0 h1
  · intro n h0 h1
    rw [jup_ne (by omega)]
    exact h.sa n h0 h1
  · intro k h0 h1
    have h1 : k < B 12 0 := h1
    rw [jup_ne (by omega)]
    exact h.dr k h0 h1
  · intro k h0 h1
    have h1 : k < B 12 0 := h1
    rw [jup_ne (by omega)]
    exact h.sd k h0 h1
  · rw [jup_ne (by omega)]
    exact h.ca
  · intro c h0 h1
    rw [jup_ne (by omega)]
    exact h.bo c h0 h1
  · intro c h0 h1
    rw [jup_ne (by omega)]
    exact h.wo c h0 h1
  · intro c h0 h1
    rw [jup_ne (by omega)]
    exact h.co c h0 h1
  · intro c h0 h1
    rw [jup_ne (by omega)]
    exact h.dn c h0 h1
  · intro g h0 h1
    rw [jup_ne (by omega)]
    exact h.ga g h0 h1
  · rw [jup_ne (by omega)]
    exact h.po
  · rw [jup_ne (by omega)]
    exact h.ci
  · rw [jup_ne (by omega)]
    exact h.pa
  · rw [jup_ne (by omega)]
    exact h.ho
  · rw [jup_ne (by omega)]
    exact h.wi
  · rw [jup_ne (by omega)]
    exact h.tu
  · rw [jup_ne (by omega)]
    exact h.ev
  · rw [jup_ne (by omega)]
    exact h.sl
theorem jpk_set {s x : Int} (h : jpk B) (hx : s ≠ 0 ∨ 1 ≤ x) : jpk (bset B 23 (jup (B 23) s x)) := by
  show 1 ≤ jup (B 23) s x 0
  by_cases e : (0 : Int) = s
  · rw [jup_at e]
    omega
  · rw [jup_ne e]
    exact h
theorem mr_cp {o : Int} (h : mr S o B) (hc : B 12 0 ≤ 90) : mr S o (jcp B' B) := by
  have e1 : jcp B' B 1 = jcpy (B 1) (B' 1) 0 0 91 := rfl
  have e7 : jcp B' B 7 = jcpy (B 7) (B' 7) 0 0 91 := rfl
  have e8 : jcp B' B 8 = jcpy (B 8) (B' 8) 0 0 91 := rfl
  have e5 : jcp B' B 5 = jcpy (B 5) (B' 5) 0 0 90 := rfl
  have e6 : jcp B' B 6 = jcpy (B 6) (B' 6) 0 0 90 := rfl
  have e23 : jcp B' B 23 = jcpy (B 23) (B' 23) 0 0 3 := rfl
  have e14 : jcp B' B 14 = jcpy (B 14) (B' 14) 0 0 6 := rfl
  have e15 : jcp B' B 15 = jcpy (B 15) (B' 15) 0 0 6 := rfl
  have e9 : jcp B' B 9 = jcpy (B 9) (B' 9) 0 0 4 := rfl
  have e10 : jcp B' B 10 = jcpy (B 10) (B' 10) 0 0 4 := rfl
  have e12 : jcp B' B 12 0 = B 12 0 := rfl
  have g9 : ∀ c, jgw (jcp B' B 9) c = jgw (B 9) c := by
    intro c
    unfold jgw
    rw [e9, jcpy_at (by decide), jcpy_at (by decide), jcpy_at (by decide), jcpy_at (by decide)]
  refine ⟨?_, ?_, ?_, ?_, ?_, ?_, ?_, ?_, ?_, ?_, ?_, ?_, ?_, ?_, ?_, ?_, ?_, ?_, ?_, ?_, ?_⟩
  · intro k h0 h1
    rw [e23, jcpy_at ⟨h0, h1⟩]
    exact h.se k h0 h1
  · exact h.lo
  · intro n h0 h1
    rw [e1, jcpy_at (by omega)]
    exact h.pl n h0 h1
  · intro n h0 h1
    rw [e7, jcpy_at (by omega)]
    exact h.da n h0 h1
  · intro n h0 h1
    rw [e8, jcpy_at (by omega)]
    exact h.sa n h0 h1
  · rw [e12]
    intro k h0 h1
    rw [e5, jcpy_at (by omega)]
    exact h.dr k h0 h1
  · rw [e12]
    intro k h0 h1
    rw [e6, jcpy_at (by omega)]
    exact h.sd k h0 h1
  · exact h.ca
  · intro c h0 h1
    exact h.bo c h0 h1
  · intro c h0 h1
    rw [g9]
    exact h.wo c h0 h1
  · intro c h0 h1
    rw [e14, jcpy_at ⟨h0, h1⟩]
    exact h.co c h0 h1
  · intro c h0 h1
    rw [e15, jcpy_at ⟨h0, h1⟩]
    exact h.dn c h0 h1
  · intro g h0 h1
    rw [e10, jcpy_at ⟨h0, h1⟩]
    exact h.ga g h0 h1
  · exact h.po
  · exact h.ci
  · exact h.pa
  · exact h.ho
  · exact h.wi
  · exact h.tu
  · exact h.ev
  · exact h.sl
theorem zRel_upd (h : zRel B σ S ik) (ok : jok B') (lk : jlk B') (pk : jpk B') (ag : jagb 0 S' S) (hm : mr S' 0 B') : zRel B' σ S' ik := by
  obtain ⟨-, -, -, ck, lx, -, hsv, hkp⟩ := h
  have hq : ∀ i : Int, 1 ≤ i → jbq S' i S i := fun i hi k k0 k1 => ag _ (by omega)
  have e6 : ∀ i : Int, 2 + ((σ.old + (i - 1)) % 6).toNat < 8 := fun i => by
    have := Int.emod_lt_of_pos (σ.old + (i - 1)) (by decide : (0 : Int) < 6)
    have := Int.emod_nonneg (σ.old + (i - 1)) (by decide : (6 : Int) ≠ 0)
    omega
  refine ⟨ok, lk, pk, ck, lx, hm, fun i i0 i1 => ?_, fun s s0 s1 => ?_⟩
  · exact mr.block (hq i i0) (hsv i i0 i1) (ck.X _ (e6 i)).ca.2
  · obtain ⟨k1, k2⟩ := hkp s s0 s1
    exact ⟨k1, fun e => mr.block (hq (7 + s) (by omega)) (k2 e) (ck.X _ (by omega)).ca.2⟩
theorem zRel_try (h : zRel B σ S ik) (ag : jagb 4446 S' S) : zRel B σ S' ik := by
  obtain ⟨ok, lk, pk, ck, lx, hm, hsv, hkp⟩ := h
  have hsc := ck.sc
  have hq : ∀ i : Int, 0 ≤ i → i < 9 → jbq S' i S i := fun i hi h9 k k0 k1 => ag _ (by omega)
  have e6 : ∀ i : Int, 2 + ((σ.old + (i - 1)) % 6).toNat < 8 := fun i => by
    have := Int.emod_lt_of_pos (σ.old + (i - 1)) (by decide : (0 : Int) < 6)
    have := Int.emod_nonneg (σ.old + (i - 1)) (by decide : (6 : Int) ≠ 0)
    omega
  refine ⟨ok, lk, pk, ck, lx, mr_tried hm ag ok, fun i i0 i1 => ?_, fun s s0 s1 => ?_⟩
  · exact mr.block (hq i (by omega) (by omega)) (hsv i i0 i1) (ck.X _ (e6 i)).ca.2
  · obtain ⟨k1, k2⟩ := hkp s s0 s1
    exact ⟨k1, fun e => mr.block (hq (7 + s) (by omega) (by omega)) (k2 e) (ck.X _ (by omega)).ca.2⟩
theorem zRel_save (h : zRel B σ S ik) : zRel B (jsv σ B) (jsv2 S σ.sc) ik := by
  obtain ⟨ok, lk, pk, ck, lx, hm, hsv, hkp⟩ := h
  obtain ⟨q1, q2, q3, q4⟩ := cok_sv ck
  have hsc := ck.sc
  have hold := ck.old
  obtain ⟨b0, b1, b2, b3⟩ := jsv2_q (S := S) hsc
  have hco := ok.ca
  have e6 : ∀ z : Int, 0 ≤ z % 6 ∧ z % 6 < 6 := fun z => ⟨Int.emod_nonneg _ (by decide), Int.emod_lt_of_pos _ (by decide)⟩
  have hjs : jst2 σ.sc = js2 σ := rfl
  refine ⟨ok, lk, pk, cok_save ck ok, fun i hi => ?_, mr.block b0 hm hco.2, fun i i0 i1 => ?_, fun s s0 s1 => ?_⟩
  · show jlk (zxu σ.X (jsi σ) (jcp (σ.X (jsi σ)) B) i) ∧ jpk (zxu σ.X (jsi σ) (jcp (σ.X (jsi σ)) B) i)
    unfold zxu
    split
    · exact ⟨jlk_cp (ck.X _ q3) ok lk, jpk_cp pk⟩
    · exact lx i hi
  · have i1 : i ≤ js2 σ + 1 := i1
    show mr (jsv2 S σ.sc) (494 * i) (zxu σ.X (jsi σ) (jcp (σ.X (jsi σ)) B) (2 + ((jo2 σ + (i - 1)) % 6).toNat))
    unfold zxu
    have f1 := e6 (jo2 σ + (i - 1))
    have f2 := e6 (jo2 σ + js2 σ)
    by_cases e : i = js2 σ + 1
    · rw [if_pos (by rw [e]; unfold jsi; rw [show js2 σ + 1 - 1 = js2 σ by omega])]
      refine mr_cp ?_ hco.2
      rw [e, ← hjs]
      exact mr.block b1 hm hco.2
    · rw [if_neg (by unfold jsi; omega)]
      have hb := b2 i i0 (by rw [hjs]; omega)
      by_cases h6 : σ.sc = 6
      · rw [if_pos h6] at hb
        have ej : jo2 σ = (σ.old + 1) % 6 := if_pos h6
        have es : js2 σ = 5 := if_pos h6
        have hx := hsv (i + 1) (by omega) (by omega)
        rw [show i + 1 - 1 = i by omega] at hx
        have ei : ((jo2 σ + (i - 1)) % 6).toNat = ((σ.old + i) % 6).toNat := by
          rw [ej]
          omega
        rw [ei]
        have f3 := e6 (σ.old + i)
        exact mr.block hb hx (ck.X _ (by omega)).ca.2
      · rw [if_neg h6] at hb
        have ej : jo2 σ = σ.old := if_neg h6
        have es : js2 σ = σ.sc := if_neg h6
        have hx := hsv i i0 (by omega)
        rw [ej] at f1 ⊢
        exact mr.block hb hx (ck.X _ (by omega)).ca.2
  · obtain ⟨k1, k2⟩ := hkp s s0 s1
    refine ⟨k1, fun e => ?_⟩
    show mr (jsv2 S σ.sc) (494 * (7 + s)) (zxu σ.X (jsi σ) (jcp (σ.X (jsi σ)) B) s.toNat)
    unfold zxu
    rw [if_neg (by omega)]
    exact mr.block (b3 (7 + s) (by omega)) (k2 e) (ck.X _ (by omega)).ca.2
theorem zRel_app {x : Int} (h : zRel B σ S ik) (hx : 33 ≤ x ∧ x ≤ 126) (hL : σ.L < 60) : zRel B (zC.sL (zC.sT σ (jup σ.T σ.L x)) (σ.L + 1)) S ik := by
  obtain ⟨ok, lk, pk, ck, lx, hm, hsv, hkp⟩ := h
  have h1 := ck.L
  exact ⟨ok, lk, pk, ⟨ck.1, ck.2.1, ck.2.2.1, ck.2.2.2.1, jup_r ck.T (by omega), by show 0 ≤ σ.L + 1 ∧ σ.L + 1 ≤ 60; omega⟩, lx, hm, hsv, hkp⟩
theorem zRel_clr (h : zRel B σ S ik) : zRel B (zC.sL σ 0) S ik := by
  obtain ⟨ok, lk, pk, ck, lx, hm, hsv, hkp⟩ := h
  exact ⟨ok, lk, pk, ⟨ck.1, ck.2.1, ck.2.2.1, ck.2.2.2.1, ck.2.2.2.2.1, by show (0 : Int) ≤ 0 ∧ (0 : Int) ≤ 60; decide⟩, lx, hm, hsv, hkp⟩
theorem zRel_keepm {s : Int} (h : zRel B σ S ik) (hs : 0 ≤ s ∧ s < 2) : mr (jcpy S S (494 * 0) (494 * (7 + s)) 494) 0 B :=
  mr.block (a := 0) (b := 0) (jbq_cpyn (by omega)) h.2.2.2.2.2.1 h.1.ca.2
theorem zRel_keep {s : Int} (h : zRel B σ S ik) (hs : 0 ≤ s ∧ s < 2) : zRel B (zC.sk (zC.sX σ (zxu σ.X s.toNat (jcp (σ.X s.toNat) B))) (jup σ.kp s 1)) (jcpy S S (494 * 0) (494 * (7 + s)) 494) (jup ik s 1) := by
  have hkm := zRel_keepm h hs
  obtain ⟨ok, lk, pk, ck, lx, hm, hsv, hkp⟩ := h
  have hsc := ck.sc
  have e6 : ∀ z : Int, 0 ≤ z % 6 ∧ z % 6 < 6 := fun z => ⟨Int.emod_nonneg _ (by decide), Int.emod_lt_of_pos _ (by decide)⟩
  have hxu := cok_xu (i := s.toNat) ck (jok_cp (ck.X s.toNat (by omega)) ok)
  refine ⟨ok, lk, pk, ⟨hxu.1, jup_r ck.kp (by decide), hxu.2.2⟩, fun i hi => ?_, hkm, fun i i0 i1 => ?_, fun s2 s0 s1 => ?_⟩
  · show jlk (zxu σ.X s.toNat (jcp (σ.X s.toNat) B) i) ∧ jpk (zxu σ.X s.toNat (jcp (σ.X s.toNat) B) i)
    unfold zxu
    split
    · exact ⟨jlk_cp (ck.X _ (by omega)) ok lk, jpk_cp pk⟩
    · exact lx i hi
  · have i1 : i ≤ σ.sc := i1
    have f1 := e6 (σ.old + (i - 1))
    show mr _ (494 * i) (zxu σ.X s.toNat (jcp (σ.X s.toNat) B) (2 + ((σ.old + (i - 1)) % 6).toNat))
    unfold zxu
    rw [if_neg (by omega)]
    exact mr.block (jbq_cpyn (by omega)) (hsv i i0 i1) (ck.X _ (by omega)).ca.2
  · show jup ik s 1 s2 = jup σ.kp s 1 s2 ∧ (jup σ.kp s 1 s2 = 1 → mr _ (494 * (7 + s2)) (zxu σ.X s.toNat (jcp (σ.X s.toNat) B) s2.toNat))
    obtain ⟨k1, k2⟩ := hkp s2 s0 s1
    unfold zxu
    by_cases e : s2 = s
    · rw [jup_at e, jup_at e, if_pos (by omega), e]
      exact ⟨rfl, fun _ => mr_cp (mr.block jbq_cpy hm ok.ca.2) ok.ca.2⟩
    · rw [jup_ne e, jup_ne e, if_neg (by omega)]
      exact ⟨k1, fun q => mr.block (jbq_cpyn (by omega)) (k2 q) (ck.X _ (by omega)).ca.2⟩
theorem zRel_backm {s : Int} (h : zRel B σ S ik) (hs : 0 ≤ s ∧ s < 2) (hk : σ.kp s = 1) : mr (jcpy (jsv2 S σ.sc) (jsv2 S σ.sc) (494 * (7 + s)) (494 * 0) 494) 0 (σ.X s.toNat) := by
  have h2 := zRel_save h
  obtain ⟨-, k2⟩ := h2.2.2.2.2.2.2.2 s hs.1 hs.2
  have k3 := k2 hk
  rw [jsv_X hs] at k3
  exact mr.block (a := 0) (b := 7 + s) jbq_cpy k3 (h.2.2.2.1.X _ (by omega)).ca.2
theorem zRel_back {s : Int} (h : zRel B σ S ik) (hs : 0 ≤ s ∧ s < 2) (hk : σ.kp s = 1) : zRel (jcp B (σ.X s.toNat)) (jsv σ B) (jcpy (jsv2 S σ.sc) (jsv2 S σ.sc) (494 * (7 + s)) (494 * 0) 494) ik := by
  have hm := zRel_backm h hs hk
  have okX := h.2.2.2.1.X s.toNat (by omega)
  have lx := h.2.2.2.2.1 s.toNat (by omega)
  refine zRel_upd (zRel_save h) (jok_cp h.1 okX) (jlk_cp h.1 okX lx.1) (jpk_cp lx.2) ?_ (mr_cp hm okX.ca.2)
  intro z hz
  unfold jcpy
  rw [if_neg (by omega)]
theorem zRel_undo (h : zRel B σ S ik) (hs : 0 < σ.sc) : zRel (jcp B (σ.X (jui σ))) (zC.os σ σ.old (σ.sc - 1)) (jcpy S S (494 * σ.sc) (494 * 0) 494) ik := by
  obtain ⟨ok, lk, pk, ck, lx, hm, hsv, hkp⟩ := h
  have hsc := ck.sc
  have e6 : ∀ z : Int, 0 ≤ z % 6 ∧ z % 6 < 6 := fun z => ⟨Int.emod_nonneg _ (by decide), Int.emod_lt_of_pos _ (by decide)⟩
  have f0 := e6 (σ.old + (σ.sc - 1))
  have hu : jui σ < 8 := by unfold jui; omega
  have okX := ck.X _ hu
  have hlx := lx _ hu
  have hmu : mr S (494 * σ.sc) (σ.X (jui σ)) := hsv σ.sc (by omega) (by omega)
  refine ⟨jok_cp ok okX, jlk_cp ok okX hlx.1, jpk_cp hlx.2, ⟨ck.1, ck.2.1, ck.2.2.1, by show 0 ≤ σ.sc - 1 ∧ σ.sc - 1 ≤ 6; omega, ck.2.2.2.2⟩, lx, mr_cp (mr.block (a := 0) (b := σ.sc) jbq_cpy hmu okX.ca.2) okX.ca.2, fun i i0 i1 => ?_, fun s s0 s1 => ?_⟩
  · have i1 : i ≤ σ.sc - 1 := i1
    have f1 := e6 (σ.old + (i - 1))
    exact mr.block (jbq_cpyn (by omega)) (hsv i i0 (by omega)) (ck.X _ (by omega)).ca.2
  · obtain ⟨k1, k2⟩ := hkp s s0 s1
    exact ⟨k1, fun q => mr.block (jbq_cpyn (by omega)) (k2 q) (ck.X _ (by omega)).ca.2⟩
end RL

