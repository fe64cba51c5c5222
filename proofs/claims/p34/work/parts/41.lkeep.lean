/-! what keeps a book's parts tied -/
theorem jup_ne {p : Int → Int} {z v k : Int} (h : k ≠ z) : jup p z v k = p k := by
  unfold jup
  rw [if_neg h]
theorem jup_at {p : Int → Int} {z v k : Int} (h : k = z) : jup p z v k = v := by
  unfold jup
  rw [if_pos h]
theorem jcnt_le {q p : Int → Bool} : ∀ N : Nat, (∀ z : Int, 0 ≤ z → z < N → q z = true → p z = true) → jcnt N q ≤ jcnt N p
  | 0, _ => Int.le_refl _
  | N + 1, h => by
    rw [jcnt_succ, jcnt_succ]
    have ih := jcnt_le (q := q) (p := p) N (fun z z0 z1 => h z z0 (by omega))
    have hb := jb_r (P := p (N : Int) = true)
    by_cases hq : q (N : Int) = true
    · rw [jb_pos hq, jb_pos (h N (by omega) (by omega) hq)]
      omega
    · rw [jb_neg hq]
      omega
section LP
variable {B B2 : zB}
theorem jrs_same {P P2 : Int → Int} {r : Int} (h : ∀ c, 0 ≤ c → c < 9 → P (r * 9 + c) = P2 (r * 9 + c)) : jrs P r = jrs P2 r := by
  unfold jrs
  exact jcnt_congr fun c c0 c1 => by rw [h c c0 c1]
theorem jrs_put {P : Int → Int} {r k v : Int} (hk : 0 ≤ k ∧ k < 9) (h0 : P (r * 9 + k) = 0) (hv : v ≠ 0) : jrs (jup P (r * 9 + k) v) r = jrs P r + 1 := by
  unfold jrs
  rw [jcnt_rm (c0 := k) 9 hk.1 hk.2 (decide_eq_true (by rw [jup_at rfl]; exact hv))]
  congr 1
  refine jcnt_congr fun c c0 c1 => ?_
  by_cases hc : c = k
  · simp [hc, h0]
  · rw [jup_ne (by omega)]
    simp [hc]
theorem jcs_same {P P2 : Int → Int} {c : Int} (h : ∀ z, c * 27 ≤ z → z < c * 27 + 27 → P z = P2 z) : jcs P c = jcs P2 c := by
  unfold jcs
  rw [jrs_same (P := P) (P2 := P2) (r := c * 3) (fun k k0 k1 => h _ (by omega) (by omega)), jrs_same (P := P) (P2 := P2) (r := c * 3 + 1) (fun k k0 k1 => h _ (by omega) (by omega)), jrs_same (P := P) (P2 := P2) (r := c * 3 + 1 + 1) (fun k k0 k1 => h _ (by omega) (by omega))]
theorem jrap_0 {r n : Int} (h : jrap B r n = 0) : B 1 n = -1 ∧ B 0 (r * 9 + jcol n) = 0 ∧ jrs (B 0) r ≠ 5 ∧ ¬ jbrk (B 0) r n ∧ jbit (B 11 0) (r / 3) ≠ 1 := by
  rw [jrap_eq] at h
  by_cases h1 : B 1 n ≠ -1
  · rw [if_pos h1] at h
    exact absurd h (by decide)
  · rw [if_neg h1] at h
    by_cases h2 : B 0 (r * 9 + jcol n) ≠ 0
    · rw [if_pos h2] at h
      exact absurd h (by decide)
    · rw [if_neg h2] at h
      by_cases h3 : jrs (B 0) r = 5
      · rw [if_pos h3] at h
        exact absurd h (by decide)
      · rw [if_neg h3] at h
        by_cases h4 : jbrk (B 0) r n
        · rw [if_pos h4] at h
          exact absurd h (by decide)
        · rw [if_neg h4] at h
          by_cases h5 : jbit (B 11 0) (r / 3) = 1
          · rw [if_pos h5] at h
            exact absurd h (by decide)
          · exact ⟨by omega, by omega, h3, h4, h5⟩
theorem jlk_st {r n : Int} (ok : jok B) (lk : jlk B) (hr : 0 ≤ r ∧ r < 18) (hn : 1 ≤ n ∧ n ≤ 90) (h : jrap B r n = 0) : jlk (jst B r n) := by
  obtain ⟨q1, q2, q3, q4, q5⟩ := jrap_0 h
  have hcl := jcol_9 hn
  have e0 : jst B r n 0 = jup (B 0) (r * 9 + jcol n) n := rfl
  have e1 : jst B r n 1 = jup (B 1) n r := rfl
  refine ⟨?_, ?_, ?_, ?_, lk.di, lk.dk, lk.kd, ?_, lk.wg⟩
  · intro m m0 m1
    rw [e0, e1]
    intro hm
    by_cases h1 : m = n
    · rw [h1, jup_at (p := B 1) rfl, jup_at rfl]
    · rw [jup_ne (p := B 1) h1] at hm ⊢
      have hp := lk.pr m m0 m1 hm
      rw [jup_ne (fun e => by rw [e, q2] at hp; omega)]
      exact hp
  · intro z z0 z1
    rw [e0, e1]
    by_cases h1 : z = r * 9 + jcol n
    · rw [jup_at h1, jup_at rfl]
      intro _
      omega
    · rw [jup_ne h1]
      intro hz
      have hp := lk.rp z z0 z1 hz
      rw [jup_ne (fun e => by rw [e, q1] at hp; omega)]
      exact hp
  · show B 2 0 + 1 = 90 - jall (jfree (jst B r n))
    rw [jfree_st hr.1, jall_wo hn.1 hn.2 (decide_eq_true q1), lk.sz]
    omega
  · intro r2 r0 r1
    rw [e0]
    by_cases h1 : r2 = r
    · rw [h1, jrs_put hcl q2 (by omega)]
      have := lk.r5 r hr.1 hr.2
      omega
    · rw [jrs_same (P2 := B 0) (fun c c0 c1 => jup_ne (by omega))]
      exact lk.r5 r2 r0 r1
  · intro c c0 c1 hb
    have hb : jbit (B 11 0) c = 1 := hb
    have hne : c ≠ r / 3 := fun e => q5 (by rw [← e]; exact hb)
    rw [e0, jcs_same (P2 := B 0) (fun z z0 z1 => jup_ne (by omega))]
    exact lk.bw c c0 c1 hb
theorem jlk_pl {r n : Int} (ok : jok B) (lk : jlk B) (hr : 0 ≤ r ∧ r < 18) (hn : 1 ≤ n ∧ n ≤ 90) : jlk (jpl B r n) := by
  unfold jpl
  split
  · rename_i h
    exact jlk_st ok lk hr hn h
  · exact lk
theorem jlk_lift {n : Int} (ok : jok B) (lk : jlk B) (hn : 1 ≤ n ∧ n ≤ 90) (h1 : B 1 n ≠ -1) (h2 : jbit (B 11 0) (B 1 n / 3) ≠ 1) : jlk (jlift B n) := by
  have hcl := jcol_9 hn
  have hR := ok.R n
  have hpn := lk.pr n hn.1 hn.2 h1
  have e0 : jlift B n 0 = jup (B 0) (B 1 n * 9 + jcol n) 0 := rfl
  have e1 : jlift B n 1 = jup (B 1) n (-1) := rfl
  refine ⟨?_, ?_, ?_, ?_, lk.di, lk.dk, lk.kd, ?_, lk.wg⟩
  · intro m m0 m1
    rw [e0, e1]
    intro hm
    by_cases h1 : m = n
    · rw [jup_at h1] at hm
      exact absurd rfl hm
    · rw [jup_ne (p := B 1) h1] at hm ⊢
      have hp := lk.pr m m0 m1 hm
      rw [jup_ne (fun e => by rw [e, hpn] at hp; omega)]
      exact hp
  · intro z z0 z1
    rw [e0, e1]
    by_cases h1 : z = B 1 n * 9 + jcol n
    · rw [jup_at h1]
      intro h
      exact absurd rfl h
    · rw [jup_ne h1]
      intro hz
      have hp := lk.rp z z0 z1 hz
      rw [jup_ne (fun e => by rw [e] at hp; omega)]
      exact hp
  · show B 2 0 - 1 = 90 - jall (jfree (jlift B n))
    have e : jall (jfree B) = jall (jfree (jlift B n)) - 1 := by
      have hf : jfree (jlift B n) n = true := decide_eq_true (show jup (B 1) n (-1) n = -1 from jup_at rfl)
      rw [← jall_wo hn.1 hn.2 hf]
      refine jcnt_congr fun z z0 z1 => ?_
      show decide (B 1 (z + 1) = -1) = (decide (jup (B 1) n (-1) (z + 1) = -1) && decide (z + 1 ≠ n))
      by_cases hz : z + 1 = n
      · rw [hz]
        simp [h1]
      · rw [jup_ne hz]
        simp [hz]
    rw [lk.sz, e]
    omega
  · intro r2 r0 r1
    rw [e0]
    refine Int.le_trans ?_ (lk.r5 r2 r0 r1)
    refine jcnt_le 9 fun c c0 c1 hc => ?_
    have hc := of_decide_eq_true hc
    refine decide_eq_true fun e => hc ?_
    by_cases hz : r2 * 9 + c = B 1 n * 9 + jcol n
    · exact jup_at hz
    · rw [jup_ne hz]
      exact e
  · intro c c0 c1 hb
    have hb : jbit (B 11 0) c = 1 := hb
    have hne : c ≠ B 1 n / 3 := fun e => h2 (by rw [← e]; exact hb)
    rw [e0, jcs_same (P2 := B 0) (fun z z0 z1 => jup_ne (by omega))]
    exact lk.bw c c0 c1 hb
theorem jlk_lot {x : Int} (lk : jlk B) : jlk (bset B 24 (fun _ => x)) := ⟨lk.pr, lk.rp, lk.sz, lk.r5, lk.di, lk.dk, lk.kd, lk.bw, lk.wg⟩
theorem jlk_set {s x : Int} (lk : jlk B) : jlk (bset B 23 (jup (B 23) s x)) := ⟨lk.pr, lk.rp, lk.sz, lk.r5, lk.di, lk.dk, lk.kd, lk.bw, lk.wg⟩
theorem jfrf_0 {c n : Int} (h : jfrf B c n ≠ -1) : jrap B (jfrf B c n) n = 0 := by
  unfold jfrf at h ⊢
  by_cases h1 : jrap B (c * 3) n = 0
  · rw [if_pos h1]
    exact h1
  · rw [if_neg h1] at h ⊢
    by_cases h2 : jrap B (c * 3 + 1) n = 0
    · rw [if_pos h2]
      exact h2
    · rw [if_neg h2] at h ⊢
      by_cases h3 : jrap B (c * 3 + 1 + 1) n = 0
      · rw [if_pos h3]
        exact h3
      · rw [if_neg h3] at h
        exact absurd rfl h
theorem jlk_fl1 {c : Int} {k : Int} (ok : jok B) (lk : jlk B) (hc : 0 ≤ c ∧ c < 6) : jlk (jfl1 c B k).1 := by
  unfold jfl1
  by_cases h0 : jall (jfree B) = 0
  · rw [if_pos h0]
    exact lk
  · rw [if_neg h0]
    have hl := jlot_r ok.lo
    have ok1 := jok_lot ok hl
    have ha := jall_r (jfree B)
    obtain ⟨n1, n2, -, -⟩ := jnth_spec (q := jfree B) (k := jlot (B 24 0) % jall (jfree B)) (Int.emod_nonneg _ (by omega)) (Int.emod_lt_of_pos _ (by omega))
    split
    · exact jlk_lot lk
    · rename_i h
      have h5 := jfrf_0 h
      rcases jfrf_r (bset B 24 (fun _ => jlot (B 24 0))) (n := jnth (jfree B) (jlot (B 24 0) % jall (jfree B))) hc with h2 | ⟨h2, h3, -, -⟩
      · exact absurd h2 h
      · exact jlk_st ok1 (jlk_lot lk) ⟨h2, h3⟩ ⟨n1, n2⟩ h5
theorem jlk_flB {c : Int} (ok : jok B) (lk : jlk B) (hc : 0 ≤ c ∧ c < 6) : ∀ n : Nat, jlk (jflB c n B).1
  | 0 => lk
  | n + 1 => by rw [jflB_succ]; exact jlk_fl1 (jok_flB ok hc n) (jlk_flB ok lk hc n) hc
theorem jlk_sell {c : Int} (ok : jok B) (lk : jlk B) (hc : 0 ≤ c ∧ c < 6) (h : jfs B c) : jlk (jsell B c) := by
  refine ⟨lk.pr, lk.rp, lk.sz, lk.r5, lk.di, lk.dk, lk.kd, ?_, lk.wg⟩
  intro c2 c0 c1 hb
  have hb : jbit (jset (B 11 0) c) c2 = 1 := hb
  rw [jbit_jset ok.bo hc ⟨c0, c1⟩] at hb
  by_cases e : c2 = c
  · rw [e]
    exact h.2.1
  · rw [if_neg e] at hb
    exact lk.bw c2 c0 c1 hb
/-- a ball that is drawn -/
theorem jball_und (ok : jok B) (lk : jlk B) (hc : B 12 0 < 90) : B 7 (jball B) = 0 ∧ jball B = jnth (jund B) (jlot (B 24 0) % B 4 0) := by
  obtain ⟨b1, b2, k0, k1⟩ := jball_r ok hc
  have h1 := lk.di.2 _ k0 k1
  have h2 := jnth_spec (q := jund B) k0 (by rw [← lk.di.1]; exact k1)
  have e : jball B = jnth (jund B) (jlot (B 24 0) % B 4 0) := h1
  rw [← e] at h2
  exact ⟨of_decide_eq_true h2.2.2.1, e⟩
theorem jdr1_p (B : zB) : jdr1 B 0 = B 0 ∧ jdr1 B 1 = B 1 ∧ jdr1 B 2 = B 2 ∧ jdr1 B 9 = B 9 ∧ jdr1 B 10 = B 10 ∧ jdr1 B 11 = B 11 := by
  unfold jdr1
  split <;> exact ⟨rfl, rfl, rfl, rfl, rfl, rfl⟩
theorem jdr1_5 (B : zB) : jdr1 B 5 = jup (B 5) (B 12 0) (jball B) ∧ jdr1 B 7 = jup (B 7) (jball B) (B 12 0 + 1) := by
  unfold jdr1
  split <;> exact ⟨rfl, rfl⟩
theorem jlk_dr1 (ok : jok B) (lk : jlk B) (hc : B 12 0 < 90) : jlk (jdr1 B) := by
  obtain ⟨p0, p1, p2, p9, p10, p11⟩ := jdr1_p B
  obtain ⟨p5, p7⟩ := jdr1_5 B
  obtain ⟨b1, b2, k0, k1⟩ := jball_r ok hc
  obtain ⟨hu, hb⟩ := jball_und ok lk hc
  have hca := ok.ca
  have hf : jfree (jdr1 B) = jfree B := by
    unfold jfree
    rw [p1]
  unfold jlk
  rw [p0, p1, p2, p9, p10, p11, jdr1_ca, jdr1_nu, jdr1_ds, hf, p5, p7]
  refine ⟨lk.pr, lk.rp, lk.sz, lk.r5, ?_, ?_, ?_, lk.bw, lk.wg⟩
  · have ht := jdi_take lk.di k0 k1
    rw [← hb] at ht
    refine jdi_congr ht fun m m0 m1 => ?_
    show (decide (B 7 m = 0) && decide (m ≠ jball B)) = decide (jdr1 B 7 m = 0)
    rw [p7]
    by_cases hm : m = jball B
    · rw [jup_at hm]
      simp [hm]
      omega
    · rw [jup_ne hm]
      simp [hm]
  · intro k j0 j1
    by_cases hk : k = B 12 0
    · rw [jup_at hk, jup_at rfl, hk]
      exact ⟨b1, rfl⟩
    · rw [jup_ne hk]
      have := lk.dk k j0 (by omega)
      rw [jup_ne (fun e => by rw [e, hu] at this; omega)]
      exact this
  · intro m m0 m1
    by_cases hm : m = jball B
    · rw [jup_at (p := B 7) hm]
      intro _
      rw [jup_at (by omega), hm]
    · rw [jup_ne (p := B 7) hm]
      intro h
      have h2 := ok.da2 m (by omega) (by omega)
      rw [jup_ne (by omega)]
      exact lk.kd m m0 m1 h
theorem jlk_drs (ok : jok B) (lk : jlk B) : ∀ n : Nat, B 12 0 + n ≤ 90 → jlk (jdrs n B)
  | 0, _ => lk
  | n + 1, h => jlk_dr1 (jok_drs ok n (by omega)) (jlk_drs ok lk n (by omega)) (by rw [jdrs_ca]; omega)
/-- without a ball no game is held -/
theorem jcor_pos (ok : jok B) {c k : Int} (hk : 0 ≤ k ∧ k < 4) (h : jrs (B 0) (c * 3 + (if k < 2 then 0 else 2)) ≠ 0) : 0 < jcor (B 0) c k := by
  unfold jcor
  rcases jfst_spec 9 (fun i => B 0 ((c * 3 + (if k < 2 then 0 else 2)) * 9 + (if k % 2 = 0 then i else 8 - i))) with ⟨-, h2⟩ | ⟨i, i0, i1, i2, i3, -⟩
  · refine absurd (jcnt_none fun i i0 i1 => ?_) h
    refine decide_eq_false (Decidable.not_not.mpr ?_)
    by_cases hk2 : k % 2 = 0
    · have := h2 i i0 i1
      simp only [hk2, if_true] at this
      exact this
    · have := h2 (8 - i) (by omega) (by omega)
      simp only [hk2, if_false] at this
      rw [show 8 - (8 - i) = i by omega] at this
      exact this
  · rw [i3]
    have := (ok.P ((c * 3 + (if k < 2 then 0 else 2)) * 9 + (if k % 2 = 0 then i else 8 - i))).1
    have h3 : B 0 ((c * 3 + (if k < 2 then 0 else 2)) * 9 + (if k % 2 = 0 then i else 8 - i)) ≠ 0 := i2
    show 0 < B 0 ((c * 3 + (if k < 2 then 0 else 2)) * 9 + (if k % 2 = 0 then i else 8 - i))
    omega
theorem jur_none (ok : jok B) {r : Int} (h : ∀ n, 0 ≤ n → n ≤ 90 → B 7 n = 0) : jur (B 0) (B 7) r = jrs (B 0) r := by
  unfold jur jrs
  refine jcnt_congr fun c c0 c1 => ?_
  have hp := ok.P (r * 9 + c)
  rw [h _ hp.1 hp.2]
  by_cases hz : B 0 (r * 9 + c) = 0
  · simp [hz]
  · have : 0 < B 0 (r * 9 + c) := by omega
    simp [hz, this]
theorem jrc_calls {c g : Int} (ok : jok B) (lk : jlk B) (hc : 0 ≤ c ∧ c < 6) (hg : 0 ≤ g ∧ g < 4) (hw : jcs (B 0) c = 15) (h : jrc B c g = 0) : B 12 0 ≠ 0 := by
  intro hca
  have hd : ∀ n, 0 ≤ n → n ≤ 90 → B 7 n = 0 := fun n n0 n1 => by
    have h1 := ok.da2 n n0 (by omega)
    have h2 := ok.da n
    omega
  obtain ⟨w0, w1, w2⟩ := (jwh_iff lk hc).mpr hw
  rw [show c * 3 + 0 = c * 3 by omega] at w0
  have u0 : jur (B 0) (B 7) (c * 3) = 5 := by rw [jur_none ok hd, w0]
  have u1 : jur (B 0) (B 7) (c * 3 + 1) = 5 := by rw [jur_none ok hd, w1]
  have u2 : jur (B 0) (B 7) (c * 3 + 1 + 1) = 5 := by rw [jur_none ok hd, show c * 3 + 1 + 1 = c * 3 + 2 by omega, w2]
  have hu : 0 < juo (B 0) (B 7) c g := by
    unfold juo
    by_cases g1 : g = 1
    · rw [if_pos g1]
      have h1 : jucor (B 0) (B 7) c ≠ 0 := by
        refine jcnt_pos (k := 0) (by decide) (by decide) (decide_eq_true ?_)
        have hp := jcor_pos (c := c) (k := 0) ok (by decide) (by rw [if_pos (by decide), Int.add_zero, w0]; decide)
        have hr : jcor (B 0) c 0 ≤ 90 := (jfst_r (lo := 0) (hi := 90) (fun i _ _ => ok.P _) (by decide)).2
        exact ⟨hp, hd _ (by omega) hr⟩
      have h2 : 0 ≤ jucor (B 0) (B 7) c := (jcnt_nn 4 _).1
      omega
    · rw [if_neg g1]
      rw [u0, u1, u2]
      by_cases g0 : g = 0
      · rw [if_pos g0]
        decide
      · rw [if_neg g0]
        by_cases g2 : g = 2
        · rw [if_pos g2]
          decide
        · rw [if_neg g2]
          decide
  unfold jrc at h
  split at h
  · exact absurd h (by decide)
  · split at h
    · exact absurd h (by decide)
    · split at h
      · exact absurd h (by decide)
      · exact absurd h (by decide)
theorem jset_ne {m k : Int} (hm : 0 ≤ m ∧ m < 64) (hk : 0 ≤ k ∧ k < 6) : jset m k ≠ 0 := by
  have key : ∀ (x : Fin 64) (y : Fin 6), jset ((x.val : Nat) : Int) ((y.val : Nat) : Int) ≠ 0 := by decide +kernel
  obtain ⟨x, rfl⟩ := jfin (N := 64) hm
  obtain ⟨y, rfl⟩ := jfin (N := 6) hk
  exact key x y
theorem jlk_sc {c g : Int} (ok : jok B) (lk : jlk B) (hc : 0 ≤ c ∧ c < 6) (hg : 0 ≤ g ∧ g < 4) (hb : jbit (B 11 0) c = 1) : jlk (jsc B c g) := by
  unfold jsc
  split
  · rename_i h
    have hca := jrc_calls ok lk hc hg (lk.bw c hc.1 hc.2 hb) h
    refine ⟨lk.pr, lk.rp, lk.sz, lk.r5, lk.di, lk.dk, lk.kd, lk.bw, ?_⟩
    intro g2 g0 g1
    show jup (B 9) g (jset (B 9 g) c) g2 = 0 ↔ jup (B 10) g (B 12 0) g2 = 0
    by_cases e : g2 = g
    · rw [jup_at e, jup_at e]
      exact ⟨fun q => absurd q (jset_ne (ok.W g) hc), fun q => absurd q hca⟩
    · rw [jup_ne e, jup_ne e]
      exact lk.wg g2 g0 g1
  · exact ⟨lk.pr, lk.rp, lk.sz, lk.r5, lk.di, lk.dk, lk.kd, lk.bw, lk.wg⟩
theorem jrk_true {q : Int → Bool} (h : ∀ n, 1 ≤ n → n ≤ 90 → q n = true) : ∀ k : Nat, k ≤ 90 → jrk q (1 + k) = k
  | 0, _ => rfl
  | k + 1, hk => by
    have := jrk_succ (q := q) (n := 1 + k) (by omega)
    rw [jb_pos (h _ (by omega) (by omega)), jrk_true h k (by omega)] at this
    rw [show (1 : Int) + ((k + 1 : Nat) : Int) = 1 + (k : Int) + 1 by omega, this]
    omega
theorem jdi_full {q : Int → Bool} {f : Int → Int} (h : ∀ n, 1 ≤ n → n ≤ 90 → q n = true) (hf : ∀ z, 0 ≤ z → z < 90 → f z = z + 1) : jdi q f 90 := by
  refine ⟨?_, fun j j0 j1 => ?_⟩
  · have := jrk_true h 90 (by decide)
    exact this.symm
  · rw [hf j j0 j1]
    refine jnth_of (by omega) (by omega) (h _ (by omega) (by omega)) ?_
    have := jrk_true h j.toNat (by omega)
    rw [show (1 : Int) + (j.toNat : Int) = j + 1 by omega] at this
    omega
theorem jend_p (B : zB) : jend B 0 = B 0 ∧ jend B 1 = B 1 ∧ jend B 2 = B 2 ∧ jend B 9 = jfil 4 0 (B 9) ∧ jend B 10 = jfil 4 0 (B 10) ∧ jend B 7 = jfil 91 0 (B 7) ∧ jend B 8 = jfil 91 0 (B 8) ∧ (jend B 3 = fun z => if 0 ≤ z ∧ z < 90 then z + 1 else B 3 z) := by
  have e0 : ∀ i, i ≠ 14 → i ≠ 18 → jpo 4 B i = B i := fun i h1 h2 => jpo_ne h1 h2 B 4
  refine ⟨e0 0 (by decide) (by decide), e0 1 (by decide) (by decide), e0 2 (by decide) (by decide), ?_, ?_, ?_, ?_, ?_⟩
  · rw [← e0 9 (by decide) (by decide)]
    rfl
  · rw [← e0 10 (by decide) (by decide)]
    rfl
  · rw [← e0 7 (by decide) (by decide)]
    rfl
  · rw [← e0 8 (by decide) (by decide)]
    rfl
  · rw [← e0 3 (by decide) (by decide)]
    rfl
theorem jbit_0 (c : Int) : jbit 0 c = 0 := by
  unfold jbit
  rw [Int.zero_ediv]
  rfl
theorem jfil_at {n v z : Int} {p : Int → Int} (h : 0 ≤ z ∧ z < n) : jfil n v p z = v := by
  unfold jfil
  rw [if_pos h]
theorem jlk_end (ok : jok B) (lk : jlk B) : jlk (jend B) := by
  obtain ⟨p0, p1, p2, p9, p10, p7, p8, p3⟩ := jend_p B
  have g4 : jend B 4 0 = 90 := rfl
  have g11 : jend B 11 0 = 0 := rfl
  have g12 : jend B 12 0 = 0 := rfl
  have hf : jfree (jend B) = jfree B := by
    unfold jfree
    rw [p1]
  unfold jlk
  rw [p0, p1, p2, p9, p10, p7, hf, g4, g11, g12]
  refine ⟨lk.pr, lk.rp, lk.sz, lk.r5, ?_, fun k k0 k1 => absurd k1 (by omega), fun n n0 n1 h => absurd (jfil_at (by omega)) h, fun c _ _ h => ?_, fun g g0 g1 => ?_⟩
  · refine jdi_full (fun n n0 n1 => ?_) (fun z z0 z1 => ?_)
    · refine decide_eq_true ?_
      rw [p7]
      exact jfil_at (by omega)
    · rw [p3]
      exact if_pos ⟨z0, z1⟩
  · rw [jbit_0] at h
    exact absurd h (by decide)
  · rw [jfil_at ⟨g0, g1⟩, jfil_at ⟨g0, g1⟩]
theorem jlk_cp (ok : jok B) (ok2 : jok B2) (lk : jlk B2) : jlk (jcp B B2) := by
  have h0 : jcp B B2 0 = jcpy (B2 0) (B 0) 0 0 162 := rfl
  have h1 : jcp B B2 1 = jcpy (B2 1) (B 1) 0 0 91 := rfl
  have h2 : jcp B B2 2 0 = B2 2 0 := rfl
  have h3 : jcp B B2 3 = jcpy (B2 3) (B 3) 0 0 (B2 4 0) := rfl
  have h4 : jcp B B2 4 0 = B2 4 0 := rfl
  have h5 : jcp B B2 5 = jcpy (B2 5) (B 5) 0 0 90 := rfl
  have h7 : jcp B B2 7 = jcpy (B2 7) (B 7) 0 0 91 := rfl
  have h9 : jcp B B2 9 = jcpy (B2 9) (B 9) 0 0 4 := rfl
  have h10 : jcp B B2 10 = jcpy (B2 10) (B 10) 0 0 4 := rfl
  have h11 : jcp B B2 11 0 = B2 11 0 := rfl
  have h12 : jcp B B2 12 0 = B2 12 0 := rfl
  have hca := ok2.ca
  have hds := ok2.ds
  have a0 : ∀ z, 0 ≤ z → z < 162 → jcp B B2 0 z = B2 0 z := fun z z0 z1 => by rw [h0]; exact jcpy_at ⟨z0, z1⟩
  have a1 : ∀ z, 0 ≤ z → z < 91 → jcp B B2 1 z = B2 1 z := fun z z0 z1 => by rw [h1]; exact jcpy_at ⟨z0, z1⟩
  have a7 : ∀ z, 0 ≤ z → z < 91 → jcp B B2 7 z = B2 7 z := fun z z0 z1 => by rw [h7]; exact jcpy_at ⟨z0, z1⟩
  have a5 : ∀ z, 0 ≤ z → z < 90 → jcp B B2 5 z = B2 5 z := fun z z0 z1 => by rw [h5]; exact jcpy_at ⟨z0, z1⟩
  refine ⟨?_, ?_, ?_, ?_, ?_, ?_, ?_, ?_, ?_⟩
  · intro n n0 n1
    rw [a1 n (by omega) (by omega)]
    intro h
    have hR := ok2.R n
    have hcl := jcol_9 ⟨n0, n1⟩
    rw [a0 _ (by omega) (by omega)]
    exact lk.pr n n0 n1 h
  · intro z z0 z1
    rw [a0 z z0 z1]
    intro h
    have hp := ok2.P z
    rw [a1 _ hp.1 (by omega)]
    exact lk.rp z z0 z1 h
  · rw [h2, lk.sz]
    refine congrArg (fun x : Int => 90 - x) (jcnt_congr fun z z0 z1 => ?_)
    show decide (B2 1 (z + 1) = -1) = decide (jcp B B2 1 (z + 1) = -1)
    rw [a1 _ (by omega) (by omega)]
  · intro r r0 r1
    rw [jrs_same (P2 := B2 0) (fun c c0 c1 => a0 _ (by omega) (by omega))]
    exact lk.r5 r r0 r1
  · rw [h4]
    refine ⟨?_, fun j j0 j1 => ?_⟩
    · rw [lk.di.1]
      refine jcnt_congr fun z z0 z1 => ?_
      show decide (B2 7 (z + 1) = 0) = decide (jcp B B2 7 (z + 1) = 0)
      rw [a7 _ (by omega) (by omega)]
    · rw [h3, jcpy_at ⟨j0, j1⟩, lk.di.2 j j0 j1]
      refine jnth_congr (fun n n0 n1 => ?_) j0 (by rw [← lk.di.1]; exact j1)
      show decide (B2 7 n = 0) = decide (jcp B B2 7 n = 0)
      rw [a7 _ (by omega) (by omega)]
  · rw [h12]
    intro k k0 k1
    have hd := ok2.dr k
    rw [a5 k k0 (by omega), a7 _ hd.1 (by omega)]
    exact lk.dk k k0 k1
  · intro n n0 n1
    rw [a7 n (by omega) (by omega)]
    intro h
    have hd := ok2.da n
    rw [a5 _ (by omega) (by omega)]
    exact lk.kd n n0 n1 h
  · rw [h11]
    intro c c0 c1 h
    rw [jcs_same (P2 := B2 0) (fun z z0 z1 => a0 z (by omega) (by omega))]
    exact lk.bw c c0 c1 h
  · intro g g0 g1
    rw [h9, h10, jcpy_at ⟨g0, g1⟩, jcpy_at ⟨g0, g1⟩]
    exact lk.wg g g0 g1
theorem jB0_1 {z : Int} (h : 0 ≤ z ∧ z < 91) : jB0 1 z = -1 := by
  have e : jB0 1 = jfil 91 (-1) (fun _ => 0) := rfl
  rw [e]
  exact jfil_at h
theorem jok_B0 : jok jB0 := by
  have h1 : jB0 1 = jfil 91 (-1) (fun _ => 0) := rfl
  have h3 : jB0 3 = fun z => if 0 ≤ z ∧ z < 90 then z + 1 else 0 := rfl
  have h23 : jB0 23 = fun z => if z = 0 then 10 else 0 := rfl
  refine ⟨fun _ => ⟨Int.le_refl _, (by decide : (0 : Int) ≤ 90)⟩, ?_, by decide, by decide, fun _ => ⟨Int.le_refl _, (by decide : (0 : Int) < 64)⟩, fun _ => ⟨Int.le_refl _, (by decide : (0 : Int) ≤ 90)⟩, fun _ => ⟨Int.le_refl _, (by decide : (0 : Int) ≤ 90)⟩, fun _ => ⟨Int.le_refl _, (by decide : (0 : Int) ≤ 90)⟩, by decide, ?_, by decide, ?_, fun _ => ⟨Int.le_refl _, (by decide : (0 : Int) ≤ 90)⟩, fun _ => ⟨Int.le_refl _, (by decide : (0 : Int) ≤ 90)⟩, by decide, fun _ _ _ => Int.le_refl _, fun _ _ _ => Int.le_refl _⟩
  · intro z
    rw [h1]
    unfold jfil
    split
    · decide
    · exact ⟨(by decide : (-1 : Int) ≤ 0), (by decide : (0 : Int) < 18)⟩
  · intro z
    rw [h23]
    show 0 ≤ (if z = 0 then (10 : Int) else 0) ∧ (if z = 0 then (10 : Int) else 0) < 100
    split <;> decide
  · intro z z0 z1
    rw [h3]
    show 1 ≤ (if 0 ≤ z ∧ z < 90 then z + 1 else 0) ∧ (if 0 ≤ z ∧ z < 90 then z + 1 else 0) ≤ 90
    rw [if_pos ⟨z0, z1⟩]
    omega
theorem jlk_B0 : jlk jB0 := by
  have h3 : jB0 3 = fun z => if 0 ≤ z ∧ z < 90 then z + 1 else 0 := rfl
  refine ⟨fun n n0 n1 h => absurd (jB0_1 (by omega)) h, fun z _ _ h => absurd rfl h, ?_, ?_, ?_, fun k k0 k1 => absurd (show k < 0 from k1) (by omega), fun n _ _ h => absurd rfl h, fun c _ _ h => ?_, fun g _ _ => ⟨fun _ => rfl, fun _ => rfl⟩⟩
  · show (0 : Int) = 90 - jall (jfree jB0)
    have := jrk_true (q := jfree jB0) (fun n n0 n1 => decide_eq_true (jB0_1 (by omega))) 90 (by decide)
    have e : jall (jfree jB0) = 90 := this
    rw [e]
    rfl
  · intro r _ _
    have e : jrs (jB0 0) r = 0 := jcnt_none fun c _ _ => rfl
    rw [e]
    decide
  · exact jdi_full (fun n _ _ => rfl) (fun z z0 z1 => by rw [h3]; exact if_pos ⟨z0, z1⟩)
  · have h : jbit 0 c = 1 := h
    rw [jbit_0] at h
    exact absurd h (by decide)
end LP


