/-! what the law's acts bring, one by one -/
section OT
variable {Γ : zΓ} {ML : zMd} {d : Nat} {as : List Value} {w w2 : zW} {v : Option Value} {σ : zC} {τ : zTau} {u : zW} {B : zB}
theorem zTrH.mono {M : zMd} {mc ms n : Nat} {g : Bool} {Qr Qr' : zQr} (h : zTrH Γ M d mc ms as n g w Qr zNo) (hp : ∀ r n' g' w', Qr r n' g' w' → Qr' r n' g' w') : zTrH Γ M d mc ms as n g w Qr' zNo := by
  intro hB p e h1 h2 h3 s m args below h4 h5 h6 h7
  obtain ⟨k, o, a1, a2, a3, a4⟩ := h hB p e h1 h2 h3 s m args below h4 h5 h6 h7
  refine ⟨k, o, a1, a2, a3, ?_⟩
  rcases a4 with ⟨⟨r, n', g', w', b1, b2, b3, b4⟩, b5⟩ | ⟨q, -, E, ce, L, ⟨_, _, _, hx, _⟩, -⟩
  · exact Or.inl ⟨⟨r, n', g', w', b1, hp _ _ _ _ b2, b3, b4⟩, b5⟩
  · exact hx.elim
theorem zOtH.of_lo (h : ∀ n9 g9, zTrH Γ ML d 1 6 as n9 g9 w (fun r n' g' w' => r = v ∧ n' = n9 ∧ g' = g9 ∧ w' = w2) zNo) : zOtH Γ ML d as w v w2 := fun n g => (h n g).mono (fun r n' g' w' q => ⟨q.1, q.2.1, q.2.2.2⟩)
/-- the law's step: what it is told, and what stands behind it -/
def jStep (B : zB) (σ : zC) (y v : Int) (B' : zB) (σ' : zC) : Prop :=
  (jin B' ∧ jsn σ' ∧ σ'.sc = 6) ∧ (-2000003 ≤ v ∧ v ≤ 100000) ∧
  (y % 16 = 0 → v = jrap B (y / 16 % 6 * 3 + y / 16 / 8 % 3) (1 + y / 16 / 32 % 90) ∧ 0 ≤ v ∧ (0 < v ∨ jno B' (1 + y / 16 / 32 % 90) 0 = y / 16 % 6)) ∧
  (7 ≤ y % 16 → y % 16 ≤ 11 → (v = -2000002 ∧ jic B (y / 16 % 4) (y / 16 / 4 % 4) = -1) ∨ (0 ≤ v ∧ v = jic B (y / 16 % 4) (y / 16 / 4 % 4) ∧ B' 20 0 = B 20 0 + jb (v = 0) ∧ B' 21 0 = B 21 0 + jb (v ≠ 0) ∧ (0 < v ∨ (B' 10 (y / 16 / 4 % 4) = B 12 0 ∧ jbit (jgw (B' 9) (y / 16 % 4)) (y / 16 / 4 % 4) = 1)))) ∧
  (y % 16 = 6 → y / 16 % 8 = 0 → -5688 ≤ v ∧ v ≤ B 16 0 ∧ B' 16 0 = 0 ∧ B' 12 0 = 0 ∧ B' 19 0 = B 19 0 + v ∧ B' 11 0 = 0) ∧
  (y % 16 = 6 → y / 16 % 8 ≠ 0 → (v = -2000002 ∧ 90 - B 12 0 < 1 + y / 16 % 6) ∨ (v = jnb B (1 + y / 16 % 6) ∧ 1 ≤ v ∧ B' 12 0 = B 12 0 + (1 + y / 16 % 6) ∧ jcl B' 0 0 = v)) ∧
  (12 < y % 16 → (v = -2000002 ∧ 90 - B 12 0 < 1 + y / 16 % 25) ∨ (v = jnb B (1 + y / 16 % 25) ∧ 1 ≤ v ∧ B' 12 0 = B 12 0 + (1 + y / 16 % 25) ∧ jcl B' 0 0 = v)) ∧
  (y % 16 = 3 ∨ y % 16 = 4 → v = -2000002 ∨ (0 ≤ v ∧ v = B 16 0 + B' 23 0 ∧ B 12 0 = 0))
theorem js2_6 {σ : zC} {B : zB} (h : σ.sc = 6) : (jsv σ B).sc = 6 := by
  show js2 σ + 1 = 6
  unfold js2
  rw [if_pos h]
  rfl
theorem ou_put (c r n : Int) (hp : (0 ≤ c ∧ c < 6) ∧ 0 ≤ r ∧ r < 3) (h2 : 1 ≤ n ∧ n ≤ 90) (h : jin B) (hs : jsn σ) : zOtH Γ md_L_put (d + 8) [.ref 5, .int (jI c), .int (jI r), .int (jI n)] (bk 6 B (cr σ τ u)) (some (.int (jI (jrap B (c * 3 + r) n)))) (bk 6 (jpl B (c * 3 + r) n) (cr (jsv σ B) τ u)) :=
  zOtH.of_lo (fun n9 g9 => lo_put lc_5 (s_put (d := d + 2) c r n hp h2 hs.1 h.ok) n9 g9)
theorem jpl_at {c r n : Int} (hp : (0 ≤ c ∧ c < 6) ∧ 0 ≤ r ∧ r < 3) (h : jrap B (c * 3 + r) n = 0) : jno (jpl B (c * 3 + r) n) n 0 = c := by
  unfold jpl
  rw [if_pos h, jno_0]
  have e : jst B (c * 3 + r) n 1 n = c * 3 + r := jup_at (p := B 1) (z := n) (v := c * 3 + r) rfl
  rw [e, if_neg (by omega)]
  omega
theorem ou_take (n : Int) (hn : 1 ≤ n ∧ n ≤ 90) (h : jin B) (hs : jsn σ) (h6 : σ.sc = 6) : ∃ v B' σ', (jin B' ∧ jsn σ' ∧ σ'.sc = 6) ∧ (-2000003 ≤ v ∧ v ≤ 100000) ∧ zOtH Γ md_L_take (d + 8) [.ref 5, .int (jI n)] (bk 6 B (cr σ τ u)) (some (.int (jI v))) (bk 6 B' (cr σ' τ u)) := by
  have ok := h.ok
  have hR := ok.R n
  by_cases h2 : B 1 n ≠ -1 ∧ jbit (B 11 0) (B 1 n / 3) ≠ 1
  · exact ⟨10 * (B 1 n / 3) + B 1 n % 3, jlift B n, jsv σ B, ⟨jin_lift h hn h2.1 h2.2, jsn_sv hs ok, js2_6 h6⟩, by omega, zOtH.of_lo (fun n9 g9 => lo_take lc_5 (s_take (d := d + 2) n hn h2.1 h2.2 hs.1 ok) n9 g9)⟩
  · exact ⟨-2000002, B, σ, ⟨h, hs, h6⟩, by decide, lt_take2 lc_5 (t_take2 (d := d) n hn h2 ok)⟩
theorem ou_fill (c m : Int) (hc : 0 ≤ c ∧ c < 6) (hm : 1 ≤ m ∧ m ≤ 60) (h : jin B) (hs : jsn σ) (h6 : σ.sc = 6) : ∃ v B' σ' τ', (jin B' ∧ jsn σ' ∧ σ'.sc = 6) ∧ (-2000003 ≤ v ∧ v ≤ 100000) ∧ zOtH Γ md_L_fill (d + 8) [.ref 5, .int (jI c), .int (jI m)] (bk 6 B (cr σ τ u)) (some (.int (jI v))) (bk 6 B' (cr σ' τ' u)) := by
  have ok := h.ok
  by_cases h3 : jbit (B 11 0) c = 1
  · exact ⟨-2000003, B, σ, τ, ⟨h, hs, h6⟩, by decide, lt_fill3 lc_5 (t_fill3 (d := d) c m hc hm h3 ok)⟩
  · obtain ⟨τ2, -, hx⟩ := s_fillC (Γ := Γ) (d := d + 1) (σ := σ) (τ := τ) (u := u) (B := B) c m hc hm h3 hs.1 ok
    have hr := (jex_flB (c := c) h.ex m.toNat).2
    exact ⟨(jflB c m.toNat B).2, (jflB c m.toNat B).1, jsv σ B, τ2, ⟨jin_flB h hc _, jsn_sv hs ok, js2_6 h6⟩, by omega, zOtH.of_lo (fun n9 g9 => lo_fill lc_5 hx n9 g9)⟩
theorem ou_buy (c : Int) (hc : 0 ≤ c ∧ c < 6) (h : jin B) (hs : jsn σ) (h6 : σ.sc = 6) : ∃ v B' σ', (jin B' ∧ jsn σ' ∧ σ'.sc = 6) ∧ (-2000003 ≤ v ∧ v ≤ 100000) ∧ (v = -2000002 ∨ (0 ≤ v ∧ v = B 16 0 + B' 23 0 ∧ B 12 0 = 0)) ∧ zOtH Γ md_L_buy (d + 8) [.ref 5, .int (jI c)] (bk 6 B (cr σ τ u)) (some (.int (jI v))) (bk 6 B' (cr σ' τ u)) := by
  have ok := h.ok
  have hpo := ok.po2
  have hse := ok.se 0
  by_cases h2 : jfs B c
  · exact ⟨B 16 0 + B 23 0, jsell B c, jsv σ B, ⟨jin_sell h hc h2, jsn_sv hs ok, js2_6 h6⟩, by omega, Or.inr ⟨by omega, rfl, h2.2.2⟩, zOtH.of_lo (fun n9 g9 => lo_buy lc_5 (s_buy (d := d + 2) c hc h2 hs.1 ok) n9 g9)⟩
  · exact ⟨-2000002, B, σ, ⟨h, hs, h6⟩, by decide, Or.inl rfl, lt_buy2 lc_5 (t_buy2 (d := d) c hc h2 ok)⟩
theorem ou_seed (x : Int) (hx : 0 ≤ x ∧ x < 10000) (h : jin B) (hs : jsn σ) : zOtH Γ md_L_seed (d + 8) [.ref 5, .int (jI x)] (bk 6 B (cr σ τ u)) (some (.int (jI (B 24 0)))) (bk 6 (bset B 24 (fun _ => x)) (cr (jsv σ B) τ u)) :=
  zOtH.of_lo (fun n9 g9 => lo_seed lc_5 (s_seed (d := d + 2) x hx hs.1 h.ok) n9 g9)
theorem ou_set (s x : Int) (h1 : 0 ≤ s ∧ s < 3) (h2 : jse0 s ≤ x ∧ x ≤ jse9 s) (h : jin B) (hs : jsn σ) : zOtH Γ md_L_set (d + 8) [.ref 5, .int (jI s), .int (jI x)] (bk 6 B (cr σ τ u)) (some (.int (jI (B 23 s)))) (bk 6 (bset B 23 (jup (B 23) s x)) (cr (jsv σ B) τ u)) :=
  zOtH.of_lo (fun n9 g9 => lo_set lc_5 (s_set (d := d + 2) s x h1 h2 hs.1 h.ok) n9 g9)
theorem ou_draw (m : Int) (hm : 1 ≤ m ∧ m ≤ 90) (h : jin B) (hs : jsn σ) (h6 : σ.sc = 6) : ∃ v B' σ', (jin B' ∧ jsn σ' ∧ σ'.sc = 6) ∧ (-2000003 ≤ v ∧ v ≤ 100000) ∧ ((v = -2000002 ∧ 90 - B 12 0 < m) ∨ (v = jnb B m ∧ 1 ≤ v ∧ B' 12 0 = B 12 0 + m ∧ jcl B' 0 0 = v)) ∧ zOtH Γ md_L_draw (d + 8) [.ref 5, .int (jI m)] (bk 6 B (cr σ τ u)) (some (.int (jI v))) (bk 6 B' (cr σ' τ u)) := by
  have ok := h.ok
  have hds := ok.ds
  have hca := ok.ca
  by_cases h2 : m ≤ B 4 0
  · have hx := s_draw (Γ := Γ) (d := d + 2) (σ := σ) (τ := τ) (u := u) (B := B) m hm h2 hs.1 ok
    obtain ⟨k, hk⟩ : ∃ k : Nat, m.toNat = k + 1 := ⟨m.toNat - 1, by omega⟩
    have okk := jok_drs ok k (by omega)
    have hcak := jdrs_ca B k
    have hb := jball_r okk (by omega)
    have e1 : jdrl B m.toNat = jball (jdrs k B) := by rw [hk]; rfl
    have e2 : jnb B m = jball (jdrs k B) := by
      unfold jnb
      rw [if_neg (by omega), show (m - 1).toNat = k by omega]
    have e3 : jdrs m.toNat B = jdr1 (jdrs k B) := by rw [hk]; rfl
    rw [e1, e3] at hx
    refine ⟨jball (jdrs k B), jdr1 (jdrs k B), jsv σ B, ⟨?_, jsn_sv hs ok, js2_6 h6⟩, by omega, Or.inr ⟨e2.symm, hb.1, ?_, ?_⟩, zOtH.of_lo (fun n9 g9 => lo_draw lc_5 hx n9 g9)⟩
    · rw [← e3]
      exact jin_drs h m.toNat (by omega)
    · rw [jdr1_ca]
      omega
    · have e4 := jdr1_ca (jdrs k B)
      rw [jcl_at (by omega), if_pos rfl, (jdr1_5 (jdrs k B)).1, e4, jup_at (by omega)]
  · exact ⟨-2000002, B, σ, ⟨h, hs, h6⟩, by decide, Or.inl ⟨rfl, by omega⟩, lt_draw2 lc_5 (t_draw2 (d := d) m hm h2 ok)⟩
theorem ou_claim (c g : Int) (hc : 0 ≤ c ∧ c < 4) (hg : 0 ≤ g ∧ g < 4) (h : jin B) (hs : jsn σ) (h6 : σ.sc = 6) : ∃ v B' σ', (jin B' ∧ jsn σ' ∧ σ'.sc = 6) ∧ (-2000003 ≤ v ∧ v ≤ 100000) ∧ ((v = -2000002 ∧ jic B c g = -1) ∨ (0 ≤ v ∧ v = jic B c g ∧ B' 20 0 = B 20 0 + jb (v = 0) ∧ B' 21 0 = B 21 0 + jb (v ≠ 0) ∧ (0 < v ∨ (B' 10 g = B 12 0 ∧ jbit (jgw (B' 9) c) g = 1)))) ∧ zOtH Γ md_L_claim (d + 8) [.ref 5, .int (jI c), .int (jI g)] (bk 6 B (cr σ τ u)) (some (.int (jI v))) (bk 6 B' (cr σ' τ u)) := by
  have ok := h.ok
  by_cases h2 : jbit (B 11 0) c = 1
  · have hr := jrc_r B c g
    have e : jic B c g = jrc B c g := if_pos h2
    refine ⟨jrc B c g, jsc B c g, jsv σ B, ⟨jin_sc h (by omega) hg h2, jsn_sv hs ok, js2_6 h6⟩, by omega, Or.inr ⟨hr.1, e.symm, ?_, ?_, ?_⟩, zOtH.of_lo (fun n9 g9 => lo_claim lc_5 (s_claim (d := d + 1) c g ⟨by omega, hg⟩ h2 hs.1 ok) n9 g9)⟩
    · by_cases q : jrc B c g = 0
      · rw [jb_pos q]
        unfold jsc
        rw [if_pos q]
        rfl
      · rw [jb_neg q, Int.add_zero]
        unfold jsc
        rw [if_neg q]
        rfl
    · by_cases q : jrc B c g = 0
      · rw [jb_neg (fun e => e q), Int.add_zero]
        unfold jsc
        rw [if_pos q]
        rfl
      · rw [jb_pos q]
        unfold jsc
        rw [if_neg q]
        rfl
    · by_cases q : jrc B c g = 0
      · refine Or.inr ?_
        rw [jgw_bit hg]
        unfold jsc
        rw [if_pos q]
        refine ⟨jup_at (p := B 10) (z := g) (v := B 12 0) rfl, ?_⟩
        show jbit (jup (B 9) g (jset (B 9 g) c) g) c = 1
        rw [jup_at rfl, jbit_jset (ok.W g) (by omega) (by omega), if_pos rfl]
      · exact Or.inl (by omega)
  · exact ⟨-2000002, B, σ, ⟨h, hs, h6⟩, by decide, Or.inl ⟨rfl, if_neg h2⟩, lt_claim2 lc_5 (t_claim2 (d := d) c g ⟨by omega, hg⟩ h2 ok)⟩
theorem ou_goBack (s : Int) (h1 : 0 ≤ s ∧ s < 2) (h : jin B) (hs : jsn σ) (h6 : σ.sc = 6) : ∃ v B' σ', (jin B' ∧ jsn σ' ∧ σ'.sc = 6) ∧ (-2000003 ≤ v ∧ v ≤ 100000) ∧ zOtH Γ md_L_goBack (d + 8) [.ref 5, .int (jI s)] (bk 6 B (cr σ τ u)) (some (.int (jI v))) (bk 6 B' (cr σ' τ u)) := by
  have ok := h.ok
  have hk := hs.1.kp s
  by_cases h2 : σ.kp s = 1
  · have hX := hs.2 s h1.1 h1.2 h2
    have hz := jsz_r hX.lk
    exact ⟨σ.X s.toNat 2 0, jcp B (σ.X s.toNat), jsv σ B, ⟨jin_cp ok hX, jsn_sv hs ok, js2_6 h6⟩, by omega, zOtH.of_lo (fun n9 g9 => lo_goBack lc_5 (s_goBack (d := d + 2) s h1 h2 hs.1 ok) n9 g9)⟩
  · exact ⟨-2000002, B, σ, ⟨h, hs, h6⟩, by decide, lt_goBack2 lc_5 (t_goBack2 (d := d) s h1 (by omega))⟩
theorem ou_keep (s : Int) (h1 : 0 ≤ s ∧ s < 2) (h : jin B) (hs : jsn σ) : zOtH Γ md_L_keep (d + 8) [.ref 5, .int (jI s)] (bk 6 B (cr σ τ u)) (some (.int (jI (B 2 0)))) (bk 6 B (cr (zC.sk (zC.sX σ (zxu σ.X s.toNat (jcp (σ.X s.toNat) B))) (jup σ.kp s 1)) τ u)) :=
  zOtH.of_lo (fun n9 g9 => lo_keep lc_5 (s_keep (d := d + 2) s h1 hs.1 h.ok) n9 g9)
end OT

