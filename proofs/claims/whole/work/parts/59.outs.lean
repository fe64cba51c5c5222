/-! each call's outcome -/
section OU
variable {Γ : zΓ} {d : Nat} {B : zB} {σ : zC} {τ : zTau} {S ik : Int → Int} {th : Int} {f : Nat → Int64}
theorem out_put (hR : zRel B σ S ik) (c r n : Int) (hc : j32 c) (hr : j32 r) (hn : j32 n) : zOut Γ md_L_put md_X7_put (d + 8) [.int (jI c), .int (jI r), .int (jI n)] (bk 6 B (cr σ τ (mw S σ.sc ik th σ.T σ.L (zw0 f)))) S σ.sc ik th σ.T σ.L := by
  have ok := hR.1
  have ck := hR.2.2.2.1
  by_cases hp : (0 ≤ c ∧ c < 6) ∧ 0 ≤ r ∧ r < 3
  · by_cases h2 : 1 ≤ n ∧ n ≤ 90
    · have hx := s_put (Γ := Γ) (d := d + 2) (σ := σ) (τ := τ) (u := mw S σ.sc ik th σ.T σ.L (zw0 f)) (B := B) c r n hp h2 ck ok
      exact zOut_o (fun n9 g9 => lo_put lc_5 lc_171 hx n9 g9) (fun w => p_put c r n hc hr hn hp h2 hR)
    · exact zOut_t (by decide) (fun n9 g9 => lt_put2 lc_5 (t_put2 (d := d) c r n hn hp h2) n9 g9) (fun w => p_put2 c r n hc hr hn hp h2 hR)
  · exact zOut_t (by decide) (fun n9 g9 => lt_put1 lc_5 (t_put1 (d := d) c r n hc hr hp) n9 g9) (fun w => p_put1 c r n hc hr hn hp hR)
theorem out_take (hR : zRel B σ S ik) (n : Int) (hn : j32 n) : zOut Γ md_L_take md_X7_take (d + 8) [.int (jI n)] (bk 6 B (cr σ τ (mw S σ.sc ik th σ.T σ.L (zw0 f)))) S σ.sc ik th σ.T σ.L := by
  have ok := hR.1
  have ck := hR.2.2.2.1
  by_cases hp : 1 ≤ n ∧ n ≤ 90
  · by_cases h2 : B 1 n ≠ -1 ∧ jbit (B 11 0) (B 1 n / 3) ≠ 1
    · have hx := s_take (Γ := Γ) (d := d + 2) (σ := σ) (τ := τ) (u := mw S σ.sc ik th σ.T σ.L (zw0 f)) (B := B) n hp h2.1 h2.2 ck ok
      exact zOut_o (fun n9 g9 => lo_take lc_5 lc_171 hx n9 g9) (fun w => p_take n hp h2.1 h2.2 hR)
    · exact zOut_t (by decide) (fun n9 g9 => lt_take2 lc_5 (t_take2 (d := d) n hp h2 ok) n9 g9) (fun w => p_take2 n hp h2 hR)
  · exact zOut_t (by decide) (fun n9 g9 => lt_take1 lc_5 (t_take1 (d := d) n hn hp) n9 g9) (fun w => p_take1 n hn hp hR)
theorem out_fill (hR : zRel B σ S ik) (c m : Int) (hc : j32 c) (hm : j32 m) : zOut Γ md_L_fill md_X7_fill (d + 8) [.int (jI c), .int (jI m)] (bk 6 B (cr σ τ (mw S σ.sc ik th σ.T σ.L (zw0 f)))) S σ.sc ik th σ.T σ.L := by
  have ok := hR.1
  have ck := hR.2.2.2.1
  by_cases hp : 0 ≤ c ∧ c < 6
  · by_cases h2 : 1 ≤ m ∧ m ≤ 60
    · by_cases h3 : jbit (B 11 0) c = 1
      · exact zOut_t (by decide) (fun n9 g9 => lt_fill3 lc_5 (t_fill3 (d := d) c m hp h2 h3 ok) n9 g9) (fun w => p_fill3 c m hp h2 h3 hR)
      · obtain ⟨τ2, -, hx⟩ := s_fillC (Γ := Γ) (d := d + 1) (σ := σ) (τ := τ) (u := mw S σ.sc ik th σ.T σ.L (zw0 f)) (B := B) c m hp h2 h3 ck ok
        exact zOut_o (fun n9 g9 => lo_fill lc_5 lc_171 hx n9 g9) (fun w => p_fill c m hp h2 h3 hR)
    · exact zOut_t (by decide) (fun n9 g9 => lt_fill2 lc_5 (t_fill2 (d := d) c m hm hp h2) n9 g9) (fun w => p_fill2 c m hm hp h2 hR)
  · exact zOut_t (by decide) (fun n9 g9 => lt_fill1 lc_5 (t_fill1 (d := d) c m hc hp) n9 g9) (fun w => p_fill1 c m hc hm hp hR)
theorem out_buy (hR : zRel B σ S ik) (c : Int) (hc : j32 c) : zOut Γ md_L_buy md_X7_buy (d + 8) [.int (jI c)] (bk 6 B (cr σ τ (mw S σ.sc ik th σ.T σ.L (zw0 f)))) S σ.sc ik th σ.T σ.L := by
  have ok := hR.1
  have ck := hR.2.2.2.1
  by_cases hp : 0 ≤ c ∧ c < 6
  · by_cases h2 : jfs B c
    · have hx := s_buy (Γ := Γ) (d := d + 2) (σ := σ) (τ := τ) (u := mw S σ.sc ik th σ.T σ.L (zw0 f)) (B := B) c hp h2 ck ok
      exact zOut_o (fun n9 g9 => lo_buy lc_5 lc_171 hx n9 g9) (fun w => p_buy c hp h2 hR)
    · exact zOut_t (by decide) (fun n9 g9 => lt_buy2 lc_5 (t_buy2 (d := d) c hp h2 ok) n9 g9) (fun w => p_buy2 c hp h2 hR)
  · exact zOut_t (by decide) (fun n9 g9 => lt_buy1 lc_5 (t_buy1 (d := d) c hc hp) n9 g9) (fun w => p_buy1 c hc hp hR)
theorem out_seed (hR : zRel B σ S ik) (x : Int) (hx : j32 x) : zOut Γ md_L_seed md_X7_seed (d + 8) [.int (jI x)] (bk 6 B (cr σ τ (mw S σ.sc ik th σ.T σ.L (zw0 f)))) S σ.sc ik th σ.T σ.L := by
  have ok := hR.1
  have ck := hR.2.2.2.1
  by_cases hp : 0 ≤ x ∧ x < 10000
  · have hx := s_seed (Γ := Γ) (d := d + 2) (σ := σ) (τ := τ) (u := mw S σ.sc ik th σ.T σ.L (zw0 f)) (B := B) x hp ck ok
    exact zOut_o (fun n9 g9 => lo_seed lc_5 lc_171 hx n9 g9) (fun w => p_seed x hp hR)
  · exact zOut_t (by decide) (fun n9 g9 => lt_seed1 lc_5 (t_seed1 (d := d) x hx hp) n9 g9) (fun w => p_seed1 x hx hp hR)
theorem out_set (hR : zRel B σ S ik) (s x : Int) (hs : j32 s) (hx : j32 x) : zOut Γ md_L_set md_X7_set (d + 8) [.int (jI s), .int (jI x)] (bk 6 B (cr σ τ (mw S σ.sc ik th σ.T σ.L (zw0 f)))) S σ.sc ik th σ.T σ.L := by
  have ok := hR.1
  have ck := hR.2.2.2.1
  by_cases hp : 0 ≤ s ∧ s < 3
  · by_cases h2 : jse0 s ≤ x ∧ x ≤ jse9 s
    · have hx := s_set (Γ := Γ) (d := d + 2) (σ := σ) (τ := τ) (u := mw S σ.sc ik th σ.T σ.L (zw0 f)) (B := B) s x hp h2 ck ok
      exact zOut_o (fun n9 g9 => lo_set lc_5 lc_171 hx n9 g9) (fun w => p_set s x hp h2 hR)
    · exact zOut_t (by decide) (fun n9 g9 => lt_set2 lc_5 (t_set2 (d := d) s x hx hp h2) n9 g9) (fun w => p_set2 s x hx hp h2 hR)
  · exact zOut_t (by decide) (fun n9 g9 => lt_set1 lc_5 (t_set1 (d := d) s x hs hp) n9 g9) (fun w => p_set1 s x hs hx hp hR)
theorem out_draw (hR : zRel B σ S ik) (m : Int) (hm : j32 m) : zOut Γ md_L_draw md_X7_draw (d + 8) [.int (jI m)] (bk 6 B (cr σ τ (mw S σ.sc ik th σ.T σ.L (zw0 f)))) S σ.sc ik th σ.T σ.L := by
  have ok := hR.1
  have ck := hR.2.2.2.1
  by_cases hp : 1 ≤ m ∧ m ≤ 90
  · by_cases h2 : m ≤ B 4 0
    · have hx := s_draw (Γ := Γ) (d := d + 2) (σ := σ) (τ := τ) (u := mw S σ.sc ik th σ.T σ.L (zw0 f)) (B := B) m hp h2 ck ok
      exact zOut_o (fun n9 g9 => lo_draw lc_5 lc_171 hx n9 g9) (fun w => p_draw m hp h2 hR)
    · exact zOut_t (by decide) (fun n9 g9 => lt_draw2 lc_5 (t_draw2 (d := d) m hp h2 ok) n9 g9) (fun w => p_draw2 m hp h2 hR)
  · exact zOut_t (by decide) (fun n9 g9 => lt_draw1 lc_5 (t_draw1 (d := d) m hm hp) n9 g9) (fun w => p_draw1 m hm hp hR)
theorem out_claim (hR : zRel B σ S ik) (c g : Int) (hc : j32 c) (hg : j32 g) : zOut Γ md_L_claim md_X7_claim (d + 8) [.int (jI c), .int (jI g)] (bk 6 B (cr σ τ (mw S σ.sc ik th σ.T σ.L (zw0 f)))) S σ.sc ik th σ.T σ.L := by
  have ok := hR.1
  have ck := hR.2.2.2.1
  by_cases hp : (0 ≤ c ∧ c < 6) ∧ 0 ≤ g ∧ g < 4
  · by_cases h2 : jbit (B 11 0) c = 1
    · have hx := s_claim (Γ := Γ) (d := d + 1) (σ := σ) (τ := τ) (u := mw S σ.sc ik th σ.T σ.L (zw0 f)) (B := B) c g hp h2 ck ok
      exact zOut_o (fun n9 g9 => lo_claim lc_5 lc_171 hx n9 g9) (fun w => p_claim c g hp h2 hR)
    · exact zOut_t (by decide) (fun n9 g9 => lt_claim2 lc_5 (t_claim2 (d := d) c g hp h2 ok) n9 g9) (fun w => p_claim2 c g hp h2 hR)
  · exact zOut_t (by decide) (fun n9 g9 => lt_claim1 lc_5 (t_claim1 (d := d) c g hc hg hp) n9 g9) (fun w => p_claim1 c g hc hg hp hR)
theorem out_append (hR : zRel B σ S ik) (x : Int) (hx : j32 x) : zOut Γ md_L_append md_X7_append (d + 8) [.int (jI x)] (bk 6 B (cr σ τ (mw S σ.sc ik th σ.T σ.L (zw0 f)))) S σ.sc ik th σ.T σ.L := by
  have ok := hR.1
  have ck := hR.2.2.2.1
  by_cases hp : 33 ≤ x ∧ x ≤ 126
  · by_cases h2 : σ.L < 60
    · have hx := s_append (Γ := Γ) (d := d + 2) (σ := σ) (τ := τ) (u := mw S σ.sc ik th σ.T σ.L (zw0 f)) (B := B) x hp ck h2
      exact zOut_o (fun n9 g9 => lo_append lc_5 lc_171 hx n9 g9) (fun w => p_append x hp h2 hR)
    · exact zOut_t (by decide) (fun n9 g9 => lt_append2 lc_5 (t_append2 (d := d) x hp ck h2) n9 g9) (fun w => p_append2 x hp h2 hR)
  · exact zOut_t (by decide) (fun n9 g9 => lt_append1 lc_5 (t_append1 (d := d) x hx hp) n9 g9) (fun w => p_append1 x hx hp hR)
theorem out_run (hR : zRel B σ S ik) : zOut Γ md_L_run md_X7_run (d + 8) [] (bk 6 B (cr σ τ (mw S σ.sc ik th σ.T σ.L (zw0 f)))) S σ.sc ik th σ.T σ.L := by
  have ok := hR.1
  have ck := hR.2.2.2.1
  by_cases h2 : jer σ.T σ.L 61 0 < 0
  · have hx := s_run (Γ := Γ) (d := d) (σ := σ) (τ := τ) (u := mw S σ.sc ik th σ.T σ.L (zw0 f)) (B := B) ck ok h2
    exact zOut_o (fun n9 g9 => lo_run lc_5 lc_171 hx n9 g9) (fun w => p_run h2 hR)
  · exact zOut_t (by decide) (fun n9 g9 => lt_run1 lc_5 (t_run1 (d := d) ck h2) n9 g9) (fun w => p_run1 h2 hR)
theorem out_keep (hR : zRel B σ S ik) (s : Int) (hs : j32 s) : zOut Γ md_L_keep md_X7_keep (d + 8) [.int (jI s)] (bk 6 B (cr σ τ (mw S σ.sc ik th σ.T σ.L (zw0 f)))) S σ.sc ik th σ.T σ.L := by
  have ok := hR.1
  have ck := hR.2.2.2.1
  by_cases hp : 0 ≤ s ∧ s < 2
  · have hx := s_keep (Γ := Γ) (d := d + 2) (σ := σ) (τ := τ) (u := mw S σ.sc ik th σ.T σ.L (zw0 f)) (B := B) s hp ck ok
    exact zOut_o (fun n9 g9 => lo_keep lc_5 lc_171 hx n9 g9) (fun w => p_keep s hp hR)
  · exact zOut_t (by decide) (fun n9 g9 => lt_keep1 lc_5 (t_keep1 (d := d) s hs hp) n9 g9) (fun w => p_keep1 s hs hp hR)
theorem out_goBack (hR : zRel B σ S ik) (s : Int) (hs : j32 s) : zOut Γ md_L_goBack md_X7_goBack (d + 8) [.int (jI s)] (bk 6 B (cr σ τ (mw S σ.sc ik th σ.T σ.L (zw0 f)))) S σ.sc ik th σ.T σ.L := by
  have ok := hR.1
  have ck := hR.2.2.2.1
  have hks := ck.kp s
  by_cases hp : 0 ≤ s ∧ s < 2
  · by_cases h2 : σ.kp s = 1
    · have hx := s_goBack (Γ := Γ) (d := d + 2) (σ := σ) (τ := τ) (u := mw S σ.sc ik th σ.T σ.L (zw0 f)) (B := B) s hp h2 ck ok
      exact zOut_o (fun n9 g9 => lo_goBack lc_5 lc_171 hx n9 g9) (fun w => p_goBack s hp h2 hR)
    · have h2 : σ.kp s = 0 := by omega
      exact zOut_t (by decide) (fun n9 g9 => lt_goBack2 lc_5 (t_goBack2 (d := d) s hp h2) n9 g9) (fun w => p_goBack2 s hp h2 hR)
  · exact zOut_t (by decide) (fun n9 g9 => lt_goBack1 lc_5 (t_goBack1 (d := d) s hs hp) n9 g9) (fun w => p_goBack1 s hs hp hR)
theorem out_undo (hR : zRel B σ S ik) : zOut Γ md_L_undo md_X7_undo (d + 8) [] (bk 6 B (cr σ τ (mw S σ.sc ik th σ.T σ.L (zw0 f)))) S σ.sc ik th σ.T σ.L := by
  have ok := hR.1
  have ck := hR.2.2.2.1
  by_cases h2 : 0 < σ.sc
  · have hx := s_undo (Γ := Γ) (d := d + 2) (σ := σ) (τ := τ) (u := mw S σ.sc ik th σ.T σ.L (zw0 f)) (B := B) ck h2
    exact zOut_o (fun n9 g9 => lo_undo lc_5 lc_171 hx n9 g9) (fun w => p_undo h2 hR)
  · exact zOut_t (by decide) (fun n9 g9 => lt_undo1 lc_5 (t_undo1 (d := d) ck h2) n9 g9) (fun w => p_undo1 h2 hR)
theorem out_at (hR : zRel B σ S ik) (c r k : Int) (hc : j32 c) (hr : j32 r) (hk : j32 k) : zOut Γ md_L_at md_X7_at (d + 8) [.int (jI c), .int (jI r), .int (jI k)] (bk 6 B (cr σ τ (mw S σ.sc ik th σ.T σ.L (zw0 f)))) S σ.sc ik th σ.T σ.L := by
  have ok := hR.1
  have ck := hR.2.2.2.1
  by_cases hp : (0 ≤ c ∧ c < 6) ∧ (0 ≤ r ∧ r < 3) ∧ 0 ≤ k ∧ k < 9
  · have hx := s_at (Γ := Γ) (d := d + 2) (σ := σ) (τ := τ) (u := mw S σ.sc ik th σ.T σ.L (zw0 f)) (B := B) c r k hp
    exact zOut_o (fun n9 g9 => lo_at lc_5 lc_171 hx n9 g9) (fun w => p_at c r k hc hr hk hp hR)
  · exact zOut_t (by decide) (fun n9 g9 => lt_at1 lc_5 (t_at1 (d := d) c r k hc hr hk hp) n9 g9) (fun w => p_at1 c r k hc hr hk hp hR)
theorem out_cardOf (hR : zRel B σ S ik) (c k : Int) (hc : j32 c) (hk : j32 k) : zOut Γ md_L_cardOf md_X7_cardOf (d + 8) [.int (jI c), .int (jI k)] (bk 6 B (cr σ τ (mw S σ.sc ik th σ.T σ.L (zw0 f)))) S σ.sc ik th σ.T σ.L := by
  have ok := hR.1
  have ck := hR.2.2.2.1
  by_cases hp : 0 ≤ c ∧ c < 6
  · by_cases h2 : 0 ≤ k ∧ k < 9
    · have hx := s_cardOf (Γ := Γ) (d := d + 2) (σ := σ) (τ := τ) (u := mw S σ.sc ik th σ.T σ.L (zw0 f)) (B := B) c k hp h2 ok
      exact zOut_o (fun n9 g9 => lo_cardOf lc_5 lc_171 hx n9 g9) (fun w => p_cardOf c k hc hk hp h2 hR)
    · exact zOut_t (by decide) (fun n9 g9 => lt_cardOf2 lc_5 (t_cardOf2 (d := d) c k hk hp h2) n9 g9) (fun w => p_cardOf2 c k hc hk hp h2 hR)
  · exact zOut_t (by decide) (fun n9 g9 => lt_cardOf1 lc_5 (t_cardOf1 (d := d) c k hc hp) n9 g9) (fun w => p_cardOf1 c k hc hk hp hR)
theorem out_numberOf (hR : zRel B σ S ik) (n k : Int) (hn : j32 n) (hk : j32 k) : zOut Γ md_L_numberOf md_X7_numberOf (d + 8) [.int (jI n), .int (jI k)] (bk 6 B (cr σ τ (mw S σ.sc ik th σ.T σ.L (zw0 f)))) S σ.sc ik th σ.T σ.L := by
  have ok := hR.1
  have ck := hR.2.2.2.1
  by_cases hp : (1 ≤ n ∧ n ≤ 90) ∧ 0 ≤ k ∧ k < 4
  · have hx := s_numberOf (Γ := Γ) (d := d + 2) (σ := σ) (τ := τ) (u := mw S σ.sc ik th σ.T σ.L (zw0 f)) (B := B) n k hp ok
    exact zOut_o (fun n9 g9 => lo_numberOf lc_5 lc_171 hx n9 g9) (fun w => p_numberOf n k hn hk hp hR)
  · exact zOut_t (by decide) (fun n9 g9 => lt_numberOf1 lc_5 (t_numberOf1 (d := d) n k hn hk hp) n9 g9) (fun w => p_numberOf1 n k hn hk hp hR)
theorem out_call (hR : zRel B σ S ik) (a k : Int) (ha : j32 a) (hk : j32 k) : zOut Γ md_L_call md_X7_call (d + 8) [.int (jI a), .int (jI k)] (bk 6 B (cr σ τ (mw S σ.sc ik th σ.T σ.L (zw0 f)))) S σ.sc ik th σ.T σ.L := by
  have ok := hR.1
  have ck := hR.2.2.2.1
  by_cases hp : 0 ≤ a ∧ 0 ≤ k ∧ k < 2
  · have hx := s_call (Γ := Γ) (d := d + 2) (σ := σ) (τ := τ) (u := mw S σ.sc ik th σ.T σ.L (zw0 f)) (B := B) a k ha hp ok
    exact zOut_o (fun n9 g9 => lo_call lc_5 lc_171 hx n9 g9) (fun w => p_call a k ha hk hp hR)
  · exact zOut_t (by decide) (fun n9 g9 => lt_call1 lc_5 (t_call1 (d := d) a k ha hk hp) n9 g9) (fun w => p_call1 a k ha hk hp hR)
theorem out_gameOf (hR : zRel B σ S ik) (g k : Int) (hg : j32 g) (hk : j32 k) : zOut Γ md_L_gameOf md_X7_gameOf (d + 8) [.int (jI g), .int (jI k)] (bk 6 B (cr σ τ (mw S σ.sc ik th σ.T σ.L (zw0 f)))) S σ.sc ik th σ.T σ.L := by
  have ok := hR.1
  have ck := hR.2.2.2.1
  by_cases hp : 0 ≤ g ∧ g < 4
  · by_cases h2 : 0 ≤ k ∧ k < 4
    · have hx := s_gameOf (Γ := Γ) (d := d + 2) (σ := σ) (τ := τ) (u := mw S σ.sc ik th σ.T σ.L (zw0 f)) (B := B) g k hp h2 ok
      exact zOut_o (fun n9 g9 => lo_gameOf lc_5 lc_171 hx n9 g9) (fun w => p_gameOf g k hg hk hp h2 hR)
    · exact zOut_t (by decide) (fun n9 g9 => lt_gameOf2 lc_5 (t_gameOf2 (d := d) g k hk hp h2) n9 g9) (fun w => p_gameOf2 g k hg hk hp h2 hR)
  · exact zOut_t (by decide) (fun n9 g9 => lt_gameOf1 lc_5 (t_gameOf1 (d := d) g k hg hp) n9 g9) (fun w => p_gameOf1 g k hg hk hp hR)
theorem out_count (hR : zRel B σ S ik) (k : Int) (hk : j32 k) : zOut Γ md_L_count md_X7_count (d + 8) [.int (jI k)] (bk 6 B (cr σ τ (mw S σ.sc ik th σ.T σ.L (zw0 f)))) S σ.sc ik th σ.T σ.L := by
  have ok := hR.1
  have ck := hR.2.2.2.1
  by_cases hp : 0 ≤ k ∧ k < 15
  · have hx := s_count (Γ := Γ) (d := d + 2) (σ := σ) (τ := τ) (u := mw S σ.sc ik th σ.T σ.L (zw0 f)) (B := B) k hp ok
    exact zOut_o (fun n9 g9 => lo_count lc_5 lc_171 hx n9 g9) (fun w => p_count k hk hp hR)
  · exact zOut_t (by decide) (fun n9 g9 => lt_count1 lc_5 (t_count1 (d := d) k hk hp) n9 g9) (fun w => p_count1 k hk hp hR)
theorem out_setting (hR : zRel B σ S ik) (s : Int) (hs : j32 s) : zOut Γ md_L_setting md_X7_setting (d + 8) [.int (jI s)] (bk 6 B (cr σ τ (mw S σ.sc ik th σ.T σ.L (zw0 f)))) S σ.sc ik th σ.T σ.L := by
  have ok := hR.1
  have ck := hR.2.2.2.1
  by_cases hp : 0 ≤ s ∧ s < 3
  · have hx := s_setting (Γ := Γ) (d := d + 2) (σ := σ) (τ := τ) (u := mw S σ.sc ik th σ.T σ.L (zw0 f)) (B := B) s hp
    exact zOut_o (fun n9 g9 => lo_setting lc_5 lc_171 hx n9 g9) (fun w => p_setting s hs hp hR)
  · exact zOut_t (by decide) (fun n9 g9 => lt_setting1 lc_5 (t_setting1 (d := d) s hs hp) n9 g9) (fun w => p_setting1 s hs hp hR)
theorem out_whyNot (hR : zRel B σ S ik) (c r n : Int) (hc : j32 c) (hr : j32 r) (hn : j32 n) : zOut Γ md_L_whyNot md_X7_whyNot (d + 8) [.int (jI c), .int (jI r), .int (jI n)] (bk 6 B (cr σ τ (mw S σ.sc ik th σ.T σ.L (zw0 f)))) S σ.sc ik th σ.T σ.L := by
  have ok := hR.1
  have ck := hR.2.2.2.1
  by_cases hp : (0 ≤ c ∧ c < 6) ∧ 0 ≤ r ∧ r < 3
  · by_cases h2 : 1 ≤ n ∧ n ≤ 90
    · have hx := s_whyNot (Γ := Γ) (d := d + 2) (σ := σ) (τ := τ) (u := mw S σ.sc ik th σ.T σ.L (zw0 f)) (B := B) c r n hp h2 ok
      exact zOut_o (fun n9 g9 => lo_whyNot lc_5 lc_171 hx n9 g9) (fun w => p_whyNot c r n hc hr hn hp h2 hR)
    · exact zOut_t (by decide) (fun n9 g9 => lt_whyNot2 lc_5 (t_whyNot2 (d := d) c r n hn hp h2) n9 g9) (fun w => p_whyNot2 c r n hc hr hn hp h2 hR)
  · exact zOut_t (by decide) (fun n9 g9 => lt_whyNot1 lc_5 (t_whyNot1 (d := d) c r n hc hr hp) n9 g9) (fun w => p_whyNot1 c r n hc hr hn hp hR)
theorem out_ifClaimed (hR : zRel B σ S ik) (c g : Int) (hc : j32 c) (hg : j32 g) : zOut Γ md_L_ifClaimed md_X7_ifClaimed (d + 8) [.int (jI c), .int (jI g)] (bk 6 B (cr σ τ (mw S σ.sc ik th σ.T σ.L (zw0 f)))) S σ.sc ik th σ.T σ.L := by
  have ok := hR.1
  have ck := hR.2.2.2.1
  by_cases hp : (0 ≤ c ∧ c < 6) ∧ 0 ≤ g ∧ g < 4
  · have hx := s_ifClaimed (Γ := Γ) (d := d + 2) (σ := σ) (τ := τ) (u := mw S σ.sc ik th σ.T σ.L (zw0 f)) (B := B) c g hp ok
    exact zOut_o (fun n9 g9 => lo_ifClaimed lc_5 lc_171 hx n9 g9) (fun w => p_ifClaimed c g hc hg hp hR)
  · exact zOut_t (by decide) (fun n9 g9 => lt_ifClaimed1 lc_5 (t_ifClaimed1 (d := d) c g hc hg hp) n9 g9) (fun w => p_ifClaimed1 c g hc hg hp hR)
theorem out_missing (hR : zRel B σ S ik) (c g k : Int) (hc : j32 c) (hg : j32 g) (hk : j32 k) : zOut Γ md_L_missing md_X7_missing (d + 8) [.int (jI c), .int (jI g), .int (jI k)] (bk 6 B (cr σ τ (mw S σ.sc ik th σ.T σ.L (zw0 f)))) S σ.sc ik th σ.T σ.L := by
  have ok := hR.1
  have ck := hR.2.2.2.1
  by_cases hp : (0 ≤ c ∧ c < 6) ∧ 0 ≤ g ∧ g < 4
  · by_cases h2 : 0 ≤ k ∧ k < 2
    · have hx := s_missing (Γ := Γ) (d := d + 2) (σ := σ) (τ := τ) (u := mw S σ.sc ik th σ.T σ.L (zw0 f)) (B := B) c g k hp h2 ok
      exact zOut_o (fun n9 g9 => lo_missing lc_5 lc_171 hx n9 g9) (fun w => p_missing c g k hc hg hk hp h2 hR)
    · exact zOut_t (by decide) (fun n9 g9 => lt_missing2 lc_5 (t_missing2 (d := d) c g k hk hp h2) n9 g9) (fun w => p_missing2 c g k hc hg hk hp h2 hR)
  · exact zOut_t (by decide) (fun n9 g9 => lt_missing1 lc_5 (t_missing1 (d := d) c g k hc hg hp) n9 g9) (fun w => p_missing1 c g k hc hg hk hp hR)
theorem out_fullAt (hR : zRel B σ S ik) (c k : Int) (hc : j32 c) (hk : j32 k) : zOut Γ md_L_fullAt md_X7_fullAt (d + 8) [.int (jI c), .int (jI k)] (bk 6 B (cr σ τ (mw S σ.sc ik th σ.T σ.L (zw0 f)))) S σ.sc ik th σ.T σ.L := by
  have ok := hR.1
  have ck := hR.2.2.2.1
  by_cases hp : 0 ≤ c ∧ c < 6
  · by_cases h2 : 0 ≤ k ∧ k < 2
    · obtain ⟨τ2, hx⟩ := s_fullAt (Γ := Γ) (d := d + 2) (σ := σ) (τ := τ) (u := mw S σ.sc ik th σ.T σ.L (zw0 f)) (B := B) c k hp h2 ok
      exact zOut_o (fun n9 g9 => lo_fullAt lc_5 lc_171 hx n9 g9) (fun w => p_fullAt c k hc hk hp h2 hR)
    · exact zOut_t (by decide) (fun n9 g9 => lt_fullAt2 lc_5 (t_fullAt2 (d := d) c k hk hp h2) n9 g9) (fun w => p_fullAt2 c k hc hk hp h2 hR)
  · exact zOut_t (by decide) (fun n9 g9 => lt_fullAt1 lc_5 (t_fullAt1 (d := d) c k hc hp) n9 g9) (fun w => p_fullAt1 c k hc hk hp hR)
theorem out_next (hR : zRel B σ S ik) (m : Int) (hm : j32 m) : zOut Γ md_L_next md_X7_next (d + 8) [.int (jI m)] (bk 6 B (cr σ τ (mw S σ.sc ik th σ.T σ.L (zw0 f)))) S σ.sc ik th σ.T σ.L := by
  have ok := hR.1
  have ck := hR.2.2.2.1
  by_cases hp : 1 ≤ m ∧ m ≤ 90
  · obtain ⟨τ2, hx⟩ := s_next (Γ := Γ) (d := d + 2) (σ := σ) (τ := τ) (u := mw S σ.sc ik th σ.T σ.L (zw0 f)) (B := B) m hp ok
    exact zOut_o (fun n9 g9 => lo_next lc_5 lc_171 hx n9 g9) (fun w => p_next m hm hp hR)
  · exact zOut_t (by decide) (fun n9 g9 => lt_next1 lc_5 (t_next1 (d := d) m hm hp) n9 g9) (fun w => p_next1 m hm hp hR)
end OU
