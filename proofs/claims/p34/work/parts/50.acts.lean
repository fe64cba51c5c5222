/-! the law's acts -/
section AC
variable {Γ : zΓ} {d : Nat} {σ : zC} {τ : zTau} {u : zW} {B : zB} {y : Int}
def jAct (Γ : zΓ) (d : Nat) (σ : zC) (τ : zTau) (u : zW) (B : zB) (y : Int) : Prop := ∃ v B' σ', jStep B σ y v B' σ' ∧ zOt Γ md_L_acts (d + 9) 1 [.ref 5, .int (jI y)] (bk 6 B (cr σ τ u)) (fun r w2 => r = some (.int (jI v)) ∧ ∃ τ', w2 = bk 6 B' (cr σ' τ' u))
theorem act_0 (hy : 0 ≤ y ∧ y < 2147483648) (h : jin B) (hs : jsn σ) (h6 : σ.sc = 6) (hk : y % 16 = 0) : jAct Γ d σ τ u B y := by
  have hp : (0 ≤ y / 16 % 6 ∧ y / 16 % 6 < 6) ∧ 0 ≤ y / 16 / 8 % 3 ∧ y / 16 / 8 % 3 < 3 := by omega
  have h2 : 1 ≤ 1 + y / 16 / 32 % 90 ∧ 1 + y / 16 / 32 % 90 ≤ 90 := by omega
  have hx := ou_put (Γ := Γ) (d := d) (τ := τ) (u := u) (y / 16 % 6) (y / 16 / 8 % 3) (1 + y / 16 / 32 % 90) hp h2 h hs
  have hr := jrap_r B (y / 16 % 6 * 3 + y / 16 / 8 % 3) (1 + y / 16 / 32 % 90)
  refine ⟨jrap B (y / 16 % 6 * 3 + y / 16 / 8 % 3) (1 + y / 16 / 32 % 90), jpl B (y / 16 % 6 * 3 + y / 16 / 8 % 3) (1 + y / 16 / 32 % 90), jsv σ B, ⟨⟨jin_pl h (by omega) h2, jsn_sv hs h.ok, js2_6 h6⟩, by omega, fun _ => ⟨rfl, hr.1, ?_⟩, fun q1 q2 => absurd q1 (by omega), fun q => absurd q (by omega), fun q => absurd q (by omega), fun q => absurd q (by omega), fun q => absurd q (by omega)⟩, ?_⟩
  · by_cases q : jrap B (y / 16 % 6 * 3 + y / 16 / 8 % 3) (1 + y / 16 / 32 % 90) = 0
    · exact Or.inr (jpl_at hp q)
    · exact Or.inl (by omega)
  refine zOt.of_run (lv := [some (.ref 5), some (.int (jI y)), none]) (by decide) rfl (Nat.le_of_ble_eq_true rfl) rfl (fun n9 g9 => ?_)
  refine zr_iload_n dL_acts_0 (rfl : 0 + 1 = 1) rfl ?_
  refine zr_bipush dL_acts_1 (rfl : 1 + 2 = 3) (by decide) ?_
  refine zr_idiv dL_acts_3 (rfl : 3 + 1 = 4) (fun q => absurd ((jI_z (by first | omega | (simp only [bset, reduceIte, Nat.reduceEqDiff]; omega)) (by first | omega | (simp only [bset, reduceIte, Nat.reduceEqDiff]; omega))).mp q) (by first | omega | (simp only [bset, reduceIte, Nat.reduceEqDiff]; omega))) (jI_div (by first | omega | (simp only [bset, reduceIte, Nat.reduceEqDiff]; omega)) (by first | omega | (simp only [bset, reduceIte, Nat.reduceEqDiff]; omega)) (by first | omega | (simp only [bset, reduceIte, Nat.reduceEqDiff]; omega)) (by first | omega | (simp only [bset, reduceIte, Nat.reduceEqDiff]; omega))) ?_
  refine zr_istore_n (lv' := [_, _, _]) dL_acts_4 (rfl : 4 + 1 = 5) (Nat.le_of_ble_eq_true rfl) rfl ?_
  refine zr_iload_n dL_acts_5 (rfl : 5 + 1 = 6) rfl ?_
  refine zr_bipush dL_acts_6 (rfl : 6 + 2 = 8) (by decide) ?_
  refine zr_irem dL_acts_8 (rfl : 8 + 1 = 9) (fun q => absurd ((jI_z (by first | omega | (simp only [bset, reduceIte, Nat.reduceEqDiff]; omega)) (by first | omega | (simp only [bset, reduceIte, Nat.reduceEqDiff]; omega))).mp q) (by first | omega | (simp only [bset, reduceIte, Nat.reduceEqDiff]; omega))) (jI_rem (by first | omega | (simp only [bset, reduceIte, Nat.reduceEqDiff]; omega)) (by first | omega | (simp only [bset, reduceIte, Nat.reduceEqDiff]; omega)) (by first | omega | (simp only [bset, reduceIte, Nat.reduceEqDiff]; omega)) (by first | omega | (simp only [bset, reduceIte, Nat.reduceEqDiff]; omega))) ?_
  rw [hk]
  refine zr_tableIn (off := 67) (tgt := 76) dL_acts_9 ⟨by omega, by omega⟩ (by first | omega | (simp only [bset, reduceIte, Nat.reduceEqDiff]; omega)) (by first | omega | (simp only [bset, reduceIte, Nat.reduceEqDiff]; omega)) rfl (by decide) ?_
  refine zr_aload_n dL_acts_76 (rfl : 76 + 1 = 77) rfl ?_
  refine zr_iload_n dL_acts_77 (rfl : 77 + 1 = 78) rfl ?_
  refine zr_bipush dL_acts_78 (rfl : 78 + 2 = 80) (by decide) ?_
  refine zr_irem dL_acts_80 (rfl : 80 + 1 = 81) (fun q => absurd ((jI_z (by first | omega | (simp only [bset, reduceIte, Nat.reduceEqDiff]; omega)) (by first | omega | (simp only [bset, reduceIte, Nat.reduceEqDiff]; omega))).mp q) (by first | omega | (simp only [bset, reduceIte, Nat.reduceEqDiff]; omega))) (jI_rem (by first | omega | (simp only [bset, reduceIte, Nat.reduceEqDiff]; omega)) (by first | omega | (simp only [bset, reduceIte, Nat.reduceEqDiff]; omega)) (by first | omega | (simp only [bset, reduceIte, Nat.reduceEqDiff]; omega)) (by first | omega | (simp only [bset, reduceIte, Nat.reduceEqDiff]; omega))) ?_
  refine zr_iload_n dL_acts_81 (rfl : 81 + 1 = 82) rfl ?_
  refine zr_bipush dL_acts_82 (rfl : 82 + 2 = 84) (by decide) ?_
  refine zr_idiv dL_acts_84 (rfl : 84 + 1 = 85) (fun q => absurd ((jI_z (by first | omega | (simp only [bset, reduceIte, Nat.reduceEqDiff]; omega)) (by first | omega | (simp only [bset, reduceIte, Nat.reduceEqDiff]; omega))).mp q) (by first | omega | (simp only [bset, reduceIte, Nat.reduceEqDiff]; omega))) (jI_div (by first | omega | (simp only [bset, reduceIte, Nat.reduceEqDiff]; omega)) (by first | omega | (simp only [bset, reduceIte, Nat.reduceEqDiff]; omega)) (by first | omega | (simp only [bset, reduceIte, Nat.reduceEqDiff]; omega)) (by first | omega | (simp only [bset, reduceIte, Nat.reduceEqDiff]; omega))) ?_
  refine zr_iconst dL_acts_85 (rfl : 85 + 1 = 86) ?_
  refine zr_irem dL_acts_86 (rfl : 86 + 1 = 87) (fun q => absurd ((jI_z (by first | omega | (simp only [bset, reduceIte, Nat.reduceEqDiff]; omega)) (by first | omega | (simp only [bset, reduceIte, Nat.reduceEqDiff]; omega))).mp q) (by first | omega | (simp only [bset, reduceIte, Nat.reduceEqDiff]; omega))) (jI_rem (by first | omega | (simp only [bset, reduceIte, Nat.reduceEqDiff]; omega)) (by first | omega | (simp only [bset, reduceIte, Nat.reduceEqDiff]; omega)) (by first | omega | (simp only [bset, reduceIte, Nat.reduceEqDiff]; omega)) (by first | omega | (simp only [bset, reduceIte, Nat.reduceEqDiff]; omega))) ?_
  refine zr_iconst dL_acts_87 (rfl : 87 + 1 = 88) ?_
  refine zr_iload_n dL_acts_88 (rfl : 88 + 1 = 89) rfl ?_
  refine zr_bipush dL_acts_89 (rfl : 89 + 2 = 91) (by decide) ?_
  refine zr_idiv dL_acts_91 (rfl : 91 + 1 = 92) (fun q => absurd ((jI_z (by first | omega | (simp only [bset, reduceIte, Nat.reduceEqDiff]; omega)) (by first | omega | (simp only [bset, reduceIte, Nat.reduceEqDiff]; omega))).mp q) (by first | omega | (simp only [bset, reduceIte, Nat.reduceEqDiff]; omega))) (jI_div (by first | omega | (simp only [bset, reduceIte, Nat.reduceEqDiff]; omega)) (by first | omega | (simp only [bset, reduceIte, Nat.reduceEqDiff]; omega)) (by first | omega | (simp only [bset, reduceIte, Nat.reduceEqDiff]; omega)) (by first | omega | (simp only [bset, reduceIte, Nat.reduceEqDiff]; omega))) ?_
  refine zr_bipush dL_acts_92 (rfl : 92 + 2 = 94) (by decide) ?_
  refine zr_irem dL_acts_94 (rfl : 94 + 1 = 95) (fun q => absurd ((jI_z (by first | omega | (simp only [bset, reduceIte, Nat.reduceEqDiff]; omega)) (by first | omega | (simp only [bset, reduceIte, Nat.reduceEqDiff]; omega))).mp q) (by first | omega | (simp only [bset, reduceIte, Nat.reduceEqDiff]; omega))) (jI_rem (by first | omega | (simp only [bset, reduceIte, Nat.reduceEqDiff]; omega)) (by first | omega | (simp only [bset, reduceIte, Nat.reduceEqDiff]; omega)) (by first | omega | (simp only [bset, reduceIte, Nat.reduceEqDiff]; omega)) (by first | omega | (simp only [bset, reduceIte, Nat.reduceEqDiff]; omega))) ?_
  refine zr_iadd dL_acts_95 (rfl : 95 + 1 = 96) (by first | exact jI_add _ _ | rfl) ?_
  refine zr_otH dL_acts_96 (rfl : 96 + 3 = 99) l_L_99 hx rfl rfl (Nat.le_of_ble_eq_true rfl) (by first | omega | (simp only [bset, reduceIte, Nat.reduceEqDiff]; omega)) (by first | omega | (simp only [bset, reduceIte, Nat.reduceEqDiff]; omega)) ?_
  intro g1
  exact zr_iretO dL_acts_99 rfl rfl ⟨rfl, τ, rfl⟩ rfl
theorem act_1 (hy : 0 ≤ y ∧ y < 2147483648) (h : jin B) (hs : jsn σ) (h6 : σ.sc = 6) (hk : y % 16 = 1) : jAct Γ d σ τ u B y := by
  obtain ⟨v, B', σ', hb, hv, hx⟩ := ou_take (Γ := Γ) (d := d) (τ := τ) (u := u) (1 + y / 16 % 90) (by omega) h hs h6
  refine ⟨v, B', σ', ⟨hb, hv, fun q => absurd q (by omega), fun q1 q2 => absurd q1 (by omega), fun q => absurd q (by omega), fun q => absurd q (by omega), fun q => absurd q (by omega), fun q => absurd q (by omega)⟩, ?_⟩
  refine zOt.of_run (lv := [some (.ref 5), some (.int (jI y)), none]) (by decide) rfl (Nat.le_of_ble_eq_true rfl) rfl (fun n9 g9 => ?_)
  refine zr_iload_n dL_acts_0 (rfl : 0 + 1 = 1) rfl ?_
  refine zr_bipush dL_acts_1 (rfl : 1 + 2 = 3) (by decide) ?_
  refine zr_idiv dL_acts_3 (rfl : 3 + 1 = 4) (fun q => absurd ((jI_z (by first | omega | (simp only [bset, reduceIte, Nat.reduceEqDiff]; omega)) (by first | omega | (simp only [bset, reduceIte, Nat.reduceEqDiff]; omega))).mp q) (by first | omega | (simp only [bset, reduceIte, Nat.reduceEqDiff]; omega))) (jI_div (by first | omega | (simp only [bset, reduceIte, Nat.reduceEqDiff]; omega)) (by first | omega | (simp only [bset, reduceIte, Nat.reduceEqDiff]; omega)) (by first | omega | (simp only [bset, reduceIte, Nat.reduceEqDiff]; omega)) (by first | omega | (simp only [bset, reduceIte, Nat.reduceEqDiff]; omega))) ?_
  refine zr_istore_n (lv' := [_, _, _]) dL_acts_4 (rfl : 4 + 1 = 5) (Nat.le_of_ble_eq_true rfl) rfl ?_
  refine zr_iload_n dL_acts_5 (rfl : 5 + 1 = 6) rfl ?_
  refine zr_bipush dL_acts_6 (rfl : 6 + 2 = 8) (by decide) ?_
  refine zr_irem dL_acts_8 (rfl : 8 + 1 = 9) (fun q => absurd ((jI_z (by first | omega | (simp only [bset, reduceIte, Nat.reduceEqDiff]; omega)) (by first | omega | (simp only [bset, reduceIte, Nat.reduceEqDiff]; omega))).mp q) (by first | omega | (simp only [bset, reduceIte, Nat.reduceEqDiff]; omega))) (jI_rem (by first | omega | (simp only [bset, reduceIte, Nat.reduceEqDiff]; omega)) (by first | omega | (simp only [bset, reduceIte, Nat.reduceEqDiff]; omega)) (by first | omega | (simp only [bset, reduceIte, Nat.reduceEqDiff]; omega)) (by first | omega | (simp only [bset, reduceIte, Nat.reduceEqDiff]; omega))) ?_
  rw [hk]
  refine zr_tableIn (off := 91) (tgt := 100) dL_acts_9 ⟨by omega, by omega⟩ (by first | omega | (simp only [bset, reduceIte, Nat.reduceEqDiff]; omega)) (by first | omega | (simp only [bset, reduceIte, Nat.reduceEqDiff]; omega)) rfl (by decide) ?_
  refine zr_aload_n dL_acts_100 (rfl : 100 + 1 = 101) rfl ?_
  refine zr_iconst dL_acts_101 (rfl : 101 + 1 = 102) ?_
  refine zr_iload_n dL_acts_102 (rfl : 102 + 1 = 103) rfl ?_
  refine zr_bipush dL_acts_103 (rfl : 103 + 2 = 105) (by decide) ?_
  refine zr_irem dL_acts_105 (rfl : 105 + 1 = 106) (fun q => absurd ((jI_z (by first | omega | (simp only [bset, reduceIte, Nat.reduceEqDiff]; omega)) (by first | omega | (simp only [bset, reduceIte, Nat.reduceEqDiff]; omega))).mp q) (by first | omega | (simp only [bset, reduceIte, Nat.reduceEqDiff]; omega))) (jI_rem (by first | omega | (simp only [bset, reduceIte, Nat.reduceEqDiff]; omega)) (by first | omega | (simp only [bset, reduceIte, Nat.reduceEqDiff]; omega)) (by first | omega | (simp only [bset, reduceIte, Nat.reduceEqDiff]; omega)) (by first | omega | (simp only [bset, reduceIte, Nat.reduceEqDiff]; omega))) ?_
  refine zr_iadd dL_acts_106 (rfl : 106 + 1 = 107) (by first | exact jI_add _ _ | rfl) ?_
  refine zr_otH dL_acts_107 (rfl : 107 + 3 = 110) l_L_104 hx rfl rfl (Nat.le_of_ble_eq_true rfl) (by first | omega | (simp only [bset, reduceIte, Nat.reduceEqDiff]; omega)) (by first | omega | (simp only [bset, reduceIte, Nat.reduceEqDiff]; omega)) ?_
  intro g1
  exact zr_iretO dL_acts_110 rfl rfl ⟨rfl, τ, rfl⟩ rfl
theorem act_2 (hy : 0 ≤ y ∧ y < 2147483648) (h : jin B) (hs : jsn σ) (h6 : σ.sc = 6) (hk : y % 16 = 2) : jAct Γ d σ τ u B y := by
  obtain ⟨v, B', σ', τ2, hb, hv, hx⟩ := ou_fill (Γ := Γ) (d := d) (τ := τ) (u := u) (3 + y / 16 % 3) (1 + y / 16 / 4 % 20) (by omega) (by omega) h hs h6
  refine ⟨v, B', σ', ⟨hb, hv, fun q => absurd q (by omega), fun q1 q2 => absurd q1 (by omega), fun q => absurd q (by omega), fun q => absurd q (by omega), fun q => absurd q (by omega), fun q => absurd q (by omega)⟩, ?_⟩
  refine zOt.of_run (lv := [some (.ref 5), some (.int (jI y)), none]) (by decide) rfl (Nat.le_of_ble_eq_true rfl) rfl (fun n9 g9 => ?_)
  refine zr_iload_n dL_acts_0 (rfl : 0 + 1 = 1) rfl ?_
  refine zr_bipush dL_acts_1 (rfl : 1 + 2 = 3) (by decide) ?_
  refine zr_idiv dL_acts_3 (rfl : 3 + 1 = 4) (fun q => absurd ((jI_z (by first | omega | (simp only [bset, reduceIte, Nat.reduceEqDiff]; omega)) (by first | omega | (simp only [bset, reduceIte, Nat.reduceEqDiff]; omega))).mp q) (by first | omega | (simp only [bset, reduceIte, Nat.reduceEqDiff]; omega))) (jI_div (by first | omega | (simp only [bset, reduceIte, Nat.reduceEqDiff]; omega)) (by first | omega | (simp only [bset, reduceIte, Nat.reduceEqDiff]; omega)) (by first | omega | (simp only [bset, reduceIte, Nat.reduceEqDiff]; omega)) (by first | omega | (simp only [bset, reduceIte, Nat.reduceEqDiff]; omega))) ?_
  refine zr_istore_n (lv' := [_, _, _]) dL_acts_4 (rfl : 4 + 1 = 5) (Nat.le_of_ble_eq_true rfl) rfl ?_
  refine zr_iload_n dL_acts_5 (rfl : 5 + 1 = 6) rfl ?_
  refine zr_bipush dL_acts_6 (rfl : 6 + 2 = 8) (by decide) ?_
  refine zr_irem dL_acts_8 (rfl : 8 + 1 = 9) (fun q => absurd ((jI_z (by first | omega | (simp only [bset, reduceIte, Nat.reduceEqDiff]; omega)) (by first | omega | (simp only [bset, reduceIte, Nat.reduceEqDiff]; omega))).mp q) (by first | omega | (simp only [bset, reduceIte, Nat.reduceEqDiff]; omega))) (jI_rem (by first | omega | (simp only [bset, reduceIte, Nat.reduceEqDiff]; omega)) (by first | omega | (simp only [bset, reduceIte, Nat.reduceEqDiff]; omega)) (by first | omega | (simp only [bset, reduceIte, Nat.reduceEqDiff]; omega)) (by first | omega | (simp only [bset, reduceIte, Nat.reduceEqDiff]; omega))) ?_
  rw [hk]
  refine zr_tableIn (off := 102) (tgt := 111) dL_acts_9 ⟨by omega, by omega⟩ (by first | omega | (simp only [bset, reduceIte, Nat.reduceEqDiff]; omega)) (by first | omega | (simp only [bset, reduceIte, Nat.reduceEqDiff]; omega)) rfl (by decide) ?_
  refine zr_aload_n dL_acts_111 (rfl : 111 + 1 = 112) rfl ?_
  refine zr_iconst dL_acts_112 (rfl : 112 + 1 = 113) ?_
  refine zr_iload_n dL_acts_113 (rfl : 113 + 1 = 114) rfl ?_
  refine zr_iconst dL_acts_114 (rfl : 114 + 1 = 115) ?_
  refine zr_irem dL_acts_115 (rfl : 115 + 1 = 116) (fun q => absurd ((jI_z (by first | omega | (simp only [bset, reduceIte, Nat.reduceEqDiff]; omega)) (by first | omega | (simp only [bset, reduceIte, Nat.reduceEqDiff]; omega))).mp q) (by first | omega | (simp only [bset, reduceIte, Nat.reduceEqDiff]; omega))) (jI_rem (by first | omega | (simp only [bset, reduceIte, Nat.reduceEqDiff]; omega)) (by first | omega | (simp only [bset, reduceIte, Nat.reduceEqDiff]; omega)) (by first | omega | (simp only [bset, reduceIte, Nat.reduceEqDiff]; omega)) (by first | omega | (simp only [bset, reduceIte, Nat.reduceEqDiff]; omega))) ?_
  refine zr_iadd dL_acts_116 (rfl : 116 + 1 = 117) (by first | exact jI_add _ _ | rfl) ?_
  refine zr_iconst dL_acts_117 (rfl : 117 + 1 = 118) ?_
  refine zr_iload_n dL_acts_118 (rfl : 118 + 1 = 119) rfl ?_
  refine zr_iconst dL_acts_119 (rfl : 119 + 1 = 120) ?_
  refine zr_idiv dL_acts_120 (rfl : 120 + 1 = 121) (fun q => absurd ((jI_z (by first | omega | (simp only [bset, reduceIte, Nat.reduceEqDiff]; omega)) (by first | omega | (simp only [bset, reduceIte, Nat.reduceEqDiff]; omega))).mp q) (by first | omega | (simp only [bset, reduceIte, Nat.reduceEqDiff]; omega))) (jI_div (by first | omega | (simp only [bset, reduceIte, Nat.reduceEqDiff]; omega)) (by first | omega | (simp only [bset, reduceIte, Nat.reduceEqDiff]; omega)) (by first | omega | (simp only [bset, reduceIte, Nat.reduceEqDiff]; omega)) (by first | omega | (simp only [bset, reduceIte, Nat.reduceEqDiff]; omega))) ?_
  refine zr_bipush dL_acts_121 (rfl : 121 + 2 = 123) (by decide) ?_
  refine zr_irem dL_acts_123 (rfl : 123 + 1 = 124) (fun q => absurd ((jI_z (by first | omega | (simp only [bset, reduceIte, Nat.reduceEqDiff]; omega)) (by first | omega | (simp only [bset, reduceIte, Nat.reduceEqDiff]; omega))).mp q) (by first | omega | (simp only [bset, reduceIte, Nat.reduceEqDiff]; omega))) (jI_rem (by first | omega | (simp only [bset, reduceIte, Nat.reduceEqDiff]; omega)) (by first | omega | (simp only [bset, reduceIte, Nat.reduceEqDiff]; omega)) (by first | omega | (simp only [bset, reduceIte, Nat.reduceEqDiff]; omega)) (by first | omega | (simp only [bset, reduceIte, Nat.reduceEqDiff]; omega))) ?_
  refine zr_iadd dL_acts_124 (rfl : 124 + 1 = 125) (by first | exact jI_add _ _ | rfl) ?_
  refine zr_otH dL_acts_125 (rfl : 125 + 3 = 128) l_L_107 hx rfl rfl (Nat.le_of_ble_eq_true rfl) (by first | omega | (simp only [bset, reduceIte, Nat.reduceEqDiff]; omega)) (by first | omega | (simp only [bset, reduceIte, Nat.reduceEqDiff]; omega)) ?_
  intro g1
  exact zr_iretO dL_acts_128 rfl rfl ⟨rfl, τ2, rfl⟩ rfl
theorem act_3 (hy : 0 ≤ y ∧ y < 2147483648) (h : jin B) (hs : jsn σ) (h6 : σ.sc = 6) (hk : y % 16 = 3) : jAct Γ d σ τ u B y := by
  obtain ⟨v, B', σ', hb, hv, hf, hx⟩ := ou_buy (Γ := Γ) (d := d) (τ := τ) (u := u) (y / 16 % 6) (by omega) h hs h6
  refine ⟨v, B', σ', ⟨hb, hv, fun q => absurd q (by omega), fun q1 q2 => absurd q1 (by omega), fun q => absurd q (by omega), fun q => absurd q (by omega), fun q => absurd q (by omega), fun _ => hf⟩, ?_⟩
  refine zOt.of_run (lv := [some (.ref 5), some (.int (jI y)), none]) (by decide) rfl (Nat.le_of_ble_eq_true rfl) rfl (fun n9 g9 => ?_)
  refine zr_iload_n dL_acts_0 (rfl : 0 + 1 = 1) rfl ?_
  refine zr_bipush dL_acts_1 (rfl : 1 + 2 = 3) (by decide) ?_
  refine zr_idiv dL_acts_3 (rfl : 3 + 1 = 4) (fun q => absurd ((jI_z (by first | omega | (simp only [bset, reduceIte, Nat.reduceEqDiff]; omega)) (by first | omega | (simp only [bset, reduceIte, Nat.reduceEqDiff]; omega))).mp q) (by first | omega | (simp only [bset, reduceIte, Nat.reduceEqDiff]; omega))) (jI_div (by first | omega | (simp only [bset, reduceIte, Nat.reduceEqDiff]; omega)) (by first | omega | (simp only [bset, reduceIte, Nat.reduceEqDiff]; omega)) (by first | omega | (simp only [bset, reduceIte, Nat.reduceEqDiff]; omega)) (by first | omega | (simp only [bset, reduceIte, Nat.reduceEqDiff]; omega))) ?_
  refine zr_istore_n (lv' := [_, _, _]) dL_acts_4 (rfl : 4 + 1 = 5) (Nat.le_of_ble_eq_true rfl) rfl ?_
  refine zr_iload_n dL_acts_5 (rfl : 5 + 1 = 6) rfl ?_
  refine zr_bipush dL_acts_6 (rfl : 6 + 2 = 8) (by decide) ?_
  refine zr_irem dL_acts_8 (rfl : 8 + 1 = 9) (fun q => absurd ((jI_z (by first | omega | (simp only [bset, reduceIte, Nat.reduceEqDiff]; omega)) (by first | omega | (simp only [bset, reduceIte, Nat.reduceEqDiff]; omega))).mp q) (by first | omega | (simp only [bset, reduceIte, Nat.reduceEqDiff]; omega))) (jI_rem (by first | omega | (simp only [bset, reduceIte, Nat.reduceEqDiff]; omega)) (by first | omega | (simp only [bset, reduceIte, Nat.reduceEqDiff]; omega)) (by first | omega | (simp only [bset, reduceIte, Nat.reduceEqDiff]; omega)) (by first | omega | (simp only [bset, reduceIte, Nat.reduceEqDiff]; omega))) ?_
  rw [hk]
  refine zr_tableIn (off := 120) (tgt := 129) dL_acts_9 ⟨by omega, by omega⟩ (by first | omega | (simp only [bset, reduceIte, Nat.reduceEqDiff]; omega)) (by first | omega | (simp only [bset, reduceIte, Nat.reduceEqDiff]; omega)) rfl (by decide) ?_
  refine zr_aload_n dL_acts_129 (rfl : 129 + 1 = 130) rfl ?_
  refine zr_iload_n dL_acts_130 (rfl : 130 + 1 = 131) rfl ?_
  refine zr_bipush dL_acts_131 (rfl : 131 + 2 = 133) (by decide) ?_
  refine zr_irem dL_acts_133 (rfl : 133 + 1 = 134) (fun q => absurd ((jI_z (by first | omega | (simp only [bset, reduceIte, Nat.reduceEqDiff]; omega)) (by first | omega | (simp only [bset, reduceIte, Nat.reduceEqDiff]; omega))).mp q) (by first | omega | (simp only [bset, reduceIte, Nat.reduceEqDiff]; omega))) (jI_rem (by first | omega | (simp only [bset, reduceIte, Nat.reduceEqDiff]; omega)) (by first | omega | (simp only [bset, reduceIte, Nat.reduceEqDiff]; omega)) (by first | omega | (simp only [bset, reduceIte, Nat.reduceEqDiff]; omega)) (by first | omega | (simp only [bset, reduceIte, Nat.reduceEqDiff]; omega))) ?_
  refine zr_otH dL_acts_134 (rfl : 134 + 3 = 137) l_L_110 hx rfl rfl (Nat.le_of_ble_eq_true rfl) (by first | omega | (simp only [bset, reduceIte, Nat.reduceEqDiff]; omega)) (by first | omega | (simp only [bset, reduceIte, Nat.reduceEqDiff]; omega)) ?_
  intro g1
  exact zr_iretO dL_acts_137 rfl rfl ⟨rfl, τ, rfl⟩ rfl
theorem act_4 (hy : 0 ≤ y ∧ y < 2147483648) (h : jin B) (hs : jsn σ) (h6 : σ.sc = 6) (hk : y % 16 = 4) : jAct Γ d σ τ u B y := by
  obtain ⟨v, B', σ', hb, hv, hf, hx⟩ := ou_buy (Γ := Γ) (d := d) (τ := τ) (u := u) (y / 16 % 6) (by omega) h hs h6
  refine ⟨v, B', σ', ⟨hb, hv, fun q => absurd q (by omega), fun q1 q2 => absurd q1 (by omega), fun q => absurd q (by omega), fun q => absurd q (by omega), fun q => absurd q (by omega), fun _ => hf⟩, ?_⟩
  refine zOt.of_run (lv := [some (.ref 5), some (.int (jI y)), none]) (by decide) rfl (Nat.le_of_ble_eq_true rfl) rfl (fun n9 g9 => ?_)
  refine zr_iload_n dL_acts_0 (rfl : 0 + 1 = 1) rfl ?_
  refine zr_bipush dL_acts_1 (rfl : 1 + 2 = 3) (by decide) ?_
  refine zr_idiv dL_acts_3 (rfl : 3 + 1 = 4) (fun q => absurd ((jI_z (by first | omega | (simp only [bset, reduceIte, Nat.reduceEqDiff]; omega)) (by first | omega | (simp only [bset, reduceIte, Nat.reduceEqDiff]; omega))).mp q) (by first | omega | (simp only [bset, reduceIte, Nat.reduceEqDiff]; omega))) (jI_div (by first | omega | (simp only [bset, reduceIte, Nat.reduceEqDiff]; omega)) (by first | omega | (simp only [bset, reduceIte, Nat.reduceEqDiff]; omega)) (by first | omega | (simp only [bset, reduceIte, Nat.reduceEqDiff]; omega)) (by first | omega | (simp only [bset, reduceIte, Nat.reduceEqDiff]; omega))) ?_
  refine zr_istore_n (lv' := [_, _, _]) dL_acts_4 (rfl : 4 + 1 = 5) (Nat.le_of_ble_eq_true rfl) rfl ?_
  refine zr_iload_n dL_acts_5 (rfl : 5 + 1 = 6) rfl ?_
  refine zr_bipush dL_acts_6 (rfl : 6 + 2 = 8) (by decide) ?_
  refine zr_irem dL_acts_8 (rfl : 8 + 1 = 9) (fun q => absurd ((jI_z (by first | omega | (simp only [bset, reduceIte, Nat.reduceEqDiff]; omega)) (by first | omega | (simp only [bset, reduceIte, Nat.reduceEqDiff]; omega))).mp q) (by first | omega | (simp only [bset, reduceIte, Nat.reduceEqDiff]; omega))) (jI_rem (by first | omega | (simp only [bset, reduceIte, Nat.reduceEqDiff]; omega)) (by first | omega | (simp only [bset, reduceIte, Nat.reduceEqDiff]; omega)) (by first | omega | (simp only [bset, reduceIte, Nat.reduceEqDiff]; omega)) (by first | omega | (simp only [bset, reduceIte, Nat.reduceEqDiff]; omega))) ?_
  rw [hk]
  refine zr_tableIn (off := 120) (tgt := 129) dL_acts_9 ⟨by omega, by omega⟩ (by first | omega | (simp only [bset, reduceIte, Nat.reduceEqDiff]; omega)) (by first | omega | (simp only [bset, reduceIte, Nat.reduceEqDiff]; omega)) rfl (by decide) ?_
  refine zr_aload_n dL_acts_129 (rfl : 129 + 1 = 130) rfl ?_
  refine zr_iload_n dL_acts_130 (rfl : 130 + 1 = 131) rfl ?_
  refine zr_bipush dL_acts_131 (rfl : 131 + 2 = 133) (by decide) ?_
  refine zr_irem dL_acts_133 (rfl : 133 + 1 = 134) (fun q => absurd ((jI_z (by first | omega | (simp only [bset, reduceIte, Nat.reduceEqDiff]; omega)) (by first | omega | (simp only [bset, reduceIte, Nat.reduceEqDiff]; omega))).mp q) (by first | omega | (simp only [bset, reduceIte, Nat.reduceEqDiff]; omega))) (jI_rem (by first | omega | (simp only [bset, reduceIte, Nat.reduceEqDiff]; omega)) (by first | omega | (simp only [bset, reduceIte, Nat.reduceEqDiff]; omega)) (by first | omega | (simp only [bset, reduceIte, Nat.reduceEqDiff]; omega)) (by first | omega | (simp only [bset, reduceIte, Nat.reduceEqDiff]; omega))) ?_
  refine zr_otH dL_acts_134 (rfl : 134 + 3 = 137) l_L_110 hx rfl rfl (Nat.le_of_ble_eq_true rfl) (by first | omega | (simp only [bset, reduceIte, Nat.reduceEqDiff]; omega)) (by first | omega | (simp only [bset, reduceIte, Nat.reduceEqDiff]; omega)) ?_
  intro g1
  exact zr_iretO dL_acts_137 rfl rfl ⟨rfl, τ, rfl⟩ rfl
theorem act_5 (hy : 0 ≤ y ∧ y < 2147483648) (h : jin B) (hs : jsn σ) (h6 : σ.sc = 6) (hk : y % 16 = 5) : jAct Γ d σ τ u B y := by
  have ok := h.ok
  have hlo := ok.lo
  by_cases q : y / 16 % 2 = 0
  · have hx := ou_seed (Γ := Γ) (d := d) (τ := τ) (u := u) (y / 16 / 2 % 10000) (by omega) h hs
    refine ⟨B 24 0, bset B 24 (fun _ => y / 16 / 2 % 10000), jsv σ B, ⟨⟨jin_lot h (by omega), jsn_sv hs ok, js2_6 h6⟩, by omega, fun q => absurd q (by omega), fun q1 q2 => absurd q1 (by omega), fun q => absurd q (by omega), fun q => absurd q (by omega), fun q => absurd q (by omega), fun q => absurd q (by omega)⟩, ?_⟩
    refine zOt.of_run (lv := [some (.ref 5), some (.int (jI y)), none]) (by decide) rfl (Nat.le_of_ble_eq_true rfl) rfl (fun n9 g9 => ?_)
    refine zr_iload_n dL_acts_0 (rfl : 0 + 1 = 1) rfl ?_
    refine zr_bipush dL_acts_1 (rfl : 1 + 2 = 3) (by decide) ?_
    refine zr_idiv dL_acts_3 (rfl : 3 + 1 = 4) (fun q => absurd ((jI_z (by first | omega | (simp only [bset, reduceIte, Nat.reduceEqDiff]; omega)) (by first | omega | (simp only [bset, reduceIte, Nat.reduceEqDiff]; omega))).mp q) (by first | omega | (simp only [bset, reduceIte, Nat.reduceEqDiff]; omega))) (jI_div (by first | omega | (simp only [bset, reduceIte, Nat.reduceEqDiff]; omega)) (by first | omega | (simp only [bset, reduceIte, Nat.reduceEqDiff]; omega)) (by first | omega | (simp only [bset, reduceIte, Nat.reduceEqDiff]; omega)) (by first | omega | (simp only [bset, reduceIte, Nat.reduceEqDiff]; omega))) ?_
    refine zr_istore_n (lv' := [_, _, _]) dL_acts_4 (rfl : 4 + 1 = 5) (Nat.le_of_ble_eq_true rfl) rfl ?_
    refine zr_iload_n dL_acts_5 (rfl : 5 + 1 = 6) rfl ?_
    refine zr_bipush dL_acts_6 (rfl : 6 + 2 = 8) (by decide) ?_
    refine zr_irem dL_acts_8 (rfl : 8 + 1 = 9) (fun q => absurd ((jI_z (by first | omega | (simp only [bset, reduceIte, Nat.reduceEqDiff]; omega)) (by first | omega | (simp only [bset, reduceIte, Nat.reduceEqDiff]; omega))).mp q) (by first | omega | (simp only [bset, reduceIte, Nat.reduceEqDiff]; omega))) (jI_rem (by first | omega | (simp only [bset, reduceIte, Nat.reduceEqDiff]; omega)) (by first | omega | (simp only [bset, reduceIte, Nat.reduceEqDiff]; omega)) (by first | omega | (simp only [bset, reduceIte, Nat.reduceEqDiff]; omega)) (by first | omega | (simp only [bset, reduceIte, Nat.reduceEqDiff]; omega))) ?_
    rw [hk]
    refine zr_tableIn (off := 129) (tgt := 138) dL_acts_9 ⟨by omega, by omega⟩ (by first | omega | (simp only [bset, reduceIte, Nat.reduceEqDiff]; omega)) (by first | omega | (simp only [bset, reduceIte, Nat.reduceEqDiff]; omega)) rfl (by decide) ?_
    refine zr_iload_n dL_acts_138 (rfl : 138 + 1 = 139) rfl ?_
    refine zr_iconst dL_acts_139 (rfl : 139 + 1 = 140) ?_
    refine zr_irem dL_acts_140 (rfl : 140 + 1 = 141) (fun q => absurd ((jI_z (by first | omega | (simp only [bset, reduceIte, Nat.reduceEqDiff]; omega)) (by first | omega | (simp only [bset, reduceIte, Nat.reduceEqDiff]; omega))).mp q) (by first | omega | (simp only [bset, reduceIte, Nat.reduceEqDiff]; omega))) (jI_rem (by first | omega | (simp only [bset, reduceIte, Nat.reduceEqDiff]; omega)) (by first | omega | (simp only [bset, reduceIte, Nat.reduceEqDiff]; omega)) (by first | omega | (simp only [bset, reduceIte, Nat.reduceEqDiff]; omega)) (by first | omega | (simp only [bset, reduceIte, Nat.reduceEqDiff]; omega))) ?_
    refine zr_if_ne (tgt := 158) dL_acts_141 (by decide) (rfl : 141 + 3 = 144) (by first | exact jb_iff | exact jI_z (by first | omega | (simp only [bset, reduceIte, Nat.reduceEqDiff]; omega)) (by first | omega | (simp only [bset, reduceIte, Nat.reduceEqDiff]; omega))) (fun h141 => ?_) (fun h141 => ?_)
    · exfalso; omega
    · refine zr_aload_n dL_acts_144 (rfl : 144 + 1 = 145) rfl ?_
      refine zr_iload_n dL_acts_145 (rfl : 145 + 1 = 146) rfl ?_
      refine zr_iconst dL_acts_146 (rfl : 146 + 1 = 147) ?_
      refine zr_idiv dL_acts_147 (rfl : 147 + 1 = 148) (fun q => absurd ((jI_z (by first | omega | (simp only [bset, reduceIte, Nat.reduceEqDiff]; omega)) (by first | omega | (simp only [bset, reduceIte, Nat.reduceEqDiff]; omega))).mp q) (by first | omega | (simp only [bset, reduceIte, Nat.reduceEqDiff]; omega))) (jI_div (by first | omega | (simp only [bset, reduceIte, Nat.reduceEqDiff]; omega)) (by first | omega | (simp only [bset, reduceIte, Nat.reduceEqDiff]; omega)) (by first | omega | (simp only [bset, reduceIte, Nat.reduceEqDiff]; omega)) (by first | omega | (simp only [bset, reduceIte, Nat.reduceEqDiff]; omega))) ?_
      refine zr_sipush dL_acts_148 (rfl : 148 + 3 = 151) (by decide) ?_
      refine zr_irem dL_acts_151 (rfl : 151 + 1 = 152) (fun q => absurd ((jI_z (by first | omega | (simp only [bset, reduceIte, Nat.reduceEqDiff]; omega)) (by first | omega | (simp only [bset, reduceIte, Nat.reduceEqDiff]; omega))).mp q) (by first | omega | (simp only [bset, reduceIte, Nat.reduceEqDiff]; omega))) (jI_rem (by first | omega | (simp only [bset, reduceIte, Nat.reduceEqDiff]; omega)) (by first | omega | (simp only [bset, reduceIte, Nat.reduceEqDiff]; omega)) (by first | omega | (simp only [bset, reduceIte, Nat.reduceEqDiff]; omega)) (by first | omega | (simp only [bset, reduceIte, Nat.reduceEqDiff]; omega))) ?_
      refine zr_otH dL_acts_152 (rfl : 152 + 3 = 155) l_L_112 hx rfl rfl (Nat.le_of_ble_eq_true rfl) (by first | omega | (simp only [bset, reduceIte, Nat.reduceEqDiff]; omega)) (by first | omega | (simp only [bset, reduceIte, Nat.reduceEqDiff]; omega)) ?_
      intro g1
      refine zr_goto (tgt := 212) dL_acts_155 (by decide) ?_
      exact zr_iretO dL_acts_212 rfl rfl ⟨rfl, τ, rfl⟩ rfl
  · have hse := ok.se (y / 16 / 2 % 3)
    have key : ∀ x : Int, jse0 (y / 16 / 2 % 3) ≤ x ∧ x ≤ jse9 (y / 16 / 2 % 3) → 0 ≤ x ∧ x < 100 → (∀ n9 g9, zRun Γ md_L_acts (d + 9) none 209 [some (.ref 5), some (.int (jI y)), some (.int (jI (y / 16)))] [.int (jI x), .int (jI (y / 16 / 2 % 3)), .ref 5] (n9, g9, 1, 6) (bk 6 B (cr σ τ u)) (zDoneO md_L_acts (fun r w2 => r = some (.int (jI (B 23 (y / 16 / 2 % 3)))) ∧ ∃ τ', w2 = bk 6 (bset B 23 (jup (B 23) (y / 16 / 2 % 3) x)) (cr (jsv σ B) τ' u)) n9)) := by
      intro x hx1 hx2 n9 g9
      have hx := ou_set (Γ := Γ) (d := d) (τ := τ) (u := u) (y / 16 / 2 % 3) x (by omega) hx1 h hs
      refine zr_otH dL_acts_209 (rfl : 209 + 3 = 212) l_L_114 hx rfl rfl (Nat.le_of_ble_eq_true rfl) (by first | omega | (simp only [bset, reduceIte, Nat.reduceEqDiff]; omega)) (by first | omega | (simp only [bset, reduceIte, Nat.reduceEqDiff]; omega)) ?_
      intro g1
      exact zr_iretO dL_acts_212 rfl rfl ⟨rfl, τ, rfl⟩ rfl
    have xs : ∃ x : Int, (jse0 (y / 16 / 2 % 3) ≤ x ∧ x ≤ jse9 (y / 16 / 2 % 3)) ∧ (0 ≤ x ∧ x < 100) ∧ ((y / 16 / 2 % 3 = 0 ∧ x = 1 + y / 16 / 8 % 50) ∨ (y / 16 / 2 % 3 = 1 ∧ x = y / 16 / 8 % 20) ∨ (y / 16 / 2 % 3 = 2 ∧ x = y / 16 / 8 % 2)) := by
      rcases (by omega : y / 16 / 2 % 3 = 0 ∨ y / 16 / 2 % 3 = 1 ∨ y / 16 / 2 % 3 = 2) with e | e | e
      · have e0 : jse0 0 = 1 := rfl
        have e9 : jse9 0 = 99 := rfl
        rw [e, e0, e9]
        exact ⟨1 + y / 16 / 8 % 50, by omega, by omega, Or.inl ⟨rfl, rfl⟩⟩
      · have e0 : jse0 1 = 0 := rfl
        have e9 : jse9 1 = 99 := rfl
        rw [e, e0, e9]
        exact ⟨y / 16 / 8 % 20, by omega, by omega, Or.inr (Or.inl ⟨rfl, rfl⟩)⟩
      · have e0 : jse0 2 = 0 := rfl
        have e9 : jse9 2 = 1 := rfl
        rw [e, e0, e9]
        exact ⟨y / 16 / 8 % 2, by omega, by omega, Or.inr (Or.inr ⟨rfl, rfl⟩)⟩
    obtain ⟨x, x1, x2, x3⟩ := xs
    refine ⟨B 23 (y / 16 / 2 % 3), bset B 23 (jup (B 23) (y / 16 / 2 % 3) x), jsv σ B, ⟨⟨jin_set (s := y / 16 / 2 % 3) h x2, jsn_sv hs ok, js2_6 h6⟩, (by omega : -2000003 ≤ B 23 (y / 16 / 2 % 3) ∧ B 23 (y / 16 / 2 % 3) ≤ 100000), fun q => absurd q (by omega), fun q1 q2 => absurd q1 (by omega), fun q => absurd q (by omega), fun q => absurd q (by omega), fun q => absurd q (by omega), fun q => absurd q (by omega)⟩, ?_⟩
    refine zOt.of_run (lv := [some (.ref 5), some (.int (jI y)), none]) (by decide) rfl (Nat.le_of_ble_eq_true rfl) rfl (fun n9 g9 => ?_)
    refine zr_iload_n dL_acts_0 (rfl : 0 + 1 = 1) rfl ?_
    refine zr_bipush dL_acts_1 (rfl : 1 + 2 = 3) (by decide) ?_
    refine zr_idiv dL_acts_3 (rfl : 3 + 1 = 4) (fun q => absurd ((jI_z (by first | omega | (simp only [bset, reduceIte, Nat.reduceEqDiff]; omega)) (by first | omega | (simp only [bset, reduceIte, Nat.reduceEqDiff]; omega))).mp q) (by first | omega | (simp only [bset, reduceIte, Nat.reduceEqDiff]; omega))) (jI_div (by first | omega | (simp only [bset, reduceIte, Nat.reduceEqDiff]; omega)) (by first | omega | (simp only [bset, reduceIte, Nat.reduceEqDiff]; omega)) (by first | omega | (simp only [bset, reduceIte, Nat.reduceEqDiff]; omega)) (by first | omega | (simp only [bset, reduceIte, Nat.reduceEqDiff]; omega))) ?_
    refine zr_istore_n (lv' := [_, _, _]) dL_acts_4 (rfl : 4 + 1 = 5) (Nat.le_of_ble_eq_true rfl) rfl ?_
    refine zr_iload_n dL_acts_5 (rfl : 5 + 1 = 6) rfl ?_
    refine zr_bipush dL_acts_6 (rfl : 6 + 2 = 8) (by decide) ?_
    refine zr_irem dL_acts_8 (rfl : 8 + 1 = 9) (fun q => absurd ((jI_z (by first | omega | (simp only [bset, reduceIte, Nat.reduceEqDiff]; omega)) (by first | omega | (simp only [bset, reduceIte, Nat.reduceEqDiff]; omega))).mp q) (by first | omega | (simp only [bset, reduceIte, Nat.reduceEqDiff]; omega))) (jI_rem (by first | omega | (simp only [bset, reduceIte, Nat.reduceEqDiff]; omega)) (by first | omega | (simp only [bset, reduceIte, Nat.reduceEqDiff]; omega)) (by first | omega | (simp only [bset, reduceIte, Nat.reduceEqDiff]; omega)) (by first | omega | (simp only [bset, reduceIte, Nat.reduceEqDiff]; omega))) ?_
    rw [hk]
    refine zr_tableIn (off := 129) (tgt := 138) dL_acts_9 ⟨by omega, by omega⟩ (by first | omega | (simp only [bset, reduceIte, Nat.reduceEqDiff]; omega)) (by first | omega | (simp only [bset, reduceIte, Nat.reduceEqDiff]; omega)) rfl (by decide) ?_
    refine zr_iload_n dL_acts_138 (rfl : 138 + 1 = 139) rfl ?_
    refine zr_iconst dL_acts_139 (rfl : 139 + 1 = 140) ?_
    refine zr_irem dL_acts_140 (rfl : 140 + 1 = 141) (fun q => absurd ((jI_z (by first | omega | (simp only [bset, reduceIte, Nat.reduceEqDiff]; omega)) (by first | omega | (simp only [bset, reduceIte, Nat.reduceEqDiff]; omega))).mp q) (by first | omega | (simp only [bset, reduceIte, Nat.reduceEqDiff]; omega))) (jI_rem (by first | omega | (simp only [bset, reduceIte, Nat.reduceEqDiff]; omega)) (by first | omega | (simp only [bset, reduceIte, Nat.reduceEqDiff]; omega)) (by first | omega | (simp only [bset, reduceIte, Nat.reduceEqDiff]; omega)) (by first | omega | (simp only [bset, reduceIte, Nat.reduceEqDiff]; omega))) ?_
    refine zr_if_ne (tgt := 158) dL_acts_141 (by decide) (rfl : 141 + 3 = 144) (by first | exact jb_iff | exact jI_z (by first | omega | (simp only [bset, reduceIte, Nat.reduceEqDiff]; omega)) (by first | omega | (simp only [bset, reduceIte, Nat.reduceEqDiff]; omega))) (fun h141 => ?_) (fun h141 => ?_)
    · refine zr_aload_n dL_acts_158 (rfl : 158 + 1 = 159) rfl ?_
      refine zr_iload_n dL_acts_159 (rfl : 159 + 1 = 160) rfl ?_
      refine zr_iconst dL_acts_160 (rfl : 160 + 1 = 161) ?_
      refine zr_idiv dL_acts_161 (rfl : 161 + 1 = 162) (fun q => absurd ((jI_z (by first | omega | (simp only [bset, reduceIte, Nat.reduceEqDiff]; omega)) (by first | omega | (simp only [bset, reduceIte, Nat.reduceEqDiff]; omega))).mp q) (by first | omega | (simp only [bset, reduceIte, Nat.reduceEqDiff]; omega))) (jI_div (by first | omega | (simp only [bset, reduceIte, Nat.reduceEqDiff]; omega)) (by first | omega | (simp only [bset, reduceIte, Nat.reduceEqDiff]; omega)) (by first | omega | (simp only [bset, reduceIte, Nat.reduceEqDiff]; omega)) (by first | omega | (simp only [bset, reduceIte, Nat.reduceEqDiff]; omega))) ?_
      refine zr_iconst dL_acts_162 (rfl : 162 + 1 = 163) ?_
      refine zr_irem dL_acts_163 (rfl : 163 + 1 = 164) (fun q => absurd ((jI_z (by first | omega | (simp only [bset, reduceIte, Nat.reduceEqDiff]; omega)) (by first | omega | (simp only [bset, reduceIte, Nat.reduceEqDiff]; omega))).mp q) (by first | omega | (simp only [bset, reduceIte, Nat.reduceEqDiff]; omega))) (jI_rem (by first | omega | (simp only [bset, reduceIte, Nat.reduceEqDiff]; omega)) (by first | omega | (simp only [bset, reduceIte, Nat.reduceEqDiff]; omega)) (by first | omega | (simp only [bset, reduceIte, Nat.reduceEqDiff]; omega)) (by first | omega | (simp only [bset, reduceIte, Nat.reduceEqDiff]; omega))) ?_
      refine zr_iload_n dL_acts_164 (rfl : 164 + 1 = 165) rfl ?_
      refine zr_iconst dL_acts_165 (rfl : 165 + 1 = 166) ?_
      refine zr_idiv dL_acts_166 (rfl : 166 + 1 = 167) (fun q => absurd ((jI_z (by first | omega | (simp only [bset, reduceIte, Nat.reduceEqDiff]; omega)) (by first | omega | (simp only [bset, reduceIte, Nat.reduceEqDiff]; omega))).mp q) (by first | omega | (simp only [bset, reduceIte, Nat.reduceEqDiff]; omega))) (jI_div (by first | omega | (simp only [bset, reduceIte, Nat.reduceEqDiff]; omega)) (by first | omega | (simp only [bset, reduceIte, Nat.reduceEqDiff]; omega)) (by first | omega | (simp only [bset, reduceIte, Nat.reduceEqDiff]; omega)) (by first | omega | (simp only [bset, reduceIte, Nat.reduceEqDiff]; omega))) ?_
      refine zr_iconst dL_acts_167 (rfl : 167 + 1 = 168) ?_
      refine zr_irem dL_acts_168 (rfl : 168 + 1 = 169) (fun q => absurd ((jI_z (by first | omega | (simp only [bset, reduceIte, Nat.reduceEqDiff]; omega)) (by first | omega | (simp only [bset, reduceIte, Nat.reduceEqDiff]; omega))).mp q) (by first | omega | (simp only [bset, reduceIte, Nat.reduceEqDiff]; omega))) (jI_rem (by first | omega | (simp only [bset, reduceIte, Nat.reduceEqDiff]; omega)) (by first | omega | (simp only [bset, reduceIte, Nat.reduceEqDiff]; omega)) (by first | omega | (simp only [bset, reduceIte, Nat.reduceEqDiff]; omega)) (by first | omega | (simp only [bset, reduceIte, Nat.reduceEqDiff]; omega))) ?_
      refine zr_if_ne (tgt := 184) dL_acts_169 (by decide) (rfl : 169 + 3 = 172) (by first | exact jb_iff | exact jI_z (by first | omega | (simp only [bset, reduceIte, Nat.reduceEqDiff]; omega)) (by first | omega | (simp only [bset, reduceIte, Nat.reduceEqDiff]; omega))) (fun h169 => ?_) (fun h169 => ?_)
      · refine zr_iload_n dL_acts_184 (rfl : 184 + 1 = 185) rfl ?_
        refine zr_iconst dL_acts_185 (rfl : 185 + 1 = 186) ?_
        refine zr_idiv dL_acts_186 (rfl : 186 + 1 = 187) (fun q => absurd ((jI_z (by first | omega | (simp only [bset, reduceIte, Nat.reduceEqDiff]; omega)) (by first | omega | (simp only [bset, reduceIte, Nat.reduceEqDiff]; omega))).mp q) (by first | omega | (simp only [bset, reduceIte, Nat.reduceEqDiff]; omega))) (jI_div (by first | omega | (simp only [bset, reduceIte, Nat.reduceEqDiff]; omega)) (by first | omega | (simp only [bset, reduceIte, Nat.reduceEqDiff]; omega)) (by first | omega | (simp only [bset, reduceIte, Nat.reduceEqDiff]; omega)) (by first | omega | (simp only [bset, reduceIte, Nat.reduceEqDiff]; omega))) ?_
        refine zr_iconst dL_acts_187 (rfl : 187 + 1 = 188) ?_
        refine zr_irem dL_acts_188 (rfl : 188 + 1 = 189) (fun q => absurd ((jI_z (by first | omega | (simp only [bset, reduceIte, Nat.reduceEqDiff]; omega)) (by first | omega | (simp only [bset, reduceIte, Nat.reduceEqDiff]; omega))).mp q) (by first | omega | (simp only [bset, reduceIte, Nat.reduceEqDiff]; omega))) (jI_rem (by first | omega | (simp only [bset, reduceIte, Nat.reduceEqDiff]; omega)) (by first | omega | (simp only [bset, reduceIte, Nat.reduceEqDiff]; omega)) (by first | omega | (simp only [bset, reduceIte, Nat.reduceEqDiff]; omega)) (by first | omega | (simp only [bset, reduceIte, Nat.reduceEqDiff]; omega))) ?_
        refine zr_iconst dL_acts_189 (rfl : 189 + 1 = 190) ?_
        refine zr_icmp_ne (tgt := 203) dL_acts_190 (by decide) (rfl : 190 + 3 = 193) (jI_eq (by first | omega | (simp only [bset, reduceIte, Nat.reduceEqDiff]; omega)) (by first | omega | (simp only [bset, reduceIte, Nat.reduceEqDiff]; omega)) (by first | omega | (simp only [bset, reduceIte, Nat.reduceEqDiff]; omega)) (by first | omega | (simp only [bset, reduceIte, Nat.reduceEqDiff]; omega))) (fun h190 => ?_) (fun h190 => ?_)
        · refine zr_iload_n dL_acts_203 (rfl : 203 + 1 = 204) rfl ?_
          refine zr_bipush dL_acts_204 (rfl : 204 + 2 = 206) (by decide) ?_
          refine zr_idiv dL_acts_206 (rfl : 206 + 1 = 207) (fun q => absurd ((jI_z (by first | omega | (simp only [bset, reduceIte, Nat.reduceEqDiff]; omega)) (by first | omega | (simp only [bset, reduceIte, Nat.reduceEqDiff]; omega))).mp q) (by first | omega | (simp only [bset, reduceIte, Nat.reduceEqDiff]; omega))) (jI_div (by first | omega | (simp only [bset, reduceIte, Nat.reduceEqDiff]; omega)) (by first | omega | (simp only [bset, reduceIte, Nat.reduceEqDiff]; omega)) (by first | omega | (simp only [bset, reduceIte, Nat.reduceEqDiff]; omega)) (by first | omega | (simp only [bset, reduceIte, Nat.reduceEqDiff]; omega))) ?_
          refine zr_iconst dL_acts_207 (rfl : 207 + 1 = 208) ?_
          refine zr_irem dL_acts_208 (rfl : 208 + 1 = 209) (fun q => absurd ((jI_z (by first | omega | (simp only [bset, reduceIte, Nat.reduceEqDiff]; omega)) (by first | omega | (simp only [bset, reduceIte, Nat.reduceEqDiff]; omega))).mp q) (by first | omega | (simp only [bset, reduceIte, Nat.reduceEqDiff]; omega))) (jI_rem (by first | omega | (simp only [bset, reduceIte, Nat.reduceEqDiff]; omega)) (by first | omega | (simp only [bset, reduceIte, Nat.reduceEqDiff]; omega)) (by first | omega | (simp only [bset, reduceIte, Nat.reduceEqDiff]; omega)) (by first | omega | (simp only [bset, reduceIte, Nat.reduceEqDiff]; omega))) ?_
          rw [show y / 16 / 8 % 2 = x by omega]
          exact key x x1 x2 n9 g9
        · refine zr_iload_n dL_acts_193 (rfl : 193 + 1 = 194) rfl ?_
          refine zr_bipush dL_acts_194 (rfl : 194 + 2 = 196) (by decide) ?_
          refine zr_idiv dL_acts_196 (rfl : 196 + 1 = 197) (fun q => absurd ((jI_z (by first | omega | (simp only [bset, reduceIte, Nat.reduceEqDiff]; omega)) (by first | omega | (simp only [bset, reduceIte, Nat.reduceEqDiff]; omega))).mp q) (by first | omega | (simp only [bset, reduceIte, Nat.reduceEqDiff]; omega))) (jI_div (by first | omega | (simp only [bset, reduceIte, Nat.reduceEqDiff]; omega)) (by first | omega | (simp only [bset, reduceIte, Nat.reduceEqDiff]; omega)) (by first | omega | (simp only [bset, reduceIte, Nat.reduceEqDiff]; omega)) (by first | omega | (simp only [bset, reduceIte, Nat.reduceEqDiff]; omega))) ?_
          refine zr_bipush dL_acts_197 (rfl : 197 + 2 = 199) (by decide) ?_
          refine zr_irem dL_acts_199 (rfl : 199 + 1 = 200) (fun q => absurd ((jI_z (by first | omega | (simp only [bset, reduceIte, Nat.reduceEqDiff]; omega)) (by first | omega | (simp only [bset, reduceIte, Nat.reduceEqDiff]; omega))).mp q) (by first | omega | (simp only [bset, reduceIte, Nat.reduceEqDiff]; omega))) (jI_rem (by first | omega | (simp only [bset, reduceIte, Nat.reduceEqDiff]; omega)) (by first | omega | (simp only [bset, reduceIte, Nat.reduceEqDiff]; omega)) (by first | omega | (simp only [bset, reduceIte, Nat.reduceEqDiff]; omega)) (by first | omega | (simp only [bset, reduceIte, Nat.reduceEqDiff]; omega))) ?_
          refine zr_goto (tgt := 209) dL_acts_200 (by decide) ?_
          rw [show y / 16 / 8 % 20 = x by omega]
          exact key x x1 x2 n9 g9
      · refine zr_iconst dL_acts_172 (rfl : 172 + 1 = 173) ?_
        refine zr_iload_n dL_acts_173 (rfl : 173 + 1 = 174) rfl ?_
        refine zr_bipush dL_acts_174 (rfl : 174 + 2 = 176) (by decide) ?_
        refine zr_idiv dL_acts_176 (rfl : 176 + 1 = 177) (fun q => absurd ((jI_z (by first | omega | (simp only [bset, reduceIte, Nat.reduceEqDiff]; omega)) (by first | omega | (simp only [bset, reduceIte, Nat.reduceEqDiff]; omega))).mp q) (by first | omega | (simp only [bset, reduceIte, Nat.reduceEqDiff]; omega))) (jI_div (by first | omega | (simp only [bset, reduceIte, Nat.reduceEqDiff]; omega)) (by first | omega | (simp only [bset, reduceIte, Nat.reduceEqDiff]; omega)) (by first | omega | (simp only [bset, reduceIte, Nat.reduceEqDiff]; omega)) (by first | omega | (simp only [bset, reduceIte, Nat.reduceEqDiff]; omega))) ?_
        refine zr_bipush dL_acts_177 (rfl : 177 + 2 = 179) (by decide) ?_
        refine zr_irem dL_acts_179 (rfl : 179 + 1 = 180) (fun q => absurd ((jI_z (by first | omega | (simp only [bset, reduceIte, Nat.reduceEqDiff]; omega)) (by first | omega | (simp only [bset, reduceIte, Nat.reduceEqDiff]; omega))).mp q) (by first | omega | (simp only [bset, reduceIte, Nat.reduceEqDiff]; omega))) (jI_rem (by first | omega | (simp only [bset, reduceIte, Nat.reduceEqDiff]; omega)) (by first | omega | (simp only [bset, reduceIte, Nat.reduceEqDiff]; omega)) (by first | omega | (simp only [bset, reduceIte, Nat.reduceEqDiff]; omega)) (by first | omega | (simp only [bset, reduceIte, Nat.reduceEqDiff]; omega))) ?_
        refine zr_iadd dL_acts_180 (rfl : 180 + 1 = 181) (by first | exact jI_add _ _ | rfl) ?_
        refine zr_goto (tgt := 209) dL_acts_181 (by decide) ?_
        rw [show 1 + y / 16 / 8 % 50 = x by omega]
        exact key x x1 x2 n9 g9
    · exfalso; omega
theorem act_6 (hy : 0 ≤ y ∧ y < 2147483648) (h : jin B) (hs : jsn σ) (h6 : σ.sc = 6) (hk : y % 16 = 6) : jAct Γ d σ τ u B y := by
  have ok := h.ok
  by_cases q : y / 16 % 8 = 0
  · have hl := jleft_r ok
    have hp := ok.po2
    have e19 : jpo 4 B 19 = B 19 := jpo_ne (by decide) (by decide) B 4
    refine ⟨jleft B, jend B, jsv σ B, ⟨⟨jin_end h, jsn_sv hs ok, js2_6 h6⟩, by omega, fun q => absurd q (by omega), fun q1 q2 => absurd q1 (by omega), fun _ _ => ⟨hl.1, hl.2, rfl, rfl, ?_, rfl⟩, fun _ q2 => absurd q q2, fun q => absurd q (by omega), fun q => absurd q (by omega)⟩, ?_⟩
    · show jpo 4 B 19 0 + jleft B = B 19 0 + jleft B
      rw [e19]
    refine zOt.of_run (lv := [some (.ref 5), some (.int (jI y)), none]) (by decide) rfl (Nat.le_of_ble_eq_true rfl) rfl (fun n9 g9 => ?_)
    refine zr_iload_n dL_acts_0 (rfl : 0 + 1 = 1) rfl ?_
    refine zr_bipush dL_acts_1 (rfl : 1 + 2 = 3) (by decide) ?_
    refine zr_idiv dL_acts_3 (rfl : 3 + 1 = 4) (fun q => absurd ((jI_z (by first | omega | (simp only [bset, reduceIte, Nat.reduceEqDiff]; omega)) (by first | omega | (simp only [bset, reduceIte, Nat.reduceEqDiff]; omega))).mp q) (by first | omega | (simp only [bset, reduceIte, Nat.reduceEqDiff]; omega))) (jI_div (by first | omega | (simp only [bset, reduceIte, Nat.reduceEqDiff]; omega)) (by first | omega | (simp only [bset, reduceIte, Nat.reduceEqDiff]; omega)) (by first | omega | (simp only [bset, reduceIte, Nat.reduceEqDiff]; omega)) (by first | omega | (simp only [bset, reduceIte, Nat.reduceEqDiff]; omega))) ?_
    refine zr_istore_n (lv' := [_, _, _]) dL_acts_4 (rfl : 4 + 1 = 5) (Nat.le_of_ble_eq_true rfl) rfl ?_
    refine zr_iload_n dL_acts_5 (rfl : 5 + 1 = 6) rfl ?_
    refine zr_bipush dL_acts_6 (rfl : 6 + 2 = 8) (by decide) ?_
    refine zr_irem dL_acts_8 (rfl : 8 + 1 = 9) (fun q => absurd ((jI_z (by first | omega | (simp only [bset, reduceIte, Nat.reduceEqDiff]; omega)) (by first | omega | (simp only [bset, reduceIte, Nat.reduceEqDiff]; omega))).mp q) (by first | omega | (simp only [bset, reduceIte, Nat.reduceEqDiff]; omega))) (jI_rem (by first | omega | (simp only [bset, reduceIte, Nat.reduceEqDiff]; omega)) (by first | omega | (simp only [bset, reduceIte, Nat.reduceEqDiff]; omega)) (by first | omega | (simp only [bset, reduceIte, Nat.reduceEqDiff]; omega)) (by first | omega | (simp only [bset, reduceIte, Nat.reduceEqDiff]; omega))) ?_
    rw [hk]
    refine zr_tableIn (off := 204) (tgt := 213) dL_acts_9 ⟨by omega, by omega⟩ (by first | omega | (simp only [bset, reduceIte, Nat.reduceEqDiff]; omega)) (by first | omega | (simp only [bset, reduceIte, Nat.reduceEqDiff]; omega)) rfl (by decide) ?_
    refine zr_iload_n dL_acts_213 (rfl : 213 + 1 = 214) rfl ?_
    refine zr_bipush dL_acts_214 (rfl : 214 + 2 = 216) (by decide) ?_
    refine zr_irem dL_acts_216 (rfl : 216 + 1 = 217) (fun q => absurd ((jI_z (by first | omega | (simp only [bset, reduceIte, Nat.reduceEqDiff]; omega)) (by first | omega | (simp only [bset, reduceIte, Nat.reduceEqDiff]; omega))).mp q) (by first | omega | (simp only [bset, reduceIte, Nat.reduceEqDiff]; omega))) (jI_rem (by first | omega | (simp only [bset, reduceIte, Nat.reduceEqDiff]; omega)) (by first | omega | (simp only [bset, reduceIte, Nat.reduceEqDiff]; omega)) (by first | omega | (simp only [bset, reduceIte, Nat.reduceEqDiff]; omega)) (by first | omega | (simp only [bset, reduceIte, Nat.reduceEqDiff]; omega))) ?_
    refine zr_if_ne (tgt := 227) dL_acts_217 (by decide) (rfl : 217 + 3 = 220) (by first | exact jb_iff | exact jI_z (by first | omega | (simp only [bset, reduceIte, Nat.reduceEqDiff]; omega)) (by first | omega | (simp only [bset, reduceIte, Nat.reduceEqDiff]; omega))) (fun h217 => ?_) (fun h217 => ?_)
    · exfalso; omega
    · refine zr_aload_n dL_acts_220 (rfl : 220 + 1 = 221) rfl ?_
      refine zr_fnV dL_acts_221 (rfl : 221 + 3 = 224) l_L_116 (s_end (d := d + 3) hs.1 ok) lc_5 rfl rfl rfl (Nat.le_of_ble_eq_true rfl) ?_
      refine zr_goto (tgt := 237) dL_acts_224 (by decide) ?_
      exact zr_iretO dL_acts_237 rfl rfl ⟨rfl, τ, rfl⟩ rfl
  · obtain ⟨v, B', σ', hb, hv, hf, hx⟩ := ou_draw (Γ := Γ) (d := d) (τ := τ) (u := u) (1 + y / 16 % 6) (by omega) h hs h6
    refine ⟨v, B', σ', ⟨hb, hv, fun q => absurd q (by omega), fun q1 q2 => absurd q1 (by omega), fun _ q2 => absurd q2 q, fun _ _ => hf, fun q => absurd q (by omega), fun q => absurd q (by omega)⟩, ?_⟩
    refine zOt.of_run (lv := [some (.ref 5), some (.int (jI y)), none]) (by decide) rfl (Nat.le_of_ble_eq_true rfl) rfl (fun n9 g9 => ?_)
    refine zr_iload_n dL_acts_0 (rfl : 0 + 1 = 1) rfl ?_
    refine zr_bipush dL_acts_1 (rfl : 1 + 2 = 3) (by decide) ?_
    refine zr_idiv dL_acts_3 (rfl : 3 + 1 = 4) (fun q => absurd ((jI_z (by first | omega | (simp only [bset, reduceIte, Nat.reduceEqDiff]; omega)) (by first | omega | (simp only [bset, reduceIte, Nat.reduceEqDiff]; omega))).mp q) (by first | omega | (simp only [bset, reduceIte, Nat.reduceEqDiff]; omega))) (jI_div (by first | omega | (simp only [bset, reduceIte, Nat.reduceEqDiff]; omega)) (by first | omega | (simp only [bset, reduceIte, Nat.reduceEqDiff]; omega)) (by first | omega | (simp only [bset, reduceIte, Nat.reduceEqDiff]; omega)) (by first | omega | (simp only [bset, reduceIte, Nat.reduceEqDiff]; omega))) ?_
    refine zr_istore_n (lv' := [_, _, _]) dL_acts_4 (rfl : 4 + 1 = 5) (Nat.le_of_ble_eq_true rfl) rfl ?_
    refine zr_iload_n dL_acts_5 (rfl : 5 + 1 = 6) rfl ?_
    refine zr_bipush dL_acts_6 (rfl : 6 + 2 = 8) (by decide) ?_
    refine zr_irem dL_acts_8 (rfl : 8 + 1 = 9) (fun q => absurd ((jI_z (by first | omega | (simp only [bset, reduceIte, Nat.reduceEqDiff]; omega)) (by first | omega | (simp only [bset, reduceIte, Nat.reduceEqDiff]; omega))).mp q) (by first | omega | (simp only [bset, reduceIte, Nat.reduceEqDiff]; omega))) (jI_rem (by first | omega | (simp only [bset, reduceIte, Nat.reduceEqDiff]; omega)) (by first | omega | (simp only [bset, reduceIte, Nat.reduceEqDiff]; omega)) (by first | omega | (simp only [bset, reduceIte, Nat.reduceEqDiff]; omega)) (by first | omega | (simp only [bset, reduceIte, Nat.reduceEqDiff]; omega))) ?_
    rw [hk]
    refine zr_tableIn (off := 204) (tgt := 213) dL_acts_9 ⟨by omega, by omega⟩ (by first | omega | (simp only [bset, reduceIte, Nat.reduceEqDiff]; omega)) (by first | omega | (simp only [bset, reduceIte, Nat.reduceEqDiff]; omega)) rfl (by decide) ?_
    refine zr_iload_n dL_acts_213 (rfl : 213 + 1 = 214) rfl ?_
    refine zr_bipush dL_acts_214 (rfl : 214 + 2 = 216) (by decide) ?_
    refine zr_irem dL_acts_216 (rfl : 216 + 1 = 217) (fun q => absurd ((jI_z (by first | omega | (simp only [bset, reduceIte, Nat.reduceEqDiff]; omega)) (by first | omega | (simp only [bset, reduceIte, Nat.reduceEqDiff]; omega))).mp q) (by first | omega | (simp only [bset, reduceIte, Nat.reduceEqDiff]; omega))) (jI_rem (by first | omega | (simp only [bset, reduceIte, Nat.reduceEqDiff]; omega)) (by first | omega | (simp only [bset, reduceIte, Nat.reduceEqDiff]; omega)) (by first | omega | (simp only [bset, reduceIte, Nat.reduceEqDiff]; omega)) (by first | omega | (simp only [bset, reduceIte, Nat.reduceEqDiff]; omega))) ?_
    refine zr_if_ne (tgt := 227) dL_acts_217 (by decide) (rfl : 217 + 3 = 220) (by first | exact jb_iff | exact jI_z (by first | omega | (simp only [bset, reduceIte, Nat.reduceEqDiff]; omega)) (by first | omega | (simp only [bset, reduceIte, Nat.reduceEqDiff]; omega))) (fun h217 => ?_) (fun h217 => ?_)
    · refine zr_aload_n dL_acts_227 (rfl : 227 + 1 = 228) rfl ?_
      refine zr_iconst dL_acts_228 (rfl : 228 + 1 = 229) ?_
      refine zr_iload_n dL_acts_229 (rfl : 229 + 1 = 230) rfl ?_
      refine zr_bipush dL_acts_230 (rfl : 230 + 2 = 232) (by decide) ?_
      refine zr_irem dL_acts_232 (rfl : 232 + 1 = 233) (fun q => absurd ((jI_z (by first | omega | (simp only [bset, reduceIte, Nat.reduceEqDiff]; omega)) (by first | omega | (simp only [bset, reduceIte, Nat.reduceEqDiff]; omega))).mp q) (by first | omega | (simp only [bset, reduceIte, Nat.reduceEqDiff]; omega))) (jI_rem (by first | omega | (simp only [bset, reduceIte, Nat.reduceEqDiff]; omega)) (by first | omega | (simp only [bset, reduceIte, Nat.reduceEqDiff]; omega)) (by first | omega | (simp only [bset, reduceIte, Nat.reduceEqDiff]; omega)) (by first | omega | (simp only [bset, reduceIte, Nat.reduceEqDiff]; omega))) ?_
      refine zr_iadd dL_acts_233 (rfl : 233 + 1 = 234) (by first | exact jI_add _ _ | rfl) ?_
      refine zr_otH dL_acts_234 (rfl : 234 + 3 = 237) l_L_119 hx rfl rfl (Nat.le_of_ble_eq_true rfl) (by first | omega | (simp only [bset, reduceIte, Nat.reduceEqDiff]; omega)) (by first | omega | (simp only [bset, reduceIte, Nat.reduceEqDiff]; omega)) ?_
      intro g1
      exact zr_iretO dL_acts_237 rfl rfl ⟨rfl, τ, rfl⟩ rfl
    · exfalso; omega
theorem act_7 (hy : 0 ≤ y ∧ y < 2147483648) (h : jin B) (hs : jsn σ) (h6 : σ.sc = 6) (hk : y % 16 = 7) : jAct Γ d σ τ u B y := by
  obtain ⟨v, B', σ', hb, hv, hf, hx⟩ := ou_claim (Γ := Γ) (d := d) (τ := τ) (u := u) (y / 16 % 4) (y / 16 / 4 % 4) (by omega) (by omega) h hs h6
  refine ⟨v, B', σ', ⟨hb, hv, fun q => absurd q (by omega), fun _ _ => hf, fun q => absurd q (by omega), fun q => absurd q (by omega), fun q => absurd q (by omega), fun q => absurd q (by omega)⟩, ?_⟩
  refine zOt.of_run (lv := [some (.ref 5), some (.int (jI y)), none]) (by decide) rfl (Nat.le_of_ble_eq_true rfl) rfl (fun n9 g9 => ?_)
  refine zr_iload_n dL_acts_0 (rfl : 0 + 1 = 1) rfl ?_
  refine zr_bipush dL_acts_1 (rfl : 1 + 2 = 3) (by decide) ?_
  refine zr_idiv dL_acts_3 (rfl : 3 + 1 = 4) (fun q => absurd ((jI_z (by first | omega | (simp only [bset, reduceIte, Nat.reduceEqDiff]; omega)) (by first | omega | (simp only [bset, reduceIte, Nat.reduceEqDiff]; omega))).mp q) (by first | omega | (simp only [bset, reduceIte, Nat.reduceEqDiff]; omega))) (jI_div (by first | omega | (simp only [bset, reduceIte, Nat.reduceEqDiff]; omega)) (by first | omega | (simp only [bset, reduceIte, Nat.reduceEqDiff]; omega)) (by first | omega | (simp only [bset, reduceIte, Nat.reduceEqDiff]; omega)) (by first | omega | (simp only [bset, reduceIte, Nat.reduceEqDiff]; omega))) ?_
  refine zr_istore_n (lv' := [_, _, _]) dL_acts_4 (rfl : 4 + 1 = 5) (Nat.le_of_ble_eq_true rfl) rfl ?_
  refine zr_iload_n dL_acts_5 (rfl : 5 + 1 = 6) rfl ?_
  refine zr_bipush dL_acts_6 (rfl : 6 + 2 = 8) (by decide) ?_
  refine zr_irem dL_acts_8 (rfl : 8 + 1 = 9) (fun q => absurd ((jI_z (by first | omega | (simp only [bset, reduceIte, Nat.reduceEqDiff]; omega)) (by first | omega | (simp only [bset, reduceIte, Nat.reduceEqDiff]; omega))).mp q) (by first | omega | (simp only [bset, reduceIte, Nat.reduceEqDiff]; omega))) (jI_rem (by first | omega | (simp only [bset, reduceIte, Nat.reduceEqDiff]; omega)) (by first | omega | (simp only [bset, reduceIte, Nat.reduceEqDiff]; omega)) (by first | omega | (simp only [bset, reduceIte, Nat.reduceEqDiff]; omega)) (by first | omega | (simp only [bset, reduceIte, Nat.reduceEqDiff]; omega))) ?_
  rw [hk]
  refine zr_tableIn (off := 229) (tgt := 238) dL_acts_9 ⟨by omega, by omega⟩ (by first | omega | (simp only [bset, reduceIte, Nat.reduceEqDiff]; omega)) (by first | omega | (simp only [bset, reduceIte, Nat.reduceEqDiff]; omega)) rfl (by decide) ?_
  refine zr_aload_n dL_acts_238 (rfl : 238 + 1 = 239) rfl ?_
  refine zr_iload_n dL_acts_239 (rfl : 239 + 1 = 240) rfl ?_
  refine zr_iconst dL_acts_240 (rfl : 240 + 1 = 241) ?_
  refine zr_irem dL_acts_241 (rfl : 241 + 1 = 242) (fun q => absurd ((jI_z (by first | omega | (simp only [bset, reduceIte, Nat.reduceEqDiff]; omega)) (by first | omega | (simp only [bset, reduceIte, Nat.reduceEqDiff]; omega))).mp q) (by first | omega | (simp only [bset, reduceIte, Nat.reduceEqDiff]; omega))) (jI_rem (by first | omega | (simp only [bset, reduceIte, Nat.reduceEqDiff]; omega)) (by first | omega | (simp only [bset, reduceIte, Nat.reduceEqDiff]; omega)) (by first | omega | (simp only [bset, reduceIte, Nat.reduceEqDiff]; omega)) (by first | omega | (simp only [bset, reduceIte, Nat.reduceEqDiff]; omega))) ?_
  refine zr_iload_n dL_acts_242 (rfl : 242 + 1 = 243) rfl ?_
  refine zr_iconst dL_acts_243 (rfl : 243 + 1 = 244) ?_
  refine zr_idiv dL_acts_244 (rfl : 244 + 1 = 245) (fun q => absurd ((jI_z (by first | omega | (simp only [bset, reduceIte, Nat.reduceEqDiff]; omega)) (by first | omega | (simp only [bset, reduceIte, Nat.reduceEqDiff]; omega))).mp q) (by first | omega | (simp only [bset, reduceIte, Nat.reduceEqDiff]; omega))) (jI_div (by first | omega | (simp only [bset, reduceIte, Nat.reduceEqDiff]; omega)) (by first | omega | (simp only [bset, reduceIte, Nat.reduceEqDiff]; omega)) (by first | omega | (simp only [bset, reduceIte, Nat.reduceEqDiff]; omega)) (by first | omega | (simp only [bset, reduceIte, Nat.reduceEqDiff]; omega))) ?_
  refine zr_iconst dL_acts_245 (rfl : 245 + 1 = 246) ?_
  refine zr_irem dL_acts_246 (rfl : 246 + 1 = 247) (fun q => absurd ((jI_z (by first | omega | (simp only [bset, reduceIte, Nat.reduceEqDiff]; omega)) (by first | omega | (simp only [bset, reduceIte, Nat.reduceEqDiff]; omega))).mp q) (by first | omega | (simp only [bset, reduceIte, Nat.reduceEqDiff]; omega))) (jI_rem (by first | omega | (simp only [bset, reduceIte, Nat.reduceEqDiff]; omega)) (by first | omega | (simp only [bset, reduceIte, Nat.reduceEqDiff]; omega)) (by first | omega | (simp only [bset, reduceIte, Nat.reduceEqDiff]; omega)) (by first | omega | (simp only [bset, reduceIte, Nat.reduceEqDiff]; omega))) ?_
  refine zr_otH dL_acts_247 (rfl : 247 + 3 = 250) l_L_121 hx rfl rfl (Nat.le_of_ble_eq_true rfl) (by first | omega | (simp only [bset, reduceIte, Nat.reduceEqDiff]; omega)) (by first | omega | (simp only [bset, reduceIte, Nat.reduceEqDiff]; omega)) ?_
  intro g1
  exact zr_iretO dL_acts_250 rfl rfl ⟨rfl, τ, rfl⟩ rfl
theorem act_8 (hy : 0 ≤ y ∧ y < 2147483648) (h : jin B) (hs : jsn σ) (h6 : σ.sc = 6) (hk : y % 16 = 8) : jAct Γ d σ τ u B y := by
  obtain ⟨v, B', σ', hb, hv, hf, hx⟩ := ou_claim (Γ := Γ) (d := d) (τ := τ) (u := u) (y / 16 % 4) (y / 16 / 4 % 4) (by omega) (by omega) h hs h6
  refine ⟨v, B', σ', ⟨hb, hv, fun q => absurd q (by omega), fun _ _ => hf, fun q => absurd q (by omega), fun q => absurd q (by omega), fun q => absurd q (by omega), fun q => absurd q (by omega)⟩, ?_⟩
  refine zOt.of_run (lv := [some (.ref 5), some (.int (jI y)), none]) (by decide) rfl (Nat.le_of_ble_eq_true rfl) rfl (fun n9 g9 => ?_)
  refine zr_iload_n dL_acts_0 (rfl : 0 + 1 = 1) rfl ?_
  refine zr_bipush dL_acts_1 (rfl : 1 + 2 = 3) (by decide) ?_
  refine zr_idiv dL_acts_3 (rfl : 3 + 1 = 4) (fun q => absurd ((jI_z (by first | omega | (simp only [bset, reduceIte, Nat.reduceEqDiff]; omega)) (by first | omega | (simp only [bset, reduceIte, Nat.reduceEqDiff]; omega))).mp q) (by first | omega | (simp only [bset, reduceIte, Nat.reduceEqDiff]; omega))) (jI_div (by first | omega | (simp only [bset, reduceIte, Nat.reduceEqDiff]; omega)) (by first | omega | (simp only [bset, reduceIte, Nat.reduceEqDiff]; omega)) (by first | omega | (simp only [bset, reduceIte, Nat.reduceEqDiff]; omega)) (by first | omega | (simp only [bset, reduceIte, Nat.reduceEqDiff]; omega))) ?_
  refine zr_istore_n (lv' := [_, _, _]) dL_acts_4 (rfl : 4 + 1 = 5) (Nat.le_of_ble_eq_true rfl) rfl ?_
  refine zr_iload_n dL_acts_5 (rfl : 5 + 1 = 6) rfl ?_
  refine zr_bipush dL_acts_6 (rfl : 6 + 2 = 8) (by decide) ?_
  refine zr_irem dL_acts_8 (rfl : 8 + 1 = 9) (fun q => absurd ((jI_z (by first | omega | (simp only [bset, reduceIte, Nat.reduceEqDiff]; omega)) (by first | omega | (simp only [bset, reduceIte, Nat.reduceEqDiff]; omega))).mp q) (by first | omega | (simp only [bset, reduceIte, Nat.reduceEqDiff]; omega))) (jI_rem (by first | omega | (simp only [bset, reduceIte, Nat.reduceEqDiff]; omega)) (by first | omega | (simp only [bset, reduceIte, Nat.reduceEqDiff]; omega)) (by first | omega | (simp only [bset, reduceIte, Nat.reduceEqDiff]; omega)) (by first | omega | (simp only [bset, reduceIte, Nat.reduceEqDiff]; omega))) ?_
  rw [hk]
  refine zr_tableIn (off := 229) (tgt := 238) dL_acts_9 ⟨by omega, by omega⟩ (by first | omega | (simp only [bset, reduceIte, Nat.reduceEqDiff]; omega)) (by first | omega | (simp only [bset, reduceIte, Nat.reduceEqDiff]; omega)) rfl (by decide) ?_
  refine zr_aload_n dL_acts_238 (rfl : 238 + 1 = 239) rfl ?_
  refine zr_iload_n dL_acts_239 (rfl : 239 + 1 = 240) rfl ?_
  refine zr_iconst dL_acts_240 (rfl : 240 + 1 = 241) ?_
  refine zr_irem dL_acts_241 (rfl : 241 + 1 = 242) (fun q => absurd ((jI_z (by first | omega | (simp only [bset, reduceIte, Nat.reduceEqDiff]; omega)) (by first | omega | (simp only [bset, reduceIte, Nat.reduceEqDiff]; omega))).mp q) (by first | omega | (simp only [bset, reduceIte, Nat.reduceEqDiff]; omega))) (jI_rem (by first | omega | (simp only [bset, reduceIte, Nat.reduceEqDiff]; omega)) (by first | omega | (simp only [bset, reduceIte, Nat.reduceEqDiff]; omega)) (by first | omega | (simp only [bset, reduceIte, Nat.reduceEqDiff]; omega)) (by first | omega | (simp only [bset, reduceIte, Nat.reduceEqDiff]; omega))) ?_
  refine zr_iload_n dL_acts_242 (rfl : 242 + 1 = 243) rfl ?_
  refine zr_iconst dL_acts_243 (rfl : 243 + 1 = 244) ?_
  refine zr_idiv dL_acts_244 (rfl : 244 + 1 = 245) (fun q => absurd ((jI_z (by first | omega | (simp only [bset, reduceIte, Nat.reduceEqDiff]; omega)) (by first | omega | (simp only [bset, reduceIte, Nat.reduceEqDiff]; omega))).mp q) (by first | omega | (simp only [bset, reduceIte, Nat.reduceEqDiff]; omega))) (jI_div (by first | omega | (simp only [bset, reduceIte, Nat.reduceEqDiff]; omega)) (by first | omega | (simp only [bset, reduceIte, Nat.reduceEqDiff]; omega)) (by first | omega | (simp only [bset, reduceIte, Nat.reduceEqDiff]; omega)) (by first | omega | (simp only [bset, reduceIte, Nat.reduceEqDiff]; omega))) ?_
  refine zr_iconst dL_acts_245 (rfl : 245 + 1 = 246) ?_
  refine zr_irem dL_acts_246 (rfl : 246 + 1 = 247) (fun q => absurd ((jI_z (by first | omega | (simp only [bset, reduceIte, Nat.reduceEqDiff]; omega)) (by first | omega | (simp only [bset, reduceIte, Nat.reduceEqDiff]; omega))).mp q) (by first | omega | (simp only [bset, reduceIte, Nat.reduceEqDiff]; omega))) (jI_rem (by first | omega | (simp only [bset, reduceIte, Nat.reduceEqDiff]; omega)) (by first | omega | (simp only [bset, reduceIte, Nat.reduceEqDiff]; omega)) (by first | omega | (simp only [bset, reduceIte, Nat.reduceEqDiff]; omega)) (by first | omega | (simp only [bset, reduceIte, Nat.reduceEqDiff]; omega))) ?_
  refine zr_otH dL_acts_247 (rfl : 247 + 3 = 250) l_L_121 hx rfl rfl (Nat.le_of_ble_eq_true rfl) (by first | omega | (simp only [bset, reduceIte, Nat.reduceEqDiff]; omega)) (by first | omega | (simp only [bset, reduceIte, Nat.reduceEqDiff]; omega)) ?_
  intro g1
  exact zr_iretO dL_acts_250 rfl rfl ⟨rfl, τ, rfl⟩ rfl
theorem act_9 (hy : 0 ≤ y ∧ y < 2147483648) (h : jin B) (hs : jsn σ) (h6 : σ.sc = 6) (hk : y % 16 = 9) : jAct Γ d σ τ u B y := by
  obtain ⟨v, B', σ', hb, hv, hf, hx⟩ := ou_claim (Γ := Γ) (d := d) (τ := τ) (u := u) (y / 16 % 4) (y / 16 / 4 % 4) (by omega) (by omega) h hs h6
  refine ⟨v, B', σ', ⟨hb, hv, fun q => absurd q (by omega), fun _ _ => hf, fun q => absurd q (by omega), fun q => absurd q (by omega), fun q => absurd q (by omega), fun q => absurd q (by omega)⟩, ?_⟩
  refine zOt.of_run (lv := [some (.ref 5), some (.int (jI y)), none]) (by decide) rfl (Nat.le_of_ble_eq_true rfl) rfl (fun n9 g9 => ?_)
  refine zr_iload_n dL_acts_0 (rfl : 0 + 1 = 1) rfl ?_
  refine zr_bipush dL_acts_1 (rfl : 1 + 2 = 3) (by decide) ?_
  refine zr_idiv dL_acts_3 (rfl : 3 + 1 = 4) (fun q => absurd ((jI_z (by first | omega | (simp only [bset, reduceIte, Nat.reduceEqDiff]; omega)) (by first | omega | (simp only [bset, reduceIte, Nat.reduceEqDiff]; omega))).mp q) (by first | omega | (simp only [bset, reduceIte, Nat.reduceEqDiff]; omega))) (jI_div (by first | omega | (simp only [bset, reduceIte, Nat.reduceEqDiff]; omega)) (by first | omega | (simp only [bset, reduceIte, Nat.reduceEqDiff]; omega)) (by first | omega | (simp only [bset, reduceIte, Nat.reduceEqDiff]; omega)) (by first | omega | (simp only [bset, reduceIte, Nat.reduceEqDiff]; omega))) ?_
  refine zr_istore_n (lv' := [_, _, _]) dL_acts_4 (rfl : 4 + 1 = 5) (Nat.le_of_ble_eq_true rfl) rfl ?_
  refine zr_iload_n dL_acts_5 (rfl : 5 + 1 = 6) rfl ?_
  refine zr_bipush dL_acts_6 (rfl : 6 + 2 = 8) (by decide) ?_
  refine zr_irem dL_acts_8 (rfl : 8 + 1 = 9) (fun q => absurd ((jI_z (by first | omega | (simp only [bset, reduceIte, Nat.reduceEqDiff]; omega)) (by first | omega | (simp only [bset, reduceIte, Nat.reduceEqDiff]; omega))).mp q) (by first | omega | (simp only [bset, reduceIte, Nat.reduceEqDiff]; omega))) (jI_rem (by first | omega | (simp only [bset, reduceIte, Nat.reduceEqDiff]; omega)) (by first | omega | (simp only [bset, reduceIte, Nat.reduceEqDiff]; omega)) (by first | omega | (simp only [bset, reduceIte, Nat.reduceEqDiff]; omega)) (by first | omega | (simp only [bset, reduceIte, Nat.reduceEqDiff]; omega))) ?_
  rw [hk]
  refine zr_tableIn (off := 229) (tgt := 238) dL_acts_9 ⟨by omega, by omega⟩ (by first | omega | (simp only [bset, reduceIte, Nat.reduceEqDiff]; omega)) (by first | omega | (simp only [bset, reduceIte, Nat.reduceEqDiff]; omega)) rfl (by decide) ?_
  refine zr_aload_n dL_acts_238 (rfl : 238 + 1 = 239) rfl ?_
  refine zr_iload_n dL_acts_239 (rfl : 239 + 1 = 240) rfl ?_
  refine zr_iconst dL_acts_240 (rfl : 240 + 1 = 241) ?_
  refine zr_irem dL_acts_241 (rfl : 241 + 1 = 242) (fun q => absurd ((jI_z (by first | omega | (simp only [bset, reduceIte, Nat.reduceEqDiff]; omega)) (by first | omega | (simp only [bset, reduceIte, Nat.reduceEqDiff]; omega))).mp q) (by first | omega | (simp only [bset, reduceIte, Nat.reduceEqDiff]; omega))) (jI_rem (by first | omega | (simp only [bset, reduceIte, Nat.reduceEqDiff]; omega)) (by first | omega | (simp only [bset, reduceIte, Nat.reduceEqDiff]; omega)) (by first | omega | (simp only [bset, reduceIte, Nat.reduceEqDiff]; omega)) (by first | omega | (simp only [bset, reduceIte, Nat.reduceEqDiff]; omega))) ?_
  refine zr_iload_n dL_acts_242 (rfl : 242 + 1 = 243) rfl ?_
  refine zr_iconst dL_acts_243 (rfl : 243 + 1 = 244) ?_
  refine zr_idiv dL_acts_244 (rfl : 244 + 1 = 245) (fun q => absurd ((jI_z (by first | omega | (simp only [bset, reduceIte, Nat.reduceEqDiff]; omega)) (by first | omega | (simp only [bset, reduceIte, Nat.reduceEqDiff]; omega))).mp q) (by first | omega | (simp only [bset, reduceIte, Nat.reduceEqDiff]; omega))) (jI_div (by first | omega | (simp only [bset, reduceIte, Nat.reduceEqDiff]; omega)) (by first | omega | (simp only [bset, reduceIte, Nat.reduceEqDiff]; omega)) (by first | omega | (simp only [bset, reduceIte, Nat.reduceEqDiff]; omega)) (by first | omega | (simp only [bset, reduceIte, Nat.reduceEqDiff]; omega))) ?_
  refine zr_iconst dL_acts_245 (rfl : 245 + 1 = 246) ?_
  refine zr_irem dL_acts_246 (rfl : 246 + 1 = 247) (fun q => absurd ((jI_z (by first | omega | (simp only [bset, reduceIte, Nat.reduceEqDiff]; omega)) (by first | omega | (simp only [bset, reduceIte, Nat.reduceEqDiff]; omega))).mp q) (by first | omega | (simp only [bset, reduceIte, Nat.reduceEqDiff]; omega))) (jI_rem (by first | omega | (simp only [bset, reduceIte, Nat.reduceEqDiff]; omega)) (by first | omega | (simp only [bset, reduceIte, Nat.reduceEqDiff]; omega)) (by first | omega | (simp only [bset, reduceIte, Nat.reduceEqDiff]; omega)) (by first | omega | (simp only [bset, reduceIte, Nat.reduceEqDiff]; omega))) ?_
  refine zr_otH dL_acts_247 (rfl : 247 + 3 = 250) l_L_121 hx rfl rfl (Nat.le_of_ble_eq_true rfl) (by first | omega | (simp only [bset, reduceIte, Nat.reduceEqDiff]; omega)) (by first | omega | (simp only [bset, reduceIte, Nat.reduceEqDiff]; omega)) ?_
  intro g1
  exact zr_iretO dL_acts_250 rfl rfl ⟨rfl, τ, rfl⟩ rfl
theorem act_10 (hy : 0 ≤ y ∧ y < 2147483648) (h : jin B) (hs : jsn σ) (h6 : σ.sc = 6) (hk : y % 16 = 10) : jAct Γ d σ τ u B y := by
  obtain ⟨v, B', σ', hb, hv, hf, hx⟩ := ou_claim (Γ := Γ) (d := d) (τ := τ) (u := u) (y / 16 % 4) (y / 16 / 4 % 4) (by omega) (by omega) h hs h6
  refine ⟨v, B', σ', ⟨hb, hv, fun q => absurd q (by omega), fun _ _ => hf, fun q => absurd q (by omega), fun q => absurd q (by omega), fun q => absurd q (by omega), fun q => absurd q (by omega)⟩, ?_⟩
  refine zOt.of_run (lv := [some (.ref 5), some (.int (jI y)), none]) (by decide) rfl (Nat.le_of_ble_eq_true rfl) rfl (fun n9 g9 => ?_)
  refine zr_iload_n dL_acts_0 (rfl : 0 + 1 = 1) rfl ?_
  refine zr_bipush dL_acts_1 (rfl : 1 + 2 = 3) (by decide) ?_
  refine zr_idiv dL_acts_3 (rfl : 3 + 1 = 4) (fun q => absurd ((jI_z (by first | omega | (simp only [bset, reduceIte, Nat.reduceEqDiff]; omega)) (by first | omega | (simp only [bset, reduceIte, Nat.reduceEqDiff]; omega))).mp q) (by first | omega | (simp only [bset, reduceIte, Nat.reduceEqDiff]; omega))) (jI_div (by first | omega | (simp only [bset, reduceIte, Nat.reduceEqDiff]; omega)) (by first | omega | (simp only [bset, reduceIte, Nat.reduceEqDiff]; omega)) (by first | omega | (simp only [bset, reduceIte, Nat.reduceEqDiff]; omega)) (by first | omega | (simp only [bset, reduceIte, Nat.reduceEqDiff]; omega))) ?_
  refine zr_istore_n (lv' := [_, _, _]) dL_acts_4 (rfl : 4 + 1 = 5) (Nat.le_of_ble_eq_true rfl) rfl ?_
  refine zr_iload_n dL_acts_5 (rfl : 5 + 1 = 6) rfl ?_
  refine zr_bipush dL_acts_6 (rfl : 6 + 2 = 8) (by decide) ?_
  refine zr_irem dL_acts_8 (rfl : 8 + 1 = 9) (fun q => absurd ((jI_z (by first | omega | (simp only [bset, reduceIte, Nat.reduceEqDiff]; omega)) (by first | omega | (simp only [bset, reduceIte, Nat.reduceEqDiff]; omega))).mp q) (by first | omega | (simp only [bset, reduceIte, Nat.reduceEqDiff]; omega))) (jI_rem (by first | omega | (simp only [bset, reduceIte, Nat.reduceEqDiff]; omega)) (by first | omega | (simp only [bset, reduceIte, Nat.reduceEqDiff]; omega)) (by first | omega | (simp only [bset, reduceIte, Nat.reduceEqDiff]; omega)) (by first | omega | (simp only [bset, reduceIte, Nat.reduceEqDiff]; omega))) ?_
  rw [hk]
  refine zr_tableIn (off := 229) (tgt := 238) dL_acts_9 ⟨by omega, by omega⟩ (by first | omega | (simp only [bset, reduceIte, Nat.reduceEqDiff]; omega)) (by first | omega | (simp only [bset, reduceIte, Nat.reduceEqDiff]; omega)) rfl (by decide) ?_
  refine zr_aload_n dL_acts_238 (rfl : 238 + 1 = 239) rfl ?_
  refine zr_iload_n dL_acts_239 (rfl : 239 + 1 = 240) rfl ?_
  refine zr_iconst dL_acts_240 (rfl : 240 + 1 = 241) ?_
  refine zr_irem dL_acts_241 (rfl : 241 + 1 = 242) (fun q => absurd ((jI_z (by first | omega | (simp only [bset, reduceIte, Nat.reduceEqDiff]; omega)) (by first | omega | (simp only [bset, reduceIte, Nat.reduceEqDiff]; omega))).mp q) (by first | omega | (simp only [bset, reduceIte, Nat.reduceEqDiff]; omega))) (jI_rem (by first | omega | (simp only [bset, reduceIte, Nat.reduceEqDiff]; omega)) (by first | omega | (simp only [bset, reduceIte, Nat.reduceEqDiff]; omega)) (by first | omega | (simp only [bset, reduceIte, Nat.reduceEqDiff]; omega)) (by first | omega | (simp only [bset, reduceIte, Nat.reduceEqDiff]; omega))) ?_
  refine zr_iload_n dL_acts_242 (rfl : 242 + 1 = 243) rfl ?_
  refine zr_iconst dL_acts_243 (rfl : 243 + 1 = 244) ?_
  refine zr_idiv dL_acts_244 (rfl : 244 + 1 = 245) (fun q => absurd ((jI_z (by first | omega | (simp only [bset, reduceIte, Nat.reduceEqDiff]; omega)) (by first | omega | (simp only [bset, reduceIte, Nat.reduceEqDiff]; omega))).mp q) (by first | omega | (simp only [bset, reduceIte, Nat.reduceEqDiff]; omega))) (jI_div (by first | omega | (simp only [bset, reduceIte, Nat.reduceEqDiff]; omega)) (by first | omega | (simp only [bset, reduceIte, Nat.reduceEqDiff]; omega)) (by first | omega | (simp only [bset, reduceIte, Nat.reduceEqDiff]; omega)) (by first | omega | (simp only [bset, reduceIte, Nat.reduceEqDiff]; omega))) ?_
  refine zr_iconst dL_acts_245 (rfl : 245 + 1 = 246) ?_
  refine zr_irem dL_acts_246 (rfl : 246 + 1 = 247) (fun q => absurd ((jI_z (by first | omega | (simp only [bset, reduceIte, Nat.reduceEqDiff]; omega)) (by first | omega | (simp only [bset, reduceIte, Nat.reduceEqDiff]; omega))).mp q) (by first | omega | (simp only [bset, reduceIte, Nat.reduceEqDiff]; omega))) (jI_rem (by first | omega | (simp only [bset, reduceIte, Nat.reduceEqDiff]; omega)) (by first | omega | (simp only [bset, reduceIte, Nat.reduceEqDiff]; omega)) (by first | omega | (simp only [bset, reduceIte, Nat.reduceEqDiff]; omega)) (by first | omega | (simp only [bset, reduceIte, Nat.reduceEqDiff]; omega))) ?_
  refine zr_otH dL_acts_247 (rfl : 247 + 3 = 250) l_L_121 hx rfl rfl (Nat.le_of_ble_eq_true rfl) (by first | omega | (simp only [bset, reduceIte, Nat.reduceEqDiff]; omega)) (by first | omega | (simp only [bset, reduceIte, Nat.reduceEqDiff]; omega)) ?_
  intro g1
  exact zr_iretO dL_acts_250 rfl rfl ⟨rfl, τ, rfl⟩ rfl
theorem act_11 (hy : 0 ≤ y ∧ y < 2147483648) (h : jin B) (hs : jsn σ) (h6 : σ.sc = 6) (hk : y % 16 = 11) : jAct Γ d σ τ u B y := by
  obtain ⟨v, B', σ', hb, hv, hf, hx⟩ := ou_claim (Γ := Γ) (d := d) (τ := τ) (u := u) (y / 16 % 4) (y / 16 / 4 % 4) (by omega) (by omega) h hs h6
  refine ⟨v, B', σ', ⟨hb, hv, fun q => absurd q (by omega), fun _ _ => hf, fun q => absurd q (by omega), fun q => absurd q (by omega), fun q => absurd q (by omega), fun q => absurd q (by omega)⟩, ?_⟩
  refine zOt.of_run (lv := [some (.ref 5), some (.int (jI y)), none]) (by decide) rfl (Nat.le_of_ble_eq_true rfl) rfl (fun n9 g9 => ?_)
  refine zr_iload_n dL_acts_0 (rfl : 0 + 1 = 1) rfl ?_
  refine zr_bipush dL_acts_1 (rfl : 1 + 2 = 3) (by decide) ?_
  refine zr_idiv dL_acts_3 (rfl : 3 + 1 = 4) (fun q => absurd ((jI_z (by first | omega | (simp only [bset, reduceIte, Nat.reduceEqDiff]; omega)) (by first | omega | (simp only [bset, reduceIte, Nat.reduceEqDiff]; omega))).mp q) (by first | omega | (simp only [bset, reduceIte, Nat.reduceEqDiff]; omega))) (jI_div (by first | omega | (simp only [bset, reduceIte, Nat.reduceEqDiff]; omega)) (by first | omega | (simp only [bset, reduceIte, Nat.reduceEqDiff]; omega)) (by first | omega | (simp only [bset, reduceIte, Nat.reduceEqDiff]; omega)) (by first | omega | (simp only [bset, reduceIte, Nat.reduceEqDiff]; omega))) ?_
  refine zr_istore_n (lv' := [_, _, _]) dL_acts_4 (rfl : 4 + 1 = 5) (Nat.le_of_ble_eq_true rfl) rfl ?_
  refine zr_iload_n dL_acts_5 (rfl : 5 + 1 = 6) rfl ?_
  refine zr_bipush dL_acts_6 (rfl : 6 + 2 = 8) (by decide) ?_
  refine zr_irem dL_acts_8 (rfl : 8 + 1 = 9) (fun q => absurd ((jI_z (by first | omega | (simp only [bset, reduceIte, Nat.reduceEqDiff]; omega)) (by first | omega | (simp only [bset, reduceIte, Nat.reduceEqDiff]; omega))).mp q) (by first | omega | (simp only [bset, reduceIte, Nat.reduceEqDiff]; omega))) (jI_rem (by first | omega | (simp only [bset, reduceIte, Nat.reduceEqDiff]; omega)) (by first | omega | (simp only [bset, reduceIte, Nat.reduceEqDiff]; omega)) (by first | omega | (simp only [bset, reduceIte, Nat.reduceEqDiff]; omega)) (by first | omega | (simp only [bset, reduceIte, Nat.reduceEqDiff]; omega))) ?_
  rw [hk]
  refine zr_tableIn (off := 229) (tgt := 238) dL_acts_9 ⟨by omega, by omega⟩ (by first | omega | (simp only [bset, reduceIte, Nat.reduceEqDiff]; omega)) (by first | omega | (simp only [bset, reduceIte, Nat.reduceEqDiff]; omega)) rfl (by decide) ?_
  refine zr_aload_n dL_acts_238 (rfl : 238 + 1 = 239) rfl ?_
  refine zr_iload_n dL_acts_239 (rfl : 239 + 1 = 240) rfl ?_
  refine zr_iconst dL_acts_240 (rfl : 240 + 1 = 241) ?_
  refine zr_irem dL_acts_241 (rfl : 241 + 1 = 242) (fun q => absurd ((jI_z (by first | omega | (simp only [bset, reduceIte, Nat.reduceEqDiff]; omega)) (by first | omega | (simp only [bset, reduceIte, Nat.reduceEqDiff]; omega))).mp q) (by first | omega | (simp only [bset, reduceIte, Nat.reduceEqDiff]; omega))) (jI_rem (by first | omega | (simp only [bset, reduceIte, Nat.reduceEqDiff]; omega)) (by first | omega | (simp only [bset, reduceIte, Nat.reduceEqDiff]; omega)) (by first | omega | (simp only [bset, reduceIte, Nat.reduceEqDiff]; omega)) (by first | omega | (simp only [bset, reduceIte, Nat.reduceEqDiff]; omega))) ?_
  refine zr_iload_n dL_acts_242 (rfl : 242 + 1 = 243) rfl ?_
  refine zr_iconst dL_acts_243 (rfl : 243 + 1 = 244) ?_
  refine zr_idiv dL_acts_244 (rfl : 244 + 1 = 245) (fun q => absurd ((jI_z (by first | omega | (simp only [bset, reduceIte, Nat.reduceEqDiff]; omega)) (by first | omega | (simp only [bset, reduceIte, Nat.reduceEqDiff]; omega))).mp q) (by first | omega | (simp only [bset, reduceIte, Nat.reduceEqDiff]; omega))) (jI_div (by first | omega | (simp only [bset, reduceIte, Nat.reduceEqDiff]; omega)) (by first | omega | (simp only [bset, reduceIte, Nat.reduceEqDiff]; omega)) (by first | omega | (simp only [bset, reduceIte, Nat.reduceEqDiff]; omega)) (by first | omega | (simp only [bset, reduceIte, Nat.reduceEqDiff]; omega))) ?_
  refine zr_iconst dL_acts_245 (rfl : 245 + 1 = 246) ?_
  refine zr_irem dL_acts_246 (rfl : 246 + 1 = 247) (fun q => absurd ((jI_z (by first | omega | (simp only [bset, reduceIte, Nat.reduceEqDiff]; omega)) (by first | omega | (simp only [bset, reduceIte, Nat.reduceEqDiff]; omega))).mp q) (by first | omega | (simp only [bset, reduceIte, Nat.reduceEqDiff]; omega))) (jI_rem (by first | omega | (simp only [bset, reduceIte, Nat.reduceEqDiff]; omega)) (by first | omega | (simp only [bset, reduceIte, Nat.reduceEqDiff]; omega)) (by first | omega | (simp only [bset, reduceIte, Nat.reduceEqDiff]; omega)) (by first | omega | (simp only [bset, reduceIte, Nat.reduceEqDiff]; omega))) ?_
  refine zr_otH dL_acts_247 (rfl : 247 + 3 = 250) l_L_121 hx rfl rfl (Nat.le_of_ble_eq_true rfl) (by first | omega | (simp only [bset, reduceIte, Nat.reduceEqDiff]; omega)) (by first | omega | (simp only [bset, reduceIte, Nat.reduceEqDiff]; omega)) ?_
  intro g1
  exact zr_iretO dL_acts_250 rfl rfl ⟨rfl, τ, rfl⟩ rfl
theorem act_12 (hy : 0 ≤ y ∧ y < 2147483648) (h : jin B) (hs : jsn σ) (h6 : σ.sc = 6) (hk : y % 16 = 12) : jAct Γ d σ τ u B y := by
  have ok := h.ok
  by_cases q : y / 16 % 2 = 0
  · obtain ⟨v, B', σ', hb, hv, hx⟩ := ou_goBack (Γ := Γ) (d := d) (τ := τ) (u := u) (y / 16 / 2 % 2) (by omega) h hs h6
    refine ⟨v, B', σ', ⟨hb, hv, fun q => absurd q (by omega), fun _ q2 => absurd q2 (by omega), fun q => absurd q (by omega), fun q => absurd q (by omega), fun q => absurd q (by omega), fun q => absurd q (by omega)⟩, ?_⟩
    refine zOt.of_run (lv := [some (.ref 5), some (.int (jI y)), none]) (by decide) rfl (Nat.le_of_ble_eq_true rfl) rfl (fun n9 g9 => ?_)
    refine zr_iload_n dL_acts_0 (rfl : 0 + 1 = 1) rfl ?_
    refine zr_bipush dL_acts_1 (rfl : 1 + 2 = 3) (by decide) ?_
    refine zr_idiv dL_acts_3 (rfl : 3 + 1 = 4) (fun q => absurd ((jI_z (by first | omega | (simp only [bset, reduceIte, Nat.reduceEqDiff]; omega)) (by first | omega | (simp only [bset, reduceIte, Nat.reduceEqDiff]; omega))).mp q) (by first | omega | (simp only [bset, reduceIte, Nat.reduceEqDiff]; omega))) (jI_div (by first | omega | (simp only [bset, reduceIte, Nat.reduceEqDiff]; omega)) (by first | omega | (simp only [bset, reduceIte, Nat.reduceEqDiff]; omega)) (by first | omega | (simp only [bset, reduceIte, Nat.reduceEqDiff]; omega)) (by first | omega | (simp only [bset, reduceIte, Nat.reduceEqDiff]; omega))) ?_
    refine zr_istore_n (lv' := [_, _, _]) dL_acts_4 (rfl : 4 + 1 = 5) (Nat.le_of_ble_eq_true rfl) rfl ?_
    refine zr_iload_n dL_acts_5 (rfl : 5 + 1 = 6) rfl ?_
    refine zr_bipush dL_acts_6 (rfl : 6 + 2 = 8) (by decide) ?_
    refine zr_irem dL_acts_8 (rfl : 8 + 1 = 9) (fun q => absurd ((jI_z (by first | omega | (simp only [bset, reduceIte, Nat.reduceEqDiff]; omega)) (by first | omega | (simp only [bset, reduceIte, Nat.reduceEqDiff]; omega))).mp q) (by first | omega | (simp only [bset, reduceIte, Nat.reduceEqDiff]; omega))) (jI_rem (by first | omega | (simp only [bset, reduceIte, Nat.reduceEqDiff]; omega)) (by first | omega | (simp only [bset, reduceIte, Nat.reduceEqDiff]; omega)) (by first | omega | (simp only [bset, reduceIte, Nat.reduceEqDiff]; omega)) (by first | omega | (simp only [bset, reduceIte, Nat.reduceEqDiff]; omega))) ?_
    rw [hk]
    refine zr_tableIn (off := 242) (tgt := 251) dL_acts_9 ⟨by omega, by omega⟩ (by first | omega | (simp only [bset, reduceIte, Nat.reduceEqDiff]; omega)) (by first | omega | (simp only [bset, reduceIte, Nat.reduceEqDiff]; omega)) rfl (by decide) ?_
    refine zr_iload_n dL_acts_251 (rfl : 251 + 1 = 252) rfl ?_
    refine zr_iconst dL_acts_252 (rfl : 252 + 1 = 253) ?_
    refine zr_irem dL_acts_253 (rfl : 253 + 1 = 254) (fun q => absurd ((jI_z (by first | omega | (simp only [bset, reduceIte, Nat.reduceEqDiff]; omega)) (by first | omega | (simp only [bset, reduceIte, Nat.reduceEqDiff]; omega))).mp q) (by first | omega | (simp only [bset, reduceIte, Nat.reduceEqDiff]; omega))) (jI_rem (by first | omega | (simp only [bset, reduceIte, Nat.reduceEqDiff]; omega)) (by first | omega | (simp only [bset, reduceIte, Nat.reduceEqDiff]; omega)) (by first | omega | (simp only [bset, reduceIte, Nat.reduceEqDiff]; omega)) (by first | omega | (simp only [bset, reduceIte, Nat.reduceEqDiff]; omega))) ?_
    refine zr_if_ne (tgt := 269) dL_acts_254 (by decide) (rfl : 254 + 3 = 257) (by first | exact jb_iff | exact jI_z (by first | omega | (simp only [bset, reduceIte, Nat.reduceEqDiff]; omega)) (by first | omega | (simp only [bset, reduceIte, Nat.reduceEqDiff]; omega))) (fun h254 => ?_) (fun h254 => ?_)
    · exfalso; omega
    · refine zr_aload_n dL_acts_257 (rfl : 257 + 1 = 258) rfl ?_
      refine zr_iload_n dL_acts_258 (rfl : 258 + 1 = 259) rfl ?_
      refine zr_iconst dL_acts_259 (rfl : 259 + 1 = 260) ?_
      refine zr_idiv dL_acts_260 (rfl : 260 + 1 = 261) (fun q => absurd ((jI_z (by first | omega | (simp only [bset, reduceIte, Nat.reduceEqDiff]; omega)) (by first | omega | (simp only [bset, reduceIte, Nat.reduceEqDiff]; omega))).mp q) (by first | omega | (simp only [bset, reduceIte, Nat.reduceEqDiff]; omega))) (jI_div (by first | omega | (simp only [bset, reduceIte, Nat.reduceEqDiff]; omega)) (by first | omega | (simp only [bset, reduceIte, Nat.reduceEqDiff]; omega)) (by first | omega | (simp only [bset, reduceIte, Nat.reduceEqDiff]; omega)) (by first | omega | (simp only [bset, reduceIte, Nat.reduceEqDiff]; omega))) ?_
      refine zr_iconst dL_acts_261 (rfl : 261 + 1 = 262) ?_
      refine zr_irem dL_acts_262 (rfl : 262 + 1 = 263) (fun q => absurd ((jI_z (by first | omega | (simp only [bset, reduceIte, Nat.reduceEqDiff]; omega)) (by first | omega | (simp only [bset, reduceIte, Nat.reduceEqDiff]; omega))).mp q) (by first | omega | (simp only [bset, reduceIte, Nat.reduceEqDiff]; omega))) (jI_rem (by first | omega | (simp only [bset, reduceIte, Nat.reduceEqDiff]; omega)) (by first | omega | (simp only [bset, reduceIte, Nat.reduceEqDiff]; omega)) (by first | omega | (simp only [bset, reduceIte, Nat.reduceEqDiff]; omega)) (by first | omega | (simp only [bset, reduceIte, Nat.reduceEqDiff]; omega))) ?_
      refine zr_otH dL_acts_263 (rfl : 263 + 3 = 266) l_L_123 hx rfl rfl (Nat.le_of_ble_eq_true rfl) (by first | omega | (simp only [bset, reduceIte, Nat.reduceEqDiff]; omega)) (by first | omega | (simp only [bset, reduceIte, Nat.reduceEqDiff]; omega)) ?_
      intro g1
      refine zr_goto (tgt := 278) dL_acts_266 (by decide) ?_
      exact zr_iretO dL_acts_278 rfl rfl ⟨rfl, τ, rfl⟩ rfl
  · have hx := ou_keep (Γ := Γ) (d := d) (τ := τ) (u := u) (y / 16 / 2 % 2) (by omega) h hs
    have hz := jsz_r h.lk
    refine ⟨B 2 0, B, zC.sk (zC.sX σ (zxu σ.X (y / 16 / 2 % 2).toNat (jcp (σ.X (y / 16 / 2 % 2).toNat) B))) (jup σ.kp (y / 16 / 2 % 2) 1), ⟨⟨h, jsn_keep hs (by omega) h, h6⟩, (by omega : -2000003 ≤ B 2 0 ∧ B 2 0 ≤ 100000), fun q => absurd q (by omega), fun _ q2 => absurd q2 (by omega), fun q => absurd q (by omega), fun q => absurd q (by omega), fun q => absurd q (by omega), fun q => absurd q (by omega)⟩, ?_⟩
    refine zOt.of_run (lv := [some (.ref 5), some (.int (jI y)), none]) (by decide) rfl (Nat.le_of_ble_eq_true rfl) rfl (fun n9 g9 => ?_)
    refine zr_iload_n dL_acts_0 (rfl : 0 + 1 = 1) rfl ?_
    refine zr_bipush dL_acts_1 (rfl : 1 + 2 = 3) (by decide) ?_
    refine zr_idiv dL_acts_3 (rfl : 3 + 1 = 4) (fun q => absurd ((jI_z (by first | omega | (simp only [bset, reduceIte, Nat.reduceEqDiff]; omega)) (by first | omega | (simp only [bset, reduceIte, Nat.reduceEqDiff]; omega))).mp q) (by first | omega | (simp only [bset, reduceIte, Nat.reduceEqDiff]; omega))) (jI_div (by first | omega | (simp only [bset, reduceIte, Nat.reduceEqDiff]; omega)) (by first | omega | (simp only [bset, reduceIte, Nat.reduceEqDiff]; omega)) (by first | omega | (simp only [bset, reduceIte, Nat.reduceEqDiff]; omega)) (by first | omega | (simp only [bset, reduceIte, Nat.reduceEqDiff]; omega))) ?_
    refine zr_istore_n (lv' := [_, _, _]) dL_acts_4 (rfl : 4 + 1 = 5) (Nat.le_of_ble_eq_true rfl) rfl ?_
    refine zr_iload_n dL_acts_5 (rfl : 5 + 1 = 6) rfl ?_
    refine zr_bipush dL_acts_6 (rfl : 6 + 2 = 8) (by decide) ?_
    refine zr_irem dL_acts_8 (rfl : 8 + 1 = 9) (fun q => absurd ((jI_z (by first | omega | (simp only [bset, reduceIte, Nat.reduceEqDiff]; omega)) (by first | omega | (simp only [bset, reduceIte, Nat.reduceEqDiff]; omega))).mp q) (by first | omega | (simp only [bset, reduceIte, Nat.reduceEqDiff]; omega))) (jI_rem (by first | omega | (simp only [bset, reduceIte, Nat.reduceEqDiff]; omega)) (by first | omega | (simp only [bset, reduceIte, Nat.reduceEqDiff]; omega)) (by first | omega | (simp only [bset, reduceIte, Nat.reduceEqDiff]; omega)) (by first | omega | (simp only [bset, reduceIte, Nat.reduceEqDiff]; omega))) ?_
    rw [hk]
    refine zr_tableIn (off := 242) (tgt := 251) dL_acts_9 ⟨by omega, by omega⟩ (by first | omega | (simp only [bset, reduceIte, Nat.reduceEqDiff]; omega)) (by first | omega | (simp only [bset, reduceIte, Nat.reduceEqDiff]; omega)) rfl (by decide) ?_
    refine zr_iload_n dL_acts_251 (rfl : 251 + 1 = 252) rfl ?_
    refine zr_iconst dL_acts_252 (rfl : 252 + 1 = 253) ?_
    refine zr_irem dL_acts_253 (rfl : 253 + 1 = 254) (fun q => absurd ((jI_z (by first | omega | (simp only [bset, reduceIte, Nat.reduceEqDiff]; omega)) (by first | omega | (simp only [bset, reduceIte, Nat.reduceEqDiff]; omega))).mp q) (by first | omega | (simp only [bset, reduceIte, Nat.reduceEqDiff]; omega))) (jI_rem (by first | omega | (simp only [bset, reduceIte, Nat.reduceEqDiff]; omega)) (by first | omega | (simp only [bset, reduceIte, Nat.reduceEqDiff]; omega)) (by first | omega | (simp only [bset, reduceIte, Nat.reduceEqDiff]; omega)) (by first | omega | (simp only [bset, reduceIte, Nat.reduceEqDiff]; omega))) ?_
    refine zr_if_ne (tgt := 269) dL_acts_254 (by decide) (rfl : 254 + 3 = 257) (by first | exact jb_iff | exact jI_z (by first | omega | (simp only [bset, reduceIte, Nat.reduceEqDiff]; omega)) (by first | omega | (simp only [bset, reduceIte, Nat.reduceEqDiff]; omega))) (fun h254 => ?_) (fun h254 => ?_)
    · refine zr_aload_n dL_acts_269 (rfl : 269 + 1 = 270) rfl ?_
      refine zr_iload_n dL_acts_270 (rfl : 270 + 1 = 271) rfl ?_
      refine zr_iconst dL_acts_271 (rfl : 271 + 1 = 272) ?_
      refine zr_idiv dL_acts_272 (rfl : 272 + 1 = 273) (fun q => absurd ((jI_z (by first | omega | (simp only [bset, reduceIte, Nat.reduceEqDiff]; omega)) (by first | omega | (simp only [bset, reduceIte, Nat.reduceEqDiff]; omega))).mp q) (by first | omega | (simp only [bset, reduceIte, Nat.reduceEqDiff]; omega))) (jI_div (by first | omega | (simp only [bset, reduceIte, Nat.reduceEqDiff]; omega)) (by first | omega | (simp only [bset, reduceIte, Nat.reduceEqDiff]; omega)) (by first | omega | (simp only [bset, reduceIte, Nat.reduceEqDiff]; omega)) (by first | omega | (simp only [bset, reduceIte, Nat.reduceEqDiff]; omega))) ?_
      refine zr_iconst dL_acts_273 (rfl : 273 + 1 = 274) ?_
      refine zr_irem dL_acts_274 (rfl : 274 + 1 = 275) (fun q => absurd ((jI_z (by first | omega | (simp only [bset, reduceIte, Nat.reduceEqDiff]; omega)) (by first | omega | (simp only [bset, reduceIte, Nat.reduceEqDiff]; omega))).mp q) (by first | omega | (simp only [bset, reduceIte, Nat.reduceEqDiff]; omega))) (jI_rem (by first | omega | (simp only [bset, reduceIte, Nat.reduceEqDiff]; omega)) (by first | omega | (simp only [bset, reduceIte, Nat.reduceEqDiff]; omega)) (by first | omega | (simp only [bset, reduceIte, Nat.reduceEqDiff]; omega)) (by first | omega | (simp only [bset, reduceIte, Nat.reduceEqDiff]; omega))) ?_
      refine zr_otH dL_acts_275 (rfl : 275 + 3 = 278) l_L_125 hx rfl rfl (Nat.le_of_ble_eq_true rfl) (by first | omega | (simp only [bset, reduceIte, Nat.reduceEqDiff]; omega)) (by first | omega | (simp only [bset, reduceIte, Nat.reduceEqDiff]; omega)) ?_
      intro g1
      exact zr_iretO dL_acts_278 rfl rfl ⟨rfl, τ, rfl⟩ rfl
    · exfalso; omega
theorem act_13 (hy : 0 ≤ y ∧ y < 2147483648) (h : jin B) (hs : jsn σ) (h6 : σ.sc = 6) (hk : 12 < y % 16) : jAct Γ d σ τ u B y := by
  obtain ⟨v, B', σ', hb, hv, hf, hx⟩ := ou_draw (Γ := Γ) (d := d) (τ := τ) (u := u) (1 + y / 16 % 25) (by omega) h hs h6
  refine ⟨v, B', σ', ⟨hb, hv, fun q => absurd q (by omega), fun _ q2 => absurd q2 (by omega), fun q => absurd q (by omega), fun q => absurd q (by omega), fun _ => hf, fun q => absurd q (by omega)⟩, ?_⟩
  refine zOt.of_run (lv := [some (.ref 5), some (.int (jI y)), none]) (by decide) rfl (Nat.le_of_ble_eq_true rfl) rfl (fun n9 g9 => ?_)
  refine zr_iload_n dL_acts_0 (rfl : 0 + 1 = 1) rfl ?_
  refine zr_bipush dL_acts_1 (rfl : 1 + 2 = 3) (by decide) ?_
  refine zr_idiv dL_acts_3 (rfl : 3 + 1 = 4) (fun q => absurd ((jI_z (by first | omega | (simp only [bset, reduceIte, Nat.reduceEqDiff]; omega)) (by first | omega | (simp only [bset, reduceIte, Nat.reduceEqDiff]; omega))).mp q) (by first | omega | (simp only [bset, reduceIte, Nat.reduceEqDiff]; omega))) (jI_div (by first | omega | (simp only [bset, reduceIte, Nat.reduceEqDiff]; omega)) (by first | omega | (simp only [bset, reduceIte, Nat.reduceEqDiff]; omega)) (by first | omega | (simp only [bset, reduceIte, Nat.reduceEqDiff]; omega)) (by first | omega | (simp only [bset, reduceIte, Nat.reduceEqDiff]; omega))) ?_
  refine zr_istore_n (lv' := [_, _, _]) dL_acts_4 (rfl : 4 + 1 = 5) (Nat.le_of_ble_eq_true rfl) rfl ?_
  refine zr_iload_n dL_acts_5 (rfl : 5 + 1 = 6) rfl ?_
  refine zr_bipush dL_acts_6 (rfl : 6 + 2 = 8) (by decide) ?_
  refine zr_irem dL_acts_8 (rfl : 8 + 1 = 9) (fun q => absurd ((jI_z (by first | omega | (simp only [bset, reduceIte, Nat.reduceEqDiff]; omega)) (by first | omega | (simp only [bset, reduceIte, Nat.reduceEqDiff]; omega))).mp q) (by first | omega | (simp only [bset, reduceIte, Nat.reduceEqDiff]; omega))) (jI_rem (by first | omega | (simp only [bset, reduceIte, Nat.reduceEqDiff]; omega)) (by first | omega | (simp only [bset, reduceIte, Nat.reduceEqDiff]; omega)) (by first | omega | (simp only [bset, reduceIte, Nat.reduceEqDiff]; omega)) (by first | omega | (simp only [bset, reduceIte, Nat.reduceEqDiff]; omega))) ?_
  refine zr_tableOut (tgt := 279) dL_acts_9 ⟨by omega, by omega⟩ (by first | omega | (simp only [bset, reduceIte, Nat.reduceEqDiff]; omega)) (by decide) ?_
  refine zr_aload_n dL_acts_279 (rfl : 279 + 1 = 280) rfl ?_
  refine zr_iconst dL_acts_280 (rfl : 280 + 1 = 281) ?_
  refine zr_iload_n dL_acts_281 (rfl : 281 + 1 = 282) rfl ?_
  refine zr_bipush dL_acts_282 (rfl : 282 + 2 = 284) (by decide) ?_
  refine zr_irem dL_acts_284 (rfl : 284 + 1 = 285) (fun q => absurd ((jI_z (by first | omega | (simp only [bset, reduceIte, Nat.reduceEqDiff]; omega)) (by first | omega | (simp only [bset, reduceIte, Nat.reduceEqDiff]; omega))).mp q) (by first | omega | (simp only [bset, reduceIte, Nat.reduceEqDiff]; omega))) (jI_rem (by first | omega | (simp only [bset, reduceIte, Nat.reduceEqDiff]; omega)) (by first | omega | (simp only [bset, reduceIte, Nat.reduceEqDiff]; omega)) (by first | omega | (simp only [bset, reduceIte, Nat.reduceEqDiff]; omega)) (by first | omega | (simp only [bset, reduceIte, Nat.reduceEqDiff]; omega))) ?_
  refine zr_iadd dL_acts_285 (rfl : 285 + 1 = 286) (by first | exact jI_add _ _ | rfl) ?_
  refine zr_otH dL_acts_286 (rfl : 286 + 3 = 289) l_L_119 hx rfl rfl (Nat.le_of_ble_eq_true rfl) (by first | omega | (simp only [bset, reduceIte, Nat.reduceEqDiff]; omega)) (by first | omega | (simp only [bset, reduceIte, Nat.reduceEqDiff]; omega)) ?_
  intro g1
  exact zr_iretO dL_acts_289 rfl rfl ⟨rfl, τ, rfl⟩ rfl
theorem acts (hy : 0 ≤ y ∧ y < 2147483648) (h : jin B) (hs : jsn σ) (h6 : σ.sc = 6) : jAct Γ d σ τ u B y := by
  rcases (by omega : y % 16 = 0 ∨ y % 16 = 1 ∨ y % 16 = 2 ∨ y % 16 = 3 ∨ y % 16 = 4 ∨ y % 16 = 5 ∨ y % 16 = 6 ∨ y % 16 = 7 ∨ y % 16 = 8 ∨ y % 16 = 9 ∨ y % 16 = 10 ∨ y % 16 = 11 ∨ y % 16 = 12 ∨ 12 < y % 16) with q | q | q | q | q | q | q | q | q | q | q | q | q | q
  · exact act_0 hy h hs h6 q
  · exact act_1 hy h hs h6 q
  · exact act_2 hy h hs h6 q
  · exact act_3 hy h hs h6 q
  · exact act_4 hy h hs h6 q
  · exact act_5 hy h hs h6 q
  · exact act_6 hy h hs h6 q
  · exact act_7 hy h hs h6 q
  · exact act_8 hy h hs h6 q
  · exact act_9 hy h hs h6 q
  · exact act_10 hy h hs h6 q
  · exact act_11 hy h hs h6 q
  · exact act_12 hy h hs h6 q
  · exact act_13 hy h hs h6 q
end AC

