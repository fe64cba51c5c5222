/-! the law's hangs: numbers, cards, calls and coins tell the same -/
section HG
variable {Γ : zΓ} {d : Nat} {σ : zC} {τ : zTau} {u : zW} {B : zB} {Q : zQ} {n9 : Nat} {g9 : Bool} {kc ks : Nat}
theorem jcnt_step {p : Int → Prop} [∀ z, Decidable (p z)] {i : Int} (h : 1 ≤ i) : (¬ p i ∧ jcnt (i + 1 - 1).toNat (fun z => decide (p (z + 1))) = jcnt (i - 1).toNat (fun z => decide (p (z + 1)))) ∨ (p i ∧ jcnt (i + 1 - 1).toNat (fun z => decide (p (z + 1))) = jcnt (i - 1).toNat (fun z => decide (p (z + 1))) + 1) := by
  have e := jcnt_next (q := fun z => decide (p (z + 1))) (i := i - 1) (by omega)
  have e1 : jb (decide (p (i - 1 + 1)) = true) = jb (p i) := jb_congr (by rw [show i - 1 + 1 = i by omega]; exact decide_eq_true_iff)
  have e2 : jcnt (i - 1 + 1).toNat (fun z => decide (p (z + 1))) = jcnt (i - 1).toNat (fun z => decide (p (z + 1))) + jb (decide (p (i - 1 + 1)) = true) := e
  rw [e1, show i - 1 + 1 = i + 1 - 1 by omega] at e2
  by_cases hp : p i
  · rw [jb_pos hp] at e2
    exact Or.inr ⟨hp, e2⟩
  · rw [jb_neg hp, Int.add_zero] at e2
    exact Or.inl ⟨hp, e2⟩
theorem jcnt_step0 {p : Int → Prop} [∀ z, Decidable (p z)] {i : Int} (h : 0 ≤ i) : (¬ p i ∧ jcnt (i + 1).toNat (fun z => decide (p z)) = jcnt i.toNat (fun z => decide (p z))) ∨ (p i ∧ jcnt (i + 1).toNat (fun z => decide (p z)) = jcnt i.toNat (fun z => decide (p z)) + 1) := by
  have e := jcnt_next (q := fun z => decide (p z)) (i := i) h
  have e1 : jb (decide (p i) = true) = jb (p i) := jb_congr decide_eq_true_iff
  have e2 : jcnt (i + 1).toNat (fun z => decide (p z)) = jcnt i.toNat (fun z => decide (p z)) + jb (decide (p i) = true) := e
  rw [e1] at e2
  by_cases hp : p i
  · rw [jb_pos hp] at e2
    exact Or.inr ⟨hp, e2⟩
  · rw [jb_neg hp, Int.add_zero] at e2
    exact Or.inl ⟨hp, e2⟩
theorem hg_1 (h : jin B) (k : ∀ o6 o7 o8 o9, zRun Γ md_L_hangs (d + 9) none 221 [some (.ref 5), some (.int (jI (B 12 0))), some (.int (jI (B 2 0))), some (.int (jI (B 12 0))), some (.int (jI (B 12 0))), some (.int (jI (1))), o6, o7, o8, o9, none, none, none, none, none, none, none] [] (n9, g9, kc, ks) (bk 6 B (cr σ τ u)) Q) : zRun Γ md_L_hangs (d + 9) none 46 [some (.ref 5), some (.int (jI (B 12 0))), some (.int (jI (0))), some (.int (jI (0))), some (.int (jI (0))), some (.int (jI (1))), some (.int (jI (1))), none, none, none, none, none, none, none, none, none, none] [] (n9, g9, kc, ks) (bk 6 B (cr σ τ u)) Q := by
  have ok := h.ok
  have hca := ok.ca
  refine zfor6 1 90 (fun i st dn sd _ _ _ => st = jcnt (i - 1).toNat (fun z => decide (B 1 (z + 1) ≠ -1)) ∧ dn = jcnt (i - 1).toNat (fun z => decide (B 7 (z + 1) ≠ 0)) ∧ sd = jsum (i - 1).toNat (fun z => B 8 (z + 1))) (fun i st dn sd o7 o8 o9 => [some (.ref 5), some (.int (jI (B 12 0))), some (.int (jI (st))), some (.int (jI (dn))), some (.int (jI (sd))), some (.int (jI (1))), some (.int (jI (i))), o7, o8, o9, none, none, none, none, none, none, none]) (fun _ _ _ _ _ _ _ => (bk 6 B (cr σ τ u))) 0 0 0 none none none ⟨rfl, rfl, rfl⟩ ?_ ?_
  · intro i st dn sd o7 o8 o9 i1 i9 hI hk
    obtain ⟨hst, hdn, hsd⟩ := hI
    have hn : 1 ≤ i ∧ i ≤ 90 := by omega
    have hb1 := jcnt_step (p := fun z => B 1 z ≠ -1) (i := i) i1
    have hb7 := jcnt_step (p := fun z => B 7 z ≠ 0) (i := i) i1
    have hb8 : jsum (i + 1 - 1).toNat (fun z => B 8 (z + 1)) = jsum (i - 1).toNat (fun z => B 8 (z + 1)) + B 8 i := by
      have e := jsum_next (f := fun z => B 8 (z + 1)) (i := i - 1) (by omega)
      have e2 : jsum (i - 1 + 1).toNat (fun z => B 8 (z + 1)) = jsum (i - 1).toNat (fun z => B 8 (z + 1)) + B 8 (i - 1 + 1) := e
      rw [show i - 1 + 1 = i by omega] at e2
      rw [show i + 1 - 1 = i by omega]
      exact e2
    have hf := fa_num h hn
    have hcal := fa_call h hn
    have e2 : jno B i 2 = B 7 i := rfl
    have e3 : jno B i 3 = B 8 i := rfl
    obtain ⟨cd, e0⟩ : ∃ cd, jno B i 0 = cd := ⟨_, rfl⟩
    obtain ⟨rr, e1⟩ : ∃ rr, jno B i 1 = rr := ⟨_, rfl⟩
    rw [e0, e1] at hf
    have hat1 : i = 90 → 0 ≤ cd → B 0 ((cd * 3 + rr) * 9 + 8) = i := fun q1 q2 => by
      have e : jcol i = 8 := if_pos q1
      rw [e] at hf
      omega
    have hat2 : i ≠ 90 → 0 ≤ cd → B 0 ((cd * 3 + rr) * 9 + i / 10) = i := fun q1 q2 => by
      have e : jcol i = i / 10 := if_neg q1
      rw [e] at hf
      omega
    have hcl := jcl_r ok (B 12 0 - B 7 i) 0
    by_cases q1 : cd < 0
    · by_cases q7 : B 7 i = 0
      · refine zr_iload dL_hangs_46 (rfl : 46 + 2 = 48) rfl ?_
        refine zr_bipush dL_hangs_48 (rfl : 48 + 2 = 50) (by decide) ?_
        refine zr_icmp_gt (tgt := 221) dL_hangs_50 (by decide) (rfl : 50 + 3 = 53) (jI_lt (by first | omega | (simp only [bset, reduceIte, Nat.reduceEqDiff]; omega)) (by first | omega | (simp only [bset, reduceIte, Nat.reduceEqDiff]; omega)) (by first | omega | (simp only [bset, reduceIte, Nat.reduceEqDiff]; omega)) (by first | omega | (simp only [bset, reduceIte, Nat.reduceEqDiff]; omega))) (fun h50 => ?_) (fun h50 => ?_)
        · exfalso
          omega
        refine zr_iload dL_hangs_53 (rfl : 53 + 2 = 55) rfl ?_
        refine zr_if_eq (tgt := 221) dL_hangs_55 (by decide) (rfl : 55 + 3 = 58) (by first | exact jb_iff | exact jI_z (by first | omega | (simp only [bset, reduceIte, Nat.reduceEqDiff]; omega)) (by first | omega | (simp only [bset, reduceIte, Nat.reduceEqDiff]; omega))) (fun h55 => ?_) (fun h55 => ?_)
        · exfalso
          omega
        refine zr_aload_n dL_hangs_58 (rfl : 58 + 1 = 59) rfl ?_
        refine zr_iload dL_hangs_59 (rfl : 59 + 2 = 61) rfl ?_
        refine zr_iconst dL_hangs_61 (rfl : 61 + 1 = 62) ?_
        refine zr_fnH dL_hangs_62 (rfl : 62 + 3 = 65) l_L_132 (w_numberOf i 0 ⟨hn, by decide⟩ ok) rfl rfl (Nat.le_of_ble_eq_true rfl) ?_
        rw [e0]
        refine zr_istore (lv' := [_, _, _, _, _, _, _, _, _, _, _, _, _, _, _, _, _]) dL_hangs_65 (rfl : 65 + 2 = 67) (Nat.le_of_ble_eq_true rfl) rfl ?_
        refine zr_aload_n dL_hangs_67 (rfl : 67 + 1 = 68) rfl ?_
        refine zr_iload dL_hangs_68 (rfl : 68 + 2 = 70) rfl ?_
        refine zr_iconst dL_hangs_70 (rfl : 70 + 1 = 71) ?_
        refine zr_fnH dL_hangs_71 (rfl : 71 + 3 = 74) l_L_132 (w_numberOf i 1 ⟨hn, by decide⟩ ok) rfl rfl (Nat.le_of_ble_eq_true rfl) ?_
        rw [e1]
        refine zr_istore (lv' := [_, _, _, _, _, _, _, _, _, _, _, _, _, _, _, _, _]) dL_hangs_74 (rfl : 74 + 2 = 76) (Nat.le_of_ble_eq_true rfl) rfl ?_
        refine zr_aload_n dL_hangs_76 (rfl : 76 + 1 = 77) rfl ?_
        refine zr_iload dL_hangs_77 (rfl : 77 + 2 = 79) rfl ?_
        refine zr_iconst dL_hangs_79 (rfl : 79 + 1 = 80) ?_
        refine zr_fnH dL_hangs_80 (rfl : 80 + 3 = 83) l_L_132 (w_numberOf i 2 ⟨hn, by decide⟩ ok) rfl rfl (Nat.le_of_ble_eq_true rfl) ?_
        rw [e2]
        refine zr_istore (lv' := [_, _, _, _, _, _, _, _, _, _, _, _, _, _, _, _, _]) dL_hangs_83 (rfl : 83 + 2 = 85) (Nat.le_of_ble_eq_true rfl) rfl ?_
        refine zr_iload_n dL_hangs_85 (rfl : 85 + 1 = 86) rfl ?_
        refine zr_iload dL_hangs_86 (rfl : 86 + 2 = 88) rfl ?_
        refine zr_if_lt (tgt := 95) dL_hangs_88 (by decide) (rfl : 88 + 3 = 91) (jI_ltz (by first | omega | (simp only [bset, reduceIte, Nat.reduceEqDiff]; omega)) (by first | omega | (simp only [bset, reduceIte, Nat.reduceEqDiff]; omega))) (fun h88 => ?_) (fun h88 => ?_)
        rotate_left
        · exfalso
          omega
        refine zr_iconst dL_hangs_95 (rfl : 95 + 1 = 96) ?_
        refine zr_iadd dL_hangs_96 (rfl : 96 + 1 = 97) (by first | exact jI_add _ _ | rfl) ?_
        refine zr_istore_n (lv' := [_, _, _, _, _, _, _, _, _, _, _, _, _, _, _, _, _]) dL_hangs_97 (rfl : 97 + 1 = 98) (Nat.le_of_ble_eq_true rfl) rfl ?_
        refine zr_iload_n dL_hangs_98 (rfl : 98 + 1 = 99) rfl ?_
        refine zr_iload dL_hangs_99 (rfl : 99 + 2 = 101) rfl ?_
        refine zr_if_le (tgt := 108) dL_hangs_101 (by decide) (rfl : 101 + 3 = 104) (jI_lez (by first | omega | (simp only [bset, reduceIte, Nat.reduceEqDiff]; omega)) (by first | omega | (simp only [bset, reduceIte, Nat.reduceEqDiff]; omega))) (fun h101 => ?_) (fun h101 => ?_)
        rotate_left
        · exfalso
          omega
        refine zr_iconst dL_hangs_108 (rfl : 108 + 1 = 109) ?_
        refine zr_iadd dL_hangs_109 (rfl : 109 + 1 = 110) (by first | exact jI_add _ _ | rfl) ?_
        refine zr_istore_n (lv' := [_, _, _, _, _, _, _, _, _, _, _, _, _, _, _, _, _]) dL_hangs_110 (rfl : 110 + 1 = 111) (Nat.le_of_ble_eq_true rfl) rfl ?_
        refine zr_iload dL_hangs_111 (rfl : 111 + 2 = 113) rfl ?_
        refine zr_aload_n dL_hangs_113 (rfl : 113 + 1 = 114) rfl ?_
        refine zr_iload dL_hangs_114 (rfl : 114 + 2 = 116) rfl ?_
        refine zr_iconst dL_hangs_116 (rfl : 116 + 1 = 117) ?_
        refine zr_fnH dL_hangs_117 (rfl : 117 + 3 = 120) l_L_132 (w_numberOf i 3 ⟨hn, by decide⟩ ok) rfl rfl (Nat.le_of_ble_eq_true rfl) ?_
        rw [e3]
        refine zr_iadd dL_hangs_120 (rfl : 120 + 1 = 121) (by first | exact jI_add _ _ | rfl) ?_
        refine zr_istore (lv' := [_, _, _, _, _, _, _, _, _, _, _, _, _, _, _, _, _]) dL_hangs_121 (rfl : 121 + 2 = 123) (Nat.le_of_ble_eq_true rfl) rfl ?_
        refine zr_iload dL_hangs_123 (rfl : 123 + 2 = 125) rfl ?_
        refine zr_iconst dL_hangs_125 (rfl : 125 + 1 = 126) ?_
        refine zr_icmp_ne (tgt := 133) dL_hangs_126 (by decide) (rfl : 126 + 3 = 129) (jI_eq (by first | omega | (simp only [bset, reduceIte, Nat.reduceEqDiff]; omega)) (by first | omega | (simp only [bset, reduceIte, Nat.reduceEqDiff]; omega)) (by first | omega | (simp only [bset, reduceIte, Nat.reduceEqDiff]; omega)) (by first | omega | (simp only [bset, reduceIte, Nat.reduceEqDiff]; omega))) (fun h126 => ?_) (fun h126 => ?_)
        · exfalso
          omega
        refine zr_iconst dL_hangs_129 (rfl : 129 + 1 = 130) ?_
        refine zr_goto (tgt := 134) dL_hangs_130 (by decide) ?_
        refine zr_iload dL_hangs_134 (rfl : 134 + 2 = 136) rfl ?_
        refine zr_iconst dL_hangs_136 (rfl : 136 + 1 = 137) ?_
        refine zr_icmp_ne (tgt := 144) dL_hangs_137 (by decide) (rfl : 137 + 3 = 140) (jI_eq (by first | omega | (simp only [bset, reduceIte, Nat.reduceEqDiff]; omega)) (by first | omega | (simp only [bset, reduceIte, Nat.reduceEqDiff]; omega)) (by first | omega | (simp only [bset, reduceIte, Nat.reduceEqDiff]; omega)) (by first | omega | (simp only [bset, reduceIte, Nat.reduceEqDiff]; omega))) (fun h137 => ?_) (fun h137 => ?_)
        · exfalso
          omega
        refine zr_iconst dL_hangs_140 (rfl : 140 + 1 = 141) ?_
        refine zr_goto (tgt := 145) dL_hangs_141 (by decide) ?_
        refine zr_icmp_ne (tgt := 212) dL_hangs_145 (by decide) (rfl : 145 + 3 = 148) (jI_eq (by first | omega | (simp only [bset, reduceIte, Nat.reduceEqDiff]; omega)) (by first | omega | (simp only [bset, reduceIte, Nat.reduceEqDiff]; omega)) (by first | omega | (simp only [bset, reduceIte, Nat.reduceEqDiff]; omega)) (by first | omega | (simp only [bset, reduceIte, Nat.reduceEqDiff]; omega))) (fun h145 => ?_) (fun h145 => ?_)
        · exfalso
          omega
        refine zr_iload dL_hangs_148 (rfl : 148 + 2 = 150) rfl ?_
        refine zr_if_lt (tgt := 183) dL_hangs_150 (by decide) (rfl : 150 + 3 = 153) (jI_ltz (by first | omega | (simp only [bset, reduceIte, Nat.reduceEqDiff]; omega)) (by first | omega | (simp only [bset, reduceIte, Nat.reduceEqDiff]; omega))) (fun h150 => ?_) (fun h150 => ?_)
        rotate_left
        · exfalso
          omega
        refine zr_iload dL_hangs_183 (rfl : 183 + 2 = 185) rfl ?_
        refine zr_iload_n dL_hangs_185 (rfl : 185 + 1 = 186) rfl ?_
        refine zr_icmp_gt (tgt := 212) dL_hangs_186 (by decide) (rfl : 186 + 3 = 189) (jI_lt (by first | omega | (simp only [bset, reduceIte, Nat.reduceEqDiff]; omega)) (by first | omega | (simp only [bset, reduceIte, Nat.reduceEqDiff]; omega)) (by first | omega | (simp only [bset, reduceIte, Nat.reduceEqDiff]; omega)) (by first | omega | (simp only [bset, reduceIte, Nat.reduceEqDiff]; omega))) (fun h186 => ?_) (fun h186 => ?_)
        · exfalso
          omega
        refine zr_iload dL_hangs_189 (rfl : 189 + 2 = 191) rfl ?_
        refine zr_if_eq (tgt := 208) dL_hangs_191 (by decide) (rfl : 191 + 3 = 194) (by first | exact jb_iff | exact jI_z (by first | omega | (simp only [bset, reduceIte, Nat.reduceEqDiff]; omega)) (by first | omega | (simp only [bset, reduceIte, Nat.reduceEqDiff]; omega))) (fun h191 => ?_) (fun h191 => ?_)
        rotate_left
        · exfalso
          omega
        refine zr_iconst dL_hangs_208 (rfl : 208 + 1 = 209) ?_
        refine zr_goto (tgt := 213) dL_hangs_209 (by decide) ?_
        refine zr_istore (lv' := [_, _, _, _, _, _, _, _, _, _, _, _, _, _, _, _, _]) dL_hangs_213 (rfl : 213 + 2 = 215) (Nat.le_of_ble_eq_true rfl) rfl ?_
        refine zr_iinc (lv' := [_, _, _, _, _, _, _, _, _, _, _, _, _, _, _, _, _]) dL_hangs_215 (rfl : 215 + 3 = 218) (Nat.le_of_ble_eq_true rfl) rfl (by first | exact jI_add _ _ | rfl) rfl ?_
        refine zr_goto (tgt := 46) dL_hangs_218 (by decide) ?_
        refine hk _ _ _ _ _ _ ⟨?_, ?_, ?_⟩
        all_goals omega
      · refine zr_iload dL_hangs_46 (rfl : 46 + 2 = 48) rfl ?_
        refine zr_bipush dL_hangs_48 (rfl : 48 + 2 = 50) (by decide) ?_
        refine zr_icmp_gt (tgt := 221) dL_hangs_50 (by decide) (rfl : 50 + 3 = 53) (jI_lt (by first | omega | (simp only [bset, reduceIte, Nat.reduceEqDiff]; omega)) (by first | omega | (simp only [bset, reduceIte, Nat.reduceEqDiff]; omega)) (by first | omega | (simp only [bset, reduceIte, Nat.reduceEqDiff]; omega)) (by first | omega | (simp only [bset, reduceIte, Nat.reduceEqDiff]; omega))) (fun h50 => ?_) (fun h50 => ?_)
        · exfalso
          omega
        refine zr_iload dL_hangs_53 (rfl : 53 + 2 = 55) rfl ?_
        refine zr_if_eq (tgt := 221) dL_hangs_55 (by decide) (rfl : 55 + 3 = 58) (by first | exact jb_iff | exact jI_z (by first | omega | (simp only [bset, reduceIte, Nat.reduceEqDiff]; omega)) (by first | omega | (simp only [bset, reduceIte, Nat.reduceEqDiff]; omega))) (fun h55 => ?_) (fun h55 => ?_)
        · exfalso
          omega
        refine zr_aload_n dL_hangs_58 (rfl : 58 + 1 = 59) rfl ?_
        refine zr_iload dL_hangs_59 (rfl : 59 + 2 = 61) rfl ?_
        refine zr_iconst dL_hangs_61 (rfl : 61 + 1 = 62) ?_
        refine zr_fnH dL_hangs_62 (rfl : 62 + 3 = 65) l_L_132 (w_numberOf i 0 ⟨hn, by decide⟩ ok) rfl rfl (Nat.le_of_ble_eq_true rfl) ?_
        rw [e0]
        refine zr_istore (lv' := [_, _, _, _, _, _, _, _, _, _, _, _, _, _, _, _, _]) dL_hangs_65 (rfl : 65 + 2 = 67) (Nat.le_of_ble_eq_true rfl) rfl ?_
        refine zr_aload_n dL_hangs_67 (rfl : 67 + 1 = 68) rfl ?_
        refine zr_iload dL_hangs_68 (rfl : 68 + 2 = 70) rfl ?_
        refine zr_iconst dL_hangs_70 (rfl : 70 + 1 = 71) ?_
        refine zr_fnH dL_hangs_71 (rfl : 71 + 3 = 74) l_L_132 (w_numberOf i 1 ⟨hn, by decide⟩ ok) rfl rfl (Nat.le_of_ble_eq_true rfl) ?_
        rw [e1]
        refine zr_istore (lv' := [_, _, _, _, _, _, _, _, _, _, _, _, _, _, _, _, _]) dL_hangs_74 (rfl : 74 + 2 = 76) (Nat.le_of_ble_eq_true rfl) rfl ?_
        refine zr_aload_n dL_hangs_76 (rfl : 76 + 1 = 77) rfl ?_
        refine zr_iload dL_hangs_77 (rfl : 77 + 2 = 79) rfl ?_
        refine zr_iconst dL_hangs_79 (rfl : 79 + 1 = 80) ?_
        refine zr_fnH dL_hangs_80 (rfl : 80 + 3 = 83) l_L_132 (w_numberOf i 2 ⟨hn, by decide⟩ ok) rfl rfl (Nat.le_of_ble_eq_true rfl) ?_
        rw [e2]
        refine zr_istore (lv' := [_, _, _, _, _, _, _, _, _, _, _, _, _, _, _, _, _]) dL_hangs_83 (rfl : 83 + 2 = 85) (Nat.le_of_ble_eq_true rfl) rfl ?_
        refine zr_iload_n dL_hangs_85 (rfl : 85 + 1 = 86) rfl ?_
        refine zr_iload dL_hangs_86 (rfl : 86 + 2 = 88) rfl ?_
        refine zr_if_lt (tgt := 95) dL_hangs_88 (by decide) (rfl : 88 + 3 = 91) (jI_ltz (by first | omega | (simp only [bset, reduceIte, Nat.reduceEqDiff]; omega)) (by first | omega | (simp only [bset, reduceIte, Nat.reduceEqDiff]; omega))) (fun h88 => ?_) (fun h88 => ?_)
        rotate_left
        · exfalso
          omega
        refine zr_iconst dL_hangs_95 (rfl : 95 + 1 = 96) ?_
        refine zr_iadd dL_hangs_96 (rfl : 96 + 1 = 97) (by first | exact jI_add _ _ | rfl) ?_
        refine zr_istore_n (lv' := [_, _, _, _, _, _, _, _, _, _, _, _, _, _, _, _, _]) dL_hangs_97 (rfl : 97 + 1 = 98) (Nat.le_of_ble_eq_true rfl) rfl ?_
        refine zr_iload_n dL_hangs_98 (rfl : 98 + 1 = 99) rfl ?_
        refine zr_iload dL_hangs_99 (rfl : 99 + 2 = 101) rfl ?_
        refine zr_if_le (tgt := 108) dL_hangs_101 (by decide) (rfl : 101 + 3 = 104) (jI_lez (by first | omega | (simp only [bset, reduceIte, Nat.reduceEqDiff]; omega)) (by first | omega | (simp only [bset, reduceIte, Nat.reduceEqDiff]; omega))) (fun h101 => ?_) (fun h101 => ?_)
        · exfalso
          omega
        refine zr_iconst dL_hangs_104 (rfl : 104 + 1 = 105) ?_
        refine zr_goto (tgt := 109) dL_hangs_105 (by decide) ?_
        refine zr_iadd dL_hangs_109 (rfl : 109 + 1 = 110) (by first | exact jI_add _ _ | rfl) ?_
        refine zr_istore_n (lv' := [_, _, _, _, _, _, _, _, _, _, _, _, _, _, _, _, _]) dL_hangs_110 (rfl : 110 + 1 = 111) (Nat.le_of_ble_eq_true rfl) rfl ?_
        refine zr_iload dL_hangs_111 (rfl : 111 + 2 = 113) rfl ?_
        refine zr_aload_n dL_hangs_113 (rfl : 113 + 1 = 114) rfl ?_
        refine zr_iload dL_hangs_114 (rfl : 114 + 2 = 116) rfl ?_
        refine zr_iconst dL_hangs_116 (rfl : 116 + 1 = 117) ?_
        refine zr_fnH dL_hangs_117 (rfl : 117 + 3 = 120) l_L_132 (w_numberOf i 3 ⟨hn, by decide⟩ ok) rfl rfl (Nat.le_of_ble_eq_true rfl) ?_
        rw [e3]
        refine zr_iadd dL_hangs_120 (rfl : 120 + 1 = 121) (by first | exact jI_add _ _ | rfl) ?_
        refine zr_istore (lv' := [_, _, _, _, _, _, _, _, _, _, _, _, _, _, _, _, _]) dL_hangs_121 (rfl : 121 + 2 = 123) (Nat.le_of_ble_eq_true rfl) rfl ?_
        refine zr_iload dL_hangs_123 (rfl : 123 + 2 = 125) rfl ?_
        refine zr_iconst dL_hangs_125 (rfl : 125 + 1 = 126) ?_
        refine zr_icmp_ne (tgt := 133) dL_hangs_126 (by decide) (rfl : 126 + 3 = 129) (jI_eq (by first | omega | (simp only [bset, reduceIte, Nat.reduceEqDiff]; omega)) (by first | omega | (simp only [bset, reduceIte, Nat.reduceEqDiff]; omega)) (by first | omega | (simp only [bset, reduceIte, Nat.reduceEqDiff]; omega)) (by first | omega | (simp only [bset, reduceIte, Nat.reduceEqDiff]; omega))) (fun h126 => ?_) (fun h126 => ?_)
        · exfalso
          omega
        refine zr_iconst dL_hangs_129 (rfl : 129 + 1 = 130) ?_
        refine zr_goto (tgt := 134) dL_hangs_130 (by decide) ?_
        refine zr_iload dL_hangs_134 (rfl : 134 + 2 = 136) rfl ?_
        refine zr_iconst dL_hangs_136 (rfl : 136 + 1 = 137) ?_
        refine zr_icmp_ne (tgt := 144) dL_hangs_137 (by decide) (rfl : 137 + 3 = 140) (jI_eq (by first | omega | (simp only [bset, reduceIte, Nat.reduceEqDiff]; omega)) (by first | omega | (simp only [bset, reduceIte, Nat.reduceEqDiff]; omega)) (by first | omega | (simp only [bset, reduceIte, Nat.reduceEqDiff]; omega)) (by first | omega | (simp only [bset, reduceIte, Nat.reduceEqDiff]; omega))) (fun h137 => ?_) (fun h137 => ?_)
        · exfalso
          omega
        refine zr_iconst dL_hangs_140 (rfl : 140 + 1 = 141) ?_
        refine zr_goto (tgt := 145) dL_hangs_141 (by decide) ?_
        refine zr_icmp_ne (tgt := 212) dL_hangs_145 (by decide) (rfl : 145 + 3 = 148) (jI_eq (by first | omega | (simp only [bset, reduceIte, Nat.reduceEqDiff]; omega)) (by first | omega | (simp only [bset, reduceIte, Nat.reduceEqDiff]; omega)) (by first | omega | (simp only [bset, reduceIte, Nat.reduceEqDiff]; omega)) (by first | omega | (simp only [bset, reduceIte, Nat.reduceEqDiff]; omega))) (fun h145 => ?_) (fun h145 => ?_)
        · exfalso
          omega
        refine zr_iload dL_hangs_148 (rfl : 148 + 2 = 150) rfl ?_
        refine zr_if_lt (tgt := 183) dL_hangs_150 (by decide) (rfl : 150 + 3 = 153) (jI_ltz (by first | omega | (simp only [bset, reduceIte, Nat.reduceEqDiff]; omega)) (by first | omega | (simp only [bset, reduceIte, Nat.reduceEqDiff]; omega))) (fun h150 => ?_) (fun h150 => ?_)
        rotate_left
        · exfalso
          omega
        refine zr_iload dL_hangs_183 (rfl : 183 + 2 = 185) rfl ?_
        refine zr_iload_n dL_hangs_185 (rfl : 185 + 1 = 186) rfl ?_
        refine zr_icmp_gt (tgt := 212) dL_hangs_186 (by decide) (rfl : 186 + 3 = 189) (jI_lt (by first | omega | (simp only [bset, reduceIte, Nat.reduceEqDiff]; omega)) (by first | omega | (simp only [bset, reduceIte, Nat.reduceEqDiff]; omega)) (by first | omega | (simp only [bset, reduceIte, Nat.reduceEqDiff]; omega)) (by first | omega | (simp only [bset, reduceIte, Nat.reduceEqDiff]; omega))) (fun h186 => ?_) (fun h186 => ?_)
        · exfalso
          omega
        refine zr_iload dL_hangs_189 (rfl : 189 + 2 = 191) rfl ?_
        refine zr_if_eq (tgt := 208) dL_hangs_191 (by decide) (rfl : 191 + 3 = 194) (by first | exact jb_iff | exact jI_z (by first | omega | (simp only [bset, reduceIte, Nat.reduceEqDiff]; omega)) (by first | omega | (simp only [bset, reduceIte, Nat.reduceEqDiff]; omega))) (fun h191 => ?_) (fun h191 => ?_)
        · exfalso
          omega
        refine zr_aload_n dL_hangs_194 (rfl : 194 + 1 = 195) rfl ?_
        refine zr_iload_n dL_hangs_195 (rfl : 195 + 1 = 196) rfl ?_
        refine zr_iload dL_hangs_196 (rfl : 196 + 2 = 198) rfl ?_
        refine zr_isub dL_hangs_198 (rfl : 198 + 1 = 199) (by first | exact jI_sub _ _ | rfl) ?_
        refine zr_iconst dL_hangs_199 (rfl : 199 + 1 = 200) ?_
        refine zr_fnH dL_hangs_200 (rfl : 200 + 3 = 203) l_L_129 (w_called (B 12 0 - B 7 i) 0 (by first | omega | (simp only [bset, reduceIte, Nat.reduceEqDiff]; omega)) ⟨by omega, by decide⟩ ok) rfl rfl (Nat.le_of_ble_eq_true rfl) ?_
        refine zr_iload dL_hangs_203 (rfl : 203 + 2 = 205) rfl ?_
        refine zr_icmp_ne (tgt := 212) dL_hangs_205 (by decide) (rfl : 205 + 3 = 208) (jI_eq (by first | omega | (simp only [bset, reduceIte, Nat.reduceEqDiff]; omega)) (by first | omega | (simp only [bset, reduceIte, Nat.reduceEqDiff]; omega)) (by first | omega | (simp only [bset, reduceIte, Nat.reduceEqDiff]; omega)) (by first | omega | (simp only [bset, reduceIte, Nat.reduceEqDiff]; omega))) (fun h205 => ?_) (fun h205 => ?_)
        · exfalso
          omega
        refine zr_iconst dL_hangs_208 (rfl : 208 + 1 = 209) ?_
        refine zr_goto (tgt := 213) dL_hangs_209 (by decide) ?_
        refine zr_istore (lv' := [_, _, _, _, _, _, _, _, _, _, _, _, _, _, _, _, _]) dL_hangs_213 (rfl : 213 + 2 = 215) (Nat.le_of_ble_eq_true rfl) rfl ?_
        refine zr_iinc (lv' := [_, _, _, _, _, _, _, _, _, _, _, _, _, _, _, _, _]) dL_hangs_215 (rfl : 215 + 3 = 218) (Nat.le_of_ble_eq_true rfl) rfl (by first | exact jI_add _ _ | rfl) rfl ?_
        refine zr_goto (tgt := 46) dL_hangs_218 (by decide) ?_
        refine hk _ _ _ _ _ _ ⟨?_, ?_, ?_⟩
        all_goals omega
    · by_cases q9 : i = 90
      · have hat := hat1 q9 (by omega)
        by_cases q7 : B 7 i = 0
        · refine zr_iload dL_hangs_46 (rfl : 46 + 2 = 48) rfl ?_
          refine zr_bipush dL_hangs_48 (rfl : 48 + 2 = 50) (by decide) ?_
          refine zr_icmp_gt (tgt := 221) dL_hangs_50 (by decide) (rfl : 50 + 3 = 53) (jI_lt (by first | omega | (simp only [bset, reduceIte, Nat.reduceEqDiff]; omega)) (by first | omega | (simp only [bset, reduceIte, Nat.reduceEqDiff]; omega)) (by first | omega | (simp only [bset, reduceIte, Nat.reduceEqDiff]; omega)) (by first | omega | (simp only [bset, reduceIte, Nat.reduceEqDiff]; omega))) (fun h50 => ?_) (fun h50 => ?_)
          · exfalso
            omega
          refine zr_iload dL_hangs_53 (rfl : 53 + 2 = 55) rfl ?_
          refine zr_if_eq (tgt := 221) dL_hangs_55 (by decide) (rfl : 55 + 3 = 58) (by first | exact jb_iff | exact jI_z (by first | omega | (simp only [bset, reduceIte, Nat.reduceEqDiff]; omega)) (by first | omega | (simp only [bset, reduceIte, Nat.reduceEqDiff]; omega))) (fun h55 => ?_) (fun h55 => ?_)
          · exfalso
            omega
          refine zr_aload_n dL_hangs_58 (rfl : 58 + 1 = 59) rfl ?_
          refine zr_iload dL_hangs_59 (rfl : 59 + 2 = 61) rfl ?_
          refine zr_iconst dL_hangs_61 (rfl : 61 + 1 = 62) ?_
          refine zr_fnH dL_hangs_62 (rfl : 62 + 3 = 65) l_L_132 (w_numberOf i 0 ⟨hn, by decide⟩ ok) rfl rfl (Nat.le_of_ble_eq_true rfl) ?_
          rw [e0]
          refine zr_istore (lv' := [_, _, _, _, _, _, _, _, _, _, _, _, _, _, _, _, _]) dL_hangs_65 (rfl : 65 + 2 = 67) (Nat.le_of_ble_eq_true rfl) rfl ?_
          refine zr_aload_n dL_hangs_67 (rfl : 67 + 1 = 68) rfl ?_
          refine zr_iload dL_hangs_68 (rfl : 68 + 2 = 70) rfl ?_
          refine zr_iconst dL_hangs_70 (rfl : 70 + 1 = 71) ?_
          refine zr_fnH dL_hangs_71 (rfl : 71 + 3 = 74) l_L_132 (w_numberOf i 1 ⟨hn, by decide⟩ ok) rfl rfl (Nat.le_of_ble_eq_true rfl) ?_
          rw [e1]
          refine zr_istore (lv' := [_, _, _, _, _, _, _, _, _, _, _, _, _, _, _, _, _]) dL_hangs_74 (rfl : 74 + 2 = 76) (Nat.le_of_ble_eq_true rfl) rfl ?_
          refine zr_aload_n dL_hangs_76 (rfl : 76 + 1 = 77) rfl ?_
          refine zr_iload dL_hangs_77 (rfl : 77 + 2 = 79) rfl ?_
          refine zr_iconst dL_hangs_79 (rfl : 79 + 1 = 80) ?_
          refine zr_fnH dL_hangs_80 (rfl : 80 + 3 = 83) l_L_132 (w_numberOf i 2 ⟨hn, by decide⟩ ok) rfl rfl (Nat.le_of_ble_eq_true rfl) ?_
          rw [e2]
          refine zr_istore (lv' := [_, _, _, _, _, _, _, _, _, _, _, _, _, _, _, _, _]) dL_hangs_83 (rfl : 83 + 2 = 85) (Nat.le_of_ble_eq_true rfl) rfl ?_
          refine zr_iload_n dL_hangs_85 (rfl : 85 + 1 = 86) rfl ?_
          refine zr_iload dL_hangs_86 (rfl : 86 + 2 = 88) rfl ?_
          refine zr_if_lt (tgt := 95) dL_hangs_88 (by decide) (rfl : 88 + 3 = 91) (jI_ltz (by first | omega | (simp only [bset, reduceIte, Nat.reduceEqDiff]; omega)) (by first | omega | (simp only [bset, reduceIte, Nat.reduceEqDiff]; omega))) (fun h88 => ?_) (fun h88 => ?_)
          · exfalso
            omega
          refine zr_iconst dL_hangs_91 (rfl : 91 + 1 = 92) ?_
          refine zr_goto (tgt := 96) dL_hangs_92 (by decide) ?_
          refine zr_iadd dL_hangs_96 (rfl : 96 + 1 = 97) (by first | exact jI_add _ _ | rfl) ?_
          refine zr_istore_n (lv' := [_, _, _, _, _, _, _, _, _, _, _, _, _, _, _, _, _]) dL_hangs_97 (rfl : 97 + 1 = 98) (Nat.le_of_ble_eq_true rfl) rfl ?_
          refine zr_iload_n dL_hangs_98 (rfl : 98 + 1 = 99) rfl ?_
          refine zr_iload dL_hangs_99 (rfl : 99 + 2 = 101) rfl ?_
          refine zr_if_le (tgt := 108) dL_hangs_101 (by decide) (rfl : 101 + 3 = 104) (jI_lez (by first | omega | (simp only [bset, reduceIte, Nat.reduceEqDiff]; omega)) (by first | omega | (simp only [bset, reduceIte, Nat.reduceEqDiff]; omega))) (fun h101 => ?_) (fun h101 => ?_)
          rotate_left
          · exfalso
            omega
          refine zr_iconst dL_hangs_108 (rfl : 108 + 1 = 109) ?_
          refine zr_iadd dL_hangs_109 (rfl : 109 + 1 = 110) (by first | exact jI_add _ _ | rfl) ?_
          refine zr_istore_n (lv' := [_, _, _, _, _, _, _, _, _, _, _, _, _, _, _, _, _]) dL_hangs_110 (rfl : 110 + 1 = 111) (Nat.le_of_ble_eq_true rfl) rfl ?_
          refine zr_iload dL_hangs_111 (rfl : 111 + 2 = 113) rfl ?_
          refine zr_aload_n dL_hangs_113 (rfl : 113 + 1 = 114) rfl ?_
          refine zr_iload dL_hangs_114 (rfl : 114 + 2 = 116) rfl ?_
          refine zr_iconst dL_hangs_116 (rfl : 116 + 1 = 117) ?_
          refine zr_fnH dL_hangs_117 (rfl : 117 + 3 = 120) l_L_132 (w_numberOf i 3 ⟨hn, by decide⟩ ok) rfl rfl (Nat.le_of_ble_eq_true rfl) ?_
          rw [e3]
          refine zr_iadd dL_hangs_120 (rfl : 120 + 1 = 121) (by first | exact jI_add _ _ | rfl) ?_
          refine zr_istore (lv' := [_, _, _, _, _, _, _, _, _, _, _, _, _, _, _, _, _]) dL_hangs_121 (rfl : 121 + 2 = 123) (Nat.le_of_ble_eq_true rfl) rfl ?_
          refine zr_iload dL_hangs_123 (rfl : 123 + 2 = 125) rfl ?_
          refine zr_iconst dL_hangs_125 (rfl : 125 + 1 = 126) ?_
          refine zr_icmp_ne (tgt := 133) dL_hangs_126 (by decide) (rfl : 126 + 3 = 129) (jI_eq (by first | omega | (simp only [bset, reduceIte, Nat.reduceEqDiff]; omega)) (by first | omega | (simp only [bset, reduceIte, Nat.reduceEqDiff]; omega)) (by first | omega | (simp only [bset, reduceIte, Nat.reduceEqDiff]; omega)) (by first | omega | (simp only [bset, reduceIte, Nat.reduceEqDiff]; omega))) (fun h126 => ?_) (fun h126 => ?_)
          rotate_left
          · exfalso
            omega
          refine zr_iconst dL_hangs_133 (rfl : 133 + 1 = 134) ?_
          refine zr_iload dL_hangs_134 (rfl : 134 + 2 = 136) rfl ?_
          refine zr_iconst dL_hangs_136 (rfl : 136 + 1 = 137) ?_
          refine zr_icmp_ne (tgt := 144) dL_hangs_137 (by decide) (rfl : 137 + 3 = 140) (jI_eq (by first | omega | (simp only [bset, reduceIte, Nat.reduceEqDiff]; omega)) (by first | omega | (simp only [bset, reduceIte, Nat.reduceEqDiff]; omega)) (by first | omega | (simp only [bset, reduceIte, Nat.reduceEqDiff]; omega)) (by first | omega | (simp only [bset, reduceIte, Nat.reduceEqDiff]; omega))) (fun h137 => ?_) (fun h137 => ?_)
          rotate_left
          · exfalso
            omega
          refine zr_iconst dL_hangs_144 (rfl : 144 + 1 = 145) ?_
          refine zr_icmp_ne (tgt := 212) dL_hangs_145 (by decide) (rfl : 145 + 3 = 148) (jI_eq (by first | omega | (simp only [bset, reduceIte, Nat.reduceEqDiff]; omega)) (by first | omega | (simp only [bset, reduceIte, Nat.reduceEqDiff]; omega)) (by first | omega | (simp only [bset, reduceIte, Nat.reduceEqDiff]; omega)) (by first | omega | (simp only [bset, reduceIte, Nat.reduceEqDiff]; omega))) (fun h145 => ?_) (fun h145 => ?_)
          · exfalso
            omega
          refine zr_iload dL_hangs_148 (rfl : 148 + 2 = 150) rfl ?_
          refine zr_if_lt (tgt := 183) dL_hangs_150 (by decide) (rfl : 150 + 3 = 153) (jI_ltz (by first | omega | (simp only [bset, reduceIte, Nat.reduceEqDiff]; omega)) (by first | omega | (simp only [bset, reduceIte, Nat.reduceEqDiff]; omega))) (fun h150 => ?_) (fun h150 => ?_)
          · exfalso
            omega
          refine zr_aload_n dL_hangs_153 (rfl : 153 + 1 = 154) rfl ?_
          refine zr_iload dL_hangs_154 (rfl : 154 + 2 = 156) rfl ?_
          refine zr_iload dL_hangs_156 (rfl : 156 + 2 = 158) rfl ?_
          refine zr_iload dL_hangs_158 (rfl : 158 + 2 = 160) rfl ?_
          refine zr_bipush dL_hangs_160 (rfl : 160 + 2 = 162) (by decide) ?_
          refine zr_icmp_ne (tgt := 170) dL_hangs_162 (by decide) (rfl : 162 + 3 = 165) (jI_eq (by first | omega | (simp only [bset, reduceIte, Nat.reduceEqDiff]; omega)) (by first | omega | (simp only [bset, reduceIte, Nat.reduceEqDiff]; omega)) (by first | omega | (simp only [bset, reduceIte, Nat.reduceEqDiff]; omega)) (by first | omega | (simp only [bset, reduceIte, Nat.reduceEqDiff]; omega))) (fun h162 => ?_) (fun h162 => ?_)
          · exfalso
            omega
          refine zr_bipush dL_hangs_165 (rfl : 165 + 2 = 167) (by decide) ?_
          refine zr_goto (tgt := 175) dL_hangs_167 (by decide) ?_
          refine zr_fnH dL_hangs_175 (rfl : 175 + 3 = 178) l_L_134 (w_at cd rr _ ⟨⟨by omega, by omega⟩, ⟨by omega, by omega⟩, by omega, by omega⟩) rfl rfl (Nat.le_of_ble_eq_true rfl) ?_
          refine zr_iload dL_hangs_178 (rfl : 178 + 2 = 180) rfl ?_
          refine zr_icmp_ne (tgt := 212) dL_hangs_180 (by decide) (rfl : 180 + 3 = 183) (jI_eq (by first | omega | (simp only [bset, reduceIte, Nat.reduceEqDiff]; omega)) (by first | omega | (simp only [bset, reduceIte, Nat.reduceEqDiff]; omega)) (by first | omega | (simp only [bset, reduceIte, Nat.reduceEqDiff]; omega)) (by first | omega | (simp only [bset, reduceIte, Nat.reduceEqDiff]; omega))) (fun h180 => ?_) (fun h180 => ?_)
          · exfalso
            omega
          refine zr_iload dL_hangs_183 (rfl : 183 + 2 = 185) rfl ?_
          refine zr_iload_n dL_hangs_185 (rfl : 185 + 1 = 186) rfl ?_
          refine zr_icmp_gt (tgt := 212) dL_hangs_186 (by decide) (rfl : 186 + 3 = 189) (jI_lt (by first | omega | (simp only [bset, reduceIte, Nat.reduceEqDiff]; omega)) (by first | omega | (simp only [bset, reduceIte, Nat.reduceEqDiff]; omega)) (by first | omega | (simp only [bset, reduceIte, Nat.reduceEqDiff]; omega)) (by first | omega | (simp only [bset, reduceIte, Nat.reduceEqDiff]; omega))) (fun h186 => ?_) (fun h186 => ?_)
          · exfalso
            omega
          refine zr_iload dL_hangs_189 (rfl : 189 + 2 = 191) rfl ?_
          refine zr_if_eq (tgt := 208) dL_hangs_191 (by decide) (rfl : 191 + 3 = 194) (by first | exact jb_iff | exact jI_z (by first | omega | (simp only [bset, reduceIte, Nat.reduceEqDiff]; omega)) (by first | omega | (simp only [bset, reduceIte, Nat.reduceEqDiff]; omega))) (fun h191 => ?_) (fun h191 => ?_)
          rotate_left
          · exfalso
            omega
          refine zr_iconst dL_hangs_208 (rfl : 208 + 1 = 209) ?_
          refine zr_goto (tgt := 213) dL_hangs_209 (by decide) ?_
          refine zr_istore (lv' := [_, _, _, _, _, _, _, _, _, _, _, _, _, _, _, _, _]) dL_hangs_213 (rfl : 213 + 2 = 215) (Nat.le_of_ble_eq_true rfl) rfl ?_
          refine zr_iinc (lv' := [_, _, _, _, _, _, _, _, _, _, _, _, _, _, _, _, _]) dL_hangs_215 (rfl : 215 + 3 = 218) (Nat.le_of_ble_eq_true rfl) rfl (by first | exact jI_add _ _ | rfl) rfl ?_
          refine zr_goto (tgt := 46) dL_hangs_218 (by decide) ?_
          refine hk _ _ _ _ _ _ ⟨?_, ?_, ?_⟩
          all_goals omega
        · refine zr_iload dL_hangs_46 (rfl : 46 + 2 = 48) rfl ?_
          refine zr_bipush dL_hangs_48 (rfl : 48 + 2 = 50) (by decide) ?_
          refine zr_icmp_gt (tgt := 221) dL_hangs_50 (by decide) (rfl : 50 + 3 = 53) (jI_lt (by first | omega | (simp only [bset, reduceIte, Nat.reduceEqDiff]; omega)) (by first | omega | (simp only [bset, reduceIte, Nat.reduceEqDiff]; omega)) (by first | omega | (simp only [bset, reduceIte, Nat.reduceEqDiff]; omega)) (by first | omega | (simp only [bset, reduceIte, Nat.reduceEqDiff]; omega))) (fun h50 => ?_) (fun h50 => ?_)
          · exfalso
            omega
          refine zr_iload dL_hangs_53 (rfl : 53 + 2 = 55) rfl ?_
          refine zr_if_eq (tgt := 221) dL_hangs_55 (by decide) (rfl : 55 + 3 = 58) (by first | exact jb_iff | exact jI_z (by first | omega | (simp only [bset, reduceIte, Nat.reduceEqDiff]; omega)) (by first | omega | (simp only [bset, reduceIte, Nat.reduceEqDiff]; omega))) (fun h55 => ?_) (fun h55 => ?_)
          · exfalso
            omega
          refine zr_aload_n dL_hangs_58 (rfl : 58 + 1 = 59) rfl ?_
          refine zr_iload dL_hangs_59 (rfl : 59 + 2 = 61) rfl ?_
          refine zr_iconst dL_hangs_61 (rfl : 61 + 1 = 62) ?_
          refine zr_fnH dL_hangs_62 (rfl : 62 + 3 = 65) l_L_132 (w_numberOf i 0 ⟨hn, by decide⟩ ok) rfl rfl (Nat.le_of_ble_eq_true rfl) ?_
          rw [e0]
          refine zr_istore (lv' := [_, _, _, _, _, _, _, _, _, _, _, _, _, _, _, _, _]) dL_hangs_65 (rfl : 65 + 2 = 67) (Nat.le_of_ble_eq_true rfl) rfl ?_
          refine zr_aload_n dL_hangs_67 (rfl : 67 + 1 = 68) rfl ?_
          refine zr_iload dL_hangs_68 (rfl : 68 + 2 = 70) rfl ?_
          refine zr_iconst dL_hangs_70 (rfl : 70 + 1 = 71) ?_
          refine zr_fnH dL_hangs_71 (rfl : 71 + 3 = 74) l_L_132 (w_numberOf i 1 ⟨hn, by decide⟩ ok) rfl rfl (Nat.le_of_ble_eq_true rfl) ?_
          rw [e1]
          refine zr_istore (lv' := [_, _, _, _, _, _, _, _, _, _, _, _, _, _, _, _, _]) dL_hangs_74 (rfl : 74 + 2 = 76) (Nat.le_of_ble_eq_true rfl) rfl ?_
          refine zr_aload_n dL_hangs_76 (rfl : 76 + 1 = 77) rfl ?_
          refine zr_iload dL_hangs_77 (rfl : 77 + 2 = 79) rfl ?_
          refine zr_iconst dL_hangs_79 (rfl : 79 + 1 = 80) ?_
          refine zr_fnH dL_hangs_80 (rfl : 80 + 3 = 83) l_L_132 (w_numberOf i 2 ⟨hn, by decide⟩ ok) rfl rfl (Nat.le_of_ble_eq_true rfl) ?_
          rw [e2]
          refine zr_istore (lv' := [_, _, _, _, _, _, _, _, _, _, _, _, _, _, _, _, _]) dL_hangs_83 (rfl : 83 + 2 = 85) (Nat.le_of_ble_eq_true rfl) rfl ?_
          refine zr_iload_n dL_hangs_85 (rfl : 85 + 1 = 86) rfl ?_
          refine zr_iload dL_hangs_86 (rfl : 86 + 2 = 88) rfl ?_
          refine zr_if_lt (tgt := 95) dL_hangs_88 (by decide) (rfl : 88 + 3 = 91) (jI_ltz (by first | omega | (simp only [bset, reduceIte, Nat.reduceEqDiff]; omega)) (by first | omega | (simp only [bset, reduceIte, Nat.reduceEqDiff]; omega))) (fun h88 => ?_) (fun h88 => ?_)
          · exfalso
            omega
          refine zr_iconst dL_hangs_91 (rfl : 91 + 1 = 92) ?_
          refine zr_goto (tgt := 96) dL_hangs_92 (by decide) ?_
          refine zr_iadd dL_hangs_96 (rfl : 96 + 1 = 97) (by first | exact jI_add _ _ | rfl) ?_
          refine zr_istore_n (lv' := [_, _, _, _, _, _, _, _, _, _, _, _, _, _, _, _, _]) dL_hangs_97 (rfl : 97 + 1 = 98) (Nat.le_of_ble_eq_true rfl) rfl ?_
          refine zr_iload_n dL_hangs_98 (rfl : 98 + 1 = 99) rfl ?_
          refine zr_iload dL_hangs_99 (rfl : 99 + 2 = 101) rfl ?_
          refine zr_if_le (tgt := 108) dL_hangs_101 (by decide) (rfl : 101 + 3 = 104) (jI_lez (by first | omega | (simp only [bset, reduceIte, Nat.reduceEqDiff]; omega)) (by first | omega | (simp only [bset, reduceIte, Nat.reduceEqDiff]; omega))) (fun h101 => ?_) (fun h101 => ?_)
          · exfalso
            omega
          refine zr_iconst dL_hangs_104 (rfl : 104 + 1 = 105) ?_
          refine zr_goto (tgt := 109) dL_hangs_105 (by decide) ?_
          refine zr_iadd dL_hangs_109 (rfl : 109 + 1 = 110) (by first | exact jI_add _ _ | rfl) ?_
          refine zr_istore_n (lv' := [_, _, _, _, _, _, _, _, _, _, _, _, _, _, _, _, _]) dL_hangs_110 (rfl : 110 + 1 = 111) (Nat.le_of_ble_eq_true rfl) rfl ?_
          refine zr_iload dL_hangs_111 (rfl : 111 + 2 = 113) rfl ?_
          refine zr_aload_n dL_hangs_113 (rfl : 113 + 1 = 114) rfl ?_
          refine zr_iload dL_hangs_114 (rfl : 114 + 2 = 116) rfl ?_
          refine zr_iconst dL_hangs_116 (rfl : 116 + 1 = 117) ?_
          refine zr_fnH dL_hangs_117 (rfl : 117 + 3 = 120) l_L_132 (w_numberOf i 3 ⟨hn, by decide⟩ ok) rfl rfl (Nat.le_of_ble_eq_true rfl) ?_
          rw [e3]
          refine zr_iadd dL_hangs_120 (rfl : 120 + 1 = 121) (by first | exact jI_add _ _ | rfl) ?_
          refine zr_istore (lv' := [_, _, _, _, _, _, _, _, _, _, _, _, _, _, _, _, _]) dL_hangs_121 (rfl : 121 + 2 = 123) (Nat.le_of_ble_eq_true rfl) rfl ?_
          refine zr_iload dL_hangs_123 (rfl : 123 + 2 = 125) rfl ?_
          refine zr_iconst dL_hangs_125 (rfl : 125 + 1 = 126) ?_
          refine zr_icmp_ne (tgt := 133) dL_hangs_126 (by decide) (rfl : 126 + 3 = 129) (jI_eq (by first | omega | (simp only [bset, reduceIte, Nat.reduceEqDiff]; omega)) (by first | omega | (simp only [bset, reduceIte, Nat.reduceEqDiff]; omega)) (by first | omega | (simp only [bset, reduceIte, Nat.reduceEqDiff]; omega)) (by first | omega | (simp only [bset, reduceIte, Nat.reduceEqDiff]; omega))) (fun h126 => ?_) (fun h126 => ?_)
          rotate_left
          · exfalso
            omega
          refine zr_iconst dL_hangs_133 (rfl : 133 + 1 = 134) ?_
          refine zr_iload dL_hangs_134 (rfl : 134 + 2 = 136) rfl ?_
          refine zr_iconst dL_hangs_136 (rfl : 136 + 1 = 137) ?_
          refine zr_icmp_ne (tgt := 144) dL_hangs_137 (by decide) (rfl : 137 + 3 = 140) (jI_eq (by first | omega | (simp only [bset, reduceIte, Nat.reduceEqDiff]; omega)) (by first | omega | (simp only [bset, reduceIte, Nat.reduceEqDiff]; omega)) (by first | omega | (simp only [bset, reduceIte, Nat.reduceEqDiff]; omega)) (by first | omega | (simp only [bset, reduceIte, Nat.reduceEqDiff]; omega))) (fun h137 => ?_) (fun h137 => ?_)
          rotate_left
          · exfalso
            omega
          refine zr_iconst dL_hangs_144 (rfl : 144 + 1 = 145) ?_
          refine zr_icmp_ne (tgt := 212) dL_hangs_145 (by decide) (rfl : 145 + 3 = 148) (jI_eq (by first | omega | (simp only [bset, reduceIte, Nat.reduceEqDiff]; omega)) (by first | omega | (simp only [bset, reduceIte, Nat.reduceEqDiff]; omega)) (by first | omega | (simp only [bset, reduceIte, Nat.reduceEqDiff]; omega)) (by first | omega | (simp only [bset, reduceIte, Nat.reduceEqDiff]; omega))) (fun h145 => ?_) (fun h145 => ?_)
          · exfalso
            omega
          refine zr_iload dL_hangs_148 (rfl : 148 + 2 = 150) rfl ?_
          refine zr_if_lt (tgt := 183) dL_hangs_150 (by decide) (rfl : 150 + 3 = 153) (jI_ltz (by first | omega | (simp only [bset, reduceIte, Nat.reduceEqDiff]; omega)) (by first | omega | (simp only [bset, reduceIte, Nat.reduceEqDiff]; omega))) (fun h150 => ?_) (fun h150 => ?_)
          · exfalso
            omega
          refine zr_aload_n dL_hangs_153 (rfl : 153 + 1 = 154) rfl ?_
          refine zr_iload dL_hangs_154 (rfl : 154 + 2 = 156) rfl ?_
          refine zr_iload dL_hangs_156 (rfl : 156 + 2 = 158) rfl ?_
          refine zr_iload dL_hangs_158 (rfl : 158 + 2 = 160) rfl ?_
          refine zr_bipush dL_hangs_160 (rfl : 160 + 2 = 162) (by decide) ?_
          refine zr_icmp_ne (tgt := 170) dL_hangs_162 (by decide) (rfl : 162 + 3 = 165) (jI_eq (by first | omega | (simp only [bset, reduceIte, Nat.reduceEqDiff]; omega)) (by first | omega | (simp only [bset, reduceIte, Nat.reduceEqDiff]; omega)) (by first | omega | (simp only [bset, reduceIte, Nat.reduceEqDiff]; omega)) (by first | omega | (simp only [bset, reduceIte, Nat.reduceEqDiff]; omega))) (fun h162 => ?_) (fun h162 => ?_)
          · exfalso
            omega
          refine zr_bipush dL_hangs_165 (rfl : 165 + 2 = 167) (by decide) ?_
          refine zr_goto (tgt := 175) dL_hangs_167 (by decide) ?_
          refine zr_fnH dL_hangs_175 (rfl : 175 + 3 = 178) l_L_134 (w_at cd rr _ ⟨⟨by omega, by omega⟩, ⟨by omega, by omega⟩, by omega, by omega⟩) rfl rfl (Nat.le_of_ble_eq_true rfl) ?_
          refine zr_iload dL_hangs_178 (rfl : 178 + 2 = 180) rfl ?_
          refine zr_icmp_ne (tgt := 212) dL_hangs_180 (by decide) (rfl : 180 + 3 = 183) (jI_eq (by first | omega | (simp only [bset, reduceIte, Nat.reduceEqDiff]; omega)) (by first | omega | (simp only [bset, reduceIte, Nat.reduceEqDiff]; omega)) (by first | omega | (simp only [bset, reduceIte, Nat.reduceEqDiff]; omega)) (by first | omega | (simp only [bset, reduceIte, Nat.reduceEqDiff]; omega))) (fun h180 => ?_) (fun h180 => ?_)
          · exfalso
            omega
          refine zr_iload dL_hangs_183 (rfl : 183 + 2 = 185) rfl ?_
          refine zr_iload_n dL_hangs_185 (rfl : 185 + 1 = 186) rfl ?_
          refine zr_icmp_gt (tgt := 212) dL_hangs_186 (by decide) (rfl : 186 + 3 = 189) (jI_lt (by first | omega | (simp only [bset, reduceIte, Nat.reduceEqDiff]; omega)) (by first | omega | (simp only [bset, reduceIte, Nat.reduceEqDiff]; omega)) (by first | omega | (simp only [bset, reduceIte, Nat.reduceEqDiff]; omega)) (by first | omega | (simp only [bset, reduceIte, Nat.reduceEqDiff]; omega))) (fun h186 => ?_) (fun h186 => ?_)
          · exfalso
            omega
          refine zr_iload dL_hangs_189 (rfl : 189 + 2 = 191) rfl ?_
          refine zr_if_eq (tgt := 208) dL_hangs_191 (by decide) (rfl : 191 + 3 = 194) (by first | exact jb_iff | exact jI_z (by first | omega | (simp only [bset, reduceIte, Nat.reduceEqDiff]; omega)) (by first | omega | (simp only [bset, reduceIte, Nat.reduceEqDiff]; omega))) (fun h191 => ?_) (fun h191 => ?_)
          · exfalso
            omega
          refine zr_aload_n dL_hangs_194 (rfl : 194 + 1 = 195) rfl ?_
          refine zr_iload_n dL_hangs_195 (rfl : 195 + 1 = 196) rfl ?_
          refine zr_iload dL_hangs_196 (rfl : 196 + 2 = 198) rfl ?_
          refine zr_isub dL_hangs_198 (rfl : 198 + 1 = 199) (by first | exact jI_sub _ _ | rfl) ?_
          refine zr_iconst dL_hangs_199 (rfl : 199 + 1 = 200) ?_
          refine zr_fnH dL_hangs_200 (rfl : 200 + 3 = 203) l_L_129 (w_called (B 12 0 - B 7 i) 0 (by first | omega | (simp only [bset, reduceIte, Nat.reduceEqDiff]; omega)) ⟨by omega, by decide⟩ ok) rfl rfl (Nat.le_of_ble_eq_true rfl) ?_
          refine zr_iload dL_hangs_203 (rfl : 203 + 2 = 205) rfl ?_
          refine zr_icmp_ne (tgt := 212) dL_hangs_205 (by decide) (rfl : 205 + 3 = 208) (jI_eq (by first | omega | (simp only [bset, reduceIte, Nat.reduceEqDiff]; omega)) (by first | omega | (simp only [bset, reduceIte, Nat.reduceEqDiff]; omega)) (by first | omega | (simp only [bset, reduceIte, Nat.reduceEqDiff]; omega)) (by first | omega | (simp only [bset, reduceIte, Nat.reduceEqDiff]; omega))) (fun h205 => ?_) (fun h205 => ?_)
          · exfalso
            omega
          refine zr_iconst dL_hangs_208 (rfl : 208 + 1 = 209) ?_
          refine zr_goto (tgt := 213) dL_hangs_209 (by decide) ?_
          refine zr_istore (lv' := [_, _, _, _, _, _, _, _, _, _, _, _, _, _, _, _, _]) dL_hangs_213 (rfl : 213 + 2 = 215) (Nat.le_of_ble_eq_true rfl) rfl ?_
          refine zr_iinc (lv' := [_, _, _, _, _, _, _, _, _, _, _, _, _, _, _, _, _]) dL_hangs_215 (rfl : 215 + 3 = 218) (Nat.le_of_ble_eq_true rfl) rfl (by first | exact jI_add _ _ | rfl) rfl ?_
          refine zr_goto (tgt := 46) dL_hangs_218 (by decide) ?_
          refine hk _ _ _ _ _ _ ⟨?_, ?_, ?_⟩
          all_goals omega
      · have hat := hat2 q9 (by omega)
        by_cases q7 : B 7 i = 0
        · refine zr_iload dL_hangs_46 (rfl : 46 + 2 = 48) rfl ?_
          refine zr_bipush dL_hangs_48 (rfl : 48 + 2 = 50) (by decide) ?_
          refine zr_icmp_gt (tgt := 221) dL_hangs_50 (by decide) (rfl : 50 + 3 = 53) (jI_lt (by first | omega | (simp only [bset, reduceIte, Nat.reduceEqDiff]; omega)) (by first | omega | (simp only [bset, reduceIte, Nat.reduceEqDiff]; omega)) (by first | omega | (simp only [bset, reduceIte, Nat.reduceEqDiff]; omega)) (by first | omega | (simp only [bset, reduceIte, Nat.reduceEqDiff]; omega))) (fun h50 => ?_) (fun h50 => ?_)
          · exfalso
            omega
          refine zr_iload dL_hangs_53 (rfl : 53 + 2 = 55) rfl ?_
          refine zr_if_eq (tgt := 221) dL_hangs_55 (by decide) (rfl : 55 + 3 = 58) (by first | exact jb_iff | exact jI_z (by first | omega | (simp only [bset, reduceIte, Nat.reduceEqDiff]; omega)) (by first | omega | (simp only [bset, reduceIte, Nat.reduceEqDiff]; omega))) (fun h55 => ?_) (fun h55 => ?_)
          · exfalso
            omega
          refine zr_aload_n dL_hangs_58 (rfl : 58 + 1 = 59) rfl ?_
          refine zr_iload dL_hangs_59 (rfl : 59 + 2 = 61) rfl ?_
          refine zr_iconst dL_hangs_61 (rfl : 61 + 1 = 62) ?_
          refine zr_fnH dL_hangs_62 (rfl : 62 + 3 = 65) l_L_132 (w_numberOf i 0 ⟨hn, by decide⟩ ok) rfl rfl (Nat.le_of_ble_eq_true rfl) ?_
          rw [e0]
          refine zr_istore (lv' := [_, _, _, _, _, _, _, _, _, _, _, _, _, _, _, _, _]) dL_hangs_65 (rfl : 65 + 2 = 67) (Nat.le_of_ble_eq_true rfl) rfl ?_
          refine zr_aload_n dL_hangs_67 (rfl : 67 + 1 = 68) rfl ?_
          refine zr_iload dL_hangs_68 (rfl : 68 + 2 = 70) rfl ?_
          refine zr_iconst dL_hangs_70 (rfl : 70 + 1 = 71) ?_
          refine zr_fnH dL_hangs_71 (rfl : 71 + 3 = 74) l_L_132 (w_numberOf i 1 ⟨hn, by decide⟩ ok) rfl rfl (Nat.le_of_ble_eq_true rfl) ?_
          rw [e1]
          refine zr_istore (lv' := [_, _, _, _, _, _, _, _, _, _, _, _, _, _, _, _, _]) dL_hangs_74 (rfl : 74 + 2 = 76) (Nat.le_of_ble_eq_true rfl) rfl ?_
          refine zr_aload_n dL_hangs_76 (rfl : 76 + 1 = 77) rfl ?_
          refine zr_iload dL_hangs_77 (rfl : 77 + 2 = 79) rfl ?_
          refine zr_iconst dL_hangs_79 (rfl : 79 + 1 = 80) ?_
          refine zr_fnH dL_hangs_80 (rfl : 80 + 3 = 83) l_L_132 (w_numberOf i 2 ⟨hn, by decide⟩ ok) rfl rfl (Nat.le_of_ble_eq_true rfl) ?_
          rw [e2]
          refine zr_istore (lv' := [_, _, _, _, _, _, _, _, _, _, _, _, _, _, _, _, _]) dL_hangs_83 (rfl : 83 + 2 = 85) (Nat.le_of_ble_eq_true rfl) rfl ?_
          refine zr_iload_n dL_hangs_85 (rfl : 85 + 1 = 86) rfl ?_
          refine zr_iload dL_hangs_86 (rfl : 86 + 2 = 88) rfl ?_
          refine zr_if_lt (tgt := 95) dL_hangs_88 (by decide) (rfl : 88 + 3 = 91) (jI_ltz (by first | omega | (simp only [bset, reduceIte, Nat.reduceEqDiff]; omega)) (by first | omega | (simp only [bset, reduceIte, Nat.reduceEqDiff]; omega))) (fun h88 => ?_) (fun h88 => ?_)
          · exfalso
            omega
          refine zr_iconst dL_hangs_91 (rfl : 91 + 1 = 92) ?_
          refine zr_goto (tgt := 96) dL_hangs_92 (by decide) ?_
          refine zr_iadd dL_hangs_96 (rfl : 96 + 1 = 97) (by first | exact jI_add _ _ | rfl) ?_
          refine zr_istore_n (lv' := [_, _, _, _, _, _, _, _, _, _, _, _, _, _, _, _, _]) dL_hangs_97 (rfl : 97 + 1 = 98) (Nat.le_of_ble_eq_true rfl) rfl ?_
          refine zr_iload_n dL_hangs_98 (rfl : 98 + 1 = 99) rfl ?_
          refine zr_iload dL_hangs_99 (rfl : 99 + 2 = 101) rfl ?_
          refine zr_if_le (tgt := 108) dL_hangs_101 (by decide) (rfl : 101 + 3 = 104) (jI_lez (by first | omega | (simp only [bset, reduceIte, Nat.reduceEqDiff]; omega)) (by first | omega | (simp only [bset, reduceIte, Nat.reduceEqDiff]; omega))) (fun h101 => ?_) (fun h101 => ?_)
          rotate_left
          · exfalso
            omega
          refine zr_iconst dL_hangs_108 (rfl : 108 + 1 = 109) ?_
          refine zr_iadd dL_hangs_109 (rfl : 109 + 1 = 110) (by first | exact jI_add _ _ | rfl) ?_
          refine zr_istore_n (lv' := [_, _, _, _, _, _, _, _, _, _, _, _, _, _, _, _, _]) dL_hangs_110 (rfl : 110 + 1 = 111) (Nat.le_of_ble_eq_true rfl) rfl ?_
          refine zr_iload dL_hangs_111 (rfl : 111 + 2 = 113) rfl ?_
          refine zr_aload_n dL_hangs_113 (rfl : 113 + 1 = 114) rfl ?_
          refine zr_iload dL_hangs_114 (rfl : 114 + 2 = 116) rfl ?_
          refine zr_iconst dL_hangs_116 (rfl : 116 + 1 = 117) ?_
          refine zr_fnH dL_hangs_117 (rfl : 117 + 3 = 120) l_L_132 (w_numberOf i 3 ⟨hn, by decide⟩ ok) rfl rfl (Nat.le_of_ble_eq_true rfl) ?_
          rw [e3]
          refine zr_iadd dL_hangs_120 (rfl : 120 + 1 = 121) (by first | exact jI_add _ _ | rfl) ?_
          refine zr_istore (lv' := [_, _, _, _, _, _, _, _, _, _, _, _, _, _, _, _, _]) dL_hangs_121 (rfl : 121 + 2 = 123) (Nat.le_of_ble_eq_true rfl) rfl ?_
          refine zr_iload dL_hangs_123 (rfl : 123 + 2 = 125) rfl ?_
          refine zr_iconst dL_hangs_125 (rfl : 125 + 1 = 126) ?_
          refine zr_icmp_ne (tgt := 133) dL_hangs_126 (by decide) (rfl : 126 + 3 = 129) (jI_eq (by first | omega | (simp only [bset, reduceIte, Nat.reduceEqDiff]; omega)) (by first | omega | (simp only [bset, reduceIte, Nat.reduceEqDiff]; omega)) (by first | omega | (simp only [bset, reduceIte, Nat.reduceEqDiff]; omega)) (by first | omega | (simp only [bset, reduceIte, Nat.reduceEqDiff]; omega))) (fun h126 => ?_) (fun h126 => ?_)
          rotate_left
          · exfalso
            omega
          refine zr_iconst dL_hangs_133 (rfl : 133 + 1 = 134) ?_
          refine zr_iload dL_hangs_134 (rfl : 134 + 2 = 136) rfl ?_
          refine zr_iconst dL_hangs_136 (rfl : 136 + 1 = 137) ?_
          refine zr_icmp_ne (tgt := 144) dL_hangs_137 (by decide) (rfl : 137 + 3 = 140) (jI_eq (by first | omega | (simp only [bset, reduceIte, Nat.reduceEqDiff]; omega)) (by first | omega | (simp only [bset, reduceIte, Nat.reduceEqDiff]; omega)) (by first | omega | (simp only [bset, reduceIte, Nat.reduceEqDiff]; omega)) (by first | omega | (simp only [bset, reduceIte, Nat.reduceEqDiff]; omega))) (fun h137 => ?_) (fun h137 => ?_)
          rotate_left
          · exfalso
            omega
          refine zr_iconst dL_hangs_144 (rfl : 144 + 1 = 145) ?_
          refine zr_icmp_ne (tgt := 212) dL_hangs_145 (by decide) (rfl : 145 + 3 = 148) (jI_eq (by first | omega | (simp only [bset, reduceIte, Nat.reduceEqDiff]; omega)) (by first | omega | (simp only [bset, reduceIte, Nat.reduceEqDiff]; omega)) (by first | omega | (simp only [bset, reduceIte, Nat.reduceEqDiff]; omega)) (by first | omega | (simp only [bset, reduceIte, Nat.reduceEqDiff]; omega))) (fun h145 => ?_) (fun h145 => ?_)
          · exfalso
            omega
          refine zr_iload dL_hangs_148 (rfl : 148 + 2 = 150) rfl ?_
          refine zr_if_lt (tgt := 183) dL_hangs_150 (by decide) (rfl : 150 + 3 = 153) (jI_ltz (by first | omega | (simp only [bset, reduceIte, Nat.reduceEqDiff]; omega)) (by first | omega | (simp only [bset, reduceIte, Nat.reduceEqDiff]; omega))) (fun h150 => ?_) (fun h150 => ?_)
          · exfalso
            omega
          refine zr_aload_n dL_hangs_153 (rfl : 153 + 1 = 154) rfl ?_
          refine zr_iload dL_hangs_154 (rfl : 154 + 2 = 156) rfl ?_
          refine zr_iload dL_hangs_156 (rfl : 156 + 2 = 158) rfl ?_
          refine zr_iload dL_hangs_158 (rfl : 158 + 2 = 160) rfl ?_
          refine zr_bipush dL_hangs_160 (rfl : 160 + 2 = 162) (by decide) ?_
          refine zr_icmp_ne (tgt := 170) dL_hangs_162 (by decide) (rfl : 162 + 3 = 165) (jI_eq (by first | omega | (simp only [bset, reduceIte, Nat.reduceEqDiff]; omega)) (by first | omega | (simp only [bset, reduceIte, Nat.reduceEqDiff]; omega)) (by first | omega | (simp only [bset, reduceIte, Nat.reduceEqDiff]; omega)) (by first | omega | (simp only [bset, reduceIte, Nat.reduceEqDiff]; omega))) (fun h162 => ?_) (fun h162 => ?_)
          rotate_left
          · exfalso
            omega
          refine zr_iload dL_hangs_170 (rfl : 170 + 2 = 172) rfl ?_
          refine zr_bipush dL_hangs_172 (rfl : 172 + 2 = 174) (by decide) ?_
          refine zr_idiv dL_hangs_174 (rfl : 174 + 1 = 175) (fun q => absurd ((jI_z (by first | omega | (simp only [bset, reduceIte, Nat.reduceEqDiff]; omega)) (by first | omega | (simp only [bset, reduceIte, Nat.reduceEqDiff]; omega))).mp q) (by first | omega | (simp only [bset, reduceIte, Nat.reduceEqDiff]; omega))) (jI_div (by first | omega | (simp only [bset, reduceIte, Nat.reduceEqDiff]; omega)) (by first | omega | (simp only [bset, reduceIte, Nat.reduceEqDiff]; omega)) (by first | omega | (simp only [bset, reduceIte, Nat.reduceEqDiff]; omega)) (by first | omega | (simp only [bset, reduceIte, Nat.reduceEqDiff]; omega))) ?_
          refine zr_fnH dL_hangs_175 (rfl : 175 + 3 = 178) l_L_134 (w_at cd rr _ ⟨⟨by omega, by omega⟩, ⟨by omega, by omega⟩, by omega, by omega⟩) rfl rfl (Nat.le_of_ble_eq_true rfl) ?_
          refine zr_iload dL_hangs_178 (rfl : 178 + 2 = 180) rfl ?_
          refine zr_icmp_ne (tgt := 212) dL_hangs_180 (by decide) (rfl : 180 + 3 = 183) (jI_eq (by first | omega | (simp only [bset, reduceIte, Nat.reduceEqDiff]; omega)) (by first | omega | (simp only [bset, reduceIte, Nat.reduceEqDiff]; omega)) (by first | omega | (simp only [bset, reduceIte, Nat.reduceEqDiff]; omega)) (by first | omega | (simp only [bset, reduceIte, Nat.reduceEqDiff]; omega))) (fun h180 => ?_) (fun h180 => ?_)
          · exfalso
            omega
          refine zr_iload dL_hangs_183 (rfl : 183 + 2 = 185) rfl ?_
          refine zr_iload_n dL_hangs_185 (rfl : 185 + 1 = 186) rfl ?_
          refine zr_icmp_gt (tgt := 212) dL_hangs_186 (by decide) (rfl : 186 + 3 = 189) (jI_lt (by first | omega | (simp only [bset, reduceIte, Nat.reduceEqDiff]; omega)) (by first | omega | (simp only [bset, reduceIte, Nat.reduceEqDiff]; omega)) (by first | omega | (simp only [bset, reduceIte, Nat.reduceEqDiff]; omega)) (by first | omega | (simp only [bset, reduceIte, Nat.reduceEqDiff]; omega))) (fun h186 => ?_) (fun h186 => ?_)
          · exfalso
            omega
          refine zr_iload dL_hangs_189 (rfl : 189 + 2 = 191) rfl ?_
          refine zr_if_eq (tgt := 208) dL_hangs_191 (by decide) (rfl : 191 + 3 = 194) (by first | exact jb_iff | exact jI_z (by first | omega | (simp only [bset, reduceIte, Nat.reduceEqDiff]; omega)) (by first | omega | (simp only [bset, reduceIte, Nat.reduceEqDiff]; omega))) (fun h191 => ?_) (fun h191 => ?_)
          rotate_left
          · exfalso
            omega
          refine zr_iconst dL_hangs_208 (rfl : 208 + 1 = 209) ?_
          refine zr_goto (tgt := 213) dL_hangs_209 (by decide) ?_
          refine zr_istore (lv' := [_, _, _, _, _, _, _, _, _, _, _, _, _, _, _, _, _]) dL_hangs_213 (rfl : 213 + 2 = 215) (Nat.le_of_ble_eq_true rfl) rfl ?_
          refine zr_iinc (lv' := [_, _, _, _, _, _, _, _, _, _, _, _, _, _, _, _, _]) dL_hangs_215 (rfl : 215 + 3 = 218) (Nat.le_of_ble_eq_true rfl) rfl (by first | exact jI_add _ _ | rfl) rfl ?_
          refine zr_goto (tgt := 46) dL_hangs_218 (by decide) ?_
          refine hk _ _ _ _ _ _ ⟨?_, ?_, ?_⟩
          all_goals omega
        · refine zr_iload dL_hangs_46 (rfl : 46 + 2 = 48) rfl ?_
          refine zr_bipush dL_hangs_48 (rfl : 48 + 2 = 50) (by decide) ?_
          refine zr_icmp_gt (tgt := 221) dL_hangs_50 (by decide) (rfl : 50 + 3 = 53) (jI_lt (by first | omega | (simp only [bset, reduceIte, Nat.reduceEqDiff]; omega)) (by first | omega | (simp only [bset, reduceIte, Nat.reduceEqDiff]; omega)) (by first | omega | (simp only [bset, reduceIte, Nat.reduceEqDiff]; omega)) (by first | omega | (simp only [bset, reduceIte, Nat.reduceEqDiff]; omega))) (fun h50 => ?_) (fun h50 => ?_)
          · exfalso
            omega
          refine zr_iload dL_hangs_53 (rfl : 53 + 2 = 55) rfl ?_
          refine zr_if_eq (tgt := 221) dL_hangs_55 (by decide) (rfl : 55 + 3 = 58) (by first | exact jb_iff | exact jI_z (by first | omega | (simp only [bset, reduceIte, Nat.reduceEqDiff]; omega)) (by first | omega | (simp only [bset, reduceIte, Nat.reduceEqDiff]; omega))) (fun h55 => ?_) (fun h55 => ?_)
          · exfalso
            omega
          refine zr_aload_n dL_hangs_58 (rfl : 58 + 1 = 59) rfl ?_
          refine zr_iload dL_hangs_59 (rfl : 59 + 2 = 61) rfl ?_
          refine zr_iconst dL_hangs_61 (rfl : 61 + 1 = 62) ?_
          refine zr_fnH dL_hangs_62 (rfl : 62 + 3 = 65) l_L_132 (w_numberOf i 0 ⟨hn, by decide⟩ ok) rfl rfl (Nat.le_of_ble_eq_true rfl) ?_
          rw [e0]
          refine zr_istore (lv' := [_, _, _, _, _, _, _, _, _, _, _, _, _, _, _, _, _]) dL_hangs_65 (rfl : 65 + 2 = 67) (Nat.le_of_ble_eq_true rfl) rfl ?_
          refine zr_aload_n dL_hangs_67 (rfl : 67 + 1 = 68) rfl ?_
          refine zr_iload dL_hangs_68 (rfl : 68 + 2 = 70) rfl ?_
          refine zr_iconst dL_hangs_70 (rfl : 70 + 1 = 71) ?_
          refine zr_fnH dL_hangs_71 (rfl : 71 + 3 = 74) l_L_132 (w_numberOf i 1 ⟨hn, by decide⟩ ok) rfl rfl (Nat.le_of_ble_eq_true rfl) ?_
          rw [e1]
          refine zr_istore (lv' := [_, _, _, _, _, _, _, _, _, _, _, _, _, _, _, _, _]) dL_hangs_74 (rfl : 74 + 2 = 76) (Nat.le_of_ble_eq_true rfl) rfl ?_
          refine zr_aload_n dL_hangs_76 (rfl : 76 + 1 = 77) rfl ?_
          refine zr_iload dL_hangs_77 (rfl : 77 + 2 = 79) rfl ?_
          refine zr_iconst dL_hangs_79 (rfl : 79 + 1 = 80) ?_
          refine zr_fnH dL_hangs_80 (rfl : 80 + 3 = 83) l_L_132 (w_numberOf i 2 ⟨hn, by decide⟩ ok) rfl rfl (Nat.le_of_ble_eq_true rfl) ?_
          rw [e2]
          refine zr_istore (lv' := [_, _, _, _, _, _, _, _, _, _, _, _, _, _, _, _, _]) dL_hangs_83 (rfl : 83 + 2 = 85) (Nat.le_of_ble_eq_true rfl) rfl ?_
          refine zr_iload_n dL_hangs_85 (rfl : 85 + 1 = 86) rfl ?_
          refine zr_iload dL_hangs_86 (rfl : 86 + 2 = 88) rfl ?_
          refine zr_if_lt (tgt := 95) dL_hangs_88 (by decide) (rfl : 88 + 3 = 91) (jI_ltz (by first | omega | (simp only [bset, reduceIte, Nat.reduceEqDiff]; omega)) (by first | omega | (simp only [bset, reduceIte, Nat.reduceEqDiff]; omega))) (fun h88 => ?_) (fun h88 => ?_)
          · exfalso
            omega
          refine zr_iconst dL_hangs_91 (rfl : 91 + 1 = 92) ?_
          refine zr_goto (tgt := 96) dL_hangs_92 (by decide) ?_
          refine zr_iadd dL_hangs_96 (rfl : 96 + 1 = 97) (by first | exact jI_add _ _ | rfl) ?_
          refine zr_istore_n (lv' := [_, _, _, _, _, _, _, _, _, _, _, _, _, _, _, _, _]) dL_hangs_97 (rfl : 97 + 1 = 98) (Nat.le_of_ble_eq_true rfl) rfl ?_
          refine zr_iload_n dL_hangs_98 (rfl : 98 + 1 = 99) rfl ?_
          refine zr_iload dL_hangs_99 (rfl : 99 + 2 = 101) rfl ?_
          refine zr_if_le (tgt := 108) dL_hangs_101 (by decide) (rfl : 101 + 3 = 104) (jI_lez (by first | omega | (simp only [bset, reduceIte, Nat.reduceEqDiff]; omega)) (by first | omega | (simp only [bset, reduceIte, Nat.reduceEqDiff]; omega))) (fun h101 => ?_) (fun h101 => ?_)
          · exfalso
            omega
          refine zr_iconst dL_hangs_104 (rfl : 104 + 1 = 105) ?_
          refine zr_goto (tgt := 109) dL_hangs_105 (by decide) ?_
          refine zr_iadd dL_hangs_109 (rfl : 109 + 1 = 110) (by first | exact jI_add _ _ | rfl) ?_
          refine zr_istore_n (lv' := [_, _, _, _, _, _, _, _, _, _, _, _, _, _, _, _, _]) dL_hangs_110 (rfl : 110 + 1 = 111) (Nat.le_of_ble_eq_true rfl) rfl ?_
          refine zr_iload dL_hangs_111 (rfl : 111 + 2 = 113) rfl ?_
          refine zr_aload_n dL_hangs_113 (rfl : 113 + 1 = 114) rfl ?_
          refine zr_iload dL_hangs_114 (rfl : 114 + 2 = 116) rfl ?_
          refine zr_iconst dL_hangs_116 (rfl : 116 + 1 = 117) ?_
          refine zr_fnH dL_hangs_117 (rfl : 117 + 3 = 120) l_L_132 (w_numberOf i 3 ⟨hn, by decide⟩ ok) rfl rfl (Nat.le_of_ble_eq_true rfl) ?_
          rw [e3]
          refine zr_iadd dL_hangs_120 (rfl : 120 + 1 = 121) (by first | exact jI_add _ _ | rfl) ?_
          refine zr_istore (lv' := [_, _, _, _, _, _, _, _, _, _, _, _, _, _, _, _, _]) dL_hangs_121 (rfl : 121 + 2 = 123) (Nat.le_of_ble_eq_true rfl) rfl ?_
          refine zr_iload dL_hangs_123 (rfl : 123 + 2 = 125) rfl ?_
          refine zr_iconst dL_hangs_125 (rfl : 125 + 1 = 126) ?_
          refine zr_icmp_ne (tgt := 133) dL_hangs_126 (by decide) (rfl : 126 + 3 = 129) (jI_eq (by first | omega | (simp only [bset, reduceIte, Nat.reduceEqDiff]; omega)) (by first | omega | (simp only [bset, reduceIte, Nat.reduceEqDiff]; omega)) (by first | omega | (simp only [bset, reduceIte, Nat.reduceEqDiff]; omega)) (by first | omega | (simp only [bset, reduceIte, Nat.reduceEqDiff]; omega))) (fun h126 => ?_) (fun h126 => ?_)
          rotate_left
          · exfalso
            omega
          refine zr_iconst dL_hangs_133 (rfl : 133 + 1 = 134) ?_
          refine zr_iload dL_hangs_134 (rfl : 134 + 2 = 136) rfl ?_
          refine zr_iconst dL_hangs_136 (rfl : 136 + 1 = 137) ?_
          refine zr_icmp_ne (tgt := 144) dL_hangs_137 (by decide) (rfl : 137 + 3 = 140) (jI_eq (by first | omega | (simp only [bset, reduceIte, Nat.reduceEqDiff]; omega)) (by first | omega | (simp only [bset, reduceIte, Nat.reduceEqDiff]; omega)) (by first | omega | (simp only [bset, reduceIte, Nat.reduceEqDiff]; omega)) (by first | omega | (simp only [bset, reduceIte, Nat.reduceEqDiff]; omega))) (fun h137 => ?_) (fun h137 => ?_)
          rotate_left
          · exfalso
            omega
          refine zr_iconst dL_hangs_144 (rfl : 144 + 1 = 145) ?_
          refine zr_icmp_ne (tgt := 212) dL_hangs_145 (by decide) (rfl : 145 + 3 = 148) (jI_eq (by first | omega | (simp only [bset, reduceIte, Nat.reduceEqDiff]; omega)) (by first | omega | (simp only [bset, reduceIte, Nat.reduceEqDiff]; omega)) (by first | omega | (simp only [bset, reduceIte, Nat.reduceEqDiff]; omega)) (by first | omega | (simp only [bset, reduceIte, Nat.reduceEqDiff]; omega))) (fun h145 => ?_) (fun h145 => ?_)
          · exfalso
            omega
          refine zr_iload dL_hangs_148 (rfl : 148 + 2 = 150) rfl ?_
          refine zr_if_lt (tgt := 183) dL_hangs_150 (by decide) (rfl : 150 + 3 = 153) (jI_ltz (by first | omega | (simp only [bset, reduceIte, Nat.reduceEqDiff]; omega)) (by first | omega | (simp only [bset, reduceIte, Nat.reduceEqDiff]; omega))) (fun h150 => ?_) (fun h150 => ?_)
          · exfalso
            omega
          refine zr_aload_n dL_hangs_153 (rfl : 153 + 1 = 154) rfl ?_
          refine zr_iload dL_hangs_154 (rfl : 154 + 2 = 156) rfl ?_
          refine zr_iload dL_hangs_156 (rfl : 156 + 2 = 158) rfl ?_
          refine zr_iload dL_hangs_158 (rfl : 158 + 2 = 160) rfl ?_
          refine zr_bipush dL_hangs_160 (rfl : 160 + 2 = 162) (by decide) ?_
          refine zr_icmp_ne (tgt := 170) dL_hangs_162 (by decide) (rfl : 162 + 3 = 165) (jI_eq (by first | omega | (simp only [bset, reduceIte, Nat.reduceEqDiff]; omega)) (by first | omega | (simp only [bset, reduceIte, Nat.reduceEqDiff]; omega)) (by first | omega | (simp only [bset, reduceIte, Nat.reduceEqDiff]; omega)) (by first | omega | (simp only [bset, reduceIte, Nat.reduceEqDiff]; omega))) (fun h162 => ?_) (fun h162 => ?_)
          rotate_left
          · exfalso
            omega
          refine zr_iload dL_hangs_170 (rfl : 170 + 2 = 172) rfl ?_
          refine zr_bipush dL_hangs_172 (rfl : 172 + 2 = 174) (by decide) ?_
          refine zr_idiv dL_hangs_174 (rfl : 174 + 1 = 175) (fun q => absurd ((jI_z (by first | omega | (simp only [bset, reduceIte, Nat.reduceEqDiff]; omega)) (by first | omega | (simp only [bset, reduceIte, Nat.reduceEqDiff]; omega))).mp q) (by first | omega | (simp only [bset, reduceIte, Nat.reduceEqDiff]; omega))) (jI_div (by first | omega | (simp only [bset, reduceIte, Nat.reduceEqDiff]; omega)) (by first | omega | (simp only [bset, reduceIte, Nat.reduceEqDiff]; omega)) (by first | omega | (simp only [bset, reduceIte, Nat.reduceEqDiff]; omega)) (by first | omega | (simp only [bset, reduceIte, Nat.reduceEqDiff]; omega))) ?_
          refine zr_fnH dL_hangs_175 (rfl : 175 + 3 = 178) l_L_134 (w_at cd rr _ ⟨⟨by omega, by omega⟩, ⟨by omega, by omega⟩, by omega, by omega⟩) rfl rfl (Nat.le_of_ble_eq_true rfl) ?_
          refine zr_iload dL_hangs_178 (rfl : 178 + 2 = 180) rfl ?_
          refine zr_icmp_ne (tgt := 212) dL_hangs_180 (by decide) (rfl : 180 + 3 = 183) (jI_eq (by first | omega | (simp only [bset, reduceIte, Nat.reduceEqDiff]; omega)) (by first | omega | (simp only [bset, reduceIte, Nat.reduceEqDiff]; omega)) (by first | omega | (simp only [bset, reduceIte, Nat.reduceEqDiff]; omega)) (by first | omega | (simp only [bset, reduceIte, Nat.reduceEqDiff]; omega))) (fun h180 => ?_) (fun h180 => ?_)
          · exfalso
            omega
          refine zr_iload dL_hangs_183 (rfl : 183 + 2 = 185) rfl ?_
          refine zr_iload_n dL_hangs_185 (rfl : 185 + 1 = 186) rfl ?_
          refine zr_icmp_gt (tgt := 212) dL_hangs_186 (by decide) (rfl : 186 + 3 = 189) (jI_lt (by first | omega | (simp only [bset, reduceIte, Nat.reduceEqDiff]; omega)) (by first | omega | (simp only [bset, reduceIte, Nat.reduceEqDiff]; omega)) (by first | omega | (simp only [bset, reduceIte, Nat.reduceEqDiff]; omega)) (by first | omega | (simp only [bset, reduceIte, Nat.reduceEqDiff]; omega))) (fun h186 => ?_) (fun h186 => ?_)
          · exfalso
            omega
          refine zr_iload dL_hangs_189 (rfl : 189 + 2 = 191) rfl ?_
          refine zr_if_eq (tgt := 208) dL_hangs_191 (by decide) (rfl : 191 + 3 = 194) (by first | exact jb_iff | exact jI_z (by first | omega | (simp only [bset, reduceIte, Nat.reduceEqDiff]; omega)) (by first | omega | (simp only [bset, reduceIte, Nat.reduceEqDiff]; omega))) (fun h191 => ?_) (fun h191 => ?_)
          · exfalso
            omega
          refine zr_aload_n dL_hangs_194 (rfl : 194 + 1 = 195) rfl ?_
          refine zr_iload_n dL_hangs_195 (rfl : 195 + 1 = 196) rfl ?_
          refine zr_iload dL_hangs_196 (rfl : 196 + 2 = 198) rfl ?_
          refine zr_isub dL_hangs_198 (rfl : 198 + 1 = 199) (by first | exact jI_sub _ _ | rfl) ?_
          refine zr_iconst dL_hangs_199 (rfl : 199 + 1 = 200) ?_
          refine zr_fnH dL_hangs_200 (rfl : 200 + 3 = 203) l_L_129 (w_called (B 12 0 - B 7 i) 0 (by first | omega | (simp only [bset, reduceIte, Nat.reduceEqDiff]; omega)) ⟨by omega, by decide⟩ ok) rfl rfl (Nat.le_of_ble_eq_true rfl) ?_
          refine zr_iload dL_hangs_203 (rfl : 203 + 2 = 205) rfl ?_
          refine zr_icmp_ne (tgt := 212) dL_hangs_205 (by decide) (rfl : 205 + 3 = 208) (jI_eq (by first | omega | (simp only [bset, reduceIte, Nat.reduceEqDiff]; omega)) (by first | omega | (simp only [bset, reduceIte, Nat.reduceEqDiff]; omega)) (by first | omega | (simp only [bset, reduceIte, Nat.reduceEqDiff]; omega)) (by first | omega | (simp only [bset, reduceIte, Nat.reduceEqDiff]; omega))) (fun h205 => ?_) (fun h205 => ?_)
          · exfalso
            omega
          refine zr_iconst dL_hangs_208 (rfl : 208 + 1 = 209) ?_
          refine zr_goto (tgt := 213) dL_hangs_209 (by decide) ?_
          refine zr_istore (lv' := [_, _, _, _, _, _, _, _, _, _, _, _, _, _, _, _, _]) dL_hangs_213 (rfl : 213 + 2 = 215) (Nat.le_of_ble_eq_true rfl) rfl ?_
          refine zr_iinc (lv' := [_, _, _, _, _, _, _, _, _, _, _, _, _, _, _, _, _]) dL_hangs_215 (rfl : 215 + 3 = 218) (Nat.le_of_ble_eq_true rfl) rfl (by first | exact jI_add _ _ | rfl) rfl ?_
          refine zr_goto (tgt := 46) dL_hangs_218 (by decide) ?_
          refine hk _ _ _ _ _ _ ⟨?_, ?_, ?_⟩
          all_goals omega
  · intro st dn sd o7 o8 o9 hI
    obtain ⟨hst, hdn, hsd⟩ := hI
    have e90 : ((1 : Int) + ((90 : Nat) : Int) - 1).toNat = 90 := rfl
    rw [e90] at hst hdn hsd
    rw [fa_stand h] at hst
    rw [fa_drawn h] at hdn
    rw [h.ex.sd] at hsd
    rw [hst, hdn, hsd]
    refine zr_iload dL_hangs_46 (rfl : 46 + 2 = 48) rfl ?_
    refine zr_bipush dL_hangs_48 (rfl : 48 + 2 = 50) (by decide) ?_
    refine zr_icmp_gt (tgt := 221) dL_hangs_50 (by decide) (rfl : 50 + 3 = 53) (jI_lt (by first | omega | (simp only [bset, reduceIte, Nat.reduceEqDiff]; omega)) (by first | omega | (simp only [bset, reduceIte, Nat.reduceEqDiff]; omega)) (by first | omega | (simp only [bset, reduceIte, Nat.reduceEqDiff]; omega)) (by first | omega | (simp only [bset, reduceIte, Nat.reduceEqDiff]; omega))) (fun h50 => ?_) (fun h50 => ?_)
    rotate_left
    · exfalso
      omega
    exact k _ _ _ _
theorem hg_2 (h : jin B) {o6 o7 o8 o9 : Option Value} (k : ∀ o7, zRun Γ md_L_hangs (d + 9) none 271 [some (.ref 5), some (.int (jI (B 12 0))), some (.int (jI (B 2 0))), some (.int (jI (B 12 0))), some (.int (jI (B 12 0))), some (.int (jI (1))), some (.int (jI (B 13 0))), o7, o8, o9, none, none, none, none, none, none, none] [] (n9, g9, kc, ks) (bk 6 B (cr σ τ u)) Q) : zRun Γ md_L_hangs (d + 9) none 221 [some (.ref 5), some (.int (jI (B 12 0))), some (.int (jI (B 2 0))), some (.int (jI (B 12 0))), some (.int (jI (B 12 0))), some (.int (jI (1))), o6, o7, o8, o9, none, none, none, none, none, none, none] [] (n9, g9, kc, ks) (bk 6 B (cr σ τ u)) Q := by
  have ok := h.ok
  have hca := ok.ca
  refine zr_iconst dL_hangs_221 (rfl : 221 + 1 = 222) ?_
  refine zr_istore (lv' := [_, _, _, _, _, _, _, _, _, _, _, _, _, _, _, _, _]) dL_hangs_222 (rfl : 222 + 2 = 224) (Nat.le_of_ble_eq_true rfl) rfl ?_
  refine zr_iconst dL_hangs_224 (rfl : 224 + 1 = 225) ?_
  refine zr_istore (lv' := [_, _, _, _, _, _, _, _, _, _, _, _, _, _, _, _, _]) dL_hangs_225 (rfl : 225 + 2 = 227) (Nat.le_of_ble_eq_true rfl) rfl ?_
  refine zfor1 0 (B 12 0).toNat (fun i s => s = jcnt i.toNat (fun z => decide (jcl B z 0 ≠ jcl B z 1))) (fun i s => [some (.ref 5), some (.int (jI (B 12 0))), some (.int (jI (B 2 0))), some (.int (jI (B 12 0))), some (.int (jI (B 12 0))), some (.int (jI (1))), some (.int (jI (s))), some (.int (jI (i))), o8, o9, none, none, none, none, none, none, none]) (fun _ _ => (bk 6 B (cr σ τ u))) 0 rfl ?_ ?_
  · intro i s i0 i9 hs hk
    have hb := jcnt_step0 (p := fun z => jcl B z 0 ≠ jcl B z 1) (i := i) i0
    have r0 := jcl_r ok i 0
    have r1 := jcl_r ok i 1
    by_cases q : jcl B i 0 = jcl B i 1
    · refine zr_iload dL_hangs_227 (rfl : 227 + 2 = 229) rfl ?_
      refine zr_iload_n dL_hangs_229 (rfl : 229 + 1 = 230) rfl ?_
      refine zr_icmp_ge (tgt := 271) dL_hangs_230 (by decide) (rfl : 230 + 3 = 233) (jI_le (by first | omega | (simp only [bset, reduceIte, Nat.reduceEqDiff]; omega)) (by first | omega | (simp only [bset, reduceIte, Nat.reduceEqDiff]; omega)) (by first | omega | (simp only [bset, reduceIte, Nat.reduceEqDiff]; omega)) (by first | omega | (simp only [bset, reduceIte, Nat.reduceEqDiff]; omega))) (fun h230 => ?_) (fun h230 => ?_)
      · exfalso
        omega
      refine zr_iload dL_hangs_233 (rfl : 233 + 2 = 235) rfl ?_
      refine zr_if_eq (tgt := 271) dL_hangs_235 (by decide) (rfl : 235 + 3 = 238) (by first | exact jb_iff | exact jI_z (by first | omega | (simp only [bset, reduceIte, Nat.reduceEqDiff]; omega)) (by first | omega | (simp only [bset, reduceIte, Nat.reduceEqDiff]; omega))) (fun h235 => ?_) (fun h235 => ?_)
      · exfalso
        omega
      refine zr_iload dL_hangs_238 (rfl : 238 + 2 = 240) rfl ?_
      refine zr_aload_n dL_hangs_240 (rfl : 240 + 1 = 241) rfl ?_
      refine zr_iload dL_hangs_241 (rfl : 241 + 2 = 243) rfl ?_
      refine zr_iconst dL_hangs_243 (rfl : 243 + 1 = 244) ?_
      refine zr_fnH dL_hangs_244 (rfl : 244 + 3 = 247) l_L_129 (w_called i 0 (by first | omega | (simp only [bset, reduceIte, Nat.reduceEqDiff]; omega)) ⟨by omega, by decide⟩ ok) rfl rfl (Nat.le_of_ble_eq_true rfl) ?_
      refine zr_aload_n dL_hangs_247 (rfl : 247 + 1 = 248) rfl ?_
      refine zr_iload dL_hangs_248 (rfl : 248 + 2 = 250) rfl ?_
      refine zr_iconst dL_hangs_250 (rfl : 250 + 1 = 251) ?_
      refine zr_fnH dL_hangs_251 (rfl : 251 + 3 = 254) l_L_129 (w_called i 1 (by first | omega | (simp only [bset, reduceIte, Nat.reduceEqDiff]; omega)) ⟨by omega, by decide⟩ ok) rfl rfl (Nat.le_of_ble_eq_true rfl) ?_
      refine zr_icmp_eq (tgt := 261) dL_hangs_254 (by decide) (rfl : 254 + 3 = 257) (jI_eq (by first | omega | (simp only [bset, reduceIte, Nat.reduceEqDiff]; omega)) (by first | omega | (simp only [bset, reduceIte, Nat.reduceEqDiff]; omega)) (by first | omega | (simp only [bset, reduceIte, Nat.reduceEqDiff]; omega)) (by first | omega | (simp only [bset, reduceIte, Nat.reduceEqDiff]; omega))) (fun h254 => ?_) (fun h254 => ?_)
      rotate_left
      · exfalso
        omega
      refine zr_iconst dL_hangs_261 (rfl : 261 + 1 = 262) ?_
      refine zr_iadd dL_hangs_262 (rfl : 262 + 1 = 263) (by first | exact jI_add _ _ | rfl) ?_
      refine zr_istore (lv' := [_, _, _, _, _, _, _, _, _, _, _, _, _, _, _, _, _]) dL_hangs_263 (rfl : 263 + 2 = 265) (Nat.le_of_ble_eq_true rfl) rfl ?_
      refine zr_iinc (lv' := [_, _, _, _, _, _, _, _, _, _, _, _, _, _, _, _, _]) dL_hangs_265 (rfl : 265 + 3 = 268) (Nat.le_of_ble_eq_true rfl) rfl (by first | exact jI_add _ _ | rfl) rfl ?_
      refine zr_goto (tgt := 227) dL_hangs_268 (by decide) ?_
      refine hk _ ?_
      omega
    · refine zr_iload dL_hangs_227 (rfl : 227 + 2 = 229) rfl ?_
      refine zr_iload_n dL_hangs_229 (rfl : 229 + 1 = 230) rfl ?_
      refine zr_icmp_ge (tgt := 271) dL_hangs_230 (by decide) (rfl : 230 + 3 = 233) (jI_le (by first | omega | (simp only [bset, reduceIte, Nat.reduceEqDiff]; omega)) (by first | omega | (simp only [bset, reduceIte, Nat.reduceEqDiff]; omega)) (by first | omega | (simp only [bset, reduceIte, Nat.reduceEqDiff]; omega)) (by first | omega | (simp only [bset, reduceIte, Nat.reduceEqDiff]; omega))) (fun h230 => ?_) (fun h230 => ?_)
      · exfalso
        omega
      refine zr_iload dL_hangs_233 (rfl : 233 + 2 = 235) rfl ?_
      refine zr_if_eq (tgt := 271) dL_hangs_235 (by decide) (rfl : 235 + 3 = 238) (by first | exact jb_iff | exact jI_z (by first | omega | (simp only [bset, reduceIte, Nat.reduceEqDiff]; omega)) (by first | omega | (simp only [bset, reduceIte, Nat.reduceEqDiff]; omega))) (fun h235 => ?_) (fun h235 => ?_)
      · exfalso
        omega
      refine zr_iload dL_hangs_238 (rfl : 238 + 2 = 240) rfl ?_
      refine zr_aload_n dL_hangs_240 (rfl : 240 + 1 = 241) rfl ?_
      refine zr_iload dL_hangs_241 (rfl : 241 + 2 = 243) rfl ?_
      refine zr_iconst dL_hangs_243 (rfl : 243 + 1 = 244) ?_
      refine zr_fnH dL_hangs_244 (rfl : 244 + 3 = 247) l_L_129 (w_called i 0 (by first | omega | (simp only [bset, reduceIte, Nat.reduceEqDiff]; omega)) ⟨by omega, by decide⟩ ok) rfl rfl (Nat.le_of_ble_eq_true rfl) ?_
      refine zr_aload_n dL_hangs_247 (rfl : 247 + 1 = 248) rfl ?_
      refine zr_iload dL_hangs_248 (rfl : 248 + 2 = 250) rfl ?_
      refine zr_iconst dL_hangs_250 (rfl : 250 + 1 = 251) ?_
      refine zr_fnH dL_hangs_251 (rfl : 251 + 3 = 254) l_L_129 (w_called i 1 (by first | omega | (simp only [bset, reduceIte, Nat.reduceEqDiff]; omega)) ⟨by omega, by decide⟩ ok) rfl rfl (Nat.le_of_ble_eq_true rfl) ?_
      refine zr_icmp_eq (tgt := 261) dL_hangs_254 (by decide) (rfl : 254 + 3 = 257) (jI_eq (by first | omega | (simp only [bset, reduceIte, Nat.reduceEqDiff]; omega)) (by first | omega | (simp only [bset, reduceIte, Nat.reduceEqDiff]; omega)) (by first | omega | (simp only [bset, reduceIte, Nat.reduceEqDiff]; omega)) (by first | omega | (simp only [bset, reduceIte, Nat.reduceEqDiff]; omega))) (fun h254 => ?_) (fun h254 => ?_)
      · exfalso
        omega
      refine zr_iconst dL_hangs_257 (rfl : 257 + 1 = 258) ?_
      refine zr_goto (tgt := 262) dL_hangs_258 (by decide) ?_
      refine zr_iadd dL_hangs_262 (rfl : 262 + 1 = 263) (by first | exact jI_add _ _ | rfl) ?_
      refine zr_istore (lv' := [_, _, _, _, _, _, _, _, _, _, _, _, _, _, _, _, _]) dL_hangs_263 (rfl : 263 + 2 = 265) (Nat.le_of_ble_eq_true rfl) rfl ?_
      refine zr_iinc (lv' := [_, _, _, _, _, _, _, _, _, _, _, _, _, _, _, _, _]) dL_hangs_265 (rfl : 265 + 3 = 268) (Nat.le_of_ble_eq_true rfl) rfl (by first | exact jI_add _ _ | rfl) rfl ?_
      refine zr_goto (tgt := 227) dL_hangs_268 (by decide) ?_
      refine hk _ ?_
      omega
  · intro s hs
    have e : ((0 : Int) + (((B 12 0).toNat : Nat) : Int)) = B 12 0 := by omega
    rw [e] at hs ⊢
    rw [fa_slips h] at hs
    rw [hs]
    refine zr_iload dL_hangs_227 (rfl : 227 + 2 = 229) rfl ?_
    refine zr_iload_n dL_hangs_229 (rfl : 229 + 1 = 230) rfl ?_
    refine zr_icmp_ge (tgt := 271) dL_hangs_230 (by decide) (rfl : 230 + 3 = 233) (jI_le (by first | omega | (simp only [bset, reduceIte, Nat.reduceEqDiff]; omega)) (by first | omega | (simp only [bset, reduceIte, Nat.reduceEqDiff]; omega)) (by first | omega | (simp only [bset, reduceIte, Nat.reduceEqDiff]; omega)) (by first | omega | (simp only [bset, reduceIte, Nat.reduceEqDiff]; omega))) (fun h230 => ?_) (fun h230 => ?_)
    rotate_left
    · exfalso
      omega
    exact k _
theorem hg_3 (h : jin B) {o7 o8 o9 : Option Value} (k : ∀ o12 o13 o14 o15 τ', zRun Γ md_L_hangs (d + 9) none 580 [some (.ref 5), some (.int (jI (B 12 0))), some (.int (jI (B 2 0))), some (.int (jI (B 12 0))), some (.int (jI (B 12 0))), some (.int (jI (1))), some (.int (jI (B 13 0))), some (.int (jI (B 2 0))), some (.int (jI (jcnt 6 (fun c => decide (jcs (B 0) c = 15))))), some (.int (jI (jbc (B 11 0)))), some (.int (jI (B 18 0))), some (.int (jI (B 21 0))), o12, o13, o14, o15, none] [] (n9, g9, kc, ks) (bk 6 B (cr σ τ' u)) Q) : zRun Γ md_L_hangs (d + 9) none 271 [some (.ref 5), some (.int (jI (B 12 0))), some (.int (jI (B 2 0))), some (.int (jI (B 12 0))), some (.int (jI (B 12 0))), some (.int (jI (1))), some (.int (jI (B 13 0))), o7, o8, o9, none, none, none, none, none, none, none] [] (n9, g9, kc, ks) (bk 6 B (cr σ τ u)) Q := by
  have ok := h.ok
  have hca := ok.ca
  refine zr_iconst dL_hangs_271 (rfl : 271 + 1 = 272) ?_
  refine zr_istore (lv' := [_, _, _, _, _, _, _, _, _, _, _, _, _, _, _, _, _]) dL_hangs_272 (rfl : 272 + 2 = 274) (Nat.le_of_ble_eq_true rfl) rfl ?_
  refine zr_iconst dL_hangs_274 (rfl : 274 + 1 = 275) ?_
  refine zr_istore (lv' := [_, _, _, _, _, _, _, _, _, _, _, _, _, _, _, _, _]) dL_hangs_275 (rfl : 275 + 2 = 277) (Nat.le_of_ble_eq_true rfl) rfl ?_
  refine zr_iconst dL_hangs_277 (rfl : 277 + 1 = 278) ?_
  refine zr_istore (lv' := [_, _, _, _, _, _, _, _, _, _, _, _, _, _, _, _, _]) dL_hangs_278 (rfl : 278 + 2 = 280) (Nat.le_of_ble_eq_true rfl) rfl ?_
  refine zr_iconst dL_hangs_280 (rfl : 280 + 1 = 281) ?_
  refine zr_istore (lv' := [_, _, _, _, _, _, _, _, _, _, _, _, _, _, _, _, _]) dL_hangs_281 (rfl : 281 + 2 = 283) (Nat.le_of_ble_eq_true rfl) rfl ?_
  refine zr_iconst dL_hangs_283 (rfl : 283 + 1 = 284) ?_
  refine zr_istore (lv' := [_, _, _, _, _, _, _, _, _, _, _, _, _, _, _, _, _]) dL_hangs_284 (rfl : 284 + 2 = 286) (Nat.le_of_ble_eq_true rfl) rfl ?_
  refine zr_iconst dL_hangs_286 (rfl : 286 + 1 = 287) ?_
  refine zr_istore (lv' := [_, _, _, _, _, _, _, _, _, _, _, _, _, _, _, _, _]) dL_hangs_287 (rfl : 287 + 2 = 289) (Nat.le_of_ble_eq_true rfl) rfl ?_
  refine zfor9 0 6 (fun i nu wh bo co dn _ _ _ _ => nu = jsum i.toNat (fun c => jcs (B 0) c) ∧ wh = jcnt i.toNat (fun c => decide (jcs (B 0) c = 15)) ∧ bo = jsum i.toNat (fun c => jb (jbit (B 11 0) c = 1)) ∧ co = jsum i.toNat (B 14) ∧ dn = jsum i.toNat (B 15)) (fun i nu wh bo co dn o13 o14 o15 _ => [some (.ref 5), some (.int (jI (B 12 0))), some (.int (jI (B 2 0))), some (.int (jI (B 12 0))), some (.int (jI (B 12 0))), some (.int (jI (1))), some (.int (jI (B 13 0))), some (.int (jI (nu))), some (.int (jI (wh))), some (.int (jI (bo))), some (.int (jI (co))), some (.int (jI (dn))), some (.int (jI (i))), o13, o14, o15, none]) (fun _ _ _ _ _ _ _ _ _ τ => (bk 6 B (cr σ τ u))) 0 0 0 0 0 none none none τ ⟨rfl, rfl, rfl, rfl, rfl⟩ ?_ ?_
  · intro i nu wh bo co dn o13 o14 o15 τ i0 i6 hI hk
    obtain ⟨hnu, hwh, hbo, hco, hdn⟩ := hI
    have hi : 0 ≤ i ∧ i < 6 := by omega
    have b1 := jsum_next (f := fun c => jcs (B 0) c) (i := i) i0
    have b2 := jcnt_step0 (p := fun c => jcs (B 0) c = 15) (i := i) i0
    have b3 : jsum (i + 1).toNat (fun c => jb (jbit (B 11 0) c = 1)) = jsum i.toNat (fun c => jb (jbit (B 11 0) c = 1)) + jbit (B 11 0) i := by
      have e := jsum_next (f := fun c => jb (jbit (B 11 0) c = 1)) (i := i) i0
      rw [jb_bit] at e
      exact e
    have b4 := jsum_next (f := B 14) (i := i) i0
    have b5 := jsum_next (f := B 15) (i := i) i0
    have c1 := jcs_r (B 0) i
    have c2 := jbit_r (B 11 0) i
    have m3 := jmc_le ok (B 7) i
    have m4 := jmc_le ok (B 8) i
    obtain ⟨f1, f2, f3, f4⟩ := fa_card h hi
    have g1 := jgw_r (B 9) i
    have hfa : ∀ k, jfa B i k = if jcs (B 0) i = 15 then jlc B i else -1 := jfa_eq ok h.lk hi
    obtain ⟨τ1, hf1⟩ := w_fullAt (Γ := Γ) (d := d) (σ := σ) (τ := τ) (u := u) i 0 hi (by decide) ok
    obtain ⟨τ2, hf2⟩ := w_fullAt (Γ := Γ) (d := d) (σ := σ) (τ := τ1) (u := u) i 1 hi (by decide) ok
    rw [hfa] at hf1 hf2
    by_cases hw : jcs (B 0) i = 15
    · rw [if_pos hw] at hf1 hf2
      obtain ⟨u1, u2, u3⟩ := fa_full h hi hw
      by_cases q : jlc B i ≤ B 12 0
      · have q5 : jmc (B 0) (B 7) i = 15 := u3.mp q
        by_cases qb : jbit (B 11 0) i = 1
        · by_cases qg : jgw (B 9) i = 0
          · refine zr_iload dL_hangs_289 (rfl : 289 + 2 = 291) rfl ?_
            refine zr_bipush dL_hangs_291 (rfl : 291 + 2 = 293) (by decide) ?_
            refine zr_icmp_ge (tgt := 580) dL_hangs_293 (by decide) (rfl : 293 + 3 = 296) (jI_le (by first | omega | (simp only [bset, reduceIte, Nat.reduceEqDiff]; omega)) (by first | omega | (simp only [bset, reduceIte, Nat.reduceEqDiff]; omega)) (by first | omega | (simp only [bset, reduceIte, Nat.reduceEqDiff]; omega)) (by first | omega | (simp only [bset, reduceIte, Nat.reduceEqDiff]; omega))) (fun h293 => ?_) (fun h293 => ?_)
            · exfalso
              omega
            refine zr_iload dL_hangs_296 (rfl : 296 + 2 = 298) rfl ?_
            refine zr_if_eq (tgt := 580) dL_hangs_298 (by decide) (rfl : 298 + 3 = 301) (by first | exact jb_iff | exact jI_z (by first | omega | (simp only [bset, reduceIte, Nat.reduceEqDiff]; omega)) (by first | omega | (simp only [bset, reduceIte, Nat.reduceEqDiff]; omega))) (fun h298 => ?_) (fun h298 => ?_)
            · exfalso
              omega
            refine zr_aload_n dL_hangs_301 (rfl : 301 + 1 = 302) rfl ?_
            refine zr_iload dL_hangs_302 (rfl : 302 + 2 = 304) rfl ?_
            refine zr_iconst dL_hangs_304 (rfl : 304 + 1 = 305) ?_
            refine zr_fnH dL_hangs_305 (rfl : 305 + 3 = 308) l_L_136 (w_cardOf i 0 hi (by decide) ok) rfl rfl (Nat.le_of_ble_eq_true rfl) ?_
            rw [jcd_0]
            refine zr_istore (lv' := [_, _, _, _, _, _, _, _, _, _, _, _, _, _, _, _, _]) dL_hangs_308 (rfl : 308 + 2 = 310) (Nat.le_of_ble_eq_true rfl) rfl ?_
            refine zr_aload_n dL_hangs_310 (rfl : 310 + 1 = 311) rfl ?_
            refine zr_iload dL_hangs_311 (rfl : 311 + 2 = 313) rfl ?_
            refine zr_iconst dL_hangs_313 (rfl : 313 + 1 = 314) ?_
            refine zr_fnH dL_hangs_314 (rfl : 314 + 3 = 317) l_L_136 (w_cardOf i 1 hi (by decide) ok) rfl rfl (Nat.le_of_ble_eq_true rfl) ?_
            rw [jcd_1, jb_pos hw]
            refine zr_iconst dL_hangs_317 (rfl : 317 + 1 = 318) ?_
            refine zr_icmp_ne (tgt := 325) dL_hangs_318 (by decide) (rfl : 318 + 3 = 321) (jI_eq (by first | omega | (simp only [bset, reduceIte, Nat.reduceEqDiff]; omega)) (by first | omega | (simp only [bset, reduceIte, Nat.reduceEqDiff]; omega)) (by first | omega | (simp only [bset, reduceIte, Nat.reduceEqDiff]; omega)) (by first | omega | (simp only [bset, reduceIte, Nat.reduceEqDiff]; omega))) (fun h318 => ?_) (fun h318 => ?_)
            · exfalso
              omega
            refine zr_iconst dL_hangs_321 (rfl : 321 + 1 = 322) ?_
            refine zr_goto (tgt := 326) dL_hangs_322 (by decide) ?_
            refine zr_istore (lv' := [_, _, _, _, _, _, _, _, _, _, _, _, _, _, _, _, _]) dL_hangs_326 (rfl : 326 + 2 = 328) (Nat.le_of_ble_eq_true rfl) rfl ?_
            refine zr_aload_n dL_hangs_328 (rfl : 328 + 1 = 329) rfl ?_
            refine zr_iload dL_hangs_329 (rfl : 329 + 2 = 331) rfl ?_
            refine zr_iconst dL_hangs_331 (rfl : 331 + 1 = 332) ?_
            refine zr_fnH dL_hangs_332 (rfl : 332 + 3 = 335) l_L_138 hf1 rfl rfl (Nat.le_of_ble_eq_true rfl) ?_
            refine zr_istore (lv' := [_, _, _, _, _, _, _, _, _, _, _, _, _, _, _, _, _]) dL_hangs_335 (rfl : 335 + 2 = 337) (Nat.le_of_ble_eq_true rfl) rfl ?_
            refine zr_iload dL_hangs_337 (rfl : 337 + 2 = 339) rfl ?_
            refine zr_iload dL_hangs_339 (rfl : 339 + 2 = 341) rfl ?_
            refine zr_iadd dL_hangs_341 (rfl : 341 + 1 = 342) (by first | exact jI_add _ _ | rfl) ?_
            refine zr_istore (lv' := [_, _, _, _, _, _, _, _, _, _, _, _, _, _, _, _, _]) dL_hangs_342 (rfl : 342 + 2 = 344) (Nat.le_of_ble_eq_true rfl) rfl ?_
            refine zr_iload dL_hangs_344 (rfl : 344 + 2 = 346) rfl ?_
            refine zr_iload dL_hangs_346 (rfl : 346 + 2 = 348) rfl ?_
            refine zr_if_eq (tgt := 355) dL_hangs_348 (by decide) (rfl : 348 + 3 = 351) (by first | exact jb_iff | exact jI_z (by first | omega | (simp only [bset, reduceIte, Nat.reduceEqDiff]; omega)) (by first | omega | (simp only [bset, reduceIte, Nat.reduceEqDiff]; omega))) (fun h348 => ?_) (fun h348 => ?_)
            · exfalso
              omega
            refine zr_iconst dL_hangs_351 (rfl : 351 + 1 = 352) ?_
            refine zr_goto (tgt := 356) dL_hangs_352 (by decide) ?_
            refine zr_iadd dL_hangs_356 (rfl : 356 + 1 = 357) (by first | exact jI_add _ _ | rfl) ?_
            refine zr_istore (lv' := [_, _, _, _, _, _, _, _, _, _, _, _, _, _, _, _, _]) dL_hangs_357 (rfl : 357 + 2 = 359) (Nat.le_of_ble_eq_true rfl) rfl ?_
            refine zr_iload dL_hangs_359 (rfl : 359 + 2 = 361) rfl ?_
            refine zr_aload_n dL_hangs_361 (rfl : 361 + 1 = 362) rfl ?_
            refine zr_iload dL_hangs_362 (rfl : 362 + 2 = 364) rfl ?_
            refine zr_iconst dL_hangs_364 (rfl : 364 + 1 = 365) ?_
            refine zr_fnH dL_hangs_365 (rfl : 365 + 3 = 368) l_L_136 (w_cardOf i 2 hi (by decide) ok) rfl rfl (Nat.le_of_ble_eq_true rfl) ?_
            rw [jcd_2]
            refine zr_iadd dL_hangs_368 (rfl : 368 + 1 = 369) (by first | exact jI_add _ _ | rfl) ?_
            refine zr_istore (lv' := [_, _, _, _, _, _, _, _, _, _, _, _, _, _, _, _, _]) dL_hangs_369 (rfl : 369 + 2 = 371) (Nat.le_of_ble_eq_true rfl) rfl ?_
            refine zr_iload dL_hangs_371 (rfl : 371 + 2 = 373) rfl ?_
            refine zr_aload_n dL_hangs_373 (rfl : 373 + 1 = 374) rfl ?_
            refine zr_iload dL_hangs_374 (rfl : 374 + 2 = 376) rfl ?_
            refine zr_bipush dL_hangs_376 (rfl : 376 + 2 = 378) (by decide) ?_
            refine zr_fnH dL_hangs_378 (rfl : 378 + 3 = 381) l_L_136 (w_cardOf i 7 hi (by decide) ok) rfl rfl (Nat.le_of_ble_eq_true rfl) ?_
            rw [jcd_7]
            refine zr_iadd dL_hangs_381 (rfl : 381 + 1 = 382) (by first | exact jI_add _ _ | rfl) ?_
            refine zr_istore (lv' := [_, _, _, _, _, _, _, _, _, _, _, _, _, _, _, _, _]) dL_hangs_382 (rfl : 382 + 2 = 384) (Nat.le_of_ble_eq_true rfl) rfl ?_
            refine zr_iload dL_hangs_384 (rfl : 384 + 2 = 386) rfl ?_
            refine zr_aload_n dL_hangs_386 (rfl : 386 + 1 = 387) rfl ?_
            refine zr_iload dL_hangs_387 (rfl : 387 + 2 = 389) rfl ?_
            refine zr_bipush dL_hangs_389 (rfl : 389 + 2 = 391) (by decide) ?_
            refine zr_fnH dL_hangs_391 (rfl : 391 + 3 = 394) l_L_136 (w_cardOf i 8 hi (by decide) ok) rfl rfl (Nat.le_of_ble_eq_true rfl) ?_
            rw [jcd_8]
            refine zr_iadd dL_hangs_394 (rfl : 394 + 1 = 395) (by first | exact jI_add _ _ | rfl) ?_
            refine zr_istore (lv' := [_, _, _, _, _, _, _, _, _, _, _, _, _, _, _, _, _]) dL_hangs_395 (rfl : 395 + 2 = 397) (Nat.le_of_ble_eq_true rfl) rfl ?_
            refine zr_iload dL_hangs_397 (rfl : 397 + 2 = 399) rfl ?_
            refine zr_if_eq (tgt := 409) dL_hangs_399 (by decide) (rfl : 399 + 3 = 402) (by first | exact jb_iff | exact jI_z (by first | omega | (simp only [bset, reduceIte, Nat.reduceEqDiff]; omega)) (by first | omega | (simp only [bset, reduceIte, Nat.reduceEqDiff]; omega))) (fun h399 => ?_) (fun h399 => ?_)
            · exfalso
              omega
            refine zr_iload dL_hangs_402 (rfl : 402 + 2 = 404) rfl ?_
            refine zr_bipush dL_hangs_404 (rfl : 404 + 2 = 406) (by decide) ?_
            refine zr_icmp_ne (tgt := 571) dL_hangs_406 (by decide) (rfl : 406 + 3 = 409) (jI_eq (by first | omega | (simp only [bset, reduceIte, Nat.reduceEqDiff]; omega)) (by first | omega | (simp only [bset, reduceIte, Nat.reduceEqDiff]; omega)) (by first | omega | (simp only [bset, reduceIte, Nat.reduceEqDiff]; omega)) (by first | omega | (simp only [bset, reduceIte, Nat.reduceEqDiff]; omega))) (fun h406 => ?_) (fun h406 => ?_)
            · exfalso
              omega
            refine zr_aload_n dL_hangs_409 (rfl : 409 + 1 = 410) rfl ?_
            refine zr_iload dL_hangs_410 (rfl : 410 + 2 = 412) rfl ?_
            refine zr_iconst dL_hangs_412 (rfl : 412 + 1 = 413) ?_
            refine zr_fnH dL_hangs_413 (rfl : 413 + 3 = 416) l_L_136 (w_cardOf i 3 hi (by decide) ok) rfl rfl (Nat.le_of_ble_eq_true rfl) ?_
            rw [jcd_3]
            refine zr_iload dL_hangs_416 (rfl : 416 + 2 = 418) rfl ?_
            refine zr_icmp_gt (tgt := 571) dL_hangs_418 (by decide) (rfl : 418 + 3 = 421) (jI_lt (by first | omega | (simp only [bset, reduceIte, Nat.reduceEqDiff]; omega)) (by first | omega | (simp only [bset, reduceIte, Nat.reduceEqDiff]; omega)) (by first | omega | (simp only [bset, reduceIte, Nat.reduceEqDiff]; omega)) (by first | omega | (simp only [bset, reduceIte, Nat.reduceEqDiff]; omega))) (fun h418 => ?_) (fun h418 => ?_)
            · exfalso
              omega
            refine zr_aload_n dL_hangs_421 (rfl : 421 + 1 = 422) rfl ?_
            refine zr_iload dL_hangs_422 (rfl : 422 + 2 = 424) rfl ?_
            refine zr_iconst dL_hangs_424 (rfl : 424 + 1 = 425) ?_
            refine zr_fnH dL_hangs_425 (rfl : 425 + 3 = 428) l_L_136 (w_cardOf i 4 hi (by decide) ok) rfl rfl (Nat.le_of_ble_eq_true rfl) ?_
            rw [jcd_4]
            refine zr_iload dL_hangs_428 (rfl : 428 + 2 = 430) rfl ?_
            refine zr_icmp_gt (tgt := 571) dL_hangs_430 (by decide) (rfl : 430 + 3 = 433) (jI_lt (by first | omega | (simp only [bset, reduceIte, Nat.reduceEqDiff]; omega)) (by first | omega | (simp only [bset, reduceIte, Nat.reduceEqDiff]; omega)) (by first | omega | (simp only [bset, reduceIte, Nat.reduceEqDiff]; omega)) (by first | omega | (simp only [bset, reduceIte, Nat.reduceEqDiff]; omega))) (fun h430 => ?_) (fun h430 => ?_)
            · exfalso
              omega
            refine zr_aload_n dL_hangs_433 (rfl : 433 + 1 = 434) rfl ?_
            refine zr_iload dL_hangs_434 (rfl : 434 + 2 = 436) rfl ?_
            refine zr_iconst dL_hangs_436 (rfl : 436 + 1 = 437) ?_
            refine zr_fnH dL_hangs_437 (rfl : 437 + 3 = 440) l_L_136 (w_cardOf i 2 hi (by decide) ok) rfl rfl (Nat.le_of_ble_eq_true rfl) ?_
            rw [jcd_2]
            refine zr_if_eq (tgt := 448) dL_hangs_440 (by decide) (rfl : 440 + 3 = 443) (by first | exact jb_iff | exact jI_z (by first | omega | (simp only [bset, reduceIte, Nat.reduceEqDiff]; omega)) (by first | omega | (simp only [bset, reduceIte, Nat.reduceEqDiff]; omega))) (fun h440 => ?_) (fun h440 => ?_)
            · exfalso
              omega
            refine zr_iload dL_hangs_443 (rfl : 443 + 2 = 445) rfl ?_
            refine zr_if_eq (tgt := 571) dL_hangs_445 (by decide) (rfl : 445 + 3 = 448) (by first | exact jb_iff | exact jI_z (by first | omega | (simp only [bset, reduceIte, Nat.reduceEqDiff]; omega)) (by first | omega | (simp only [bset, reduceIte, Nat.reduceEqDiff]; omega))) (fun h445 => ?_) (fun h445 => ?_)
            · exfalso
              omega
            refine zr_iload dL_hangs_448 (rfl : 448 + 2 = 450) rfl ?_
            refine zr_if_eq (tgt := 527) dL_hangs_450 (by decide) (rfl : 450 + 3 = 453) (by first | exact jb_iff | exact jI_z (by first | omega | (simp only [bset, reduceIte, Nat.reduceEqDiff]; omega)) (by first | omega | (simp only [bset, reduceIte, Nat.reduceEqDiff]; omega))) (fun h450 => ?_) (fun h450 => ?_)
            · exfalso
              omega
            refine zr_iload dL_hangs_453 (rfl : 453 + 2 = 455) rfl ?_
            refine zr_bipush dL_hangs_455 (rfl : 455 + 2 = 457) (by decide) ?_
            refine zr_icmp_lt (tgt := 571) dL_hangs_457 (by decide) (rfl : 457 + 3 = 460) (jI_lt (by first | omega | (simp only [bset, reduceIte, Nat.reduceEqDiff]; omega)) (by first | omega | (simp only [bset, reduceIte, Nat.reduceEqDiff]; omega)) (by first | omega | (simp only [bset, reduceIte, Nat.reduceEqDiff]; omega)) (by first | omega | (simp only [bset, reduceIte, Nat.reduceEqDiff]; omega))) (fun h457 => ?_) (fun h457 => ?_)
            · exfalso
              omega
            refine zr_iload dL_hangs_460 (rfl : 460 + 2 = 462) rfl ?_
            refine zr_aload_n dL_hangs_462 (rfl : 462 + 1 = 463) rfl ?_
            refine zr_iload dL_hangs_463 (rfl : 463 + 2 = 465) rfl ?_
            refine zr_iconst dL_hangs_465 (rfl : 465 + 1 = 466) ?_
            refine zr_fnH dL_hangs_466 (rfl : 466 + 3 = 469) l_L_138 hf2 rfl rfl (Nat.le_of_ble_eq_true rfl) ?_
            refine zr_icmp_ne (tgt := 571) dL_hangs_469 (by decide) (rfl : 469 + 3 = 472) (jI_eq (by first | omega | (simp only [bset, reduceIte, Nat.reduceEqDiff]; omega)) (by first | omega | (simp only [bset, reduceIte, Nat.reduceEqDiff]; omega)) (by first | omega | (simp only [bset, reduceIte, Nat.reduceEqDiff]; omega)) (by first | omega | (simp only [bset, reduceIte, Nat.reduceEqDiff]; omega))) (fun h469 => ?_) (fun h469 => ?_)
            · exfalso
              omega
            refine zr_aload_n dL_hangs_472 (rfl : 472 + 1 = 473) rfl ?_
            refine zr_iload dL_hangs_473 (rfl : 473 + 2 = 475) rfl ?_
            refine zr_iconst dL_hangs_475 (rfl : 475 + 1 = 476) ?_
            refine zr_iconst dL_hangs_476 (rfl : 476 + 1 = 477) ?_
            refine zr_fnH dL_hangs_477 (rfl : 477 + 3 = 480) l_L_140 (w_missing i 3 0 ⟨hi, by decide⟩ (by decide) ok) rfl rfl (Nat.le_of_ble_eq_true rfl) ?_
            rw [f3 hw]
            refine zr_bipush dL_hangs_480 (rfl : 480 + 2 = 482) (by decide) ?_
            refine zr_aload_n dL_hangs_482 (rfl : 482 + 1 = 483) rfl ?_
            refine zr_iload dL_hangs_483 (rfl : 483 + 2 = 485) rfl ?_
            refine zr_iconst dL_hangs_485 (rfl : 485 + 1 = 486) ?_
            refine zr_fnH dL_hangs_486 (rfl : 486 + 3 = 489) l_L_136 (w_cardOf i 3 hi (by decide) ok) rfl rfl (Nat.le_of_ble_eq_true rfl) ?_
            rw [jcd_3]
            refine zr_isub dL_hangs_489 (rfl : 489 + 1 = 490) (by first | exact jI_sub _ _ | rfl) ?_
            refine zr_icmp_ne (tgt := 571) dL_hangs_490 (by decide) (rfl : 490 + 3 = 493) (jI_eq (by first | omega | (simp only [bset, reduceIte, Nat.reduceEqDiff]; omega)) (by first | omega | (simp only [bset, reduceIte, Nat.reduceEqDiff]; omega)) (by first | omega | (simp only [bset, reduceIte, Nat.reduceEqDiff]; omega)) (by first | omega | (simp only [bset, reduceIte, Nat.reduceEqDiff]; omega))) (fun h490 => ?_) (fun h490 => ?_)
            · exfalso
              omega
            refine zr_iload dL_hangs_493 (rfl : 493 + 2 = 495) rfl ?_
            refine zr_iload_n dL_hangs_495 (rfl : 495 + 1 = 496) rfl ?_
            refine zr_icmp_gt (tgt := 503) dL_hangs_496 (by decide) (rfl : 496 + 3 = 499) (jI_lt (by first | omega | (simp only [bset, reduceIte, Nat.reduceEqDiff]; omega)) (by first | omega | (simp only [bset, reduceIte, Nat.reduceEqDiff]; omega)) (by first | omega | (simp only [bset, reduceIte, Nat.reduceEqDiff]; omega)) (by first | omega | (simp only [bset, reduceIte, Nat.reduceEqDiff]; omega))) (fun h496 => ?_) (fun h496 => ?_)
            · exfalso
              omega
            refine zr_iconst dL_hangs_499 (rfl : 499 + 1 = 500) ?_
            refine zr_goto (tgt := 504) dL_hangs_500 (by decide) ?_
            refine zr_aload_n dL_hangs_504 (rfl : 504 + 1 = 505) rfl ?_
            refine zr_iload dL_hangs_505 (rfl : 505 + 2 = 507) rfl ?_
            refine zr_iconst dL_hangs_507 (rfl : 507 + 1 = 508) ?_
            refine zr_fnH dL_hangs_508 (rfl : 508 + 3 = 511) l_L_136 (w_cardOf i 3 hi (by decide) ok) rfl rfl (Nat.le_of_ble_eq_true rfl) ?_
            rw [jcd_3]
            refine zr_bipush dL_hangs_511 (rfl : 511 + 2 = 513) (by decide) ?_
            refine zr_icmp_ne (tgt := 520) dL_hangs_513 (by decide) (rfl : 513 + 3 = 516) (jI_eq (by first | omega | (simp only [bset, reduceIte, Nat.reduceEqDiff]; omega)) (by first | omega | (simp only [bset, reduceIte, Nat.reduceEqDiff]; omega)) (by first | omega | (simp only [bset, reduceIte, Nat.reduceEqDiff]; omega)) (by first | omega | (simp only [bset, reduceIte, Nat.reduceEqDiff]; omega))) (fun h513 => ?_) (fun h513 => ?_)
            · exfalso
              omega
            refine zr_iconst dL_hangs_516 (rfl : 516 + 1 = 517) ?_
            refine zr_goto (tgt := 521) dL_hangs_517 (by decide) ?_
            refine zr_icmp_ne (tgt := 571) dL_hangs_521 (by decide) (rfl : 521 + 3 = 524) (jI_eq (by first | omega | (simp only [bset, reduceIte, Nat.reduceEqDiff]; omega)) (by first | omega | (simp only [bset, reduceIte, Nat.reduceEqDiff]; omega)) (by first | omega | (simp only [bset, reduceIte, Nat.reduceEqDiff]; omega)) (by first | omega | (simp only [bset, reduceIte, Nat.reduceEqDiff]; omega))) (fun h521 => ?_) (fun h521 => ?_)
            · exfalso
              omega
            refine zr_goto (tgt := 545) dL_hangs_524 (by decide) ?_
            refine zr_aload_n dL_hangs_545 (rfl : 545 + 1 = 546) rfl ?_
            refine zr_iload dL_hangs_546 (rfl : 546 + 2 = 548) rfl ?_
            refine zr_bipush dL_hangs_548 (rfl : 548 + 2 = 550) (by decide) ?_
            refine zr_fnH dL_hangs_550 (rfl : 550 + 3 = 553) l_L_136 (w_cardOf i 6 hi (by decide) ok) rfl rfl (Nat.le_of_ble_eq_true rfl) ?_
            rw [jcd_6]
            refine zr_if_eq (tgt := 567) dL_hangs_553 (by decide) (rfl : 553 + 3 = 556) (by first | exact jb_iff | exact jI_z (by first | omega | (simp only [bset, reduceIte, Nat.reduceEqDiff]; omega)) (by first | omega | (simp only [bset, reduceIte, Nat.reduceEqDiff]; omega))) (fun h553 => ?_) (fun h553 => ?_)
            rotate_left
            · exfalso
              omega
            refine zr_iconst dL_hangs_567 (rfl : 567 + 1 = 568) ?_
            refine zr_goto (tgt := 572) dL_hangs_568 (by decide) ?_
            refine zr_istore (lv' := [_, _, _, _, _, _, _, _, _, _, _, _, _, _, _, _, _]) dL_hangs_572 (rfl : 572 + 2 = 574) (Nat.le_of_ble_eq_true rfl) rfl ?_
            refine zr_iinc (lv' := [_, _, _, _, _, _, _, _, _, _, _, _, _, _, _, _, _]) dL_hangs_574 (rfl : 574 + 3 = 577) (Nat.le_of_ble_eq_true rfl) rfl (by first | exact jI_add _ _ | rfl) rfl ?_
            refine zr_goto (tgt := 289) dL_hangs_577 (by decide) ?_
            refine hk _ _ _ _ _ _ _ _ _ ⟨?_, ?_, ?_, ?_, ?_⟩
            all_goals omega
          · refine zr_iload dL_hangs_289 (rfl : 289 + 2 = 291) rfl ?_
            refine zr_bipush dL_hangs_291 (rfl : 291 + 2 = 293) (by decide) ?_
            refine zr_icmp_ge (tgt := 580) dL_hangs_293 (by decide) (rfl : 293 + 3 = 296) (jI_le (by first | omega | (simp only [bset, reduceIte, Nat.reduceEqDiff]; omega)) (by first | omega | (simp only [bset, reduceIte, Nat.reduceEqDiff]; omega)) (by first | omega | (simp only [bset, reduceIte, Nat.reduceEqDiff]; omega)) (by first | omega | (simp only [bset, reduceIte, Nat.reduceEqDiff]; omega))) (fun h293 => ?_) (fun h293 => ?_)
            · exfalso
              omega
            refine zr_iload dL_hangs_296 (rfl : 296 + 2 = 298) rfl ?_
            refine zr_if_eq (tgt := 580) dL_hangs_298 (by decide) (rfl : 298 + 3 = 301) (by first | exact jb_iff | exact jI_z (by first | omega | (simp only [bset, reduceIte, Nat.reduceEqDiff]; omega)) (by first | omega | (simp only [bset, reduceIte, Nat.reduceEqDiff]; omega))) (fun h298 => ?_) (fun h298 => ?_)
            · exfalso
              omega
            refine zr_aload_n dL_hangs_301 (rfl : 301 + 1 = 302) rfl ?_
            refine zr_iload dL_hangs_302 (rfl : 302 + 2 = 304) rfl ?_
            refine zr_iconst dL_hangs_304 (rfl : 304 + 1 = 305) ?_
            refine zr_fnH dL_hangs_305 (rfl : 305 + 3 = 308) l_L_136 (w_cardOf i 0 hi (by decide) ok) rfl rfl (Nat.le_of_ble_eq_true rfl) ?_
            rw [jcd_0]
            refine zr_istore (lv' := [_, _, _, _, _, _, _, _, _, _, _, _, _, _, _, _, _]) dL_hangs_308 (rfl : 308 + 2 = 310) (Nat.le_of_ble_eq_true rfl) rfl ?_
            refine zr_aload_n dL_hangs_310 (rfl : 310 + 1 = 311) rfl ?_
            refine zr_iload dL_hangs_311 (rfl : 311 + 2 = 313) rfl ?_
            refine zr_iconst dL_hangs_313 (rfl : 313 + 1 = 314) ?_
            refine zr_fnH dL_hangs_314 (rfl : 314 + 3 = 317) l_L_136 (w_cardOf i 1 hi (by decide) ok) rfl rfl (Nat.le_of_ble_eq_true rfl) ?_
            rw [jcd_1, jb_pos hw]
            refine zr_iconst dL_hangs_317 (rfl : 317 + 1 = 318) ?_
            refine zr_icmp_ne (tgt := 325) dL_hangs_318 (by decide) (rfl : 318 + 3 = 321) (jI_eq (by first | omega | (simp only [bset, reduceIte, Nat.reduceEqDiff]; omega)) (by first | omega | (simp only [bset, reduceIte, Nat.reduceEqDiff]; omega)) (by first | omega | (simp only [bset, reduceIte, Nat.reduceEqDiff]; omega)) (by first | omega | (simp only [bset, reduceIte, Nat.reduceEqDiff]; omega))) (fun h318 => ?_) (fun h318 => ?_)
            · exfalso
              omega
            refine zr_iconst dL_hangs_321 (rfl : 321 + 1 = 322) ?_
            refine zr_goto (tgt := 326) dL_hangs_322 (by decide) ?_
            refine zr_istore (lv' := [_, _, _, _, _, _, _, _, _, _, _, _, _, _, _, _, _]) dL_hangs_326 (rfl : 326 + 2 = 328) (Nat.le_of_ble_eq_true rfl) rfl ?_
            refine zr_aload_n dL_hangs_328 (rfl : 328 + 1 = 329) rfl ?_
            refine zr_iload dL_hangs_329 (rfl : 329 + 2 = 331) rfl ?_
            refine zr_iconst dL_hangs_331 (rfl : 331 + 1 = 332) ?_
            refine zr_fnH dL_hangs_332 (rfl : 332 + 3 = 335) l_L_138 hf1 rfl rfl (Nat.le_of_ble_eq_true rfl) ?_
            refine zr_istore (lv' := [_, _, _, _, _, _, _, _, _, _, _, _, _, _, _, _, _]) dL_hangs_335 (rfl : 335 + 2 = 337) (Nat.le_of_ble_eq_true rfl) rfl ?_
            refine zr_iload dL_hangs_337 (rfl : 337 + 2 = 339) rfl ?_
            refine zr_iload dL_hangs_339 (rfl : 339 + 2 = 341) rfl ?_
            refine zr_iadd dL_hangs_341 (rfl : 341 + 1 = 342) (by first | exact jI_add _ _ | rfl) ?_
            refine zr_istore (lv' := [_, _, _, _, _, _, _, _, _, _, _, _, _, _, _, _, _]) dL_hangs_342 (rfl : 342 + 2 = 344) (Nat.le_of_ble_eq_true rfl) rfl ?_
            refine zr_iload dL_hangs_344 (rfl : 344 + 2 = 346) rfl ?_
            refine zr_iload dL_hangs_346 (rfl : 346 + 2 = 348) rfl ?_
            refine zr_if_eq (tgt := 355) dL_hangs_348 (by decide) (rfl : 348 + 3 = 351) (by first | exact jb_iff | exact jI_z (by first | omega | (simp only [bset, reduceIte, Nat.reduceEqDiff]; omega)) (by first | omega | (simp only [bset, reduceIte, Nat.reduceEqDiff]; omega))) (fun h348 => ?_) (fun h348 => ?_)
            · exfalso
              omega
            refine zr_iconst dL_hangs_351 (rfl : 351 + 1 = 352) ?_
            refine zr_goto (tgt := 356) dL_hangs_352 (by decide) ?_
            refine zr_iadd dL_hangs_356 (rfl : 356 + 1 = 357) (by first | exact jI_add _ _ | rfl) ?_
            refine zr_istore (lv' := [_, _, _, _, _, _, _, _, _, _, _, _, _, _, _, _, _]) dL_hangs_357 (rfl : 357 + 2 = 359) (Nat.le_of_ble_eq_true rfl) rfl ?_
            refine zr_iload dL_hangs_359 (rfl : 359 + 2 = 361) rfl ?_
            refine zr_aload_n dL_hangs_361 (rfl : 361 + 1 = 362) rfl ?_
            refine zr_iload dL_hangs_362 (rfl : 362 + 2 = 364) rfl ?_
            refine zr_iconst dL_hangs_364 (rfl : 364 + 1 = 365) ?_
            refine zr_fnH dL_hangs_365 (rfl : 365 + 3 = 368) l_L_136 (w_cardOf i 2 hi (by decide) ok) rfl rfl (Nat.le_of_ble_eq_true rfl) ?_
            rw [jcd_2]
            refine zr_iadd dL_hangs_368 (rfl : 368 + 1 = 369) (by first | exact jI_add _ _ | rfl) ?_
            refine zr_istore (lv' := [_, _, _, _, _, _, _, _, _, _, _, _, _, _, _, _, _]) dL_hangs_369 (rfl : 369 + 2 = 371) (Nat.le_of_ble_eq_true rfl) rfl ?_
            refine zr_iload dL_hangs_371 (rfl : 371 + 2 = 373) rfl ?_
            refine zr_aload_n dL_hangs_373 (rfl : 373 + 1 = 374) rfl ?_
            refine zr_iload dL_hangs_374 (rfl : 374 + 2 = 376) rfl ?_
            refine zr_bipush dL_hangs_376 (rfl : 376 + 2 = 378) (by decide) ?_
            refine zr_fnH dL_hangs_378 (rfl : 378 + 3 = 381) l_L_136 (w_cardOf i 7 hi (by decide) ok) rfl rfl (Nat.le_of_ble_eq_true rfl) ?_
            rw [jcd_7]
            refine zr_iadd dL_hangs_381 (rfl : 381 + 1 = 382) (by first | exact jI_add _ _ | rfl) ?_
            refine zr_istore (lv' := [_, _, _, _, _, _, _, _, _, _, _, _, _, _, _, _, _]) dL_hangs_382 (rfl : 382 + 2 = 384) (Nat.le_of_ble_eq_true rfl) rfl ?_
            refine zr_iload dL_hangs_384 (rfl : 384 + 2 = 386) rfl ?_
            refine zr_aload_n dL_hangs_386 (rfl : 386 + 1 = 387) rfl ?_
            refine zr_iload dL_hangs_387 (rfl : 387 + 2 = 389) rfl ?_
            refine zr_bipush dL_hangs_389 (rfl : 389 + 2 = 391) (by decide) ?_
            refine zr_fnH dL_hangs_391 (rfl : 391 + 3 = 394) l_L_136 (w_cardOf i 8 hi (by decide) ok) rfl rfl (Nat.le_of_ble_eq_true rfl) ?_
            rw [jcd_8]
            refine zr_iadd dL_hangs_394 (rfl : 394 + 1 = 395) (by first | exact jI_add _ _ | rfl) ?_
            refine zr_istore (lv' := [_, _, _, _, _, _, _, _, _, _, _, _, _, _, _, _, _]) dL_hangs_395 (rfl : 395 + 2 = 397) (Nat.le_of_ble_eq_true rfl) rfl ?_
            refine zr_iload dL_hangs_397 (rfl : 397 + 2 = 399) rfl ?_
            refine zr_if_eq (tgt := 409) dL_hangs_399 (by decide) (rfl : 399 + 3 = 402) (by first | exact jb_iff | exact jI_z (by first | omega | (simp only [bset, reduceIte, Nat.reduceEqDiff]; omega)) (by first | omega | (simp only [bset, reduceIte, Nat.reduceEqDiff]; omega))) (fun h399 => ?_) (fun h399 => ?_)
            · exfalso
              omega
            refine zr_iload dL_hangs_402 (rfl : 402 + 2 = 404) rfl ?_
            refine zr_bipush dL_hangs_404 (rfl : 404 + 2 = 406) (by decide) ?_
            refine zr_icmp_ne (tgt := 571) dL_hangs_406 (by decide) (rfl : 406 + 3 = 409) (jI_eq (by first | omega | (simp only [bset, reduceIte, Nat.reduceEqDiff]; omega)) (by first | omega | (simp only [bset, reduceIte, Nat.reduceEqDiff]; omega)) (by first | omega | (simp only [bset, reduceIte, Nat.reduceEqDiff]; omega)) (by first | omega | (simp only [bset, reduceIte, Nat.reduceEqDiff]; omega))) (fun h406 => ?_) (fun h406 => ?_)
            · exfalso
              omega
            refine zr_aload_n dL_hangs_409 (rfl : 409 + 1 = 410) rfl ?_
            refine zr_iload dL_hangs_410 (rfl : 410 + 2 = 412) rfl ?_
            refine zr_iconst dL_hangs_412 (rfl : 412 + 1 = 413) ?_
            refine zr_fnH dL_hangs_413 (rfl : 413 + 3 = 416) l_L_136 (w_cardOf i 3 hi (by decide) ok) rfl rfl (Nat.le_of_ble_eq_true rfl) ?_
            rw [jcd_3]
            refine zr_iload dL_hangs_416 (rfl : 416 + 2 = 418) rfl ?_
            refine zr_icmp_gt (tgt := 571) dL_hangs_418 (by decide) (rfl : 418 + 3 = 421) (jI_lt (by first | omega | (simp only [bset, reduceIte, Nat.reduceEqDiff]; omega)) (by first | omega | (simp only [bset, reduceIte, Nat.reduceEqDiff]; omega)) (by first | omega | (simp only [bset, reduceIte, Nat.reduceEqDiff]; omega)) (by first | omega | (simp only [bset, reduceIte, Nat.reduceEqDiff]; omega))) (fun h418 => ?_) (fun h418 => ?_)
            · exfalso
              omega
            refine zr_aload_n dL_hangs_421 (rfl : 421 + 1 = 422) rfl ?_
            refine zr_iload dL_hangs_422 (rfl : 422 + 2 = 424) rfl ?_
            refine zr_iconst dL_hangs_424 (rfl : 424 + 1 = 425) ?_
            refine zr_fnH dL_hangs_425 (rfl : 425 + 3 = 428) l_L_136 (w_cardOf i 4 hi (by decide) ok) rfl rfl (Nat.le_of_ble_eq_true rfl) ?_
            rw [jcd_4]
            refine zr_iload dL_hangs_428 (rfl : 428 + 2 = 430) rfl ?_
            refine zr_icmp_gt (tgt := 571) dL_hangs_430 (by decide) (rfl : 430 + 3 = 433) (jI_lt (by first | omega | (simp only [bset, reduceIte, Nat.reduceEqDiff]; omega)) (by first | omega | (simp only [bset, reduceIte, Nat.reduceEqDiff]; omega)) (by first | omega | (simp only [bset, reduceIte, Nat.reduceEqDiff]; omega)) (by first | omega | (simp only [bset, reduceIte, Nat.reduceEqDiff]; omega))) (fun h430 => ?_) (fun h430 => ?_)
            · exfalso
              omega
            refine zr_aload_n dL_hangs_433 (rfl : 433 + 1 = 434) rfl ?_
            refine zr_iload dL_hangs_434 (rfl : 434 + 2 = 436) rfl ?_
            refine zr_iconst dL_hangs_436 (rfl : 436 + 1 = 437) ?_
            refine zr_fnH dL_hangs_437 (rfl : 437 + 3 = 440) l_L_136 (w_cardOf i 2 hi (by decide) ok) rfl rfl (Nat.le_of_ble_eq_true rfl) ?_
            rw [jcd_2]
            refine zr_if_eq (tgt := 448) dL_hangs_440 (by decide) (rfl : 440 + 3 = 443) (by first | exact jb_iff | exact jI_z (by first | omega | (simp only [bset, reduceIte, Nat.reduceEqDiff]; omega)) (by first | omega | (simp only [bset, reduceIte, Nat.reduceEqDiff]; omega))) (fun h440 => ?_) (fun h440 => ?_)
            · exfalso
              omega
            refine zr_iload dL_hangs_443 (rfl : 443 + 2 = 445) rfl ?_
            refine zr_if_eq (tgt := 571) dL_hangs_445 (by decide) (rfl : 445 + 3 = 448) (by first | exact jb_iff | exact jI_z (by first | omega | (simp only [bset, reduceIte, Nat.reduceEqDiff]; omega)) (by first | omega | (simp only [bset, reduceIte, Nat.reduceEqDiff]; omega))) (fun h445 => ?_) (fun h445 => ?_)
            · exfalso
              omega
            refine zr_iload dL_hangs_448 (rfl : 448 + 2 = 450) rfl ?_
            refine zr_if_eq (tgt := 527) dL_hangs_450 (by decide) (rfl : 450 + 3 = 453) (by first | exact jb_iff | exact jI_z (by first | omega | (simp only [bset, reduceIte, Nat.reduceEqDiff]; omega)) (by first | omega | (simp only [bset, reduceIte, Nat.reduceEqDiff]; omega))) (fun h450 => ?_) (fun h450 => ?_)
            · exfalso
              omega
            refine zr_iload dL_hangs_453 (rfl : 453 + 2 = 455) rfl ?_
            refine zr_bipush dL_hangs_455 (rfl : 455 + 2 = 457) (by decide) ?_
            refine zr_icmp_lt (tgt := 571) dL_hangs_457 (by decide) (rfl : 457 + 3 = 460) (jI_lt (by first | omega | (simp only [bset, reduceIte, Nat.reduceEqDiff]; omega)) (by first | omega | (simp only [bset, reduceIte, Nat.reduceEqDiff]; omega)) (by first | omega | (simp only [bset, reduceIte, Nat.reduceEqDiff]; omega)) (by first | omega | (simp only [bset, reduceIte, Nat.reduceEqDiff]; omega))) (fun h457 => ?_) (fun h457 => ?_)
            · exfalso
              omega
            refine zr_iload dL_hangs_460 (rfl : 460 + 2 = 462) rfl ?_
            refine zr_aload_n dL_hangs_462 (rfl : 462 + 1 = 463) rfl ?_
            refine zr_iload dL_hangs_463 (rfl : 463 + 2 = 465) rfl ?_
            refine zr_iconst dL_hangs_465 (rfl : 465 + 1 = 466) ?_
            refine zr_fnH dL_hangs_466 (rfl : 466 + 3 = 469) l_L_138 hf2 rfl rfl (Nat.le_of_ble_eq_true rfl) ?_
            refine zr_icmp_ne (tgt := 571) dL_hangs_469 (by decide) (rfl : 469 + 3 = 472) (jI_eq (by first | omega | (simp only [bset, reduceIte, Nat.reduceEqDiff]; omega)) (by first | omega | (simp only [bset, reduceIte, Nat.reduceEqDiff]; omega)) (by first | omega | (simp only [bset, reduceIte, Nat.reduceEqDiff]; omega)) (by first | omega | (simp only [bset, reduceIte, Nat.reduceEqDiff]; omega))) (fun h469 => ?_) (fun h469 => ?_)
            · exfalso
              omega
            refine zr_aload_n dL_hangs_472 (rfl : 472 + 1 = 473) rfl ?_
            refine zr_iload dL_hangs_473 (rfl : 473 + 2 = 475) rfl ?_
            refine zr_iconst dL_hangs_475 (rfl : 475 + 1 = 476) ?_
            refine zr_iconst dL_hangs_476 (rfl : 476 + 1 = 477) ?_
            refine zr_fnH dL_hangs_477 (rfl : 477 + 3 = 480) l_L_140 (w_missing i 3 0 ⟨hi, by decide⟩ (by decide) ok) rfl rfl (Nat.le_of_ble_eq_true rfl) ?_
            rw [f3 hw]
            refine zr_bipush dL_hangs_480 (rfl : 480 + 2 = 482) (by decide) ?_
            refine zr_aload_n dL_hangs_482 (rfl : 482 + 1 = 483) rfl ?_
            refine zr_iload dL_hangs_483 (rfl : 483 + 2 = 485) rfl ?_
            refine zr_iconst dL_hangs_485 (rfl : 485 + 1 = 486) ?_
            refine zr_fnH dL_hangs_486 (rfl : 486 + 3 = 489) l_L_136 (w_cardOf i 3 hi (by decide) ok) rfl rfl (Nat.le_of_ble_eq_true rfl) ?_
            rw [jcd_3]
            refine zr_isub dL_hangs_489 (rfl : 489 + 1 = 490) (by first | exact jI_sub _ _ | rfl) ?_
            refine zr_icmp_ne (tgt := 571) dL_hangs_490 (by decide) (rfl : 490 + 3 = 493) (jI_eq (by first | omega | (simp only [bset, reduceIte, Nat.reduceEqDiff]; omega)) (by first | omega | (simp only [bset, reduceIte, Nat.reduceEqDiff]; omega)) (by first | omega | (simp only [bset, reduceIte, Nat.reduceEqDiff]; omega)) (by first | omega | (simp only [bset, reduceIte, Nat.reduceEqDiff]; omega))) (fun h490 => ?_) (fun h490 => ?_)
            · exfalso
              omega
            refine zr_iload dL_hangs_493 (rfl : 493 + 2 = 495) rfl ?_
            refine zr_iload_n dL_hangs_495 (rfl : 495 + 1 = 496) rfl ?_
            refine zr_icmp_gt (tgt := 503) dL_hangs_496 (by decide) (rfl : 496 + 3 = 499) (jI_lt (by first | omega | (simp only [bset, reduceIte, Nat.reduceEqDiff]; omega)) (by first | omega | (simp only [bset, reduceIte, Nat.reduceEqDiff]; omega)) (by first | omega | (simp only [bset, reduceIte, Nat.reduceEqDiff]; omega)) (by first | omega | (simp only [bset, reduceIte, Nat.reduceEqDiff]; omega))) (fun h496 => ?_) (fun h496 => ?_)
            · exfalso
              omega
            refine zr_iconst dL_hangs_499 (rfl : 499 + 1 = 500) ?_
            refine zr_goto (tgt := 504) dL_hangs_500 (by decide) ?_
            refine zr_aload_n dL_hangs_504 (rfl : 504 + 1 = 505) rfl ?_
            refine zr_iload dL_hangs_505 (rfl : 505 + 2 = 507) rfl ?_
            refine zr_iconst dL_hangs_507 (rfl : 507 + 1 = 508) ?_
            refine zr_fnH dL_hangs_508 (rfl : 508 + 3 = 511) l_L_136 (w_cardOf i 3 hi (by decide) ok) rfl rfl (Nat.le_of_ble_eq_true rfl) ?_
            rw [jcd_3]
            refine zr_bipush dL_hangs_511 (rfl : 511 + 2 = 513) (by decide) ?_
            refine zr_icmp_ne (tgt := 520) dL_hangs_513 (by decide) (rfl : 513 + 3 = 516) (jI_eq (by first | omega | (simp only [bset, reduceIte, Nat.reduceEqDiff]; omega)) (by first | omega | (simp only [bset, reduceIte, Nat.reduceEqDiff]; omega)) (by first | omega | (simp only [bset, reduceIte, Nat.reduceEqDiff]; omega)) (by first | omega | (simp only [bset, reduceIte, Nat.reduceEqDiff]; omega))) (fun h513 => ?_) (fun h513 => ?_)
            · exfalso
              omega
            refine zr_iconst dL_hangs_516 (rfl : 516 + 1 = 517) ?_
            refine zr_goto (tgt := 521) dL_hangs_517 (by decide) ?_
            refine zr_icmp_ne (tgt := 571) dL_hangs_521 (by decide) (rfl : 521 + 3 = 524) (jI_eq (by first | omega | (simp only [bset, reduceIte, Nat.reduceEqDiff]; omega)) (by first | omega | (simp only [bset, reduceIte, Nat.reduceEqDiff]; omega)) (by first | omega | (simp only [bset, reduceIte, Nat.reduceEqDiff]; omega)) (by first | omega | (simp only [bset, reduceIte, Nat.reduceEqDiff]; omega))) (fun h521 => ?_) (fun h521 => ?_)
            · exfalso
              omega
            refine zr_goto (tgt := 545) dL_hangs_524 (by decide) ?_
            refine zr_aload_n dL_hangs_545 (rfl : 545 + 1 = 546) rfl ?_
            refine zr_iload dL_hangs_546 (rfl : 546 + 2 = 548) rfl ?_
            refine zr_bipush dL_hangs_548 (rfl : 548 + 2 = 550) (by decide) ?_
            refine zr_fnH dL_hangs_550 (rfl : 550 + 3 = 553) l_L_136 (w_cardOf i 6 hi (by decide) ok) rfl rfl (Nat.le_of_ble_eq_true rfl) ?_
            rw [jcd_6]
            refine zr_if_eq (tgt := 567) dL_hangs_553 (by decide) (rfl : 553 + 3 = 556) (by first | exact jb_iff | exact jI_z (by first | omega | (simp only [bset, reduceIte, Nat.reduceEqDiff]; omega)) (by first | omega | (simp only [bset, reduceIte, Nat.reduceEqDiff]; omega))) (fun h553 => ?_) (fun h553 => ?_)
            · exfalso
              omega
            refine zr_aload_n dL_hangs_556 (rfl : 556 + 1 = 557) rfl ?_
            refine zr_iload dL_hangs_557 (rfl : 557 + 2 = 559) rfl ?_
            refine zr_iconst dL_hangs_559 (rfl : 559 + 1 = 560) ?_
            refine zr_fnH dL_hangs_560 (rfl : 560 + 3 = 563) l_L_136 (w_cardOf i 2 hi (by decide) ok) rfl rfl (Nat.le_of_ble_eq_true rfl) ?_
            rw [jcd_2]
            refine zr_iconst dL_hangs_563 (rfl : 563 + 1 = 564) ?_
            refine zr_icmp_ne (tgt := 571) dL_hangs_564 (by decide) (rfl : 564 + 3 = 567) (jI_eq (by first | omega | (simp only [bset, reduceIte, Nat.reduceEqDiff]; omega)) (by first | omega | (simp only [bset, reduceIte, Nat.reduceEqDiff]; omega)) (by first | omega | (simp only [bset, reduceIte, Nat.reduceEqDiff]; omega)) (by first | omega | (simp only [bset, reduceIte, Nat.reduceEqDiff]; omega))) (fun h564 => ?_) (fun h564 => ?_)
            · exfalso
              omega
            refine zr_iconst dL_hangs_567 (rfl : 567 + 1 = 568) ?_
            refine zr_goto (tgt := 572) dL_hangs_568 (by decide) ?_
            refine zr_istore (lv' := [_, _, _, _, _, _, _, _, _, _, _, _, _, _, _, _, _]) dL_hangs_572 (rfl : 572 + 2 = 574) (Nat.le_of_ble_eq_true rfl) rfl ?_
            refine zr_iinc (lv' := [_, _, _, _, _, _, _, _, _, _, _, _, _, _, _, _, _]) dL_hangs_574 (rfl : 574 + 3 = 577) (Nat.le_of_ble_eq_true rfl) rfl (by first | exact jI_add _ _ | rfl) rfl ?_
            refine zr_goto (tgt := 289) dL_hangs_577 (by decide) ?_
            refine hk _ _ _ _ _ _ _ _ _ ⟨?_, ?_, ?_, ?_, ?_⟩
            all_goals omega
        · have qg : jgw (B 9) i = 0 := by omega
          refine zr_iload dL_hangs_289 (rfl : 289 + 2 = 291) rfl ?_
          refine zr_bipush dL_hangs_291 (rfl : 291 + 2 = 293) (by decide) ?_
          refine zr_icmp_ge (tgt := 580) dL_hangs_293 (by decide) (rfl : 293 + 3 = 296) (jI_le (by first | omega | (simp only [bset, reduceIte, Nat.reduceEqDiff]; omega)) (by first | omega | (simp only [bset, reduceIte, Nat.reduceEqDiff]; omega)) (by first | omega | (simp only [bset, reduceIte, Nat.reduceEqDiff]; omega)) (by first | omega | (simp only [bset, reduceIte, Nat.reduceEqDiff]; omega))) (fun h293 => ?_) (fun h293 => ?_)
          · exfalso
            omega
          refine zr_iload dL_hangs_296 (rfl : 296 + 2 = 298) rfl ?_
          refine zr_if_eq (tgt := 580) dL_hangs_298 (by decide) (rfl : 298 + 3 = 301) (by first | exact jb_iff | exact jI_z (by first | omega | (simp only [bset, reduceIte, Nat.reduceEqDiff]; omega)) (by first | omega | (simp only [bset, reduceIte, Nat.reduceEqDiff]; omega))) (fun h298 => ?_) (fun h298 => ?_)
          · exfalso
            omega
          refine zr_aload_n dL_hangs_301 (rfl : 301 + 1 = 302) rfl ?_
          refine zr_iload dL_hangs_302 (rfl : 302 + 2 = 304) rfl ?_
          refine zr_iconst dL_hangs_304 (rfl : 304 + 1 = 305) ?_
          refine zr_fnH dL_hangs_305 (rfl : 305 + 3 = 308) l_L_136 (w_cardOf i 0 hi (by decide) ok) rfl rfl (Nat.le_of_ble_eq_true rfl) ?_
          rw [jcd_0]
          refine zr_istore (lv' := [_, _, _, _, _, _, _, _, _, _, _, _, _, _, _, _, _]) dL_hangs_308 (rfl : 308 + 2 = 310) (Nat.le_of_ble_eq_true rfl) rfl ?_
          refine zr_aload_n dL_hangs_310 (rfl : 310 + 1 = 311) rfl ?_
          refine zr_iload dL_hangs_311 (rfl : 311 + 2 = 313) rfl ?_
          refine zr_iconst dL_hangs_313 (rfl : 313 + 1 = 314) ?_
          refine zr_fnH dL_hangs_314 (rfl : 314 + 3 = 317) l_L_136 (w_cardOf i 1 hi (by decide) ok) rfl rfl (Nat.le_of_ble_eq_true rfl) ?_
          rw [jcd_1, jb_pos hw]
          refine zr_iconst dL_hangs_317 (rfl : 317 + 1 = 318) ?_
          refine zr_icmp_ne (tgt := 325) dL_hangs_318 (by decide) (rfl : 318 + 3 = 321) (jI_eq (by first | omega | (simp only [bset, reduceIte, Nat.reduceEqDiff]; omega)) (by first | omega | (simp only [bset, reduceIte, Nat.reduceEqDiff]; omega)) (by first | omega | (simp only [bset, reduceIte, Nat.reduceEqDiff]; omega)) (by first | omega | (simp only [bset, reduceIte, Nat.reduceEqDiff]; omega))) (fun h318 => ?_) (fun h318 => ?_)
          · exfalso
            omega
          refine zr_iconst dL_hangs_321 (rfl : 321 + 1 = 322) ?_
          refine zr_goto (tgt := 326) dL_hangs_322 (by decide) ?_
          refine zr_istore (lv' := [_, _, _, _, _, _, _, _, _, _, _, _, _, _, _, _, _]) dL_hangs_326 (rfl : 326 + 2 = 328) (Nat.le_of_ble_eq_true rfl) rfl ?_
          refine zr_aload_n dL_hangs_328 (rfl : 328 + 1 = 329) rfl ?_
          refine zr_iload dL_hangs_329 (rfl : 329 + 2 = 331) rfl ?_
          refine zr_iconst dL_hangs_331 (rfl : 331 + 1 = 332) ?_
          refine zr_fnH dL_hangs_332 (rfl : 332 + 3 = 335) l_L_138 hf1 rfl rfl (Nat.le_of_ble_eq_true rfl) ?_
          refine zr_istore (lv' := [_, _, _, _, _, _, _, _, _, _, _, _, _, _, _, _, _]) dL_hangs_335 (rfl : 335 + 2 = 337) (Nat.le_of_ble_eq_true rfl) rfl ?_
          refine zr_iload dL_hangs_337 (rfl : 337 + 2 = 339) rfl ?_
          refine zr_iload dL_hangs_339 (rfl : 339 + 2 = 341) rfl ?_
          refine zr_iadd dL_hangs_341 (rfl : 341 + 1 = 342) (by first | exact jI_add _ _ | rfl) ?_
          refine zr_istore (lv' := [_, _, _, _, _, _, _, _, _, _, _, _, _, _, _, _, _]) dL_hangs_342 (rfl : 342 + 2 = 344) (Nat.le_of_ble_eq_true rfl) rfl ?_
          refine zr_iload dL_hangs_344 (rfl : 344 + 2 = 346) rfl ?_
          refine zr_iload dL_hangs_346 (rfl : 346 + 2 = 348) rfl ?_
          refine zr_if_eq (tgt := 355) dL_hangs_348 (by decide) (rfl : 348 + 3 = 351) (by first | exact jb_iff | exact jI_z (by first | omega | (simp only [bset, reduceIte, Nat.reduceEqDiff]; omega)) (by first | omega | (simp only [bset, reduceIte, Nat.reduceEqDiff]; omega))) (fun h348 => ?_) (fun h348 => ?_)
          · exfalso
            omega
          refine zr_iconst dL_hangs_351 (rfl : 351 + 1 = 352) ?_
          refine zr_goto (tgt := 356) dL_hangs_352 (by decide) ?_
          refine zr_iadd dL_hangs_356 (rfl : 356 + 1 = 357) (by first | exact jI_add _ _ | rfl) ?_
          refine zr_istore (lv' := [_, _, _, _, _, _, _, _, _, _, _, _, _, _, _, _, _]) dL_hangs_357 (rfl : 357 + 2 = 359) (Nat.le_of_ble_eq_true rfl) rfl ?_
          refine zr_iload dL_hangs_359 (rfl : 359 + 2 = 361) rfl ?_
          refine zr_aload_n dL_hangs_361 (rfl : 361 + 1 = 362) rfl ?_
          refine zr_iload dL_hangs_362 (rfl : 362 + 2 = 364) rfl ?_
          refine zr_iconst dL_hangs_364 (rfl : 364 + 1 = 365) ?_
          refine zr_fnH dL_hangs_365 (rfl : 365 + 3 = 368) l_L_136 (w_cardOf i 2 hi (by decide) ok) rfl rfl (Nat.le_of_ble_eq_true rfl) ?_
          rw [jcd_2]
          refine zr_iadd dL_hangs_368 (rfl : 368 + 1 = 369) (by first | exact jI_add _ _ | rfl) ?_
          refine zr_istore (lv' := [_, _, _, _, _, _, _, _, _, _, _, _, _, _, _, _, _]) dL_hangs_369 (rfl : 369 + 2 = 371) (Nat.le_of_ble_eq_true rfl) rfl ?_
          refine zr_iload dL_hangs_371 (rfl : 371 + 2 = 373) rfl ?_
          refine zr_aload_n dL_hangs_373 (rfl : 373 + 1 = 374) rfl ?_
          refine zr_iload dL_hangs_374 (rfl : 374 + 2 = 376) rfl ?_
          refine zr_bipush dL_hangs_376 (rfl : 376 + 2 = 378) (by decide) ?_
          refine zr_fnH dL_hangs_378 (rfl : 378 + 3 = 381) l_L_136 (w_cardOf i 7 hi (by decide) ok) rfl rfl (Nat.le_of_ble_eq_true rfl) ?_
          rw [jcd_7]
          refine zr_iadd dL_hangs_381 (rfl : 381 + 1 = 382) (by first | exact jI_add _ _ | rfl) ?_
          refine zr_istore (lv' := [_, _, _, _, _, _, _, _, _, _, _, _, _, _, _, _, _]) dL_hangs_382 (rfl : 382 + 2 = 384) (Nat.le_of_ble_eq_true rfl) rfl ?_
          refine zr_iload dL_hangs_384 (rfl : 384 + 2 = 386) rfl ?_
          refine zr_aload_n dL_hangs_386 (rfl : 386 + 1 = 387) rfl ?_
          refine zr_iload dL_hangs_387 (rfl : 387 + 2 = 389) rfl ?_
          refine zr_bipush dL_hangs_389 (rfl : 389 + 2 = 391) (by decide) ?_
          refine zr_fnH dL_hangs_391 (rfl : 391 + 3 = 394) l_L_136 (w_cardOf i 8 hi (by decide) ok) rfl rfl (Nat.le_of_ble_eq_true rfl) ?_
          rw [jcd_8]
          refine zr_iadd dL_hangs_394 (rfl : 394 + 1 = 395) (by first | exact jI_add _ _ | rfl) ?_
          refine zr_istore (lv' := [_, _, _, _, _, _, _, _, _, _, _, _, _, _, _, _, _]) dL_hangs_395 (rfl : 395 + 2 = 397) (Nat.le_of_ble_eq_true rfl) rfl ?_
          refine zr_iload dL_hangs_397 (rfl : 397 + 2 = 399) rfl ?_
          refine zr_if_eq (tgt := 409) dL_hangs_399 (by decide) (rfl : 399 + 3 = 402) (by first | exact jb_iff | exact jI_z (by first | omega | (simp only [bset, reduceIte, Nat.reduceEqDiff]; omega)) (by first | omega | (simp only [bset, reduceIte, Nat.reduceEqDiff]; omega))) (fun h399 => ?_) (fun h399 => ?_)
          · exfalso
            omega
          refine zr_iload dL_hangs_402 (rfl : 402 + 2 = 404) rfl ?_
          refine zr_bipush dL_hangs_404 (rfl : 404 + 2 = 406) (by decide) ?_
          refine zr_icmp_ne (tgt := 571) dL_hangs_406 (by decide) (rfl : 406 + 3 = 409) (jI_eq (by first | omega | (simp only [bset, reduceIte, Nat.reduceEqDiff]; omega)) (by first | omega | (simp only [bset, reduceIte, Nat.reduceEqDiff]; omega)) (by first | omega | (simp only [bset, reduceIte, Nat.reduceEqDiff]; omega)) (by first | omega | (simp only [bset, reduceIte, Nat.reduceEqDiff]; omega))) (fun h406 => ?_) (fun h406 => ?_)
          · exfalso
            omega
          refine zr_aload_n dL_hangs_409 (rfl : 409 + 1 = 410) rfl ?_
          refine zr_iload dL_hangs_410 (rfl : 410 + 2 = 412) rfl ?_
          refine zr_iconst dL_hangs_412 (rfl : 412 + 1 = 413) ?_
          refine zr_fnH dL_hangs_413 (rfl : 413 + 3 = 416) l_L_136 (w_cardOf i 3 hi (by decide) ok) rfl rfl (Nat.le_of_ble_eq_true rfl) ?_
          rw [jcd_3]
          refine zr_iload dL_hangs_416 (rfl : 416 + 2 = 418) rfl ?_
          refine zr_icmp_gt (tgt := 571) dL_hangs_418 (by decide) (rfl : 418 + 3 = 421) (jI_lt (by first | omega | (simp only [bset, reduceIte, Nat.reduceEqDiff]; omega)) (by first | omega | (simp only [bset, reduceIte, Nat.reduceEqDiff]; omega)) (by first | omega | (simp only [bset, reduceIte, Nat.reduceEqDiff]; omega)) (by first | omega | (simp only [bset, reduceIte, Nat.reduceEqDiff]; omega))) (fun h418 => ?_) (fun h418 => ?_)
          · exfalso
            omega
          refine zr_aload_n dL_hangs_421 (rfl : 421 + 1 = 422) rfl ?_
          refine zr_iload dL_hangs_422 (rfl : 422 + 2 = 424) rfl ?_
          refine zr_iconst dL_hangs_424 (rfl : 424 + 1 = 425) ?_
          refine zr_fnH dL_hangs_425 (rfl : 425 + 3 = 428) l_L_136 (w_cardOf i 4 hi (by decide) ok) rfl rfl (Nat.le_of_ble_eq_true rfl) ?_
          rw [jcd_4]
          refine zr_iload dL_hangs_428 (rfl : 428 + 2 = 430) rfl ?_
          refine zr_icmp_gt (tgt := 571) dL_hangs_430 (by decide) (rfl : 430 + 3 = 433) (jI_lt (by first | omega | (simp only [bset, reduceIte, Nat.reduceEqDiff]; omega)) (by first | omega | (simp only [bset, reduceIte, Nat.reduceEqDiff]; omega)) (by first | omega | (simp only [bset, reduceIte, Nat.reduceEqDiff]; omega)) (by first | omega | (simp only [bset, reduceIte, Nat.reduceEqDiff]; omega))) (fun h430 => ?_) (fun h430 => ?_)
          · exfalso
            omega
          refine zr_aload_n dL_hangs_433 (rfl : 433 + 1 = 434) rfl ?_
          refine zr_iload dL_hangs_434 (rfl : 434 + 2 = 436) rfl ?_
          refine zr_iconst dL_hangs_436 (rfl : 436 + 1 = 437) ?_
          refine zr_fnH dL_hangs_437 (rfl : 437 + 3 = 440) l_L_136 (w_cardOf i 2 hi (by decide) ok) rfl rfl (Nat.le_of_ble_eq_true rfl) ?_
          rw [jcd_2]
          refine zr_if_eq (tgt := 448) dL_hangs_440 (by decide) (rfl : 440 + 3 = 443) (by first | exact jb_iff | exact jI_z (by first | omega | (simp only [bset, reduceIte, Nat.reduceEqDiff]; omega)) (by first | omega | (simp only [bset, reduceIte, Nat.reduceEqDiff]; omega))) (fun h440 => ?_) (fun h440 => ?_)
          rotate_left
          · exfalso
            omega
          refine zr_iload dL_hangs_448 (rfl : 448 + 2 = 450) rfl ?_
          refine zr_if_eq (tgt := 527) dL_hangs_450 (by decide) (rfl : 450 + 3 = 453) (by first | exact jb_iff | exact jI_z (by first | omega | (simp only [bset, reduceIte, Nat.reduceEqDiff]; omega)) (by first | omega | (simp only [bset, reduceIte, Nat.reduceEqDiff]; omega))) (fun h450 => ?_) (fun h450 => ?_)
          · exfalso
            omega
          refine zr_iload dL_hangs_453 (rfl : 453 + 2 = 455) rfl ?_
          refine zr_bipush dL_hangs_455 (rfl : 455 + 2 = 457) (by decide) ?_
          refine zr_icmp_lt (tgt := 571) dL_hangs_457 (by decide) (rfl : 457 + 3 = 460) (jI_lt (by first | omega | (simp only [bset, reduceIte, Nat.reduceEqDiff]; omega)) (by first | omega | (simp only [bset, reduceIte, Nat.reduceEqDiff]; omega)) (by first | omega | (simp only [bset, reduceIte, Nat.reduceEqDiff]; omega)) (by first | omega | (simp only [bset, reduceIte, Nat.reduceEqDiff]; omega))) (fun h457 => ?_) (fun h457 => ?_)
          · exfalso
            omega
          refine zr_iload dL_hangs_460 (rfl : 460 + 2 = 462) rfl ?_
          refine zr_aload_n dL_hangs_462 (rfl : 462 + 1 = 463) rfl ?_
          refine zr_iload dL_hangs_463 (rfl : 463 + 2 = 465) rfl ?_
          refine zr_iconst dL_hangs_465 (rfl : 465 + 1 = 466) ?_
          refine zr_fnH dL_hangs_466 (rfl : 466 + 3 = 469) l_L_138 hf2 rfl rfl (Nat.le_of_ble_eq_true rfl) ?_
          refine zr_icmp_ne (tgt := 571) dL_hangs_469 (by decide) (rfl : 469 + 3 = 472) (jI_eq (by first | omega | (simp only [bset, reduceIte, Nat.reduceEqDiff]; omega)) (by first | omega | (simp only [bset, reduceIte, Nat.reduceEqDiff]; omega)) (by first | omega | (simp only [bset, reduceIte, Nat.reduceEqDiff]; omega)) (by first | omega | (simp only [bset, reduceIte, Nat.reduceEqDiff]; omega))) (fun h469 => ?_) (fun h469 => ?_)
          · exfalso
            omega
          refine zr_aload_n dL_hangs_472 (rfl : 472 + 1 = 473) rfl ?_
          refine zr_iload dL_hangs_473 (rfl : 473 + 2 = 475) rfl ?_
          refine zr_iconst dL_hangs_475 (rfl : 475 + 1 = 476) ?_
          refine zr_iconst dL_hangs_476 (rfl : 476 + 1 = 477) ?_
          refine zr_fnH dL_hangs_477 (rfl : 477 + 3 = 480) l_L_140 (w_missing i 3 0 ⟨hi, by decide⟩ (by decide) ok) rfl rfl (Nat.le_of_ble_eq_true rfl) ?_
          rw [f3 hw]
          refine zr_bipush dL_hangs_480 (rfl : 480 + 2 = 482) (by decide) ?_
          refine zr_aload_n dL_hangs_482 (rfl : 482 + 1 = 483) rfl ?_
          refine zr_iload dL_hangs_483 (rfl : 483 + 2 = 485) rfl ?_
          refine zr_iconst dL_hangs_485 (rfl : 485 + 1 = 486) ?_
          refine zr_fnH dL_hangs_486 (rfl : 486 + 3 = 489) l_L_136 (w_cardOf i 3 hi (by decide) ok) rfl rfl (Nat.le_of_ble_eq_true rfl) ?_
          rw [jcd_3]
          refine zr_isub dL_hangs_489 (rfl : 489 + 1 = 490) (by first | exact jI_sub _ _ | rfl) ?_
          refine zr_icmp_ne (tgt := 571) dL_hangs_490 (by decide) (rfl : 490 + 3 = 493) (jI_eq (by first | omega | (simp only [bset, reduceIte, Nat.reduceEqDiff]; omega)) (by first | omega | (simp only [bset, reduceIte, Nat.reduceEqDiff]; omega)) (by first | omega | (simp only [bset, reduceIte, Nat.reduceEqDiff]; omega)) (by first | omega | (simp only [bset, reduceIte, Nat.reduceEqDiff]; omega))) (fun h490 => ?_) (fun h490 => ?_)
          · exfalso
            omega
          refine zr_iload dL_hangs_493 (rfl : 493 + 2 = 495) rfl ?_
          refine zr_iload_n dL_hangs_495 (rfl : 495 + 1 = 496) rfl ?_
          refine zr_icmp_gt (tgt := 503) dL_hangs_496 (by decide) (rfl : 496 + 3 = 499) (jI_lt (by first | omega | (simp only [bset, reduceIte, Nat.reduceEqDiff]; omega)) (by first | omega | (simp only [bset, reduceIte, Nat.reduceEqDiff]; omega)) (by first | omega | (simp only [bset, reduceIte, Nat.reduceEqDiff]; omega)) (by first | omega | (simp only [bset, reduceIte, Nat.reduceEqDiff]; omega))) (fun h496 => ?_) (fun h496 => ?_)
          · exfalso
            omega
          refine zr_iconst dL_hangs_499 (rfl : 499 + 1 = 500) ?_
          refine zr_goto (tgt := 504) dL_hangs_500 (by decide) ?_
          refine zr_aload_n dL_hangs_504 (rfl : 504 + 1 = 505) rfl ?_
          refine zr_iload dL_hangs_505 (rfl : 505 + 2 = 507) rfl ?_
          refine zr_iconst dL_hangs_507 (rfl : 507 + 1 = 508) ?_
          refine zr_fnH dL_hangs_508 (rfl : 508 + 3 = 511) l_L_136 (w_cardOf i 3 hi (by decide) ok) rfl rfl (Nat.le_of_ble_eq_true rfl) ?_
          rw [jcd_3]
          refine zr_bipush dL_hangs_511 (rfl : 511 + 2 = 513) (by decide) ?_
          refine zr_icmp_ne (tgt := 520) dL_hangs_513 (by decide) (rfl : 513 + 3 = 516) (jI_eq (by first | omega | (simp only [bset, reduceIte, Nat.reduceEqDiff]; omega)) (by first | omega | (simp only [bset, reduceIte, Nat.reduceEqDiff]; omega)) (by first | omega | (simp only [bset, reduceIte, Nat.reduceEqDiff]; omega)) (by first | omega | (simp only [bset, reduceIte, Nat.reduceEqDiff]; omega))) (fun h513 => ?_) (fun h513 => ?_)
          · exfalso
            omega
          refine zr_iconst dL_hangs_516 (rfl : 516 + 1 = 517) ?_
          refine zr_goto (tgt := 521) dL_hangs_517 (by decide) ?_
          refine zr_icmp_ne (tgt := 571) dL_hangs_521 (by decide) (rfl : 521 + 3 = 524) (jI_eq (by first | omega | (simp only [bset, reduceIte, Nat.reduceEqDiff]; omega)) (by first | omega | (simp only [bset, reduceIte, Nat.reduceEqDiff]; omega)) (by first | omega | (simp only [bset, reduceIte, Nat.reduceEqDiff]; omega)) (by first | omega | (simp only [bset, reduceIte, Nat.reduceEqDiff]; omega))) (fun h521 => ?_) (fun h521 => ?_)
          · exfalso
            omega
          refine zr_goto (tgt := 545) dL_hangs_524 (by decide) ?_
          refine zr_aload_n dL_hangs_545 (rfl : 545 + 1 = 546) rfl ?_
          refine zr_iload dL_hangs_546 (rfl : 546 + 2 = 548) rfl ?_
          refine zr_bipush dL_hangs_548 (rfl : 548 + 2 = 550) (by decide) ?_
          refine zr_fnH dL_hangs_550 (rfl : 550 + 3 = 553) l_L_136 (w_cardOf i 6 hi (by decide) ok) rfl rfl (Nat.le_of_ble_eq_true rfl) ?_
          rw [jcd_6]
          refine zr_if_eq (tgt := 567) dL_hangs_553 (by decide) (rfl : 553 + 3 = 556) (by first | exact jb_iff | exact jI_z (by first | omega | (simp only [bset, reduceIte, Nat.reduceEqDiff]; omega)) (by first | omega | (simp only [bset, reduceIte, Nat.reduceEqDiff]; omega))) (fun h553 => ?_) (fun h553 => ?_)
          rotate_left
          · exfalso
            omega
          refine zr_iconst dL_hangs_567 (rfl : 567 + 1 = 568) ?_
          refine zr_goto (tgt := 572) dL_hangs_568 (by decide) ?_
          refine zr_istore (lv' := [_, _, _, _, _, _, _, _, _, _, _, _, _, _, _, _, _]) dL_hangs_572 (rfl : 572 + 2 = 574) (Nat.le_of_ble_eq_true rfl) rfl ?_
          refine zr_iinc (lv' := [_, _, _, _, _, _, _, _, _, _, _, _, _, _, _, _, _]) dL_hangs_574 (rfl : 574 + 3 = 577) (Nat.le_of_ble_eq_true rfl) rfl (by first | exact jI_add _ _ | rfl) rfl ?_
          refine zr_goto (tgt := 289) dL_hangs_577 (by decide) ?_
          refine hk _ _ _ _ _ _ _ _ _ ⟨?_, ?_, ?_, ?_, ?_⟩
          all_goals omega
      · have q5 : jmc (B 0) (B 7) i ≠ 15 := fun e => q (u3.mpr e)
        by_cases qb : jbit (B 11 0) i = 1
        · by_cases qg : jgw (B 9) i = 0
          · refine zr_iload dL_hangs_289 (rfl : 289 + 2 = 291) rfl ?_
            refine zr_bipush dL_hangs_291 (rfl : 291 + 2 = 293) (by decide) ?_
            refine zr_icmp_ge (tgt := 580) dL_hangs_293 (by decide) (rfl : 293 + 3 = 296) (jI_le (by first | omega | (simp only [bset, reduceIte, Nat.reduceEqDiff]; omega)) (by first | omega | (simp only [bset, reduceIte, Nat.reduceEqDiff]; omega)) (by first | omega | (simp only [bset, reduceIte, Nat.reduceEqDiff]; omega)) (by first | omega | (simp only [bset, reduceIte, Nat.reduceEqDiff]; omega))) (fun h293 => ?_) (fun h293 => ?_)
            · exfalso
              omega
            refine zr_iload dL_hangs_296 (rfl : 296 + 2 = 298) rfl ?_
            refine zr_if_eq (tgt := 580) dL_hangs_298 (by decide) (rfl : 298 + 3 = 301) (by first | exact jb_iff | exact jI_z (by first | omega | (simp only [bset, reduceIte, Nat.reduceEqDiff]; omega)) (by first | omega | (simp only [bset, reduceIte, Nat.reduceEqDiff]; omega))) (fun h298 => ?_) (fun h298 => ?_)
            · exfalso
              omega
            refine zr_aload_n dL_hangs_301 (rfl : 301 + 1 = 302) rfl ?_
            refine zr_iload dL_hangs_302 (rfl : 302 + 2 = 304) rfl ?_
            refine zr_iconst dL_hangs_304 (rfl : 304 + 1 = 305) ?_
            refine zr_fnH dL_hangs_305 (rfl : 305 + 3 = 308) l_L_136 (w_cardOf i 0 hi (by decide) ok) rfl rfl (Nat.le_of_ble_eq_true rfl) ?_
            rw [jcd_0]
            refine zr_istore (lv' := [_, _, _, _, _, _, _, _, _, _, _, _, _, _, _, _, _]) dL_hangs_308 (rfl : 308 + 2 = 310) (Nat.le_of_ble_eq_true rfl) rfl ?_
            refine zr_aload_n dL_hangs_310 (rfl : 310 + 1 = 311) rfl ?_
            refine zr_iload dL_hangs_311 (rfl : 311 + 2 = 313) rfl ?_
            refine zr_iconst dL_hangs_313 (rfl : 313 + 1 = 314) ?_
            refine zr_fnH dL_hangs_314 (rfl : 314 + 3 = 317) l_L_136 (w_cardOf i 1 hi (by decide) ok) rfl rfl (Nat.le_of_ble_eq_true rfl) ?_
            rw [jcd_1, jb_pos hw]
            refine zr_iconst dL_hangs_317 (rfl : 317 + 1 = 318) ?_
            refine zr_icmp_ne (tgt := 325) dL_hangs_318 (by decide) (rfl : 318 + 3 = 321) (jI_eq (by first | omega | (simp only [bset, reduceIte, Nat.reduceEqDiff]; omega)) (by first | omega | (simp only [bset, reduceIte, Nat.reduceEqDiff]; omega)) (by first | omega | (simp only [bset, reduceIte, Nat.reduceEqDiff]; omega)) (by first | omega | (simp only [bset, reduceIte, Nat.reduceEqDiff]; omega))) (fun h318 => ?_) (fun h318 => ?_)
            · exfalso
              omega
            refine zr_iconst dL_hangs_321 (rfl : 321 + 1 = 322) ?_
            refine zr_goto (tgt := 326) dL_hangs_322 (by decide) ?_
            refine zr_istore (lv' := [_, _, _, _, _, _, _, _, _, _, _, _, _, _, _, _, _]) dL_hangs_326 (rfl : 326 + 2 = 328) (Nat.le_of_ble_eq_true rfl) rfl ?_
            refine zr_aload_n dL_hangs_328 (rfl : 328 + 1 = 329) rfl ?_
            refine zr_iload dL_hangs_329 (rfl : 329 + 2 = 331) rfl ?_
            refine zr_iconst dL_hangs_331 (rfl : 331 + 1 = 332) ?_
            refine zr_fnH dL_hangs_332 (rfl : 332 + 3 = 335) l_L_138 hf1 rfl rfl (Nat.le_of_ble_eq_true rfl) ?_
            refine zr_istore (lv' := [_, _, _, _, _, _, _, _, _, _, _, _, _, _, _, _, _]) dL_hangs_335 (rfl : 335 + 2 = 337) (Nat.le_of_ble_eq_true rfl) rfl ?_
            refine zr_iload dL_hangs_337 (rfl : 337 + 2 = 339) rfl ?_
            refine zr_iload dL_hangs_339 (rfl : 339 + 2 = 341) rfl ?_
            refine zr_iadd dL_hangs_341 (rfl : 341 + 1 = 342) (by first | exact jI_add _ _ | rfl) ?_
            refine zr_istore (lv' := [_, _, _, _, _, _, _, _, _, _, _, _, _, _, _, _, _]) dL_hangs_342 (rfl : 342 + 2 = 344) (Nat.le_of_ble_eq_true rfl) rfl ?_
            refine zr_iload dL_hangs_344 (rfl : 344 + 2 = 346) rfl ?_
            refine zr_iload dL_hangs_346 (rfl : 346 + 2 = 348) rfl ?_
            refine zr_if_eq (tgt := 355) dL_hangs_348 (by decide) (rfl : 348 + 3 = 351) (by first | exact jb_iff | exact jI_z (by first | omega | (simp only [bset, reduceIte, Nat.reduceEqDiff]; omega)) (by first | omega | (simp only [bset, reduceIte, Nat.reduceEqDiff]; omega))) (fun h348 => ?_) (fun h348 => ?_)
            · exfalso
              omega
            refine zr_iconst dL_hangs_351 (rfl : 351 + 1 = 352) ?_
            refine zr_goto (tgt := 356) dL_hangs_352 (by decide) ?_
            refine zr_iadd dL_hangs_356 (rfl : 356 + 1 = 357) (by first | exact jI_add _ _ | rfl) ?_
            refine zr_istore (lv' := [_, _, _, _, _, _, _, _, _, _, _, _, _, _, _, _, _]) dL_hangs_357 (rfl : 357 + 2 = 359) (Nat.le_of_ble_eq_true rfl) rfl ?_
            refine zr_iload dL_hangs_359 (rfl : 359 + 2 = 361) rfl ?_
            refine zr_aload_n dL_hangs_361 (rfl : 361 + 1 = 362) rfl ?_
            refine zr_iload dL_hangs_362 (rfl : 362 + 2 = 364) rfl ?_
            refine zr_iconst dL_hangs_364 (rfl : 364 + 1 = 365) ?_
            refine zr_fnH dL_hangs_365 (rfl : 365 + 3 = 368) l_L_136 (w_cardOf i 2 hi (by decide) ok) rfl rfl (Nat.le_of_ble_eq_true rfl) ?_
            rw [jcd_2]
            refine zr_iadd dL_hangs_368 (rfl : 368 + 1 = 369) (by first | exact jI_add _ _ | rfl) ?_
            refine zr_istore (lv' := [_, _, _, _, _, _, _, _, _, _, _, _, _, _, _, _, _]) dL_hangs_369 (rfl : 369 + 2 = 371) (Nat.le_of_ble_eq_true rfl) rfl ?_
            refine zr_iload dL_hangs_371 (rfl : 371 + 2 = 373) rfl ?_
            refine zr_aload_n dL_hangs_373 (rfl : 373 + 1 = 374) rfl ?_
            refine zr_iload dL_hangs_374 (rfl : 374 + 2 = 376) rfl ?_
            refine zr_bipush dL_hangs_376 (rfl : 376 + 2 = 378) (by decide) ?_
            refine zr_fnH dL_hangs_378 (rfl : 378 + 3 = 381) l_L_136 (w_cardOf i 7 hi (by decide) ok) rfl rfl (Nat.le_of_ble_eq_true rfl) ?_
            rw [jcd_7]
            refine zr_iadd dL_hangs_381 (rfl : 381 + 1 = 382) (by first | exact jI_add _ _ | rfl) ?_
            refine zr_istore (lv' := [_, _, _, _, _, _, _, _, _, _, _, _, _, _, _, _, _]) dL_hangs_382 (rfl : 382 + 2 = 384) (Nat.le_of_ble_eq_true rfl) rfl ?_
            refine zr_iload dL_hangs_384 (rfl : 384 + 2 = 386) rfl ?_
            refine zr_aload_n dL_hangs_386 (rfl : 386 + 1 = 387) rfl ?_
            refine zr_iload dL_hangs_387 (rfl : 387 + 2 = 389) rfl ?_
            refine zr_bipush dL_hangs_389 (rfl : 389 + 2 = 391) (by decide) ?_
            refine zr_fnH dL_hangs_391 (rfl : 391 + 3 = 394) l_L_136 (w_cardOf i 8 hi (by decide) ok) rfl rfl (Nat.le_of_ble_eq_true rfl) ?_
            rw [jcd_8]
            refine zr_iadd dL_hangs_394 (rfl : 394 + 1 = 395) (by first | exact jI_add _ _ | rfl) ?_
            refine zr_istore (lv' := [_, _, _, _, _, _, _, _, _, _, _, _, _, _, _, _, _]) dL_hangs_395 (rfl : 395 + 2 = 397) (Nat.le_of_ble_eq_true rfl) rfl ?_
            refine zr_iload dL_hangs_397 (rfl : 397 + 2 = 399) rfl ?_
            refine zr_if_eq (tgt := 409) dL_hangs_399 (by decide) (rfl : 399 + 3 = 402) (by first | exact jb_iff | exact jI_z (by first | omega | (simp only [bset, reduceIte, Nat.reduceEqDiff]; omega)) (by first | omega | (simp only [bset, reduceIte, Nat.reduceEqDiff]; omega))) (fun h399 => ?_) (fun h399 => ?_)
            · exfalso
              omega
            refine zr_iload dL_hangs_402 (rfl : 402 + 2 = 404) rfl ?_
            refine zr_bipush dL_hangs_404 (rfl : 404 + 2 = 406) (by decide) ?_
            refine zr_icmp_ne (tgt := 571) dL_hangs_406 (by decide) (rfl : 406 + 3 = 409) (jI_eq (by first | omega | (simp only [bset, reduceIte, Nat.reduceEqDiff]; omega)) (by first | omega | (simp only [bset, reduceIte, Nat.reduceEqDiff]; omega)) (by first | omega | (simp only [bset, reduceIte, Nat.reduceEqDiff]; omega)) (by first | omega | (simp only [bset, reduceIte, Nat.reduceEqDiff]; omega))) (fun h406 => ?_) (fun h406 => ?_)
            · exfalso
              omega
            refine zr_aload_n dL_hangs_409 (rfl : 409 + 1 = 410) rfl ?_
            refine zr_iload dL_hangs_410 (rfl : 410 + 2 = 412) rfl ?_
            refine zr_iconst dL_hangs_412 (rfl : 412 + 1 = 413) ?_
            refine zr_fnH dL_hangs_413 (rfl : 413 + 3 = 416) l_L_136 (w_cardOf i 3 hi (by decide) ok) rfl rfl (Nat.le_of_ble_eq_true rfl) ?_
            rw [jcd_3]
            refine zr_iload dL_hangs_416 (rfl : 416 + 2 = 418) rfl ?_
            refine zr_icmp_gt (tgt := 571) dL_hangs_418 (by decide) (rfl : 418 + 3 = 421) (jI_lt (by first | omega | (simp only [bset, reduceIte, Nat.reduceEqDiff]; omega)) (by first | omega | (simp only [bset, reduceIte, Nat.reduceEqDiff]; omega)) (by first | omega | (simp only [bset, reduceIte, Nat.reduceEqDiff]; omega)) (by first | omega | (simp only [bset, reduceIte, Nat.reduceEqDiff]; omega))) (fun h418 => ?_) (fun h418 => ?_)
            · exfalso
              omega
            refine zr_aload_n dL_hangs_421 (rfl : 421 + 1 = 422) rfl ?_
            refine zr_iload dL_hangs_422 (rfl : 422 + 2 = 424) rfl ?_
            refine zr_iconst dL_hangs_424 (rfl : 424 + 1 = 425) ?_
            refine zr_fnH dL_hangs_425 (rfl : 425 + 3 = 428) l_L_136 (w_cardOf i 4 hi (by decide) ok) rfl rfl (Nat.le_of_ble_eq_true rfl) ?_
            rw [jcd_4]
            refine zr_iload dL_hangs_428 (rfl : 428 + 2 = 430) rfl ?_
            refine zr_icmp_gt (tgt := 571) dL_hangs_430 (by decide) (rfl : 430 + 3 = 433) (jI_lt (by first | omega | (simp only [bset, reduceIte, Nat.reduceEqDiff]; omega)) (by first | omega | (simp only [bset, reduceIte, Nat.reduceEqDiff]; omega)) (by first | omega | (simp only [bset, reduceIte, Nat.reduceEqDiff]; omega)) (by first | omega | (simp only [bset, reduceIte, Nat.reduceEqDiff]; omega))) (fun h430 => ?_) (fun h430 => ?_)
            · exfalso
              omega
            refine zr_aload_n dL_hangs_433 (rfl : 433 + 1 = 434) rfl ?_
            refine zr_iload dL_hangs_434 (rfl : 434 + 2 = 436) rfl ?_
            refine zr_iconst dL_hangs_436 (rfl : 436 + 1 = 437) ?_
            refine zr_fnH dL_hangs_437 (rfl : 437 + 3 = 440) l_L_136 (w_cardOf i 2 hi (by decide) ok) rfl rfl (Nat.le_of_ble_eq_true rfl) ?_
            rw [jcd_2]
            refine zr_if_eq (tgt := 448) dL_hangs_440 (by decide) (rfl : 440 + 3 = 443) (by first | exact jb_iff | exact jI_z (by first | omega | (simp only [bset, reduceIte, Nat.reduceEqDiff]; omega)) (by first | omega | (simp only [bset, reduceIte, Nat.reduceEqDiff]; omega))) (fun h440 => ?_) (fun h440 => ?_)
            · exfalso
              omega
            refine zr_iload dL_hangs_443 (rfl : 443 + 2 = 445) rfl ?_
            refine zr_if_eq (tgt := 571) dL_hangs_445 (by decide) (rfl : 445 + 3 = 448) (by first | exact jb_iff | exact jI_z (by first | omega | (simp only [bset, reduceIte, Nat.reduceEqDiff]; omega)) (by first | omega | (simp only [bset, reduceIte, Nat.reduceEqDiff]; omega))) (fun h445 => ?_) (fun h445 => ?_)
            · exfalso
              omega
            refine zr_iload dL_hangs_448 (rfl : 448 + 2 = 450) rfl ?_
            refine zr_if_eq (tgt := 527) dL_hangs_450 (by decide) (rfl : 450 + 3 = 453) (by first | exact jb_iff | exact jI_z (by first | omega | (simp only [bset, reduceIte, Nat.reduceEqDiff]; omega)) (by first | omega | (simp only [bset, reduceIte, Nat.reduceEqDiff]; omega))) (fun h450 => ?_) (fun h450 => ?_)
            · exfalso
              omega
            refine zr_iload dL_hangs_453 (rfl : 453 + 2 = 455) rfl ?_
            refine zr_bipush dL_hangs_455 (rfl : 455 + 2 = 457) (by decide) ?_
            refine zr_icmp_lt (tgt := 571) dL_hangs_457 (by decide) (rfl : 457 + 3 = 460) (jI_lt (by first | omega | (simp only [bset, reduceIte, Nat.reduceEqDiff]; omega)) (by first | omega | (simp only [bset, reduceIte, Nat.reduceEqDiff]; omega)) (by first | omega | (simp only [bset, reduceIte, Nat.reduceEqDiff]; omega)) (by first | omega | (simp only [bset, reduceIte, Nat.reduceEqDiff]; omega))) (fun h457 => ?_) (fun h457 => ?_)
            · exfalso
              omega
            refine zr_iload dL_hangs_460 (rfl : 460 + 2 = 462) rfl ?_
            refine zr_aload_n dL_hangs_462 (rfl : 462 + 1 = 463) rfl ?_
            refine zr_iload dL_hangs_463 (rfl : 463 + 2 = 465) rfl ?_
            refine zr_iconst dL_hangs_465 (rfl : 465 + 1 = 466) ?_
            refine zr_fnH dL_hangs_466 (rfl : 466 + 3 = 469) l_L_138 hf2 rfl rfl (Nat.le_of_ble_eq_true rfl) ?_
            refine zr_icmp_ne (tgt := 571) dL_hangs_469 (by decide) (rfl : 469 + 3 = 472) (jI_eq (by first | omega | (simp only [bset, reduceIte, Nat.reduceEqDiff]; omega)) (by first | omega | (simp only [bset, reduceIte, Nat.reduceEqDiff]; omega)) (by first | omega | (simp only [bset, reduceIte, Nat.reduceEqDiff]; omega)) (by first | omega | (simp only [bset, reduceIte, Nat.reduceEqDiff]; omega))) (fun h469 => ?_) (fun h469 => ?_)
            · exfalso
              omega
            refine zr_aload_n dL_hangs_472 (rfl : 472 + 1 = 473) rfl ?_
            refine zr_iload dL_hangs_473 (rfl : 473 + 2 = 475) rfl ?_
            refine zr_iconst dL_hangs_475 (rfl : 475 + 1 = 476) ?_
            refine zr_iconst dL_hangs_476 (rfl : 476 + 1 = 477) ?_
            refine zr_fnH dL_hangs_477 (rfl : 477 + 3 = 480) l_L_140 (w_missing i 3 0 ⟨hi, by decide⟩ (by decide) ok) rfl rfl (Nat.le_of_ble_eq_true rfl) ?_
            rw [f3 hw]
            refine zr_bipush dL_hangs_480 (rfl : 480 + 2 = 482) (by decide) ?_
            refine zr_aload_n dL_hangs_482 (rfl : 482 + 1 = 483) rfl ?_
            refine zr_iload dL_hangs_483 (rfl : 483 + 2 = 485) rfl ?_
            refine zr_iconst dL_hangs_485 (rfl : 485 + 1 = 486) ?_
            refine zr_fnH dL_hangs_486 (rfl : 486 + 3 = 489) l_L_136 (w_cardOf i 3 hi (by decide) ok) rfl rfl (Nat.le_of_ble_eq_true rfl) ?_
            rw [jcd_3]
            refine zr_isub dL_hangs_489 (rfl : 489 + 1 = 490) (by first | exact jI_sub _ _ | rfl) ?_
            refine zr_icmp_ne (tgt := 571) dL_hangs_490 (by decide) (rfl : 490 + 3 = 493) (jI_eq (by first | omega | (simp only [bset, reduceIte, Nat.reduceEqDiff]; omega)) (by first | omega | (simp only [bset, reduceIte, Nat.reduceEqDiff]; omega)) (by first | omega | (simp only [bset, reduceIte, Nat.reduceEqDiff]; omega)) (by first | omega | (simp only [bset, reduceIte, Nat.reduceEqDiff]; omega))) (fun h490 => ?_) (fun h490 => ?_)
            · exfalso
              omega
            refine zr_iload dL_hangs_493 (rfl : 493 + 2 = 495) rfl ?_
            refine zr_iload_n dL_hangs_495 (rfl : 495 + 1 = 496) rfl ?_
            refine zr_icmp_gt (tgt := 503) dL_hangs_496 (by decide) (rfl : 496 + 3 = 499) (jI_lt (by first | omega | (simp only [bset, reduceIte, Nat.reduceEqDiff]; omega)) (by first | omega | (simp only [bset, reduceIte, Nat.reduceEqDiff]; omega)) (by first | omega | (simp only [bset, reduceIte, Nat.reduceEqDiff]; omega)) (by first | omega | (simp only [bset, reduceIte, Nat.reduceEqDiff]; omega))) (fun h496 => ?_) (fun h496 => ?_)
            rotate_left
            · exfalso
              omega
            refine zr_iconst dL_hangs_503 (rfl : 503 + 1 = 504) ?_
            refine zr_aload_n dL_hangs_504 (rfl : 504 + 1 = 505) rfl ?_
            refine zr_iload dL_hangs_505 (rfl : 505 + 2 = 507) rfl ?_
            refine zr_iconst dL_hangs_507 (rfl : 507 + 1 = 508) ?_
            refine zr_fnH dL_hangs_508 (rfl : 508 + 3 = 511) l_L_136 (w_cardOf i 3 hi (by decide) ok) rfl rfl (Nat.le_of_ble_eq_true rfl) ?_
            rw [jcd_3]
            refine zr_bipush dL_hangs_511 (rfl : 511 + 2 = 513) (by decide) ?_
            refine zr_icmp_ne (tgt := 520) dL_hangs_513 (by decide) (rfl : 513 + 3 = 516) (jI_eq (by first | omega | (simp only [bset, reduceIte, Nat.reduceEqDiff]; omega)) (by first | omega | (simp only [bset, reduceIte, Nat.reduceEqDiff]; omega)) (by first | omega | (simp only [bset, reduceIte, Nat.reduceEqDiff]; omega)) (by first | omega | (simp only [bset, reduceIte, Nat.reduceEqDiff]; omega))) (fun h513 => ?_) (fun h513 => ?_)
            rotate_left
            · exfalso
              omega
            refine zr_iconst dL_hangs_520 (rfl : 520 + 1 = 521) ?_
            refine zr_icmp_ne (tgt := 571) dL_hangs_521 (by decide) (rfl : 521 + 3 = 524) (jI_eq (by first | omega | (simp only [bset, reduceIte, Nat.reduceEqDiff]; omega)) (by first | omega | (simp only [bset, reduceIte, Nat.reduceEqDiff]; omega)) (by first | omega | (simp only [bset, reduceIte, Nat.reduceEqDiff]; omega)) (by first | omega | (simp only [bset, reduceIte, Nat.reduceEqDiff]; omega))) (fun h521 => ?_) (fun h521 => ?_)
            · exfalso
              omega
            refine zr_goto (tgt := 545) dL_hangs_524 (by decide) ?_
            refine zr_aload_n dL_hangs_545 (rfl : 545 + 1 = 546) rfl ?_
            refine zr_iload dL_hangs_546 (rfl : 546 + 2 = 548) rfl ?_
            refine zr_bipush dL_hangs_548 (rfl : 548 + 2 = 550) (by decide) ?_
            refine zr_fnH dL_hangs_550 (rfl : 550 + 3 = 553) l_L_136 (w_cardOf i 6 hi (by decide) ok) rfl rfl (Nat.le_of_ble_eq_true rfl) ?_
            rw [jcd_6]
            refine zr_if_eq (tgt := 567) dL_hangs_553 (by decide) (rfl : 553 + 3 = 556) (by first | exact jb_iff | exact jI_z (by first | omega | (simp only [bset, reduceIte, Nat.reduceEqDiff]; omega)) (by first | omega | (simp only [bset, reduceIte, Nat.reduceEqDiff]; omega))) (fun h553 => ?_) (fun h553 => ?_)
            rotate_left
            · exfalso
              omega
            refine zr_iconst dL_hangs_567 (rfl : 567 + 1 = 568) ?_
            refine zr_goto (tgt := 572) dL_hangs_568 (by decide) ?_
            refine zr_istore (lv' := [_, _, _, _, _, _, _, _, _, _, _, _, _, _, _, _, _]) dL_hangs_572 (rfl : 572 + 2 = 574) (Nat.le_of_ble_eq_true rfl) rfl ?_
            refine zr_iinc (lv' := [_, _, _, _, _, _, _, _, _, _, _, _, _, _, _, _, _]) dL_hangs_574 (rfl : 574 + 3 = 577) (Nat.le_of_ble_eq_true rfl) rfl (by first | exact jI_add _ _ | rfl) rfl ?_
            refine zr_goto (tgt := 289) dL_hangs_577 (by decide) ?_
            refine hk _ _ _ _ _ _ _ _ _ ⟨?_, ?_, ?_, ?_, ?_⟩
            all_goals omega
          · refine zr_iload dL_hangs_289 (rfl : 289 + 2 = 291) rfl ?_
            refine zr_bipush dL_hangs_291 (rfl : 291 + 2 = 293) (by decide) ?_
            refine zr_icmp_ge (tgt := 580) dL_hangs_293 (by decide) (rfl : 293 + 3 = 296) (jI_le (by first | omega | (simp only [bset, reduceIte, Nat.reduceEqDiff]; omega)) (by first | omega | (simp only [bset, reduceIte, Nat.reduceEqDiff]; omega)) (by first | omega | (simp only [bset, reduceIte, Nat.reduceEqDiff]; omega)) (by first | omega | (simp only [bset, reduceIte, Nat.reduceEqDiff]; omega))) (fun h293 => ?_) (fun h293 => ?_)
            · exfalso
              omega
            refine zr_iload dL_hangs_296 (rfl : 296 + 2 = 298) rfl ?_
            refine zr_if_eq (tgt := 580) dL_hangs_298 (by decide) (rfl : 298 + 3 = 301) (by first | exact jb_iff | exact jI_z (by first | omega | (simp only [bset, reduceIte, Nat.reduceEqDiff]; omega)) (by first | omega | (simp only [bset, reduceIte, Nat.reduceEqDiff]; omega))) (fun h298 => ?_) (fun h298 => ?_)
            · exfalso
              omega
            refine zr_aload_n dL_hangs_301 (rfl : 301 + 1 = 302) rfl ?_
            refine zr_iload dL_hangs_302 (rfl : 302 + 2 = 304) rfl ?_
            refine zr_iconst dL_hangs_304 (rfl : 304 + 1 = 305) ?_
            refine zr_fnH dL_hangs_305 (rfl : 305 + 3 = 308) l_L_136 (w_cardOf i 0 hi (by decide) ok) rfl rfl (Nat.le_of_ble_eq_true rfl) ?_
            rw [jcd_0]
            refine zr_istore (lv' := [_, _, _, _, _, _, _, _, _, _, _, _, _, _, _, _, _]) dL_hangs_308 (rfl : 308 + 2 = 310) (Nat.le_of_ble_eq_true rfl) rfl ?_
            refine zr_aload_n dL_hangs_310 (rfl : 310 + 1 = 311) rfl ?_
            refine zr_iload dL_hangs_311 (rfl : 311 + 2 = 313) rfl ?_
            refine zr_iconst dL_hangs_313 (rfl : 313 + 1 = 314) ?_
            refine zr_fnH dL_hangs_314 (rfl : 314 + 3 = 317) l_L_136 (w_cardOf i 1 hi (by decide) ok) rfl rfl (Nat.le_of_ble_eq_true rfl) ?_
            rw [jcd_1, jb_pos hw]
            refine zr_iconst dL_hangs_317 (rfl : 317 + 1 = 318) ?_
            refine zr_icmp_ne (tgt := 325) dL_hangs_318 (by decide) (rfl : 318 + 3 = 321) (jI_eq (by first | omega | (simp only [bset, reduceIte, Nat.reduceEqDiff]; omega)) (by first | omega | (simp only [bset, reduceIte, Nat.reduceEqDiff]; omega)) (by first | omega | (simp only [bset, reduceIte, Nat.reduceEqDiff]; omega)) (by first | omega | (simp only [bset, reduceIte, Nat.reduceEqDiff]; omega))) (fun h318 => ?_) (fun h318 => ?_)
            · exfalso
              omega
            refine zr_iconst dL_hangs_321 (rfl : 321 + 1 = 322) ?_
            refine zr_goto (tgt := 326) dL_hangs_322 (by decide) ?_
            refine zr_istore (lv' := [_, _, _, _, _, _, _, _, _, _, _, _, _, _, _, _, _]) dL_hangs_326 (rfl : 326 + 2 = 328) (Nat.le_of_ble_eq_true rfl) rfl ?_
            refine zr_aload_n dL_hangs_328 (rfl : 328 + 1 = 329) rfl ?_
            refine zr_iload dL_hangs_329 (rfl : 329 + 2 = 331) rfl ?_
            refine zr_iconst dL_hangs_331 (rfl : 331 + 1 = 332) ?_
            refine zr_fnH dL_hangs_332 (rfl : 332 + 3 = 335) l_L_138 hf1 rfl rfl (Nat.le_of_ble_eq_true rfl) ?_
            refine zr_istore (lv' := [_, _, _, _, _, _, _, _, _, _, _, _, _, _, _, _, _]) dL_hangs_335 (rfl : 335 + 2 = 337) (Nat.le_of_ble_eq_true rfl) rfl ?_
            refine zr_iload dL_hangs_337 (rfl : 337 + 2 = 339) rfl ?_
            refine zr_iload dL_hangs_339 (rfl : 339 + 2 = 341) rfl ?_
            refine zr_iadd dL_hangs_341 (rfl : 341 + 1 = 342) (by first | exact jI_add _ _ | rfl) ?_
            refine zr_istore (lv' := [_, _, _, _, _, _, _, _, _, _, _, _, _, _, _, _, _]) dL_hangs_342 (rfl : 342 + 2 = 344) (Nat.le_of_ble_eq_true rfl) rfl ?_
            refine zr_iload dL_hangs_344 (rfl : 344 + 2 = 346) rfl ?_
            refine zr_iload dL_hangs_346 (rfl : 346 + 2 = 348) rfl ?_
            refine zr_if_eq (tgt := 355) dL_hangs_348 (by decide) (rfl : 348 + 3 = 351) (by first | exact jb_iff | exact jI_z (by first | omega | (simp only [bset, reduceIte, Nat.reduceEqDiff]; omega)) (by first | omega | (simp only [bset, reduceIte, Nat.reduceEqDiff]; omega))) (fun h348 => ?_) (fun h348 => ?_)
            · exfalso
              omega
            refine zr_iconst dL_hangs_351 (rfl : 351 + 1 = 352) ?_
            refine zr_goto (tgt := 356) dL_hangs_352 (by decide) ?_
            refine zr_iadd dL_hangs_356 (rfl : 356 + 1 = 357) (by first | exact jI_add _ _ | rfl) ?_
            refine zr_istore (lv' := [_, _, _, _, _, _, _, _, _, _, _, _, _, _, _, _, _]) dL_hangs_357 (rfl : 357 + 2 = 359) (Nat.le_of_ble_eq_true rfl) rfl ?_
            refine zr_iload dL_hangs_359 (rfl : 359 + 2 = 361) rfl ?_
            refine zr_aload_n dL_hangs_361 (rfl : 361 + 1 = 362) rfl ?_
            refine zr_iload dL_hangs_362 (rfl : 362 + 2 = 364) rfl ?_
            refine zr_iconst dL_hangs_364 (rfl : 364 + 1 = 365) ?_
            refine zr_fnH dL_hangs_365 (rfl : 365 + 3 = 368) l_L_136 (w_cardOf i 2 hi (by decide) ok) rfl rfl (Nat.le_of_ble_eq_true rfl) ?_
            rw [jcd_2]
            refine zr_iadd dL_hangs_368 (rfl : 368 + 1 = 369) (by first | exact jI_add _ _ | rfl) ?_
            refine zr_istore (lv' := [_, _, _, _, _, _, _, _, _, _, _, _, _, _, _, _, _]) dL_hangs_369 (rfl : 369 + 2 = 371) (Nat.le_of_ble_eq_true rfl) rfl ?_
            refine zr_iload dL_hangs_371 (rfl : 371 + 2 = 373) rfl ?_
            refine zr_aload_n dL_hangs_373 (rfl : 373 + 1 = 374) rfl ?_
            refine zr_iload dL_hangs_374 (rfl : 374 + 2 = 376) rfl ?_
            refine zr_bipush dL_hangs_376 (rfl : 376 + 2 = 378) (by decide) ?_
            refine zr_fnH dL_hangs_378 (rfl : 378 + 3 = 381) l_L_136 (w_cardOf i 7 hi (by decide) ok) rfl rfl (Nat.le_of_ble_eq_true rfl) ?_
            rw [jcd_7]
            refine zr_iadd dL_hangs_381 (rfl : 381 + 1 = 382) (by first | exact jI_add _ _ | rfl) ?_
            refine zr_istore (lv' := [_, _, _, _, _, _, _, _, _, _, _, _, _, _, _, _, _]) dL_hangs_382 (rfl : 382 + 2 = 384) (Nat.le_of_ble_eq_true rfl) rfl ?_
            refine zr_iload dL_hangs_384 (rfl : 384 + 2 = 386) rfl ?_
            refine zr_aload_n dL_hangs_386 (rfl : 386 + 1 = 387) rfl ?_
            refine zr_iload dL_hangs_387 (rfl : 387 + 2 = 389) rfl ?_
            refine zr_bipush dL_hangs_389 (rfl : 389 + 2 = 391) (by decide) ?_
            refine zr_fnH dL_hangs_391 (rfl : 391 + 3 = 394) l_L_136 (w_cardOf i 8 hi (by decide) ok) rfl rfl (Nat.le_of_ble_eq_true rfl) ?_
            rw [jcd_8]
            refine zr_iadd dL_hangs_394 (rfl : 394 + 1 = 395) (by first | exact jI_add _ _ | rfl) ?_
            refine zr_istore (lv' := [_, _, _, _, _, _, _, _, _, _, _, _, _, _, _, _, _]) dL_hangs_395 (rfl : 395 + 2 = 397) (Nat.le_of_ble_eq_true rfl) rfl ?_
            refine zr_iload dL_hangs_397 (rfl : 397 + 2 = 399) rfl ?_
            refine zr_if_eq (tgt := 409) dL_hangs_399 (by decide) (rfl : 399 + 3 = 402) (by first | exact jb_iff | exact jI_z (by first | omega | (simp only [bset, reduceIte, Nat.reduceEqDiff]; omega)) (by first | omega | (simp only [bset, reduceIte, Nat.reduceEqDiff]; omega))) (fun h399 => ?_) (fun h399 => ?_)
            · exfalso
              omega
            refine zr_iload dL_hangs_402 (rfl : 402 + 2 = 404) rfl ?_
            refine zr_bipush dL_hangs_404 (rfl : 404 + 2 = 406) (by decide) ?_
            refine zr_icmp_ne (tgt := 571) dL_hangs_406 (by decide) (rfl : 406 + 3 = 409) (jI_eq (by first | omega | (simp only [bset, reduceIte, Nat.reduceEqDiff]; omega)) (by first | omega | (simp only [bset, reduceIte, Nat.reduceEqDiff]; omega)) (by first | omega | (simp only [bset, reduceIte, Nat.reduceEqDiff]; omega)) (by first | omega | (simp only [bset, reduceIte, Nat.reduceEqDiff]; omega))) (fun h406 => ?_) (fun h406 => ?_)
            · exfalso
              omega
            refine zr_aload_n dL_hangs_409 (rfl : 409 + 1 = 410) rfl ?_
            refine zr_iload dL_hangs_410 (rfl : 410 + 2 = 412) rfl ?_
            refine zr_iconst dL_hangs_412 (rfl : 412 + 1 = 413) ?_
            refine zr_fnH dL_hangs_413 (rfl : 413 + 3 = 416) l_L_136 (w_cardOf i 3 hi (by decide) ok) rfl rfl (Nat.le_of_ble_eq_true rfl) ?_
            rw [jcd_3]
            refine zr_iload dL_hangs_416 (rfl : 416 + 2 = 418) rfl ?_
            refine zr_icmp_gt (tgt := 571) dL_hangs_418 (by decide) (rfl : 418 + 3 = 421) (jI_lt (by first | omega | (simp only [bset, reduceIte, Nat.reduceEqDiff]; omega)) (by first | omega | (simp only [bset, reduceIte, Nat.reduceEqDiff]; omega)) (by first | omega | (simp only [bset, reduceIte, Nat.reduceEqDiff]; omega)) (by first | omega | (simp only [bset, reduceIte, Nat.reduceEqDiff]; omega))) (fun h418 => ?_) (fun h418 => ?_)
            · exfalso
              omega
            refine zr_aload_n dL_hangs_421 (rfl : 421 + 1 = 422) rfl ?_
            refine zr_iload dL_hangs_422 (rfl : 422 + 2 = 424) rfl ?_
            refine zr_iconst dL_hangs_424 (rfl : 424 + 1 = 425) ?_
            refine zr_fnH dL_hangs_425 (rfl : 425 + 3 = 428) l_L_136 (w_cardOf i 4 hi (by decide) ok) rfl rfl (Nat.le_of_ble_eq_true rfl) ?_
            rw [jcd_4]
            refine zr_iload dL_hangs_428 (rfl : 428 + 2 = 430) rfl ?_
            refine zr_icmp_gt (tgt := 571) dL_hangs_430 (by decide) (rfl : 430 + 3 = 433) (jI_lt (by first | omega | (simp only [bset, reduceIte, Nat.reduceEqDiff]; omega)) (by first | omega | (simp only [bset, reduceIte, Nat.reduceEqDiff]; omega)) (by first | omega | (simp only [bset, reduceIte, Nat.reduceEqDiff]; omega)) (by first | omega | (simp only [bset, reduceIte, Nat.reduceEqDiff]; omega))) (fun h430 => ?_) (fun h430 => ?_)
            · exfalso
              omega
            refine zr_aload_n dL_hangs_433 (rfl : 433 + 1 = 434) rfl ?_
            refine zr_iload dL_hangs_434 (rfl : 434 + 2 = 436) rfl ?_
            refine zr_iconst dL_hangs_436 (rfl : 436 + 1 = 437) ?_
            refine zr_fnH dL_hangs_437 (rfl : 437 + 3 = 440) l_L_136 (w_cardOf i 2 hi (by decide) ok) rfl rfl (Nat.le_of_ble_eq_true rfl) ?_
            rw [jcd_2]
            refine zr_if_eq (tgt := 448) dL_hangs_440 (by decide) (rfl : 440 + 3 = 443) (by first | exact jb_iff | exact jI_z (by first | omega | (simp only [bset, reduceIte, Nat.reduceEqDiff]; omega)) (by first | omega | (simp only [bset, reduceIte, Nat.reduceEqDiff]; omega))) (fun h440 => ?_) (fun h440 => ?_)
            · exfalso
              omega
            refine zr_iload dL_hangs_443 (rfl : 443 + 2 = 445) rfl ?_
            refine zr_if_eq (tgt := 571) dL_hangs_445 (by decide) (rfl : 445 + 3 = 448) (by first | exact jb_iff | exact jI_z (by first | omega | (simp only [bset, reduceIte, Nat.reduceEqDiff]; omega)) (by first | omega | (simp only [bset, reduceIte, Nat.reduceEqDiff]; omega))) (fun h445 => ?_) (fun h445 => ?_)
            · exfalso
              omega
            refine zr_iload dL_hangs_448 (rfl : 448 + 2 = 450) rfl ?_
            refine zr_if_eq (tgt := 527) dL_hangs_450 (by decide) (rfl : 450 + 3 = 453) (by first | exact jb_iff | exact jI_z (by first | omega | (simp only [bset, reduceIte, Nat.reduceEqDiff]; omega)) (by first | omega | (simp only [bset, reduceIte, Nat.reduceEqDiff]; omega))) (fun h450 => ?_) (fun h450 => ?_)
            · exfalso
              omega
            refine zr_iload dL_hangs_453 (rfl : 453 + 2 = 455) rfl ?_
            refine zr_bipush dL_hangs_455 (rfl : 455 + 2 = 457) (by decide) ?_
            refine zr_icmp_lt (tgt := 571) dL_hangs_457 (by decide) (rfl : 457 + 3 = 460) (jI_lt (by first | omega | (simp only [bset, reduceIte, Nat.reduceEqDiff]; omega)) (by first | omega | (simp only [bset, reduceIte, Nat.reduceEqDiff]; omega)) (by first | omega | (simp only [bset, reduceIte, Nat.reduceEqDiff]; omega)) (by first | omega | (simp only [bset, reduceIte, Nat.reduceEqDiff]; omega))) (fun h457 => ?_) (fun h457 => ?_)
            · exfalso
              omega
            refine zr_iload dL_hangs_460 (rfl : 460 + 2 = 462) rfl ?_
            refine zr_aload_n dL_hangs_462 (rfl : 462 + 1 = 463) rfl ?_
            refine zr_iload dL_hangs_463 (rfl : 463 + 2 = 465) rfl ?_
            refine zr_iconst dL_hangs_465 (rfl : 465 + 1 = 466) ?_
            refine zr_fnH dL_hangs_466 (rfl : 466 + 3 = 469) l_L_138 hf2 rfl rfl (Nat.le_of_ble_eq_true rfl) ?_
            refine zr_icmp_ne (tgt := 571) dL_hangs_469 (by decide) (rfl : 469 + 3 = 472) (jI_eq (by first | omega | (simp only [bset, reduceIte, Nat.reduceEqDiff]; omega)) (by first | omega | (simp only [bset, reduceIte, Nat.reduceEqDiff]; omega)) (by first | omega | (simp only [bset, reduceIte, Nat.reduceEqDiff]; omega)) (by first | omega | (simp only [bset, reduceIte, Nat.reduceEqDiff]; omega))) (fun h469 => ?_) (fun h469 => ?_)
            · exfalso
              omega
            refine zr_aload_n dL_hangs_472 (rfl : 472 + 1 = 473) rfl ?_
            refine zr_iload dL_hangs_473 (rfl : 473 + 2 = 475) rfl ?_
            refine zr_iconst dL_hangs_475 (rfl : 475 + 1 = 476) ?_
            refine zr_iconst dL_hangs_476 (rfl : 476 + 1 = 477) ?_
            refine zr_fnH dL_hangs_477 (rfl : 477 + 3 = 480) l_L_140 (w_missing i 3 0 ⟨hi, by decide⟩ (by decide) ok) rfl rfl (Nat.le_of_ble_eq_true rfl) ?_
            rw [f3 hw]
            refine zr_bipush dL_hangs_480 (rfl : 480 + 2 = 482) (by decide) ?_
            refine zr_aload_n dL_hangs_482 (rfl : 482 + 1 = 483) rfl ?_
            refine zr_iload dL_hangs_483 (rfl : 483 + 2 = 485) rfl ?_
            refine zr_iconst dL_hangs_485 (rfl : 485 + 1 = 486) ?_
            refine zr_fnH dL_hangs_486 (rfl : 486 + 3 = 489) l_L_136 (w_cardOf i 3 hi (by decide) ok) rfl rfl (Nat.le_of_ble_eq_true rfl) ?_
            rw [jcd_3]
            refine zr_isub dL_hangs_489 (rfl : 489 + 1 = 490) (by first | exact jI_sub _ _ | rfl) ?_
            refine zr_icmp_ne (tgt := 571) dL_hangs_490 (by decide) (rfl : 490 + 3 = 493) (jI_eq (by first | omega | (simp only [bset, reduceIte, Nat.reduceEqDiff]; omega)) (by first | omega | (simp only [bset, reduceIte, Nat.reduceEqDiff]; omega)) (by first | omega | (simp only [bset, reduceIte, Nat.reduceEqDiff]; omega)) (by first | omega | (simp only [bset, reduceIte, Nat.reduceEqDiff]; omega))) (fun h490 => ?_) (fun h490 => ?_)
            · exfalso
              omega
            refine zr_iload dL_hangs_493 (rfl : 493 + 2 = 495) rfl ?_
            refine zr_iload_n dL_hangs_495 (rfl : 495 + 1 = 496) rfl ?_
            refine zr_icmp_gt (tgt := 503) dL_hangs_496 (by decide) (rfl : 496 + 3 = 499) (jI_lt (by first | omega | (simp only [bset, reduceIte, Nat.reduceEqDiff]; omega)) (by first | omega | (simp only [bset, reduceIte, Nat.reduceEqDiff]; omega)) (by first | omega | (simp only [bset, reduceIte, Nat.reduceEqDiff]; omega)) (by first | omega | (simp only [bset, reduceIte, Nat.reduceEqDiff]; omega))) (fun h496 => ?_) (fun h496 => ?_)
            rotate_left
            · exfalso
              omega
            refine zr_iconst dL_hangs_503 (rfl : 503 + 1 = 504) ?_
            refine zr_aload_n dL_hangs_504 (rfl : 504 + 1 = 505) rfl ?_
            refine zr_iload dL_hangs_505 (rfl : 505 + 2 = 507) rfl ?_
            refine zr_iconst dL_hangs_507 (rfl : 507 + 1 = 508) ?_
            refine zr_fnH dL_hangs_508 (rfl : 508 + 3 = 511) l_L_136 (w_cardOf i 3 hi (by decide) ok) rfl rfl (Nat.le_of_ble_eq_true rfl) ?_
            rw [jcd_3]
            refine zr_bipush dL_hangs_511 (rfl : 511 + 2 = 513) (by decide) ?_
            refine zr_icmp_ne (tgt := 520) dL_hangs_513 (by decide) (rfl : 513 + 3 = 516) (jI_eq (by first | omega | (simp only [bset, reduceIte, Nat.reduceEqDiff]; omega)) (by first | omega | (simp only [bset, reduceIte, Nat.reduceEqDiff]; omega)) (by first | omega | (simp only [bset, reduceIte, Nat.reduceEqDiff]; omega)) (by first | omega | (simp only [bset, reduceIte, Nat.reduceEqDiff]; omega))) (fun h513 => ?_) (fun h513 => ?_)
            rotate_left
            · exfalso
              omega
            refine zr_iconst dL_hangs_520 (rfl : 520 + 1 = 521) ?_
            refine zr_icmp_ne (tgt := 571) dL_hangs_521 (by decide) (rfl : 521 + 3 = 524) (jI_eq (by first | omega | (simp only [bset, reduceIte, Nat.reduceEqDiff]; omega)) (by first | omega | (simp only [bset, reduceIte, Nat.reduceEqDiff]; omega)) (by first | omega | (simp only [bset, reduceIte, Nat.reduceEqDiff]; omega)) (by first | omega | (simp only [bset, reduceIte, Nat.reduceEqDiff]; omega))) (fun h521 => ?_) (fun h521 => ?_)
            · exfalso
              omega
            refine zr_goto (tgt := 545) dL_hangs_524 (by decide) ?_
            refine zr_aload_n dL_hangs_545 (rfl : 545 + 1 = 546) rfl ?_
            refine zr_iload dL_hangs_546 (rfl : 546 + 2 = 548) rfl ?_
            refine zr_bipush dL_hangs_548 (rfl : 548 + 2 = 550) (by decide) ?_
            refine zr_fnH dL_hangs_550 (rfl : 550 + 3 = 553) l_L_136 (w_cardOf i 6 hi (by decide) ok) rfl rfl (Nat.le_of_ble_eq_true rfl) ?_
            rw [jcd_6]
            refine zr_if_eq (tgt := 567) dL_hangs_553 (by decide) (rfl : 553 + 3 = 556) (by first | exact jb_iff | exact jI_z (by first | omega | (simp only [bset, reduceIte, Nat.reduceEqDiff]; omega)) (by first | omega | (simp only [bset, reduceIte, Nat.reduceEqDiff]; omega))) (fun h553 => ?_) (fun h553 => ?_)
            · exfalso
              omega
            refine zr_aload_n dL_hangs_556 (rfl : 556 + 1 = 557) rfl ?_
            refine zr_iload dL_hangs_557 (rfl : 557 + 2 = 559) rfl ?_
            refine zr_iconst dL_hangs_559 (rfl : 559 + 1 = 560) ?_
            refine zr_fnH dL_hangs_560 (rfl : 560 + 3 = 563) l_L_136 (w_cardOf i 2 hi (by decide) ok) rfl rfl (Nat.le_of_ble_eq_true rfl) ?_
            rw [jcd_2]
            refine zr_iconst dL_hangs_563 (rfl : 563 + 1 = 564) ?_
            refine zr_icmp_ne (tgt := 571) dL_hangs_564 (by decide) (rfl : 564 + 3 = 567) (jI_eq (by first | omega | (simp only [bset, reduceIte, Nat.reduceEqDiff]; omega)) (by first | omega | (simp only [bset, reduceIte, Nat.reduceEqDiff]; omega)) (by first | omega | (simp only [bset, reduceIte, Nat.reduceEqDiff]; omega)) (by first | omega | (simp only [bset, reduceIte, Nat.reduceEqDiff]; omega))) (fun h564 => ?_) (fun h564 => ?_)
            · exfalso
              omega
            refine zr_iconst dL_hangs_567 (rfl : 567 + 1 = 568) ?_
            refine zr_goto (tgt := 572) dL_hangs_568 (by decide) ?_
            refine zr_istore (lv' := [_, _, _, _, _, _, _, _, _, _, _, _, _, _, _, _, _]) dL_hangs_572 (rfl : 572 + 2 = 574) (Nat.le_of_ble_eq_true rfl) rfl ?_
            refine zr_iinc (lv' := [_, _, _, _, _, _, _, _, _, _, _, _, _, _, _, _, _]) dL_hangs_574 (rfl : 574 + 3 = 577) (Nat.le_of_ble_eq_true rfl) rfl (by first | exact jI_add _ _ | rfl) rfl ?_
            refine zr_goto (tgt := 289) dL_hangs_577 (by decide) ?_
            refine hk _ _ _ _ _ _ _ _ _ ⟨?_, ?_, ?_, ?_, ?_⟩
            all_goals omega
        · have qg : jgw (B 9) i = 0 := by omega
          refine zr_iload dL_hangs_289 (rfl : 289 + 2 = 291) rfl ?_
          refine zr_bipush dL_hangs_291 (rfl : 291 + 2 = 293) (by decide) ?_
          refine zr_icmp_ge (tgt := 580) dL_hangs_293 (by decide) (rfl : 293 + 3 = 296) (jI_le (by first | omega | (simp only [bset, reduceIte, Nat.reduceEqDiff]; omega)) (by first | omega | (simp only [bset, reduceIte, Nat.reduceEqDiff]; omega)) (by first | omega | (simp only [bset, reduceIte, Nat.reduceEqDiff]; omega)) (by first | omega | (simp only [bset, reduceIte, Nat.reduceEqDiff]; omega))) (fun h293 => ?_) (fun h293 => ?_)
          · exfalso
            omega
          refine zr_iload dL_hangs_296 (rfl : 296 + 2 = 298) rfl ?_
          refine zr_if_eq (tgt := 580) dL_hangs_298 (by decide) (rfl : 298 + 3 = 301) (by first | exact jb_iff | exact jI_z (by first | omega | (simp only [bset, reduceIte, Nat.reduceEqDiff]; omega)) (by first | omega | (simp only [bset, reduceIte, Nat.reduceEqDiff]; omega))) (fun h298 => ?_) (fun h298 => ?_)
          · exfalso
            omega
          refine zr_aload_n dL_hangs_301 (rfl : 301 + 1 = 302) rfl ?_
          refine zr_iload dL_hangs_302 (rfl : 302 + 2 = 304) rfl ?_
          refine zr_iconst dL_hangs_304 (rfl : 304 + 1 = 305) ?_
          refine zr_fnH dL_hangs_305 (rfl : 305 + 3 = 308) l_L_136 (w_cardOf i 0 hi (by decide) ok) rfl rfl (Nat.le_of_ble_eq_true rfl) ?_
          rw [jcd_0]
          refine zr_istore (lv' := [_, _, _, _, _, _, _, _, _, _, _, _, _, _, _, _, _]) dL_hangs_308 (rfl : 308 + 2 = 310) (Nat.le_of_ble_eq_true rfl) rfl ?_
          refine zr_aload_n dL_hangs_310 (rfl : 310 + 1 = 311) rfl ?_
          refine zr_iload dL_hangs_311 (rfl : 311 + 2 = 313) rfl ?_
          refine zr_iconst dL_hangs_313 (rfl : 313 + 1 = 314) ?_
          refine zr_fnH dL_hangs_314 (rfl : 314 + 3 = 317) l_L_136 (w_cardOf i 1 hi (by decide) ok) rfl rfl (Nat.le_of_ble_eq_true rfl) ?_
          rw [jcd_1, jb_pos hw]
          refine zr_iconst dL_hangs_317 (rfl : 317 + 1 = 318) ?_
          refine zr_icmp_ne (tgt := 325) dL_hangs_318 (by decide) (rfl : 318 + 3 = 321) (jI_eq (by first | omega | (simp only [bset, reduceIte, Nat.reduceEqDiff]; omega)) (by first | omega | (simp only [bset, reduceIte, Nat.reduceEqDiff]; omega)) (by first | omega | (simp only [bset, reduceIte, Nat.reduceEqDiff]; omega)) (by first | omega | (simp only [bset, reduceIte, Nat.reduceEqDiff]; omega))) (fun h318 => ?_) (fun h318 => ?_)
          · exfalso
            omega
          refine zr_iconst dL_hangs_321 (rfl : 321 + 1 = 322) ?_
          refine zr_goto (tgt := 326) dL_hangs_322 (by decide) ?_
          refine zr_istore (lv' := [_, _, _, _, _, _, _, _, _, _, _, _, _, _, _, _, _]) dL_hangs_326 (rfl : 326 + 2 = 328) (Nat.le_of_ble_eq_true rfl) rfl ?_
          refine zr_aload_n dL_hangs_328 (rfl : 328 + 1 = 329) rfl ?_
          refine zr_iload dL_hangs_329 (rfl : 329 + 2 = 331) rfl ?_
          refine zr_iconst dL_hangs_331 (rfl : 331 + 1 = 332) ?_
          refine zr_fnH dL_hangs_332 (rfl : 332 + 3 = 335) l_L_138 hf1 rfl rfl (Nat.le_of_ble_eq_true rfl) ?_
          refine zr_istore (lv' := [_, _, _, _, _, _, _, _, _, _, _, _, _, _, _, _, _]) dL_hangs_335 (rfl : 335 + 2 = 337) (Nat.le_of_ble_eq_true rfl) rfl ?_
          refine zr_iload dL_hangs_337 (rfl : 337 + 2 = 339) rfl ?_
          refine zr_iload dL_hangs_339 (rfl : 339 + 2 = 341) rfl ?_
          refine zr_iadd dL_hangs_341 (rfl : 341 + 1 = 342) (by first | exact jI_add _ _ | rfl) ?_
          refine zr_istore (lv' := [_, _, _, _, _, _, _, _, _, _, _, _, _, _, _, _, _]) dL_hangs_342 (rfl : 342 + 2 = 344) (Nat.le_of_ble_eq_true rfl) rfl ?_
          refine zr_iload dL_hangs_344 (rfl : 344 + 2 = 346) rfl ?_
          refine zr_iload dL_hangs_346 (rfl : 346 + 2 = 348) rfl ?_
          refine zr_if_eq (tgt := 355) dL_hangs_348 (by decide) (rfl : 348 + 3 = 351) (by first | exact jb_iff | exact jI_z (by first | omega | (simp only [bset, reduceIte, Nat.reduceEqDiff]; omega)) (by first | omega | (simp only [bset, reduceIte, Nat.reduceEqDiff]; omega))) (fun h348 => ?_) (fun h348 => ?_)
          · exfalso
            omega
          refine zr_iconst dL_hangs_351 (rfl : 351 + 1 = 352) ?_
          refine zr_goto (tgt := 356) dL_hangs_352 (by decide) ?_
          refine zr_iadd dL_hangs_356 (rfl : 356 + 1 = 357) (by first | exact jI_add _ _ | rfl) ?_
          refine zr_istore (lv' := [_, _, _, _, _, _, _, _, _, _, _, _, _, _, _, _, _]) dL_hangs_357 (rfl : 357 + 2 = 359) (Nat.le_of_ble_eq_true rfl) rfl ?_
          refine zr_iload dL_hangs_359 (rfl : 359 + 2 = 361) rfl ?_
          refine zr_aload_n dL_hangs_361 (rfl : 361 + 1 = 362) rfl ?_
          refine zr_iload dL_hangs_362 (rfl : 362 + 2 = 364) rfl ?_
          refine zr_iconst dL_hangs_364 (rfl : 364 + 1 = 365) ?_
          refine zr_fnH dL_hangs_365 (rfl : 365 + 3 = 368) l_L_136 (w_cardOf i 2 hi (by decide) ok) rfl rfl (Nat.le_of_ble_eq_true rfl) ?_
          rw [jcd_2]
          refine zr_iadd dL_hangs_368 (rfl : 368 + 1 = 369) (by first | exact jI_add _ _ | rfl) ?_
          refine zr_istore (lv' := [_, _, _, _, _, _, _, _, _, _, _, _, _, _, _, _, _]) dL_hangs_369 (rfl : 369 + 2 = 371) (Nat.le_of_ble_eq_true rfl) rfl ?_
          refine zr_iload dL_hangs_371 (rfl : 371 + 2 = 373) rfl ?_
          refine zr_aload_n dL_hangs_373 (rfl : 373 + 1 = 374) rfl ?_
          refine zr_iload dL_hangs_374 (rfl : 374 + 2 = 376) rfl ?_
          refine zr_bipush dL_hangs_376 (rfl : 376 + 2 = 378) (by decide) ?_
          refine zr_fnH dL_hangs_378 (rfl : 378 + 3 = 381) l_L_136 (w_cardOf i 7 hi (by decide) ok) rfl rfl (Nat.le_of_ble_eq_true rfl) ?_
          rw [jcd_7]
          refine zr_iadd dL_hangs_381 (rfl : 381 + 1 = 382) (by first | exact jI_add _ _ | rfl) ?_
          refine zr_istore (lv' := [_, _, _, _, _, _, _, _, _, _, _, _, _, _, _, _, _]) dL_hangs_382 (rfl : 382 + 2 = 384) (Nat.le_of_ble_eq_true rfl) rfl ?_
          refine zr_iload dL_hangs_384 (rfl : 384 + 2 = 386) rfl ?_
          refine zr_aload_n dL_hangs_386 (rfl : 386 + 1 = 387) rfl ?_
          refine zr_iload dL_hangs_387 (rfl : 387 + 2 = 389) rfl ?_
          refine zr_bipush dL_hangs_389 (rfl : 389 + 2 = 391) (by decide) ?_
          refine zr_fnH dL_hangs_391 (rfl : 391 + 3 = 394) l_L_136 (w_cardOf i 8 hi (by decide) ok) rfl rfl (Nat.le_of_ble_eq_true rfl) ?_
          rw [jcd_8]
          refine zr_iadd dL_hangs_394 (rfl : 394 + 1 = 395) (by first | exact jI_add _ _ | rfl) ?_
          refine zr_istore (lv' := [_, _, _, _, _, _, _, _, _, _, _, _, _, _, _, _, _]) dL_hangs_395 (rfl : 395 + 2 = 397) (Nat.le_of_ble_eq_true rfl) rfl ?_
          refine zr_iload dL_hangs_397 (rfl : 397 + 2 = 399) rfl ?_
          refine zr_if_eq (tgt := 409) dL_hangs_399 (by decide) (rfl : 399 + 3 = 402) (by first | exact jb_iff | exact jI_z (by first | omega | (simp only [bset, reduceIte, Nat.reduceEqDiff]; omega)) (by first | omega | (simp only [bset, reduceIte, Nat.reduceEqDiff]; omega))) (fun h399 => ?_) (fun h399 => ?_)
          · exfalso
            omega
          refine zr_iload dL_hangs_402 (rfl : 402 + 2 = 404) rfl ?_
          refine zr_bipush dL_hangs_404 (rfl : 404 + 2 = 406) (by decide) ?_
          refine zr_icmp_ne (tgt := 571) dL_hangs_406 (by decide) (rfl : 406 + 3 = 409) (jI_eq (by first | omega | (simp only [bset, reduceIte, Nat.reduceEqDiff]; omega)) (by first | omega | (simp only [bset, reduceIte, Nat.reduceEqDiff]; omega)) (by first | omega | (simp only [bset, reduceIte, Nat.reduceEqDiff]; omega)) (by first | omega | (simp only [bset, reduceIte, Nat.reduceEqDiff]; omega))) (fun h406 => ?_) (fun h406 => ?_)
          · exfalso
            omega
          refine zr_aload_n dL_hangs_409 (rfl : 409 + 1 = 410) rfl ?_
          refine zr_iload dL_hangs_410 (rfl : 410 + 2 = 412) rfl ?_
          refine zr_iconst dL_hangs_412 (rfl : 412 + 1 = 413) ?_
          refine zr_fnH dL_hangs_413 (rfl : 413 + 3 = 416) l_L_136 (w_cardOf i 3 hi (by decide) ok) rfl rfl (Nat.le_of_ble_eq_true rfl) ?_
          rw [jcd_3]
          refine zr_iload dL_hangs_416 (rfl : 416 + 2 = 418) rfl ?_
          refine zr_icmp_gt (tgt := 571) dL_hangs_418 (by decide) (rfl : 418 + 3 = 421) (jI_lt (by first | omega | (simp only [bset, reduceIte, Nat.reduceEqDiff]; omega)) (by first | omega | (simp only [bset, reduceIte, Nat.reduceEqDiff]; omega)) (by first | omega | (simp only [bset, reduceIte, Nat.reduceEqDiff]; omega)) (by first | omega | (simp only [bset, reduceIte, Nat.reduceEqDiff]; omega))) (fun h418 => ?_) (fun h418 => ?_)
          · exfalso
            omega
          refine zr_aload_n dL_hangs_421 (rfl : 421 + 1 = 422) rfl ?_
          refine zr_iload dL_hangs_422 (rfl : 422 + 2 = 424) rfl ?_
          refine zr_iconst dL_hangs_424 (rfl : 424 + 1 = 425) ?_
          refine zr_fnH dL_hangs_425 (rfl : 425 + 3 = 428) l_L_136 (w_cardOf i 4 hi (by decide) ok) rfl rfl (Nat.le_of_ble_eq_true rfl) ?_
          rw [jcd_4]
          refine zr_iload dL_hangs_428 (rfl : 428 + 2 = 430) rfl ?_
          refine zr_icmp_gt (tgt := 571) dL_hangs_430 (by decide) (rfl : 430 + 3 = 433) (jI_lt (by first | omega | (simp only [bset, reduceIte, Nat.reduceEqDiff]; omega)) (by first | omega | (simp only [bset, reduceIte, Nat.reduceEqDiff]; omega)) (by first | omega | (simp only [bset, reduceIte, Nat.reduceEqDiff]; omega)) (by first | omega | (simp only [bset, reduceIte, Nat.reduceEqDiff]; omega))) (fun h430 => ?_) (fun h430 => ?_)
          · exfalso
            omega
          refine zr_aload_n dL_hangs_433 (rfl : 433 + 1 = 434) rfl ?_
          refine zr_iload dL_hangs_434 (rfl : 434 + 2 = 436) rfl ?_
          refine zr_iconst dL_hangs_436 (rfl : 436 + 1 = 437) ?_
          refine zr_fnH dL_hangs_437 (rfl : 437 + 3 = 440) l_L_136 (w_cardOf i 2 hi (by decide) ok) rfl rfl (Nat.le_of_ble_eq_true rfl) ?_
          rw [jcd_2]
          refine zr_if_eq (tgt := 448) dL_hangs_440 (by decide) (rfl : 440 + 3 = 443) (by first | exact jb_iff | exact jI_z (by first | omega | (simp only [bset, reduceIte, Nat.reduceEqDiff]; omega)) (by first | omega | (simp only [bset, reduceIte, Nat.reduceEqDiff]; omega))) (fun h440 => ?_) (fun h440 => ?_)
          rotate_left
          · exfalso
            omega
          refine zr_iload dL_hangs_448 (rfl : 448 + 2 = 450) rfl ?_
          refine zr_if_eq (tgt := 527) dL_hangs_450 (by decide) (rfl : 450 + 3 = 453) (by first | exact jb_iff | exact jI_z (by first | omega | (simp only [bset, reduceIte, Nat.reduceEqDiff]; omega)) (by first | omega | (simp only [bset, reduceIte, Nat.reduceEqDiff]; omega))) (fun h450 => ?_) (fun h450 => ?_)
          · exfalso
            omega
          refine zr_iload dL_hangs_453 (rfl : 453 + 2 = 455) rfl ?_
          refine zr_bipush dL_hangs_455 (rfl : 455 + 2 = 457) (by decide) ?_
          refine zr_icmp_lt (tgt := 571) dL_hangs_457 (by decide) (rfl : 457 + 3 = 460) (jI_lt (by first | omega | (simp only [bset, reduceIte, Nat.reduceEqDiff]; omega)) (by first | omega | (simp only [bset, reduceIte, Nat.reduceEqDiff]; omega)) (by first | omega | (simp only [bset, reduceIte, Nat.reduceEqDiff]; omega)) (by first | omega | (simp only [bset, reduceIte, Nat.reduceEqDiff]; omega))) (fun h457 => ?_) (fun h457 => ?_)
          · exfalso
            omega
          refine zr_iload dL_hangs_460 (rfl : 460 + 2 = 462) rfl ?_
          refine zr_aload_n dL_hangs_462 (rfl : 462 + 1 = 463) rfl ?_
          refine zr_iload dL_hangs_463 (rfl : 463 + 2 = 465) rfl ?_
          refine zr_iconst dL_hangs_465 (rfl : 465 + 1 = 466) ?_
          refine zr_fnH dL_hangs_466 (rfl : 466 + 3 = 469) l_L_138 hf2 rfl rfl (Nat.le_of_ble_eq_true rfl) ?_
          refine zr_icmp_ne (tgt := 571) dL_hangs_469 (by decide) (rfl : 469 + 3 = 472) (jI_eq (by first | omega | (simp only [bset, reduceIte, Nat.reduceEqDiff]; omega)) (by first | omega | (simp only [bset, reduceIte, Nat.reduceEqDiff]; omega)) (by first | omega | (simp only [bset, reduceIte, Nat.reduceEqDiff]; omega)) (by first | omega | (simp only [bset, reduceIte, Nat.reduceEqDiff]; omega))) (fun h469 => ?_) (fun h469 => ?_)
          · exfalso
            omega
          refine zr_aload_n dL_hangs_472 (rfl : 472 + 1 = 473) rfl ?_
          refine zr_iload dL_hangs_473 (rfl : 473 + 2 = 475) rfl ?_
          refine zr_iconst dL_hangs_475 (rfl : 475 + 1 = 476) ?_
          refine zr_iconst dL_hangs_476 (rfl : 476 + 1 = 477) ?_
          refine zr_fnH dL_hangs_477 (rfl : 477 + 3 = 480) l_L_140 (w_missing i 3 0 ⟨hi, by decide⟩ (by decide) ok) rfl rfl (Nat.le_of_ble_eq_true rfl) ?_
          rw [f3 hw]
          refine zr_bipush dL_hangs_480 (rfl : 480 + 2 = 482) (by decide) ?_
          refine zr_aload_n dL_hangs_482 (rfl : 482 + 1 = 483) rfl ?_
          refine zr_iload dL_hangs_483 (rfl : 483 + 2 = 485) rfl ?_
          refine zr_iconst dL_hangs_485 (rfl : 485 + 1 = 486) ?_
          refine zr_fnH dL_hangs_486 (rfl : 486 + 3 = 489) l_L_136 (w_cardOf i 3 hi (by decide) ok) rfl rfl (Nat.le_of_ble_eq_true rfl) ?_
          rw [jcd_3]
          refine zr_isub dL_hangs_489 (rfl : 489 + 1 = 490) (by first | exact jI_sub _ _ | rfl) ?_
          refine zr_icmp_ne (tgt := 571) dL_hangs_490 (by decide) (rfl : 490 + 3 = 493) (jI_eq (by first | omega | (simp only [bset, reduceIte, Nat.reduceEqDiff]; omega)) (by first | omega | (simp only [bset, reduceIte, Nat.reduceEqDiff]; omega)) (by first | omega | (simp only [bset, reduceIte, Nat.reduceEqDiff]; omega)) (by first | omega | (simp only [bset, reduceIte, Nat.reduceEqDiff]; omega))) (fun h490 => ?_) (fun h490 => ?_)
          · exfalso
            omega
          refine zr_iload dL_hangs_493 (rfl : 493 + 2 = 495) rfl ?_
          refine zr_iload_n dL_hangs_495 (rfl : 495 + 1 = 496) rfl ?_
          refine zr_icmp_gt (tgt := 503) dL_hangs_496 (by decide) (rfl : 496 + 3 = 499) (jI_lt (by first | omega | (simp only [bset, reduceIte, Nat.reduceEqDiff]; omega)) (by first | omega | (simp only [bset, reduceIte, Nat.reduceEqDiff]; omega)) (by first | omega | (simp only [bset, reduceIte, Nat.reduceEqDiff]; omega)) (by first | omega | (simp only [bset, reduceIte, Nat.reduceEqDiff]; omega))) (fun h496 => ?_) (fun h496 => ?_)
          rotate_left
          · exfalso
            omega
          refine zr_iconst dL_hangs_503 (rfl : 503 + 1 = 504) ?_
          refine zr_aload_n dL_hangs_504 (rfl : 504 + 1 = 505) rfl ?_
          refine zr_iload dL_hangs_505 (rfl : 505 + 2 = 507) rfl ?_
          refine zr_iconst dL_hangs_507 (rfl : 507 + 1 = 508) ?_
          refine zr_fnH dL_hangs_508 (rfl : 508 + 3 = 511) l_L_136 (w_cardOf i 3 hi (by decide) ok) rfl rfl (Nat.le_of_ble_eq_true rfl) ?_
          rw [jcd_3]
          refine zr_bipush dL_hangs_511 (rfl : 511 + 2 = 513) (by decide) ?_
          refine zr_icmp_ne (tgt := 520) dL_hangs_513 (by decide) (rfl : 513 + 3 = 516) (jI_eq (by first | omega | (simp only [bset, reduceIte, Nat.reduceEqDiff]; omega)) (by first | omega | (simp only [bset, reduceIte, Nat.reduceEqDiff]; omega)) (by first | omega | (simp only [bset, reduceIte, Nat.reduceEqDiff]; omega)) (by first | omega | (simp only [bset, reduceIte, Nat.reduceEqDiff]; omega))) (fun h513 => ?_) (fun h513 => ?_)
          rotate_left
          · exfalso
            omega
          refine zr_iconst dL_hangs_520 (rfl : 520 + 1 = 521) ?_
          refine zr_icmp_ne (tgt := 571) dL_hangs_521 (by decide) (rfl : 521 + 3 = 524) (jI_eq (by first | omega | (simp only [bset, reduceIte, Nat.reduceEqDiff]; omega)) (by first | omega | (simp only [bset, reduceIte, Nat.reduceEqDiff]; omega)) (by first | omega | (simp only [bset, reduceIte, Nat.reduceEqDiff]; omega)) (by first | omega | (simp only [bset, reduceIte, Nat.reduceEqDiff]; omega))) (fun h521 => ?_) (fun h521 => ?_)
          · exfalso
            omega
          refine zr_goto (tgt := 545) dL_hangs_524 (by decide) ?_
          refine zr_aload_n dL_hangs_545 (rfl : 545 + 1 = 546) rfl ?_
          refine zr_iload dL_hangs_546 (rfl : 546 + 2 = 548) rfl ?_
          refine zr_bipush dL_hangs_548 (rfl : 548 + 2 = 550) (by decide) ?_
          refine zr_fnH dL_hangs_550 (rfl : 550 + 3 = 553) l_L_136 (w_cardOf i 6 hi (by decide) ok) rfl rfl (Nat.le_of_ble_eq_true rfl) ?_
          rw [jcd_6]
          refine zr_if_eq (tgt := 567) dL_hangs_553 (by decide) (rfl : 553 + 3 = 556) (by first | exact jb_iff | exact jI_z (by first | omega | (simp only [bset, reduceIte, Nat.reduceEqDiff]; omega)) (by first | omega | (simp only [bset, reduceIte, Nat.reduceEqDiff]; omega))) (fun h553 => ?_) (fun h553 => ?_)
          rotate_left
          · exfalso
            omega
          refine zr_iconst dL_hangs_567 (rfl : 567 + 1 = 568) ?_
          refine zr_goto (tgt := 572) dL_hangs_568 (by decide) ?_
          refine zr_istore (lv' := [_, _, _, _, _, _, _, _, _, _, _, _, _, _, _, _, _]) dL_hangs_572 (rfl : 572 + 2 = 574) (Nat.le_of_ble_eq_true rfl) rfl ?_
          refine zr_iinc (lv' := [_, _, _, _, _, _, _, _, _, _, _, _, _, _, _, _, _]) dL_hangs_574 (rfl : 574 + 3 = 577) (Nat.le_of_ble_eq_true rfl) rfl (by first | exact jI_add _ _ | rfl) rfl ?_
          refine zr_goto (tgt := 289) dL_hangs_577 (by decide) ?_
          refine hk _ _ _ _ _ _ _ _ _ ⟨?_, ?_, ?_, ?_, ?_⟩
          all_goals omega
    · rw [if_neg hw] at hf1 hf2
      have qb : jbit (B 11 0) i = 0 := by
        have := fun q => hw (f1 q)
        omega
      have qg : jgw (B 9) i = 0 := by omega
      refine zr_iload dL_hangs_289 (rfl : 289 + 2 = 291) rfl ?_
      refine zr_bipush dL_hangs_291 (rfl : 291 + 2 = 293) (by decide) ?_
      refine zr_icmp_ge (tgt := 580) dL_hangs_293 (by decide) (rfl : 293 + 3 = 296) (jI_le (by first | omega | (simp only [bset, reduceIte, Nat.reduceEqDiff]; omega)) (by first | omega | (simp only [bset, reduceIte, Nat.reduceEqDiff]; omega)) (by first | omega | (simp only [bset, reduceIte, Nat.reduceEqDiff]; omega)) (by first | omega | (simp only [bset, reduceIte, Nat.reduceEqDiff]; omega))) (fun h293 => ?_) (fun h293 => ?_)
      · exfalso
        omega
      refine zr_iload dL_hangs_296 (rfl : 296 + 2 = 298) rfl ?_
      refine zr_if_eq (tgt := 580) dL_hangs_298 (by decide) (rfl : 298 + 3 = 301) (by first | exact jb_iff | exact jI_z (by first | omega | (simp only [bset, reduceIte, Nat.reduceEqDiff]; omega)) (by first | omega | (simp only [bset, reduceIte, Nat.reduceEqDiff]; omega))) (fun h298 => ?_) (fun h298 => ?_)
      · exfalso
        omega
      refine zr_aload_n dL_hangs_301 (rfl : 301 + 1 = 302) rfl ?_
      refine zr_iload dL_hangs_302 (rfl : 302 + 2 = 304) rfl ?_
      refine zr_iconst dL_hangs_304 (rfl : 304 + 1 = 305) ?_
      refine zr_fnH dL_hangs_305 (rfl : 305 + 3 = 308) l_L_136 (w_cardOf i 0 hi (by decide) ok) rfl rfl (Nat.le_of_ble_eq_true rfl) ?_
      rw [jcd_0]
      refine zr_istore (lv' := [_, _, _, _, _, _, _, _, _, _, _, _, _, _, _, _, _]) dL_hangs_308 (rfl : 308 + 2 = 310) (Nat.le_of_ble_eq_true rfl) rfl ?_
      refine zr_aload_n dL_hangs_310 (rfl : 310 + 1 = 311) rfl ?_
      refine zr_iload dL_hangs_311 (rfl : 311 + 2 = 313) rfl ?_
      refine zr_iconst dL_hangs_313 (rfl : 313 + 1 = 314) ?_
      refine zr_fnH dL_hangs_314 (rfl : 314 + 3 = 317) l_L_136 (w_cardOf i 1 hi (by decide) ok) rfl rfl (Nat.le_of_ble_eq_true rfl) ?_
      rw [jcd_1, jb_neg hw]
      refine zr_iconst dL_hangs_317 (rfl : 317 + 1 = 318) ?_
      refine zr_icmp_ne (tgt := 325) dL_hangs_318 (by decide) (rfl : 318 + 3 = 321) (jI_eq (by first | omega | (simp only [bset, reduceIte, Nat.reduceEqDiff]; omega)) (by first | omega | (simp only [bset, reduceIte, Nat.reduceEqDiff]; omega)) (by first | omega | (simp only [bset, reduceIte, Nat.reduceEqDiff]; omega)) (by first | omega | (simp only [bset, reduceIte, Nat.reduceEqDiff]; omega))) (fun h318 => ?_) (fun h318 => ?_)
      rotate_left
      · exfalso
        omega
      refine zr_iconst dL_hangs_325 (rfl : 325 + 1 = 326) ?_
      refine zr_istore (lv' := [_, _, _, _, _, _, _, _, _, _, _, _, _, _, _, _, _]) dL_hangs_326 (rfl : 326 + 2 = 328) (Nat.le_of_ble_eq_true rfl) rfl ?_
      refine zr_aload_n dL_hangs_328 (rfl : 328 + 1 = 329) rfl ?_
      refine zr_iload dL_hangs_329 (rfl : 329 + 2 = 331) rfl ?_
      refine zr_iconst dL_hangs_331 (rfl : 331 + 1 = 332) ?_
      refine zr_fnH dL_hangs_332 (rfl : 332 + 3 = 335) l_L_138 hf1 rfl rfl (Nat.le_of_ble_eq_true rfl) ?_
      refine zr_istore (lv' := [_, _, _, _, _, _, _, _, _, _, _, _, _, _, _, _, _]) dL_hangs_335 (rfl : 335 + 2 = 337) (Nat.le_of_ble_eq_true rfl) rfl ?_
      refine zr_iload dL_hangs_337 (rfl : 337 + 2 = 339) rfl ?_
      refine zr_iload dL_hangs_339 (rfl : 339 + 2 = 341) rfl ?_
      refine zr_iadd dL_hangs_341 (rfl : 341 + 1 = 342) (by first | exact jI_add _ _ | rfl) ?_
      refine zr_istore (lv' := [_, _, _, _, _, _, _, _, _, _, _, _, _, _, _, _, _]) dL_hangs_342 (rfl : 342 + 2 = 344) (Nat.le_of_ble_eq_true rfl) rfl ?_
      refine zr_iload dL_hangs_344 (rfl : 344 + 2 = 346) rfl ?_
      refine zr_iload dL_hangs_346 (rfl : 346 + 2 = 348) rfl ?_
      refine zr_if_eq (tgt := 355) dL_hangs_348 (by decide) (rfl : 348 + 3 = 351) (by first | exact jb_iff | exact jI_z (by first | omega | (simp only [bset, reduceIte, Nat.reduceEqDiff]; omega)) (by first | omega | (simp only [bset, reduceIte, Nat.reduceEqDiff]; omega))) (fun h348 => ?_) (fun h348 => ?_)
      rotate_left
      · exfalso
        omega
      refine zr_iconst dL_hangs_355 (rfl : 355 + 1 = 356) ?_
      refine zr_iadd dL_hangs_356 (rfl : 356 + 1 = 357) (by first | exact jI_add _ _ | rfl) ?_
      refine zr_istore (lv' := [_, _, _, _, _, _, _, _, _, _, _, _, _, _, _, _, _]) dL_hangs_357 (rfl : 357 + 2 = 359) (Nat.le_of_ble_eq_true rfl) rfl ?_
      refine zr_iload dL_hangs_359 (rfl : 359 + 2 = 361) rfl ?_
      refine zr_aload_n dL_hangs_361 (rfl : 361 + 1 = 362) rfl ?_
      refine zr_iload dL_hangs_362 (rfl : 362 + 2 = 364) rfl ?_
      refine zr_iconst dL_hangs_364 (rfl : 364 + 1 = 365) ?_
      refine zr_fnH dL_hangs_365 (rfl : 365 + 3 = 368) l_L_136 (w_cardOf i 2 hi (by decide) ok) rfl rfl (Nat.le_of_ble_eq_true rfl) ?_
      rw [jcd_2]
      refine zr_iadd dL_hangs_368 (rfl : 368 + 1 = 369) (by first | exact jI_add _ _ | rfl) ?_
      refine zr_istore (lv' := [_, _, _, _, _, _, _, _, _, _, _, _, _, _, _, _, _]) dL_hangs_369 (rfl : 369 + 2 = 371) (Nat.le_of_ble_eq_true rfl) rfl ?_
      refine zr_iload dL_hangs_371 (rfl : 371 + 2 = 373) rfl ?_
      refine zr_aload_n dL_hangs_373 (rfl : 373 + 1 = 374) rfl ?_
      refine zr_iload dL_hangs_374 (rfl : 374 + 2 = 376) rfl ?_
      refine zr_bipush dL_hangs_376 (rfl : 376 + 2 = 378) (by decide) ?_
      refine zr_fnH dL_hangs_378 (rfl : 378 + 3 = 381) l_L_136 (w_cardOf i 7 hi (by decide) ok) rfl rfl (Nat.le_of_ble_eq_true rfl) ?_
      rw [jcd_7]
      refine zr_iadd dL_hangs_381 (rfl : 381 + 1 = 382) (by first | exact jI_add _ _ | rfl) ?_
      refine zr_istore (lv' := [_, _, _, _, _, _, _, _, _, _, _, _, _, _, _, _, _]) dL_hangs_382 (rfl : 382 + 2 = 384) (Nat.le_of_ble_eq_true rfl) rfl ?_
      refine zr_iload dL_hangs_384 (rfl : 384 + 2 = 386) rfl ?_
      refine zr_aload_n dL_hangs_386 (rfl : 386 + 1 = 387) rfl ?_
      refine zr_iload dL_hangs_387 (rfl : 387 + 2 = 389) rfl ?_
      refine zr_bipush dL_hangs_389 (rfl : 389 + 2 = 391) (by decide) ?_
      refine zr_fnH dL_hangs_391 (rfl : 391 + 3 = 394) l_L_136 (w_cardOf i 8 hi (by decide) ok) rfl rfl (Nat.le_of_ble_eq_true rfl) ?_
      rw [jcd_8]
      refine zr_iadd dL_hangs_394 (rfl : 394 + 1 = 395) (by first | exact jI_add _ _ | rfl) ?_
      refine zr_istore (lv' := [_, _, _, _, _, _, _, _, _, _, _, _, _, _, _, _, _]) dL_hangs_395 (rfl : 395 + 2 = 397) (Nat.le_of_ble_eq_true rfl) rfl ?_
      refine zr_iload dL_hangs_397 (rfl : 397 + 2 = 399) rfl ?_
      refine zr_if_eq (tgt := 409) dL_hangs_399 (by decide) (rfl : 399 + 3 = 402) (by first | exact jb_iff | exact jI_z (by first | omega | (simp only [bset, reduceIte, Nat.reduceEqDiff]; omega)) (by first | omega | (simp only [bset, reduceIte, Nat.reduceEqDiff]; omega))) (fun h399 => ?_) (fun h399 => ?_)
      rotate_left
      · exfalso
        omega
      refine zr_aload_n dL_hangs_409 (rfl : 409 + 1 = 410) rfl ?_
      refine zr_iload dL_hangs_410 (rfl : 410 + 2 = 412) rfl ?_
      refine zr_iconst dL_hangs_412 (rfl : 412 + 1 = 413) ?_
      refine zr_fnH dL_hangs_413 (rfl : 413 + 3 = 416) l_L_136 (w_cardOf i 3 hi (by decide) ok) rfl rfl (Nat.le_of_ble_eq_true rfl) ?_
      rw [jcd_3]
      refine zr_iload dL_hangs_416 (rfl : 416 + 2 = 418) rfl ?_
      refine zr_icmp_gt (tgt := 571) dL_hangs_418 (by decide) (rfl : 418 + 3 = 421) (jI_lt (by first | omega | (simp only [bset, reduceIte, Nat.reduceEqDiff]; omega)) (by first | omega | (simp only [bset, reduceIte, Nat.reduceEqDiff]; omega)) (by first | omega | (simp only [bset, reduceIte, Nat.reduceEqDiff]; omega)) (by first | omega | (simp only [bset, reduceIte, Nat.reduceEqDiff]; omega))) (fun h418 => ?_) (fun h418 => ?_)
      · exfalso
        omega
      refine zr_aload_n dL_hangs_421 (rfl : 421 + 1 = 422) rfl ?_
      refine zr_iload dL_hangs_422 (rfl : 422 + 2 = 424) rfl ?_
      refine zr_iconst dL_hangs_424 (rfl : 424 + 1 = 425) ?_
      refine zr_fnH dL_hangs_425 (rfl : 425 + 3 = 428) l_L_136 (w_cardOf i 4 hi (by decide) ok) rfl rfl (Nat.le_of_ble_eq_true rfl) ?_
      rw [jcd_4]
      refine zr_iload dL_hangs_428 (rfl : 428 + 2 = 430) rfl ?_
      refine zr_icmp_gt (tgt := 571) dL_hangs_430 (by decide) (rfl : 430 + 3 = 433) (jI_lt (by first | omega | (simp only [bset, reduceIte, Nat.reduceEqDiff]; omega)) (by first | omega | (simp only [bset, reduceIte, Nat.reduceEqDiff]; omega)) (by first | omega | (simp only [bset, reduceIte, Nat.reduceEqDiff]; omega)) (by first | omega | (simp only [bset, reduceIte, Nat.reduceEqDiff]; omega))) (fun h430 => ?_) (fun h430 => ?_)
      · exfalso
        omega
      refine zr_aload_n dL_hangs_433 (rfl : 433 + 1 = 434) rfl ?_
      refine zr_iload dL_hangs_434 (rfl : 434 + 2 = 436) rfl ?_
      refine zr_iconst dL_hangs_436 (rfl : 436 + 1 = 437) ?_
      refine zr_fnH dL_hangs_437 (rfl : 437 + 3 = 440) l_L_136 (w_cardOf i 2 hi (by decide) ok) rfl rfl (Nat.le_of_ble_eq_true rfl) ?_
      rw [jcd_2]
      refine zr_if_eq (tgt := 448) dL_hangs_440 (by decide) (rfl : 440 + 3 = 443) (by first | exact jb_iff | exact jI_z (by first | omega | (simp only [bset, reduceIte, Nat.reduceEqDiff]; omega)) (by first | omega | (simp only [bset, reduceIte, Nat.reduceEqDiff]; omega))) (fun h440 => ?_) (fun h440 => ?_)
      rotate_left
      · exfalso
        omega
      refine zr_iload dL_hangs_448 (rfl : 448 + 2 = 450) rfl ?_
      refine zr_if_eq (tgt := 527) dL_hangs_450 (by decide) (rfl : 450 + 3 = 453) (by first | exact jb_iff | exact jI_z (by first | omega | (simp only [bset, reduceIte, Nat.reduceEqDiff]; omega)) (by first | omega | (simp only [bset, reduceIte, Nat.reduceEqDiff]; omega))) (fun h450 => ?_) (fun h450 => ?_)
      rotate_left
      · exfalso
        omega
      refine zr_iload dL_hangs_527 (rfl : 527 + 2 = 529) rfl ?_
      refine zr_iconst dL_hangs_529 (rfl : 529 + 1 = 530) ?_
      refine zr_icmp_ne (tgt := 571) dL_hangs_530 (by decide) (rfl : 530 + 3 = 533) (jI_eq (by first | omega | (simp only [bset, reduceIte, Nat.reduceEqDiff]; omega)) (by first | omega | (simp only [bset, reduceIte, Nat.reduceEqDiff]; omega)) (by first | omega | (simp only [bset, reduceIte, Nat.reduceEqDiff]; omega)) (by first | omega | (simp only [bset, reduceIte, Nat.reduceEqDiff]; omega))) (fun h530 => ?_) (fun h530 => ?_)
      · exfalso
        omega
      refine zr_aload_n dL_hangs_533 (rfl : 533 + 1 = 534) rfl ?_
      refine zr_iload dL_hangs_534 (rfl : 534 + 2 = 536) rfl ?_
      refine zr_iconst dL_hangs_536 (rfl : 536 + 1 = 537) ?_
      refine zr_iconst dL_hangs_537 (rfl : 537 + 1 = 538) ?_
      refine zr_fnH dL_hangs_538 (rfl : 538 + 3 = 541) l_L_140 (w_missing i 0 0 ⟨hi, by decide⟩ (by decide) ok) rfl rfl (Nat.le_of_ble_eq_true rfl) ?_
      rw [f4 hw]
      refine zr_iconst dL_hangs_541 (rfl : 541 + 1 = 542) ?_
      refine zr_icmp_ne (tgt := 571) dL_hangs_542 (by decide) (rfl : 542 + 3 = 545) (jI_eq (by first | omega | (simp only [bset, reduceIte, Nat.reduceEqDiff]; omega)) (by first | omega | (simp only [bset, reduceIte, Nat.reduceEqDiff]; omega)) (by first | omega | (simp only [bset, reduceIte, Nat.reduceEqDiff]; omega)) (by first | omega | (simp only [bset, reduceIte, Nat.reduceEqDiff]; omega))) (fun h542 => ?_) (fun h542 => ?_)
      · exfalso
        omega
      refine zr_aload_n dL_hangs_545 (rfl : 545 + 1 = 546) rfl ?_
      refine zr_iload dL_hangs_546 (rfl : 546 + 2 = 548) rfl ?_
      refine zr_bipush dL_hangs_548 (rfl : 548 + 2 = 550) (by decide) ?_
      refine zr_fnH dL_hangs_550 (rfl : 550 + 3 = 553) l_L_136 (w_cardOf i 6 hi (by decide) ok) rfl rfl (Nat.le_of_ble_eq_true rfl) ?_
      rw [jcd_6]
      refine zr_if_eq (tgt := 567) dL_hangs_553 (by decide) (rfl : 553 + 3 = 556) (by first | exact jb_iff | exact jI_z (by first | omega | (simp only [bset, reduceIte, Nat.reduceEqDiff]; omega)) (by first | omega | (simp only [bset, reduceIte, Nat.reduceEqDiff]; omega))) (fun h553 => ?_) (fun h553 => ?_)
      rotate_left
      · exfalso
        omega
      refine zr_iconst dL_hangs_567 (rfl : 567 + 1 = 568) ?_
      refine zr_goto (tgt := 572) dL_hangs_568 (by decide) ?_
      refine zr_istore (lv' := [_, _, _, _, _, _, _, _, _, _, _, _, _, _, _, _, _]) dL_hangs_572 (rfl : 572 + 2 = 574) (Nat.le_of_ble_eq_true rfl) rfl ?_
      refine zr_iinc (lv' := [_, _, _, _, _, _, _, _, _, _, _, _, _, _, _, _, _]) dL_hangs_574 (rfl : 574 + 3 = 577) (Nat.le_of_ble_eq_true rfl) rfl (by first | exact jI_add _ _ | rfl) rfl ?_
      refine zr_goto (tgt := 289) dL_hangs_577 (by decide) ?_
      refine hk _ _ _ _ _ _ _ _ _ ⟨?_, ?_, ?_, ?_, ?_⟩
      all_goals omega
  · intro nu wh bo co dn o13 o14 o15 τ hI
    obtain ⟨hnu, hwh, hbo, hco, hdn⟩ := hI
    have e6 : ((0 : Int) + ((6 : Nat) : Int)).toNat = 6 := rfl
    rw [e6] at hnu hwh hbo hco hdn
    rw [fa_cards h] at hnu
    rw [fa_bought] at hbo
    rw [h.ex.ca] at hco
    rw [h.ex.td] at hdn
    rw [hnu, hwh, hbo, hco, hdn]
    refine zr_iload dL_hangs_289 (rfl : 289 + 2 = 291) rfl ?_
    refine zr_bipush dL_hangs_291 (rfl : 291 + 2 = 293) (by decide) ?_
    refine zr_icmp_ge (tgt := 580) dL_hangs_293 (by decide) (rfl : 293 + 3 = 296) (jI_le (by first | omega | (simp only [bset, reduceIte, Nat.reduceEqDiff]; omega)) (by first | omega | (simp only [bset, reduceIte, Nat.reduceEqDiff]; omega)) (by first | omega | (simp only [bset, reduceIte, Nat.reduceEqDiff]; omega)) (by first | omega | (simp only [bset, reduceIte, Nat.reduceEqDiff]; omega))) (fun h293 => ?_) (fun h293 => ?_)
    rotate_left
    · exfalso
      omega
    exact k _ _ _ _ _
theorem hg_4 (h : jin B) {o12 o13 o14 o15 : Option Value} (k : ∀ τ', zRun Γ md_L_hangs (d + 9) none 740 [some (.ref 5), some (.int (jI (B 12 0))), some (.int (jI (B 2 0))), some (.int (jI (B 12 0))), some (.int (jI (B 12 0))), some (.int (jI (1))), some (.int (jI (B 13 0))), some (.int (jI (B 2 0))), some (.int (jI (jcnt 6 (fun c => decide (jcs (B 0) c = 15))))), some (.int (jI (jbc (B 11 0)))), some (.int (jI (B 18 0))), some (.int (jI (B 21 0))), some (.int (jI (0))), o13, o14, o15, none] [] (n9, g9, kc, ks) (bk 6 B (cr σ τ' u)) Q) : zRun Γ md_L_hangs (d + 9) none 580 [some (.ref 5), some (.int (jI (B 12 0))), some (.int (jI (B 2 0))), some (.int (jI (B 12 0))), some (.int (jI (B 12 0))), some (.int (jI (1))), some (.int (jI (B 13 0))), some (.int (jI (B 2 0))), some (.int (jI (jcnt 6 (fun c => decide (jcs (B 0) c = 15))))), some (.int (jI (jbc (B 11 0)))), some (.int (jI (B 18 0))), some (.int (jI (B 21 0))), o12, o13, o14, o15, none] [] (n9, g9, kc, ks) (bk 6 B (cr σ τ u)) Q := by
  have ok := h.ok
  have hca := ok.ca
  have hds := ok.ds
  have hsz := jsz_r h.lk
  have hwc := jcnt_nn 6 (fun c => decide (jcs (B 0) c = 15))
  have hbc := jbc_r (B 11 0)
  have hsl := jcnt_nn (B 12 0).toNat (fun k => decide (B 5 k ≠ B 6 k))
  rw [← h.ex.sl] at hsl
  have hco := h.ex.co
  obtain ⟨τ1, hx⟩ := w_next (Γ := Γ) (d := d) (σ := σ) (τ := τ) (u := u) 1 (by decide) ok
  have hnb : (B 12 0 = 90 ∧ jnb B 1 = -1) ∨ (B 12 0 ≠ 90 ∧ 1 ≤ jnb B 1 ∧ jnb B 1 ≤ 90) := by
    unfold jnb
    by_cases q : B 12 0 = 90
    · rw [if_pos (by omega)]
      exact Or.inl ⟨q, rfl⟩
    · rw [if_neg (by omega)]
      have := jball_r ok (by omega)
      exact Or.inr ⟨q, this.1, this.2.1⟩
  by_cases q : B 12 0 = 90
  · refine zr_iload dL_hangs_580 (rfl : 580 + 2 = 582) rfl ?_
    refine zr_if_eq (tgt := 734) dL_hangs_582 (by decide) (rfl : 582 + 3 = 585) (by first | exact jb_iff | exact jI_z (by first | omega | (simp only [bset, reduceIte, Nat.reduceEqDiff]; omega)) (by first | omega | (simp only [bset, reduceIte, Nat.reduceEqDiff]; omega))) (fun h582 => ?_) (fun h582 => ?_)
    · exfalso
      omega
    refine zr_iload_n dL_hangs_585 (rfl : 585 + 1 = 586) rfl ?_
    refine zr_aload_n dL_hangs_586 (rfl : 586 + 1 = 587) rfl ?_
    refine zr_iconst dL_hangs_587 (rfl : 587 + 1 = 588) ?_
    refine zr_fnH dL_hangs_588 (rfl : 588 + 3 = 591) l_L_127 (w_count 0 (by decide) ok) rfl rfl (Nat.le_of_ble_eq_true rfl) ?_
    rw [jct_0]
    refine zr_icmp_ne (tgt := 734) dL_hangs_591 (by decide) (rfl : 591 + 3 = 594) (jI_eq (by first | omega | (simp only [bset, reduceIte, Nat.reduceEqDiff]; omega)) (by first | omega | (simp only [bset, reduceIte, Nat.reduceEqDiff]; omega)) (by first | omega | (simp only [bset, reduceIte, Nat.reduceEqDiff]; omega)) (by first | omega | (simp only [bset, reduceIte, Nat.reduceEqDiff]; omega))) (fun h591 => ?_) (fun h591 => ?_)
    · exfalso
      omega
    refine zr_iload_n dL_hangs_594 (rfl : 594 + 1 = 595) rfl ?_
    refine zr_iload_n dL_hangs_595 (rfl : 595 + 1 = 596) rfl ?_
    refine zr_icmp_ne (tgt := 734) dL_hangs_596 (by decide) (rfl : 596 + 3 = 599) (jI_eq (by first | omega | (simp only [bset, reduceIte, Nat.reduceEqDiff]; omega)) (by first | omega | (simp only [bset, reduceIte, Nat.reduceEqDiff]; omega)) (by first | omega | (simp only [bset, reduceIte, Nat.reduceEqDiff]; omega)) (by first | omega | (simp only [bset, reduceIte, Nat.reduceEqDiff]; omega))) (fun h596 => ?_) (fun h596 => ?_)
    · exfalso
      omega
    refine zr_iload dL_hangs_599 (rfl : 599 + 2 = 601) rfl ?_
    refine zr_iload_n dL_hangs_601 (rfl : 601 + 1 = 602) rfl ?_
    refine zr_icmp_ne (tgt := 734) dL_hangs_602 (by decide) (rfl : 602 + 3 = 605) (jI_eq (by first | omega | (simp only [bset, reduceIte, Nat.reduceEqDiff]; omega)) (by first | omega | (simp only [bset, reduceIte, Nat.reduceEqDiff]; omega)) (by first | omega | (simp only [bset, reduceIte, Nat.reduceEqDiff]; omega)) (by first | omega | (simp only [bset, reduceIte, Nat.reduceEqDiff]; omega))) (fun h602 => ?_) (fun h602 => ?_)
    · exfalso
      omega
    refine zr_iload dL_hangs_605 (rfl : 605 + 2 = 607) rfl ?_
    refine zr_aload_n dL_hangs_607 (rfl : 607 + 1 = 608) rfl ?_
    refine zr_bipush dL_hangs_608 (rfl : 608 + 2 = 610) (by decide) ?_
    refine zr_fnH dL_hangs_610 (rfl : 610 + 3 = 613) l_L_127 (w_count 9 (by decide) ok) rfl rfl (Nat.le_of_ble_eq_true rfl) ?_
    rw [jct_9]
    refine zr_icmp_ne (tgt := 734) dL_hangs_613 (by decide) (rfl : 613 + 3 = 616) (jI_eq (by first | omega | (simp only [bset, reduceIte, Nat.reduceEqDiff]; omega)) (by first | omega | (simp only [bset, reduceIte, Nat.reduceEqDiff]; omega)) (by first | omega | (simp only [bset, reduceIte, Nat.reduceEqDiff]; omega)) (by first | omega | (simp only [bset, reduceIte, Nat.reduceEqDiff]; omega))) (fun h613 => ?_) (fun h613 => ?_)
    · exfalso
      omega
    refine zr_iload dL_hangs_616 (rfl : 616 + 2 = 618) rfl ?_
    refine zr_iload_n dL_hangs_618 (rfl : 618 + 1 = 619) rfl ?_
    refine zr_icmp_ne (tgt := 734) dL_hangs_619 (by decide) (rfl : 619 + 3 = 622) (jI_eq (by first | omega | (simp only [bset, reduceIte, Nat.reduceEqDiff]; omega)) (by first | omega | (simp only [bset, reduceIte, Nat.reduceEqDiff]; omega)) (by first | omega | (simp only [bset, reduceIte, Nat.reduceEqDiff]; omega)) (by first | omega | (simp only [bset, reduceIte, Nat.reduceEqDiff]; omega))) (fun h619 => ?_) (fun h619 => ?_)
    · exfalso
      omega
    refine zr_iload dL_hangs_622 (rfl : 622 + 2 = 624) rfl ?_
    refine zr_aload_n dL_hangs_624 (rfl : 624 + 1 = 625) rfl ?_
    refine zr_iconst dL_hangs_625 (rfl : 625 + 1 = 626) ?_
    refine zr_fnH dL_hangs_626 (rfl : 626 + 3 = 629) l_L_127 (w_count 1 (by decide) ok) rfl rfl (Nat.le_of_ble_eq_true rfl) ?_
    rw [jct_1]
    refine zr_icmp_ne (tgt := 734) dL_hangs_629 (by decide) (rfl : 629 + 3 = 632) (jI_eq (by first | omega | (simp only [bset, reduceIte, Nat.reduceEqDiff]; omega)) (by first | omega | (simp only [bset, reduceIte, Nat.reduceEqDiff]; omega)) (by first | omega | (simp only [bset, reduceIte, Nat.reduceEqDiff]; omega)) (by first | omega | (simp only [bset, reduceIte, Nat.reduceEqDiff]; omega))) (fun h629 => ?_) (fun h629 => ?_)
    · exfalso
      omega
    refine zr_iload dL_hangs_632 (rfl : 632 + 2 = 634) rfl ?_
    refine zr_aload_n dL_hangs_634 (rfl : 634 + 1 = 635) rfl ?_
    refine zr_iconst dL_hangs_635 (rfl : 635 + 1 = 636) ?_
    refine zr_fnH dL_hangs_636 (rfl : 636 + 3 = 639) l_L_127 (w_count 2 (by decide) ok) rfl rfl (Nat.le_of_ble_eq_true rfl) ?_
    rw [jct_2]
    refine zr_icmp_ne (tgt := 734) dL_hangs_639 (by decide) (rfl : 639 + 3 = 642) (jI_eq (by first | omega | (simp only [bset, reduceIte, Nat.reduceEqDiff]; omega)) (by first | omega | (simp only [bset, reduceIte, Nat.reduceEqDiff]; omega)) (by first | omega | (simp only [bset, reduceIte, Nat.reduceEqDiff]; omega)) (by first | omega | (simp only [bset, reduceIte, Nat.reduceEqDiff]; omega))) (fun h639 => ?_) (fun h639 => ?_)
    · exfalso
      omega
    refine zr_iload dL_hangs_642 (rfl : 642 + 2 = 644) rfl ?_
    refine zr_aload_n dL_hangs_644 (rfl : 644 + 1 = 645) rfl ?_
    refine zr_iconst dL_hangs_645 (rfl : 645 + 1 = 646) ?_
    refine zr_fnH dL_hangs_646 (rfl : 646 + 3 = 649) l_L_127 (w_count 5 (by decide) ok) rfl rfl (Nat.le_of_ble_eq_true rfl) ?_
    rw [jct_5]
    refine zr_icmp_ne (tgt := 734) dL_hangs_649 (by decide) (rfl : 649 + 3 = 652) (jI_eqs rfl) (fun h649 => ?_) (fun h649 => ?_)
    · exfalso
      omega
    refine zr_iload dL_hangs_652 (rfl : 652 + 2 = 654) rfl ?_
    refine zr_aload_n dL_hangs_654 (rfl : 654 + 1 = 655) rfl ?_
    refine zr_bipush dL_hangs_655 (rfl : 655 + 2 = 657) (by decide) ?_
    refine zr_fnH dL_hangs_657 (rfl : 657 + 3 = 660) l_L_127 (w_count 11 (by decide) ok) rfl rfl (Nat.le_of_ble_eq_true rfl) ?_
    rw [jct_11]
    refine zr_icmp_ne (tgt := 734) dL_hangs_660 (by decide) (rfl : 660 + 3 = 663) (jI_eqs rfl) (fun h660 => ?_) (fun h660 => ?_)
    · exfalso
      omega
    refine zr_aload_n dL_hangs_663 (rfl : 663 + 1 = 664) rfl ?_
    refine zr_bipush dL_hangs_664 (rfl : 664 + 2 = 666) (by decide) ?_
    refine zr_fnH dL_hangs_666 (rfl : 666 + 3 = 669) l_L_127 (w_count 7 (by decide) ok) rfl rfl (Nat.le_of_ble_eq_true rfl) ?_
    rw [jct_7]
    refine zr_bipush dL_hangs_669 (rfl : 669 + 2 = 671) (by decide) ?_
    refine zr_iload_n dL_hangs_671 (rfl : 671 + 1 = 672) rfl ?_
    refine zr_isub dL_hangs_672 (rfl : 672 + 1 = 673) (by first | exact jI_sub _ _ | rfl) ?_
    refine zr_icmp_ne (tgt := 734) dL_hangs_673 (by decide) (rfl : 673 + 3 = 676) (jI_eq (by first | omega | (simp only [bset, reduceIte, Nat.reduceEqDiff]; omega)) (by first | omega | (simp only [bset, reduceIte, Nat.reduceEqDiff]; omega)) (by first | omega | (simp only [bset, reduceIte, Nat.reduceEqDiff]; omega)) (by first | omega | (simp only [bset, reduceIte, Nat.reduceEqDiff]; omega))) (fun h673 => ?_) (fun h673 => ?_)
    · exfalso
      omega
    refine zr_aload_n dL_hangs_676 (rfl : 676 + 1 = 677) rfl ?_
    refine zr_iconst dL_hangs_677 (rfl : 677 + 1 = 678) ?_
    refine zr_fnH dL_hangs_678 (rfl : 678 + 3 = 681) l_L_127 (w_count 4 (by decide) ok) rfl rfl (Nat.le_of_ble_eq_true rfl) ?_
    rw [jct_4]
    refine zr_aload_n dL_hangs_681 (rfl : 681 + 1 = 682) rfl ?_
    refine zr_iconst dL_hangs_682 (rfl : 682 + 1 = 683) ?_
    refine zr_fnH dL_hangs_683 (rfl : 683 + 3 = 686) l_L_127 (w_count 3 (by decide) ok) rfl rfl (Nat.le_of_ble_eq_true rfl) ?_
    rw [jct_3]
    refine zr_aload_n dL_hangs_686 (rfl : 686 + 1 = 687) rfl ?_
    refine zr_iconst dL_hangs_687 (rfl : 687 + 1 = 688) ?_
    refine zr_fnH dL_hangs_688 (rfl : 688 + 3 = 691) l_L_127 (w_count 5 (by decide) ok) rfl rfl (Nat.le_of_ble_eq_true rfl) ?_
    rw [jct_5]
    refine zr_iadd dL_hangs_691 (rfl : 691 + 1 = 692) (by first | exact jI_add _ _ | rfl) ?_
    refine zr_aload_n dL_hangs_692 (rfl : 692 + 1 = 693) rfl ?_
    refine zr_bipush dL_hangs_693 (rfl : 693 + 2 = 695) (by decide) ?_
    refine zr_fnH dL_hangs_695 (rfl : 695 + 3 = 698) l_L_127 (w_count 6 (by decide) ok) rfl rfl (Nat.le_of_ble_eq_true rfl) ?_
    rw [jct_6]
    refine zr_iadd dL_hangs_698 (rfl : 698 + 1 = 699) (by first | exact jI_add _ _ | rfl) ?_
    refine zr_icmp_ne (tgt := 734) dL_hangs_699 (by decide) (rfl : 699 + 3 = 702) (jI_eqs hco) (fun h699 => ?_) (fun h699 => ?_)
    · exfalso
      omega
    refine zr_iload_n dL_hangs_702 (rfl : 702 + 1 = 703) rfl ?_
    refine zr_bipush dL_hangs_703 (rfl : 703 + 2 = 705) (by decide) ?_
    refine zr_icmp_ne (tgt := 712) dL_hangs_705 (by decide) (rfl : 705 + 3 = 708) (jI_eq (by first | omega | (simp only [bset, reduceIte, Nat.reduceEqDiff]; omega)) (by first | omega | (simp only [bset, reduceIte, Nat.reduceEqDiff]; omega)) (by first | omega | (simp only [bset, reduceIte, Nat.reduceEqDiff]; omega)) (by first | omega | (simp only [bset, reduceIte, Nat.reduceEqDiff]; omega))) (fun h705 => ?_) (fun h705 => ?_)
    · exfalso
      omega
    refine zr_iconst dL_hangs_708 (rfl : 708 + 1 = 709) ?_
    refine zr_goto (tgt := 713) dL_hangs_709 (by decide) ?_
    refine zr_aload_n dL_hangs_713 (rfl : 713 + 1 = 714) rfl ?_
    refine zr_iconst dL_hangs_714 (rfl : 714 + 1 = 715) ?_
    refine zr_fnH dL_hangs_715 (rfl : 715 + 3 = 718) l_L_142 hx rfl rfl (Nat.le_of_ble_eq_true rfl) ?_
    refine zr_iconst dL_hangs_718 (rfl : 718 + 1 = 719) ?_
    refine zr_icmp_ne (tgt := 726) dL_hangs_719 (by decide) (rfl : 719 + 3 = 722) (jI_eq (by first | omega | (simp only [bset, reduceIte, Nat.reduceEqDiff]; omega)) (by first | omega | (simp only [bset, reduceIte, Nat.reduceEqDiff]; omega)) (by first | omega | (simp only [bset, reduceIte, Nat.reduceEqDiff]; omega)) (by first | omega | (simp only [bset, reduceIte, Nat.reduceEqDiff]; omega))) (fun h719 => ?_) (fun h719 => ?_)
    · exfalso
      omega
    refine zr_iconst dL_hangs_722 (rfl : 722 + 1 = 723) ?_
    refine zr_goto (tgt := 727) dL_hangs_723 (by decide) ?_
    refine zr_icmp_ne (tgt := 734) dL_hangs_727 (by decide) (rfl : 727 + 3 = 730) (jI_eq (by first | omega | (simp only [bset, reduceIte, Nat.reduceEqDiff]; omega)) (by first | omega | (simp only [bset, reduceIte, Nat.reduceEqDiff]; omega)) (by first | omega | (simp only [bset, reduceIte, Nat.reduceEqDiff]; omega)) (by first | omega | (simp only [bset, reduceIte, Nat.reduceEqDiff]; omega))) (fun h727 => ?_) (fun h727 => ?_)
    · exfalso
      omega
    refine zr_iconst dL_hangs_730 (rfl : 730 + 1 = 731) ?_
    refine zr_goto (tgt := 735) dL_hangs_731 (by decide) ?_
    refine zr_istore (lv' := [_, _, _, _, _, _, _, _, _, _, _, _, _, _, _, _, _]) dL_hangs_735 (rfl : 735 + 2 = 737) (Nat.le_of_ble_eq_true rfl) rfl ?_
    refine zr_iconst dL_hangs_737 (rfl : 737 + 1 = 738) ?_
    refine zr_istore (lv' := [_, _, _, _, _, _, _, _, _, _, _, _, _, _, _, _, _]) dL_hangs_738 (rfl : 738 + 2 = 740) (Nat.le_of_ble_eq_true rfl) rfl ?_
    exact k _
  · refine zr_iload dL_hangs_580 (rfl : 580 + 2 = 582) rfl ?_
    refine zr_if_eq (tgt := 734) dL_hangs_582 (by decide) (rfl : 582 + 3 = 585) (by first | exact jb_iff | exact jI_z (by first | omega | (simp only [bset, reduceIte, Nat.reduceEqDiff]; omega)) (by first | omega | (simp only [bset, reduceIte, Nat.reduceEqDiff]; omega))) (fun h582 => ?_) (fun h582 => ?_)
    · exfalso
      omega
    refine zr_iload_n dL_hangs_585 (rfl : 585 + 1 = 586) rfl ?_
    refine zr_aload_n dL_hangs_586 (rfl : 586 + 1 = 587) rfl ?_
    refine zr_iconst dL_hangs_587 (rfl : 587 + 1 = 588) ?_
    refine zr_fnH dL_hangs_588 (rfl : 588 + 3 = 591) l_L_127 (w_count 0 (by decide) ok) rfl rfl (Nat.le_of_ble_eq_true rfl) ?_
    rw [jct_0]
    refine zr_icmp_ne (tgt := 734) dL_hangs_591 (by decide) (rfl : 591 + 3 = 594) (jI_eq (by first | omega | (simp only [bset, reduceIte, Nat.reduceEqDiff]; omega)) (by first | omega | (simp only [bset, reduceIte, Nat.reduceEqDiff]; omega)) (by first | omega | (simp only [bset, reduceIte, Nat.reduceEqDiff]; omega)) (by first | omega | (simp only [bset, reduceIte, Nat.reduceEqDiff]; omega))) (fun h591 => ?_) (fun h591 => ?_)
    · exfalso
      omega
    refine zr_iload_n dL_hangs_594 (rfl : 594 + 1 = 595) rfl ?_
    refine zr_iload_n dL_hangs_595 (rfl : 595 + 1 = 596) rfl ?_
    refine zr_icmp_ne (tgt := 734) dL_hangs_596 (by decide) (rfl : 596 + 3 = 599) (jI_eq (by first | omega | (simp only [bset, reduceIte, Nat.reduceEqDiff]; omega)) (by first | omega | (simp only [bset, reduceIte, Nat.reduceEqDiff]; omega)) (by first | omega | (simp only [bset, reduceIte, Nat.reduceEqDiff]; omega)) (by first | omega | (simp only [bset, reduceIte, Nat.reduceEqDiff]; omega))) (fun h596 => ?_) (fun h596 => ?_)
    · exfalso
      omega
    refine zr_iload dL_hangs_599 (rfl : 599 + 2 = 601) rfl ?_
    refine zr_iload_n dL_hangs_601 (rfl : 601 + 1 = 602) rfl ?_
    refine zr_icmp_ne (tgt := 734) dL_hangs_602 (by decide) (rfl : 602 + 3 = 605) (jI_eq (by first | omega | (simp only [bset, reduceIte, Nat.reduceEqDiff]; omega)) (by first | omega | (simp only [bset, reduceIte, Nat.reduceEqDiff]; omega)) (by first | omega | (simp only [bset, reduceIte, Nat.reduceEqDiff]; omega)) (by first | omega | (simp only [bset, reduceIte, Nat.reduceEqDiff]; omega))) (fun h602 => ?_) (fun h602 => ?_)
    · exfalso
      omega
    refine zr_iload dL_hangs_605 (rfl : 605 + 2 = 607) rfl ?_
    refine zr_aload_n dL_hangs_607 (rfl : 607 + 1 = 608) rfl ?_
    refine zr_bipush dL_hangs_608 (rfl : 608 + 2 = 610) (by decide) ?_
    refine zr_fnH dL_hangs_610 (rfl : 610 + 3 = 613) l_L_127 (w_count 9 (by decide) ok) rfl rfl (Nat.le_of_ble_eq_true rfl) ?_
    rw [jct_9]
    refine zr_icmp_ne (tgt := 734) dL_hangs_613 (by decide) (rfl : 613 + 3 = 616) (jI_eq (by first | omega | (simp only [bset, reduceIte, Nat.reduceEqDiff]; omega)) (by first | omega | (simp only [bset, reduceIte, Nat.reduceEqDiff]; omega)) (by first | omega | (simp only [bset, reduceIte, Nat.reduceEqDiff]; omega)) (by first | omega | (simp only [bset, reduceIte, Nat.reduceEqDiff]; omega))) (fun h613 => ?_) (fun h613 => ?_)
    · exfalso
      omega
    refine zr_iload dL_hangs_616 (rfl : 616 + 2 = 618) rfl ?_
    refine zr_iload_n dL_hangs_618 (rfl : 618 + 1 = 619) rfl ?_
    refine zr_icmp_ne (tgt := 734) dL_hangs_619 (by decide) (rfl : 619 + 3 = 622) (jI_eq (by first | omega | (simp only [bset, reduceIte, Nat.reduceEqDiff]; omega)) (by first | omega | (simp only [bset, reduceIte, Nat.reduceEqDiff]; omega)) (by first | omega | (simp only [bset, reduceIte, Nat.reduceEqDiff]; omega)) (by first | omega | (simp only [bset, reduceIte, Nat.reduceEqDiff]; omega))) (fun h619 => ?_) (fun h619 => ?_)
    · exfalso
      omega
    refine zr_iload dL_hangs_622 (rfl : 622 + 2 = 624) rfl ?_
    refine zr_aload_n dL_hangs_624 (rfl : 624 + 1 = 625) rfl ?_
    refine zr_iconst dL_hangs_625 (rfl : 625 + 1 = 626) ?_
    refine zr_fnH dL_hangs_626 (rfl : 626 + 3 = 629) l_L_127 (w_count 1 (by decide) ok) rfl rfl (Nat.le_of_ble_eq_true rfl) ?_
    rw [jct_1]
    refine zr_icmp_ne (tgt := 734) dL_hangs_629 (by decide) (rfl : 629 + 3 = 632) (jI_eq (by first | omega | (simp only [bset, reduceIte, Nat.reduceEqDiff]; omega)) (by first | omega | (simp only [bset, reduceIte, Nat.reduceEqDiff]; omega)) (by first | omega | (simp only [bset, reduceIte, Nat.reduceEqDiff]; omega)) (by first | omega | (simp only [bset, reduceIte, Nat.reduceEqDiff]; omega))) (fun h629 => ?_) (fun h629 => ?_)
    · exfalso
      omega
    refine zr_iload dL_hangs_632 (rfl : 632 + 2 = 634) rfl ?_
    refine zr_aload_n dL_hangs_634 (rfl : 634 + 1 = 635) rfl ?_
    refine zr_iconst dL_hangs_635 (rfl : 635 + 1 = 636) ?_
    refine zr_fnH dL_hangs_636 (rfl : 636 + 3 = 639) l_L_127 (w_count 2 (by decide) ok) rfl rfl (Nat.le_of_ble_eq_true rfl) ?_
    rw [jct_2]
    refine zr_icmp_ne (tgt := 734) dL_hangs_639 (by decide) (rfl : 639 + 3 = 642) (jI_eq (by first | omega | (simp only [bset, reduceIte, Nat.reduceEqDiff]; omega)) (by first | omega | (simp only [bset, reduceIte, Nat.reduceEqDiff]; omega)) (by first | omega | (simp only [bset, reduceIte, Nat.reduceEqDiff]; omega)) (by first | omega | (simp only [bset, reduceIte, Nat.reduceEqDiff]; omega))) (fun h639 => ?_) (fun h639 => ?_)
    · exfalso
      omega
    refine zr_iload dL_hangs_642 (rfl : 642 + 2 = 644) rfl ?_
    refine zr_aload_n dL_hangs_644 (rfl : 644 + 1 = 645) rfl ?_
    refine zr_iconst dL_hangs_645 (rfl : 645 + 1 = 646) ?_
    refine zr_fnH dL_hangs_646 (rfl : 646 + 3 = 649) l_L_127 (w_count 5 (by decide) ok) rfl rfl (Nat.le_of_ble_eq_true rfl) ?_
    rw [jct_5]
    refine zr_icmp_ne (tgt := 734) dL_hangs_649 (by decide) (rfl : 649 + 3 = 652) (jI_eqs rfl) (fun h649 => ?_) (fun h649 => ?_)
    · exfalso
      omega
    refine zr_iload dL_hangs_652 (rfl : 652 + 2 = 654) rfl ?_
    refine zr_aload_n dL_hangs_654 (rfl : 654 + 1 = 655) rfl ?_
    refine zr_bipush dL_hangs_655 (rfl : 655 + 2 = 657) (by decide) ?_
    refine zr_fnH dL_hangs_657 (rfl : 657 + 3 = 660) l_L_127 (w_count 11 (by decide) ok) rfl rfl (Nat.le_of_ble_eq_true rfl) ?_
    rw [jct_11]
    refine zr_icmp_ne (tgt := 734) dL_hangs_660 (by decide) (rfl : 660 + 3 = 663) (jI_eqs rfl) (fun h660 => ?_) (fun h660 => ?_)
    · exfalso
      omega
    refine zr_aload_n dL_hangs_663 (rfl : 663 + 1 = 664) rfl ?_
    refine zr_bipush dL_hangs_664 (rfl : 664 + 2 = 666) (by decide) ?_
    refine zr_fnH dL_hangs_666 (rfl : 666 + 3 = 669) l_L_127 (w_count 7 (by decide) ok) rfl rfl (Nat.le_of_ble_eq_true rfl) ?_
    rw [jct_7]
    refine zr_bipush dL_hangs_669 (rfl : 669 + 2 = 671) (by decide) ?_
    refine zr_iload_n dL_hangs_671 (rfl : 671 + 1 = 672) rfl ?_
    refine zr_isub dL_hangs_672 (rfl : 672 + 1 = 673) (by first | exact jI_sub _ _ | rfl) ?_
    refine zr_icmp_ne (tgt := 734) dL_hangs_673 (by decide) (rfl : 673 + 3 = 676) (jI_eq (by first | omega | (simp only [bset, reduceIte, Nat.reduceEqDiff]; omega)) (by first | omega | (simp only [bset, reduceIte, Nat.reduceEqDiff]; omega)) (by first | omega | (simp only [bset, reduceIte, Nat.reduceEqDiff]; omega)) (by first | omega | (simp only [bset, reduceIte, Nat.reduceEqDiff]; omega))) (fun h673 => ?_) (fun h673 => ?_)
    · exfalso
      omega
    refine zr_aload_n dL_hangs_676 (rfl : 676 + 1 = 677) rfl ?_
    refine zr_iconst dL_hangs_677 (rfl : 677 + 1 = 678) ?_
    refine zr_fnH dL_hangs_678 (rfl : 678 + 3 = 681) l_L_127 (w_count 4 (by decide) ok) rfl rfl (Nat.le_of_ble_eq_true rfl) ?_
    rw [jct_4]
    refine zr_aload_n dL_hangs_681 (rfl : 681 + 1 = 682) rfl ?_
    refine zr_iconst dL_hangs_682 (rfl : 682 + 1 = 683) ?_
    refine zr_fnH dL_hangs_683 (rfl : 683 + 3 = 686) l_L_127 (w_count 3 (by decide) ok) rfl rfl (Nat.le_of_ble_eq_true rfl) ?_
    rw [jct_3]
    refine zr_aload_n dL_hangs_686 (rfl : 686 + 1 = 687) rfl ?_
    refine zr_iconst dL_hangs_687 (rfl : 687 + 1 = 688) ?_
    refine zr_fnH dL_hangs_688 (rfl : 688 + 3 = 691) l_L_127 (w_count 5 (by decide) ok) rfl rfl (Nat.le_of_ble_eq_true rfl) ?_
    rw [jct_5]
    refine zr_iadd dL_hangs_691 (rfl : 691 + 1 = 692) (by first | exact jI_add _ _ | rfl) ?_
    refine zr_aload_n dL_hangs_692 (rfl : 692 + 1 = 693) rfl ?_
    refine zr_bipush dL_hangs_693 (rfl : 693 + 2 = 695) (by decide) ?_
    refine zr_fnH dL_hangs_695 (rfl : 695 + 3 = 698) l_L_127 (w_count 6 (by decide) ok) rfl rfl (Nat.le_of_ble_eq_true rfl) ?_
    rw [jct_6]
    refine zr_iadd dL_hangs_698 (rfl : 698 + 1 = 699) (by first | exact jI_add _ _ | rfl) ?_
    refine zr_icmp_ne (tgt := 734) dL_hangs_699 (by decide) (rfl : 699 + 3 = 702) (jI_eqs hco) (fun h699 => ?_) (fun h699 => ?_)
    · exfalso
      omega
    refine zr_iload_n dL_hangs_702 (rfl : 702 + 1 = 703) rfl ?_
    refine zr_bipush dL_hangs_703 (rfl : 703 + 2 = 705) (by decide) ?_
    refine zr_icmp_ne (tgt := 712) dL_hangs_705 (by decide) (rfl : 705 + 3 = 708) (jI_eq (by first | omega | (simp only [bset, reduceIte, Nat.reduceEqDiff]; omega)) (by first | omega | (simp only [bset, reduceIte, Nat.reduceEqDiff]; omega)) (by first | omega | (simp only [bset, reduceIte, Nat.reduceEqDiff]; omega)) (by first | omega | (simp only [bset, reduceIte, Nat.reduceEqDiff]; omega))) (fun h705 => ?_) (fun h705 => ?_)
    rotate_left
    · exfalso
      omega
    refine zr_iconst dL_hangs_712 (rfl : 712 + 1 = 713) ?_
    refine zr_aload_n dL_hangs_713 (rfl : 713 + 1 = 714) rfl ?_
    refine zr_iconst dL_hangs_714 (rfl : 714 + 1 = 715) ?_
    refine zr_fnH dL_hangs_715 (rfl : 715 + 3 = 718) l_L_142 hx rfl rfl (Nat.le_of_ble_eq_true rfl) ?_
    refine zr_iconst dL_hangs_718 (rfl : 718 + 1 = 719) ?_
    refine zr_icmp_ne (tgt := 726) dL_hangs_719 (by decide) (rfl : 719 + 3 = 722) (jI_eq (by first | omega | (simp only [bset, reduceIte, Nat.reduceEqDiff]; omega)) (by first | omega | (simp only [bset, reduceIte, Nat.reduceEqDiff]; omega)) (by first | omega | (simp only [bset, reduceIte, Nat.reduceEqDiff]; omega)) (by first | omega | (simp only [bset, reduceIte, Nat.reduceEqDiff]; omega))) (fun h719 => ?_) (fun h719 => ?_)
    rotate_left
    · exfalso
      omega
    refine zr_iconst dL_hangs_726 (rfl : 726 + 1 = 727) ?_
    refine zr_icmp_ne (tgt := 734) dL_hangs_727 (by decide) (rfl : 727 + 3 = 730) (jI_eq (by first | omega | (simp only [bset, reduceIte, Nat.reduceEqDiff]; omega)) (by first | omega | (simp only [bset, reduceIte, Nat.reduceEqDiff]; omega)) (by first | omega | (simp only [bset, reduceIte, Nat.reduceEqDiff]; omega)) (by first | omega | (simp only [bset, reduceIte, Nat.reduceEqDiff]; omega))) (fun h727 => ?_) (fun h727 => ?_)
    · exfalso
      omega
    refine zr_iconst dL_hangs_730 (rfl : 730 + 1 = 731) ?_
    refine zr_goto (tgt := 735) dL_hangs_731 (by decide) ?_
    refine zr_istore (lv' := [_, _, _, _, _, _, _, _, _, _, _, _, _, _, _, _, _]) dL_hangs_735 (rfl : 735 + 2 = 737) (Nat.le_of_ble_eq_true rfl) rfl ?_
    refine zr_iconst dL_hangs_737 (rfl : 737 + 1 = 738) ?_
    refine zr_istore (lv' := [_, _, _, _, _, _, _, _, _, _, _, _, _, _, _, _, _]) dL_hangs_738 (rfl : 738 + 2 = 740) (Nat.le_of_ble_eq_true rfl) rfl ?_
    exact k _
theorem hg_5i (h : jin B) {i p z : Int} (hi : 0 ≤ i ∧ i < 4) {o16 : Option Value} (k : ∀ o16, zRun Γ md_L_hangs (d + 9) none 941 [some (.ref 5), some (.int (jI (B 12 0))), some (.int (jI (B 2 0))), some (.int (jI (B 12 0))), some (.int (jI (B 12 0))), some (.int (jI (1))), some (.int (jI (B 13 0))), some (.int (jI (B 2 0))), some (.int (jI (jcnt 6 (fun c => decide (jcs (B 0) c = 15))))), some (.int (jI (jbc (B 11 0)))), some (.int (jI (B 18 0))), some (.int (jI (B 21 0))), some (.int (jI (i))), some (.int (jI (B 9 i))), some (.int (jI (z))), some (.int (jI (p))), o16] [] (n9, g9, kc, ks) (bk 6 B (cr σ τ u)) Q) : zRun Γ md_L_hangs (d + 9) none 890 [some (.ref 5), some (.int (jI (B 12 0))), some (.int (jI (B 2 0))), some (.int (jI (B 12 0))), some (.int (jI (B 12 0))), some (.int (jI (1))), some (.int (jI (B 13 0))), some (.int (jI (B 2 0))), some (.int (jI (jcnt 6 (fun c => decide (jcs (B 0) c = 15))))), some (.int (jI (jbc (B 11 0)))), some (.int (jI (B 18 0))), some (.int (jI (B 21 0))), some (.int (jI (i))), some (.int (jI (B 9 i))), some (.int (jI (z))), some (.int (jI (p))), o16] [] (n9, g9, kc, ks) (bk 6 B (cr σ τ u)) Q := by
  have ok := h.ok
  have hW := ok.W i
  refine zr_iconst dL_hangs_890 (rfl : 890 + 1 = 891) ?_
  refine zr_istore (lv' := [_, _, _, _, _, _, _, _, _, _, _, _, _, _, _, _, _]) dL_hangs_891 (rfl : 891 + 2 = 893) (Nat.le_of_ble_eq_true rfl) rfl ?_
  refine zfor1 0 6 (fun _ _ => True) (fun c (_ : Unit) => [some (.ref 5), some (.int (jI (B 12 0))), some (.int (jI (B 2 0))), some (.int (jI (B 12 0))), some (.int (jI (B 12 0))), some (.int (jI (1))), some (.int (jI (B 13 0))), some (.int (jI (B 2 0))), some (.int (jI (jcnt 6 (fun c => decide (jcs (B 0) c = 15))))), some (.int (jI (jbc (B 11 0)))), some (.int (jI (B 18 0))), some (.int (jI (B 21 0))), some (.int (jI (i))), some (.int (jI (B 9 i))), some (.int (jI (z))), some (.int (jI (p))), some (.int (jI (c)))]) (fun _ _ => (bk 6 B (cr σ τ u))) () trivial ?_ ?_
  · intro c _ c0 c6 _ hk
    have hc : 0 ≤ c ∧ c < 6 := by omega
    have g1 := jgw_r (B 9) c
    have e1 : (jI (jgw (B 9) c) >>> (jI i &&& 31)) &&& jI 1 = jI (jbit (B 9 i) c) := by
      rw [jbit_sh (by omega) (by omega), jgw_bit hi]
    have e2 : (jI (B 9 i) >>> (jI c &&& 31)) &&& jI 1 = jI (jbit (B 9 i) c) := jbit_sh hW hc
    have hb := jbit_r (B 9 i) c
    refine zr_iload dL_hangs_893 (rfl : 893 + 2 = 895) rfl ?_
    refine zr_bipush dL_hangs_895 (rfl : 895 + 2 = 897) (by decide) ?_
    refine zr_icmp_ge (tgt := 941) dL_hangs_897 (by decide) (rfl : 897 + 3 = 900) (jI_le (by first | omega | (simp only [bset, reduceIte, Nat.reduceEqDiff]; omega)) (by first | omega | (simp only [bset, reduceIte, Nat.reduceEqDiff]; omega)) (by first | omega | (simp only [bset, reduceIte, Nat.reduceEqDiff]; omega)) (by first | omega | (simp only [bset, reduceIte, Nat.reduceEqDiff]; omega))) (fun h897 => ?_) (fun h897 => ?_)
    · exfalso
      omega
    refine zr_iload dL_hangs_900 (rfl : 900 + 2 = 902) rfl ?_
    refine zr_if_eq (tgt := 932) dL_hangs_902 (by decide) (rfl : 902 + 3 = 905) (by first | exact jb_iff | exact jI_z (by first | omega | (simp only [bset, reduceIte, Nat.reduceEqDiff]; omega)) (by first | omega | (simp only [bset, reduceIte, Nat.reduceEqDiff]; omega))) (fun h902 => ?_) (fun h902 => ?_)
    · exfalso
      omega
    refine zr_aload_n dL_hangs_905 (rfl : 905 + 1 = 906) rfl ?_
    refine zr_iload dL_hangs_906 (rfl : 906 + 2 = 908) rfl ?_
    refine zr_bipush dL_hangs_908 (rfl : 908 + 2 = 910) (by decide) ?_
    refine zr_fnH dL_hangs_910 (rfl : 910 + 3 = 913) l_L_136 (w_cardOf c 6 hc (by decide) ok) rfl rfl (Nat.le_of_ble_eq_true rfl) ?_
    rw [jcd_6]
    refine zr_iload dL_hangs_913 (rfl : 913 + 2 = 915) rfl ?_
    refine zr_ishr dL_hangs_915 (rfl : 915 + 1 = 916) rfl ?_
    refine zr_iconst dL_hangs_916 (rfl : 916 + 1 = 917) ?_
    refine zr_iand dL_hangs_917 (rfl : 917 + 1 = 918) rfl ?_
    rw [e1]
    refine zr_iload dL_hangs_918 (rfl : 918 + 2 = 920) rfl ?_
    refine zr_iload dL_hangs_920 (rfl : 920 + 2 = 922) rfl ?_
    refine zr_ishr dL_hangs_922 (rfl : 922 + 1 = 923) rfl ?_
    refine zr_iconst dL_hangs_923 (rfl : 923 + 1 = 924) ?_
    refine zr_iand dL_hangs_924 (rfl : 924 + 1 = 925) rfl ?_
    rw [e2]
    refine zr_icmp_ne (tgt := 932) dL_hangs_925 (by decide) (rfl : 925 + 3 = 928) (jI_eq (by first | omega | (simp only [bset, reduceIte, Nat.reduceEqDiff]; omega)) (by first | omega | (simp only [bset, reduceIte, Nat.reduceEqDiff]; omega)) (by first | omega | (simp only [bset, reduceIte, Nat.reduceEqDiff]; omega)) (by first | omega | (simp only [bset, reduceIte, Nat.reduceEqDiff]; omega))) (fun h925 => ?_) (fun h925 => ?_)
    · exfalso
      omega
    refine zr_iconst dL_hangs_928 (rfl : 928 + 1 = 929) ?_
    refine zr_goto (tgt := 933) dL_hangs_929 (by decide) ?_
    refine zr_istore (lv' := [_, _, _, _, _, _, _, _, _, _, _, _, _, _, _, _, _]) dL_hangs_933 (rfl : 933 + 2 = 935) (Nat.le_of_ble_eq_true rfl) rfl ?_
    refine zr_iinc (lv' := [_, _, _, _, _, _, _, _, _, _, _, _, _, _, _, _, _]) dL_hangs_935 (rfl : 935 + 3 = 938) (Nat.le_of_ble_eq_true rfl) rfl (by first | exact jI_add _ _ | rfl) rfl ?_
    refine zr_goto (tgt := 893) dL_hangs_938 (by decide) ?_
    exact hk () trivial
  · intro _ _
    refine zr_iload dL_hangs_893 (rfl : 893 + 2 = 895) rfl ?_
    refine zr_bipush dL_hangs_895 (rfl : 895 + 2 = 897) (by decide) ?_
    refine zr_icmp_ge (tgt := 941) dL_hangs_897 (by decide) (rfl : 897 + 3 = 900) (jI_le (by first | omega | (simp only [bset, reduceIte, Nat.reduceEqDiff]; omega)) (by first | omega | (simp only [bset, reduceIte, Nat.reduceEqDiff]; omega)) (by first | omega | (simp only [bset, reduceIte, Nat.reduceEqDiff]; omega)) (by first | omega | (simp only [bset, reduceIte, Nat.reduceEqDiff]; omega))) (fun h897 => ?_) (fun h897 => ?_)
    rotate_left
    · exfalso
      omega
    exact k _
theorem hg_5 (h : jin B) {o13 o14 o15 : Option Value} (k : ∀ o12 o13 o14 o15 o16, zRun Γ md_L_hangs (d + 9) none 947 [some (.ref 5), some (.int (jI (B 12 0))), some (.int (jI (B 2 0))), some (.int (jI (B 12 0))), some (.int (jI (B 12 0))), some (.int (jI (1))), some (.int (jI (B 13 0))), some (.int (jI (B 2 0))), some (.int (jI (jcnt 6 (fun c => decide (jcs (B 0) c = 15))))), some (.int (jI (jbc (B 11 0)))), some (.int (jI (B 18 0))), some (.int (jI (B 21 0))), o12, o13, o14, o15, o16] [] (n9, g9, kc, ks) (bk 6 B (cr σ τ u)) Q) : zRun Γ md_L_hangs (d + 9) none 740 [some (.ref 5), some (.int (jI (B 12 0))), some (.int (jI (B 2 0))), some (.int (jI (B 12 0))), some (.int (jI (B 12 0))), some (.int (jI (1))), some (.int (jI (B 13 0))), some (.int (jI (B 2 0))), some (.int (jI (jcnt 6 (fun c => decide (jcs (B 0) c = 15))))), some (.int (jI (jbc (B 11 0)))), some (.int (jI (B 18 0))), some (.int (jI (B 21 0))), some (.int (jI (0))), o13, o14, o15, none] [] (n9, g9, kc, ks) (bk 6 B (cr σ τ u)) Q := by
  have ok := h.ok
  have hca := ok.ca
  have hpo := ok.po2
  refine zfor4 0 4 (fun _ _ _ _ _ => True) (fun i o13 o14 o15 o16 => [some (.ref 5), some (.int (jI (B 12 0))), some (.int (jI (B 2 0))), some (.int (jI (B 12 0))), some (.int (jI (B 12 0))), some (.int (jI (1))), some (.int (jI (B 13 0))), some (.int (jI (B 2 0))), some (.int (jI (jcnt 6 (fun c => decide (jcs (B 0) c = 15))))), some (.int (jI (jbc (B 11 0)))), some (.int (jI (B 18 0))), some (.int (jI (B 21 0))), some (.int (jI (i))), o13, o14, o15, o16]) (fun _ _ _ _ _ => (bk 6 B (cr σ τ u))) o13 o14 o15 none trivial ?_ ?_
  · intro i o13 o14 o15 o16 i0 i4 _ hk
    have hi : 0 ≤ i ∧ i < 4 := by omega
    have hW := ok.W i
    have hbc := jbc_r (B 9 i)
    have hz := jpz_r ok.po2 i
    obtain ⟨f1, f2, f3, f4⟩ := fa_game h hi
    have hu := jhu_r i
    have k5 : ∀ (o13 o14 o15 o16 : Option Value), zRun Γ md_L_hangs (d + 9) none 941 [some (.ref 5), some (.int (jI (B 12 0))), some (.int (jI (B 2 0))), some (.int (jI (B 12 0))), some (.int (jI (B 12 0))), some (.int (jI (1))), some (.int (jI (B 13 0))), some (.int (jI (B 2 0))), some (.int (jI (jcnt 6 (fun c => decide (jcs (B 0) c = 15))))), some (.int (jI (jbc (B 11 0)))), some (.int (jI (B 18 0))), some (.int (jI (B 21 0))), some (.int (jI (i))), o13, o14, o15, o16] [] (n9, g9, kc, ks) (bk 6 B (cr σ τ u)) Q := by
      intro o13 o14 o15 o16
      refine zr_iinc (lv' := [_, _, _, _, _, _, _, _, _, _, _, _, _, _, _, _, _]) dL_hangs_941 (rfl : 941 + 3 = 944) (Nat.le_of_ble_eq_true rfl) rfl (by first | exact jI_add _ _ | rfl) rfl ?_
      refine zr_goto (tgt := 740) dL_hangs_944 (by decide) ?_
      exact hk _ _ _ _ trivial
    have fin : ∀ p : Int, p = jhu i → zRun Γ md_L_hangs (d + 9) none 793 [some (.ref 5), some (.int (jI (B 12 0))), some (.int (jI (B 2 0))), some (.int (jI (B 12 0))), some (.int (jI (B 12 0))), some (.int (jI (1))), some (.int (jI (B 13 0))), some (.int (jI (B 2 0))), some (.int (jI (jcnt 6 (fun c => decide (jcs (B 0) c = 15))))), some (.int (jI (jbc (B 11 0)))), some (.int (jI (B 18 0))), some (.int (jI (B 21 0))), some (.int (jI (i))), some (.int (jI (B 9 i))), some (.int (jI (jpz B i))), o15, o16] [.int (jI p)] (n9, g9, kc, ks) (bk 6 B (cr σ τ u)) Q := by
      intro p hp
      have m1 : 0 ≤ B 16 0 * p := by rw [hp]; exact Int.mul_nonneg hpo.1 hu.1
      have m2 : B 16 0 * p ≤ 594 * 40 := by rw [hp]; exact Int.mul_le_mul hpo.2 hu.2 hu.1 (by decide)
      have m3 : 0 ≤ B 16 0 * p / 100 := Int.ediv_nonneg m1 (by decide)
      have m4 : B 16 0 * p / 100 ≤ B 16 0 * p := Int.ediv_le_self _ m1
      by_cases q : B 9 i = 0
      · have hpz : jpz B i = 0 := if_pos (f4.mpr q)
        refine zr_istore (lv' := [_, _, _, _, _, _, _, _, _, _, _, _, _, _, _, _, _]) dL_hangs_793 (rfl : 793 + 2 = 795) (Nat.le_of_ble_eq_true rfl) rfl ?_
        refine zr_iload dL_hangs_795 (rfl : 795 + 2 = 797) rfl ?_
        refine zr_if_ne (tgt := 804) dL_hangs_797 (by decide) (rfl : 797 + 3 = 800) (by first | exact jb_iff | exact jI_z (by first | omega | (simp only [bset, reduceIte, Nat.reduceEqDiff]; omega)) (by first | omega | (simp only [bset, reduceIte, Nat.reduceEqDiff]; omega))) (fun h797 => ?_) (fun h797 => ?_)
        · exfalso
          omega
        refine zr_iconst dL_hangs_800 (rfl : 800 + 1 = 801) ?_
        refine zr_goto (tgt := 805) dL_hangs_801 (by decide) ?_
        refine zr_aload_n dL_hangs_805 (rfl : 805 + 1 = 806) rfl ?_
        refine zr_iload dL_hangs_806 (rfl : 806 + 2 = 808) rfl ?_
        refine zr_iconst dL_hangs_808 (rfl : 808 + 1 = 809) ?_
        refine zr_fnH dL_hangs_809 (rfl : 809 + 3 = 812) l_L_144 (w_gameOf i 1 hi (by decide) ok) rfl rfl (Nat.le_of_ble_eq_true rfl) ?_
        rw [jga_1]
        refine zr_if_ne (tgt := 819) dL_hangs_812 (by decide) (rfl : 812 + 3 = 815) (by first | exact jb_iff | exact jI_z (by first | omega | (simp only [bset, reduceIte, Nat.reduceEqDiff]; omega)) (by first | omega | (simp only [bset, reduceIte, Nat.reduceEqDiff]; omega))) (fun h812 => ?_) (fun h812 => ?_)
        · exfalso
          omega
        refine zr_iconst dL_hangs_815 (rfl : 815 + 1 = 816) ?_
        refine zr_goto (tgt := 820) dL_hangs_816 (by decide) ?_
        refine zr_icmp_ne (tgt := 887) dL_hangs_820 (by decide) (rfl : 820 + 3 = 823) (jI_eq (by first | omega | (simp only [bset, reduceIte, Nat.reduceEqDiff]; omega)) (by first | omega | (simp only [bset, reduceIte, Nat.reduceEqDiff]; omega)) (by first | omega | (simp only [bset, reduceIte, Nat.reduceEqDiff]; omega)) (by first | omega | (simp only [bset, reduceIte, Nat.reduceEqDiff]; omega))) (fun h820 => ?_) (fun h820 => ?_)
        · exfalso
          omega
        refine zr_aload_n dL_hangs_823 (rfl : 823 + 1 = 824) rfl ?_
        refine zr_iload dL_hangs_824 (rfl : 824 + 2 = 826) rfl ?_
        refine zr_iconst dL_hangs_826 (rfl : 826 + 1 = 827) ?_
        refine zr_fnH dL_hangs_827 (rfl : 827 + 3 = 830) l_L_144 (w_gameOf i 1 hi (by decide) ok) rfl rfl (Nat.le_of_ble_eq_true rfl) ?_
        rw [jga_1]
        refine zr_iload_n dL_hangs_830 (rfl : 830 + 1 = 831) rfl ?_
        refine zr_icmp_gt (tgt := 887) dL_hangs_831 (by decide) (rfl : 831 + 3 = 834) (jI_lt (by first | omega | (simp only [bset, reduceIte, Nat.reduceEqDiff]; omega)) (by first | omega | (simp only [bset, reduceIte, Nat.reduceEqDiff]; omega)) (by first | omega | (simp only [bset, reduceIte, Nat.reduceEqDiff]; omega)) (by first | omega | (simp only [bset, reduceIte, Nat.reduceEqDiff]; omega))) (fun h831 => ?_) (fun h831 => ?_)
        · exfalso
          omega
        refine zr_iload dL_hangs_834 (rfl : 834 + 2 = 836) rfl ?_
        refine zr_iload dL_hangs_836 (rfl : 836 + 2 = 838) rfl ?_
        refine zr_if_ne (tgt := 845) dL_hangs_838 (by decide) (rfl : 838 + 3 = 841) (by first | exact jb_iff | exact jI_z (by first | omega | (simp only [bset, reduceIte, Nat.reduceEqDiff]; omega)) (by first | omega | (simp only [bset, reduceIte, Nat.reduceEqDiff]; omega))) (fun h838 => ?_) (fun h838 => ?_)
        · exfalso
          omega
        refine zr_iconst dL_hangs_841 (rfl : 841 + 1 = 842) ?_
        refine zr_goto (tgt := 862) dL_hangs_842 (by decide) ?_
        refine zr_icmp_ne (tgt := 887) dL_hangs_862 (by decide) (rfl : 862 + 3 = 865) (jI_eq (by first | omega | (simp only [bset, reduceIte, Nat.reduceEqDiff]; omega)) (by first | omega | (simp only [bset, reduceIte, Nat.reduceEqDiff]; omega)) (by first | omega | (simp only [bset, reduceIte, Nat.reduceEqDiff]; omega)) (by first | omega | (simp only [bset, reduceIte, Nat.reduceEqDiff]; omega))) (fun h862 => ?_) (fun h862 => ?_)
        · exfalso
          omega
        refine zr_aload_n dL_hangs_865 (rfl : 865 + 1 = 866) rfl ?_
        refine zr_iload dL_hangs_866 (rfl : 866 + 2 = 868) rfl ?_
        refine zr_iconst dL_hangs_868 (rfl : 868 + 1 = 869) ?_
        refine zr_fnH dL_hangs_869 (rfl : 869 + 3 = 872) l_L_144 (w_gameOf i 2 hi (by decide) ok) rfl rfl (Nat.le_of_ble_eq_true rfl) ?_
        rw [jga_2]
        refine zr_iload dL_hangs_872 (rfl : 872 + 2 = 874) rfl ?_
        refine zr_iload dL_hangs_874 (rfl : 874 + 2 = 876) rfl ?_
        refine zr_fnS dL_hangs_876 (rfl : 876 + 3 = 879) l_L_146 (s_bits (B 9 i) hW) rfl rfl (Nat.le_of_ble_eq_true rfl) ?_
        refine zr_imul dL_hangs_879 (rfl : 879 + 1 = 880) (by first | exact jI_mul _ _ | rfl) ?_
        refine zr_icmp_ne (tgt := 887) dL_hangs_880 (by decide) (rfl : 880 + 3 = 883) (jI_eqs rfl) (fun h880 => ?_) (fun h880 => ?_)
        · exfalso
          omega
        refine zr_iconst dL_hangs_883 (rfl : 883 + 1 = 884) ?_
        refine zr_goto (tgt := 888) dL_hangs_884 (by decide) ?_
        refine zr_istore (lv' := [_, _, _, _, _, _, _, _, _, _, _, _, _, _, _, _, _]) dL_hangs_888 (rfl : 888 + 2 = 890) (Nat.le_of_ble_eq_true rfl) rfl ?_
        exact hg_5i h hi (fun o16 => k5 _ _ _ _)
      · have hpz : jpz B i = B 16 0 * p / 100 / jbc (B 9 i) := by
          rw [hp]
          exact if_neg (fun e => q (f4.mp e))
        have hbp : jbc (B 9 i) ≠ 0 := fun e => q (f4.mp e)
        refine zr_istore (lv' := [_, _, _, _, _, _, _, _, _, _, _, _, _, _, _, _, _]) dL_hangs_793 (rfl : 793 + 2 = 795) (Nat.le_of_ble_eq_true rfl) rfl ?_
        refine zr_iload dL_hangs_795 (rfl : 795 + 2 = 797) rfl ?_
        refine zr_if_ne (tgt := 804) dL_hangs_797 (by decide) (rfl : 797 + 3 = 800) (by first | exact jb_iff | exact jI_z (by first | omega | (simp only [bset, reduceIte, Nat.reduceEqDiff]; omega)) (by first | omega | (simp only [bset, reduceIte, Nat.reduceEqDiff]; omega))) (fun h797 => ?_) (fun h797 => ?_)
        rotate_left
        · exfalso
          omega
        refine zr_iconst dL_hangs_804 (rfl : 804 + 1 = 805) ?_
        refine zr_aload_n dL_hangs_805 (rfl : 805 + 1 = 806) rfl ?_
        refine zr_iload dL_hangs_806 (rfl : 806 + 2 = 808) rfl ?_
        refine zr_iconst dL_hangs_808 (rfl : 808 + 1 = 809) ?_
        refine zr_fnH dL_hangs_809 (rfl : 809 + 3 = 812) l_L_144 (w_gameOf i 1 hi (by decide) ok) rfl rfl (Nat.le_of_ble_eq_true rfl) ?_
        rw [jga_1]
        refine zr_if_ne (tgt := 819) dL_hangs_812 (by decide) (rfl : 812 + 3 = 815) (by first | exact jb_iff | exact jI_z (by first | omega | (simp only [bset, reduceIte, Nat.reduceEqDiff]; omega)) (by first | omega | (simp only [bset, reduceIte, Nat.reduceEqDiff]; omega))) (fun h812 => ?_) (fun h812 => ?_)
        rotate_left
        · exfalso
          omega
        refine zr_iconst dL_hangs_819 (rfl : 819 + 1 = 820) ?_
        refine zr_icmp_ne (tgt := 887) dL_hangs_820 (by decide) (rfl : 820 + 3 = 823) (jI_eq (by first | omega | (simp only [bset, reduceIte, Nat.reduceEqDiff]; omega)) (by first | omega | (simp only [bset, reduceIte, Nat.reduceEqDiff]; omega)) (by first | omega | (simp only [bset, reduceIte, Nat.reduceEqDiff]; omega)) (by first | omega | (simp only [bset, reduceIte, Nat.reduceEqDiff]; omega))) (fun h820 => ?_) (fun h820 => ?_)
        · exfalso
          omega
        refine zr_aload_n dL_hangs_823 (rfl : 823 + 1 = 824) rfl ?_
        refine zr_iload dL_hangs_824 (rfl : 824 + 2 = 826) rfl ?_
        refine zr_iconst dL_hangs_826 (rfl : 826 + 1 = 827) ?_
        refine zr_fnH dL_hangs_827 (rfl : 827 + 3 = 830) l_L_144 (w_gameOf i 1 hi (by decide) ok) rfl rfl (Nat.le_of_ble_eq_true rfl) ?_
        rw [jga_1]
        refine zr_iload_n dL_hangs_830 (rfl : 830 + 1 = 831) rfl ?_
        refine zr_icmp_gt (tgt := 887) dL_hangs_831 (by decide) (rfl : 831 + 3 = 834) (jI_lt (by first | omega | (simp only [bset, reduceIte, Nat.reduceEqDiff]; omega)) (by first | omega | (simp only [bset, reduceIte, Nat.reduceEqDiff]; omega)) (by first | omega | (simp only [bset, reduceIte, Nat.reduceEqDiff]; omega)) (by first | omega | (simp only [bset, reduceIte, Nat.reduceEqDiff]; omega))) (fun h831 => ?_) (fun h831 => ?_)
        · exfalso
          omega
        refine zr_iload dL_hangs_834 (rfl : 834 + 2 = 836) rfl ?_
        refine zr_iload dL_hangs_836 (rfl : 836 + 2 = 838) rfl ?_
        refine zr_if_ne (tgt := 845) dL_hangs_838 (by decide) (rfl : 838 + 3 = 841) (by first | exact jb_iff | exact jI_z (by first | omega | (simp only [bset, reduceIte, Nat.reduceEqDiff]; omega)) (by first | omega | (simp only [bset, reduceIte, Nat.reduceEqDiff]; omega))) (fun h838 => ?_) (fun h838 => ?_)
        rotate_left
        · exfalso
          omega
        refine zr_aload_n dL_hangs_845 (rfl : 845 + 1 = 846) rfl ?_
        refine zr_iconst dL_hangs_846 (rfl : 846 + 1 = 847) ?_
        refine zr_fnH dL_hangs_847 (rfl : 847 + 3 = 850) l_L_127 (w_count 3 (by decide) ok) rfl rfl (Nat.le_of_ble_eq_true rfl) ?_
        rw [jct_3]
        refine zr_iload dL_hangs_850 (rfl : 850 + 2 = 852) rfl ?_
        refine zr_imul dL_hangs_852 (rfl : 852 + 1 = 853) (by first | exact jI_mul _ _ | rfl) ?_
        refine zr_bipush dL_hangs_853 (rfl : 853 + 2 = 855) (by decide) ?_
        refine zr_idiv dL_hangs_855 (rfl : 855 + 1 = 856) (fun q => absurd ((jI_z (by first | omega | (simp only [bset, reduceIte, Nat.reduceEqDiff]; omega)) (by first | omega | (simp only [bset, reduceIte, Nat.reduceEqDiff]; omega))).mp q) (by first | omega | (simp only [bset, reduceIte, Nat.reduceEqDiff]; omega))) (jI_div (by first | omega | (simp only [bset, reduceIte, Nat.reduceEqDiff]; omega)) (by first | omega | (simp only [bset, reduceIte, Nat.reduceEqDiff]; omega)) (by first | omega | (simp only [bset, reduceIte, Nat.reduceEqDiff]; omega)) (by first | omega | (simp only [bset, reduceIte, Nat.reduceEqDiff]; omega))) ?_
        refine zr_iload dL_hangs_856 (rfl : 856 + 2 = 858) rfl ?_
        refine zr_fnS dL_hangs_858 (rfl : 858 + 3 = 861) l_L_146 (s_bits (B 9 i) hW) rfl rfl (Nat.le_of_ble_eq_true rfl) ?_
        refine zr_idiv dL_hangs_861 (rfl : 861 + 1 = 862) (fun q => absurd ((jI_z (by first | omega | (simp only [bset, reduceIte, Nat.reduceEqDiff]; omega)) (by first | omega | (simp only [bset, reduceIte, Nat.reduceEqDiff]; omega))).mp q) (by first | omega | (simp only [bset, reduceIte, Nat.reduceEqDiff]; omega))) (jI_div (by first | omega | (simp only [bset, reduceIte, Nat.reduceEqDiff]; omega)) (by first | omega | (simp only [bset, reduceIte, Nat.reduceEqDiff]; omega)) (by first | omega | (simp only [bset, reduceIte, Nat.reduceEqDiff]; omega)) (by first | omega | (simp only [bset, reduceIte, Nat.reduceEqDiff]; omega))) ?_
        refine zr_icmp_ne (tgt := 887) dL_hangs_862 (by decide) (rfl : 862 + 3 = 865) (jI_eq (by first | omega | (simp only [bset, reduceIte, Nat.reduceEqDiff]; omega)) (by first | omega | (simp only [bset, reduceIte, Nat.reduceEqDiff]; omega)) (by first | omega | (simp only [bset, reduceIte, Nat.reduceEqDiff]; omega)) (by first | omega | (simp only [bset, reduceIte, Nat.reduceEqDiff]; omega))) (fun h862 => ?_) (fun h862 => ?_)
        · exfalso
          omega
        refine zr_aload_n dL_hangs_865 (rfl : 865 + 1 = 866) rfl ?_
        refine zr_iload dL_hangs_866 (rfl : 866 + 2 = 868) rfl ?_
        refine zr_iconst dL_hangs_868 (rfl : 868 + 1 = 869) ?_
        refine zr_fnH dL_hangs_869 (rfl : 869 + 3 = 872) l_L_144 (w_gameOf i 2 hi (by decide) ok) rfl rfl (Nat.le_of_ble_eq_true rfl) ?_
        rw [jga_2]
        refine zr_iload dL_hangs_872 (rfl : 872 + 2 = 874) rfl ?_
        refine zr_iload dL_hangs_874 (rfl : 874 + 2 = 876) rfl ?_
        refine zr_fnS dL_hangs_876 (rfl : 876 + 3 = 879) l_L_146 (s_bits (B 9 i) hW) rfl rfl (Nat.le_of_ble_eq_true rfl) ?_
        refine zr_imul dL_hangs_879 (rfl : 879 + 1 = 880) (by first | exact jI_mul _ _ | rfl) ?_
        refine zr_icmp_ne (tgt := 887) dL_hangs_880 (by decide) (rfl : 880 + 3 = 883) (jI_eqs rfl) (fun h880 => ?_) (fun h880 => ?_)
        · exfalso
          omega
        refine zr_iconst dL_hangs_883 (rfl : 883 + 1 = 884) ?_
        refine zr_goto (tgt := 888) dL_hangs_884 (by decide) ?_
        refine zr_istore (lv' := [_, _, _, _, _, _, _, _, _, _, _, _, _, _, _, _, _]) dL_hangs_888 (rfl : 888 + 2 = 890) (Nat.le_of_ble_eq_true rfl) rfl ?_
        exact hg_5i h hi (fun o16 => k5 _ _ _ _)
    refine zr_iload dL_hangs_740 (rfl : 740 + 2 = 742) rfl ?_
    refine zr_iconst dL_hangs_742 (rfl : 742 + 1 = 743) ?_
    refine zr_icmp_ge (tgt := 947) dL_hangs_743 (by decide) (rfl : 743 + 3 = 746) (jI_le (by first | omega | (simp only [bset, reduceIte, Nat.reduceEqDiff]; omega)) (by first | omega | (simp only [bset, reduceIte, Nat.reduceEqDiff]; omega)) (by first | omega | (simp only [bset, reduceIte, Nat.reduceEqDiff]; omega)) (by first | omega | (simp only [bset, reduceIte, Nat.reduceEqDiff]; omega))) (fun h743 => ?_) (fun h743 => ?_)
    · exfalso
      omega
    refine zr_iload dL_hangs_746 (rfl : 746 + 2 = 748) rfl ?_
    refine zr_if_eq (tgt := 947) dL_hangs_748 (by decide) (rfl : 748 + 3 = 751) (by first | exact jb_iff | exact jI_z (by first | omega | (simp only [bset, reduceIte, Nat.reduceEqDiff]; omega)) (by first | omega | (simp only [bset, reduceIte, Nat.reduceEqDiff]; omega))) (fun h748 => ?_) (fun h748 => ?_)
    · exfalso
      omega
    refine zr_aload_n dL_hangs_751 (rfl : 751 + 1 = 752) rfl ?_
    refine zr_iload dL_hangs_752 (rfl : 752 + 2 = 754) rfl ?_
    refine zr_iconst dL_hangs_754 (rfl : 754 + 1 = 755) ?_
    refine zr_fnH dL_hangs_755 (rfl : 755 + 3 = 758) l_L_144 (w_gameOf i 0 hi (by decide) ok) rfl rfl (Nat.le_of_ble_eq_true rfl) ?_
    rw [jga_0]
    refine zr_istore (lv' := [_, _, _, _, _, _, _, _, _, _, _, _, _, _, _, _, _]) dL_hangs_758 (rfl : 758 + 2 = 760) (Nat.le_of_ble_eq_true rfl) rfl ?_
    refine zr_aload_n dL_hangs_760 (rfl : 760 + 1 = 761) rfl ?_
    refine zr_iload dL_hangs_761 (rfl : 761 + 2 = 763) rfl ?_
    refine zr_iconst dL_hangs_763 (rfl : 763 + 1 = 764) ?_
    refine zr_fnH dL_hangs_764 (rfl : 764 + 3 = 767) l_L_144 (w_gameOf i 3 hi (by decide) ok) rfl rfl (Nat.le_of_ble_eq_true rfl) ?_
    rw [jga_3]
    refine zr_istore (lv' := [_, _, _, _, _, _, _, _, _, _, _, _, _, _, _, _, _]) dL_hangs_767 (rfl : 767 + 2 = 769) (Nat.le_of_ble_eq_true rfl) rfl ?_
    refine zr_iload dL_hangs_769 (rfl : 769 + 2 = 771) rfl ?_
    refine zr_iconst dL_hangs_771 (rfl : 771 + 1 = 772) ?_
    refine zr_icmp_ge (tgt := 780) dL_hangs_772 (by decide) (rfl : 772 + 3 = 775) (jI_le (by first | omega | (simp only [bset, reduceIte, Nat.reduceEqDiff]; omega)) (by first | omega | (simp only [bset, reduceIte, Nat.reduceEqDiff]; omega)) (by first | omega | (simp only [bset, reduceIte, Nat.reduceEqDiff]; omega)) (by first | omega | (simp only [bset, reduceIte, Nat.reduceEqDiff]; omega))) (fun h772 => ?_) (fun h772 => ?_)
    · first
      | (exfalso; omega)
      | (
        refine zr_iload dL_hangs_780 (rfl : 780 + 2 = 782) rfl ?_
        refine zr_iconst dL_hangs_782 (rfl : 782 + 1 = 783) ?_
        refine zr_icmp_ne (tgt := 791) dL_hangs_783 (by decide) (rfl : 783 + 3 = 786) (jI_eq (by first | omega | (simp only [bset, reduceIte, Nat.reduceEqDiff]; omega)) (by first | omega | (simp only [bset, reduceIte, Nat.reduceEqDiff]; omega)) (by first | omega | (simp only [bset, reduceIte, Nat.reduceEqDiff]; omega)) (by first | omega | (simp only [bset, reduceIte, Nat.reduceEqDiff]; omega))) (fun h783 => ?_) (fun h783 => ?_)
        · first
          | (exfalso; omega)
          | (
            refine zr_bipush dL_hangs_791 (rfl : 791 + 2 = 793) (by decide) ?_
            exact fin _ (by rcases (by omega : i = 0 ∨ i = 1 ∨ i = 2 ∨ i = 3) with e | e | e | e <;> rw [e] <;> first | rfl | (exfalso; omega)))
        · first
          | (exfalso; omega)
          | (
            refine zr_bipush dL_hangs_786 (rfl : 786 + 2 = 788) (by decide) ?_
            refine zr_goto (tgt := 793) dL_hangs_788 (by decide) ?_
            exact fin _ (by rcases (by omega : i = 0 ∨ i = 1 ∨ i = 2 ∨ i = 3) with e | e | e | e <;> rw [e] <;> first | rfl | (exfalso; omega))))
    · first
      | (exfalso; omega)
      | (
        refine zr_bipush dL_hangs_775 (rfl : 775 + 2 = 777) (by decide) ?_
        refine zr_goto (tgt := 793) dL_hangs_777 (by decide) ?_
        exact fin _ (by rcases (by omega : i = 0 ∨ i = 1 ∨ i = 2 ∨ i = 3) with e | e | e | e <;> rw [e] <;> first | rfl | (exfalso; omega)))
  · intro o13 o14 o15 o16 _
    refine zr_iload dL_hangs_740 (rfl : 740 + 2 = 742) rfl ?_
    refine zr_iconst dL_hangs_742 (rfl : 742 + 1 = 743) ?_
    refine zr_icmp_ge (tgt := 947) dL_hangs_743 (by decide) (rfl : 743 + 3 = 746) (jI_le (by first | omega | (simp only [bset, reduceIte, Nat.reduceEqDiff]; omega)) (by first | omega | (simp only [bset, reduceIte, Nat.reduceEqDiff]; omega)) (by first | omega | (simp only [bset, reduceIte, Nat.reduceEqDiff]; omega)) (by first | omega | (simp only [bset, reduceIte, Nat.reduceEqDiff]; omega))) (fun h743 => ?_) (fun h743 => ?_)
    rotate_left
    · exfalso
      omega
    exact k _ _ _ _ _
theorem hg_6 (h : jin B) {o12 o13 o14 o15 o16 : Option Value} (hQ : ∀ pc lv τ' g', decode md_L_hangs.2.1 pc = .ok (.ireturn, 1) → zRun Γ md_L_hangs (d + 9) none pc lv [.int (jI 1)] (n9, g', kc, ks) (bk 6 B (cr σ τ' u)) Q) : zRun Γ md_L_hangs (d + 9) none 947 [some (.ref 5), some (.int (jI (B 12 0))), some (.int (jI (B 2 0))), some (.int (jI (B 12 0))), some (.int (jI (B 12 0))), some (.int (jI (1))), some (.int (jI (B 13 0))), some (.int (jI (B 2 0))), some (.int (jI (jcnt 6 (fun c => decide (jcs (B 0) c = 15))))), some (.int (jI (jbc (B 11 0)))), some (.int (jI (B 18 0))), some (.int (jI (B 21 0))), o12, o13, o14, o15, o16] [] (n9, g9, kc, ks) (bk 6 B (cr σ τ u)) Q := by
  have ok := h.ok
  obtain ⟨τ1, hff⟩ := s_firstFull (Γ := Γ) (d := d + 3) (σ := σ) (τ := τ) (u := u) ok
  have hf := fa_first h
  generalize hF : (jff B 6).1 = F at hff hf
  have hwc := jcnt_nn 6 (fun c => decide (jcs (B 0) c = 15))
  generalize jcnt 6 (fun c => decide (jcs (B 0) c = 15)) = wc at hf hwc ⊢
  have hFr : -1 ≤ F ∧ F < 6 := by omega
  have main : ∀ τ o14, zRun Γ md_L_hangs (d + 9) none 965 [some (.ref 5), some (.int (jI (B 12 0))), some (.int (jI (B 2 0))), some (.int (jI (B 12 0))), some (.int (jI (B 12 0))), some (.int (jI (1))), some (.int (jI (B 13 0))), some (.int (jI (B 2 0))), some (.int (jI (wc))), some (.int (jI (jbc (B 11 0)))), some (.int (jI (B 18 0))), some (.int (jI (B 21 0))), some (.int (jI (F))), some (.int (jI (0))), o14, o15, o16] [] (n9, g9, kc, ks) (bk 6 B (cr σ τ u)) Q := by
    intro τ o14
    refine zfor3 0 6 (fun _ _ _ _ => True) (fun i o14 _ _ => [some (.ref 5), some (.int (jI (B 12 0))), some (.int (jI (B 2 0))), some (.int (jI (B 12 0))), some (.int (jI (B 12 0))), some (.int (jI (1))), some (.int (jI (B 13 0))), some (.int (jI (B 2 0))), some (.int (jI (wc))), some (.int (jI (jbc (B 11 0)))), some (.int (jI (B 18 0))), some (.int (jI (B 21 0))), some (.int (jI (F))), some (.int (jI (i))), o14, o15, o16]) (fun _ _ τ _ => (bk 6 B (cr σ τ u))) o14 τ () trivial ?_ ?_
    · intro i o14 τ _ i0 i6 _ hk
      have hi : 0 ≤ i ∧ i < 6 := by omega
      have hfa : ∀ c k, 0 ≤ c ∧ c < 6 → jfa B c k = if jcs (B 0) c = 15 then jlc B c else -1 := fun c k hc => jfa_eq ok h.lk hc k
      obtain ⟨τ2, hf1⟩ := w_fullAt (Γ := Γ) (d := d) (σ := σ) (τ := τ) (u := u) i 1 hi (by decide) ok
      rw [hfa i 1 hi] at hf1
      by_cases hw : jcs (B 0) i = 15
      · rw [if_pos hw] at hf1
        obtain ⟨u1, u2, -⟩ := fa_full h hi hw
        have hF2 : (0 ≤ F ∧ F < 6) ∧ jcs (B 0) F = 15 ∧ jlc B F ≤ jlc B i := by
          rcases hf with ⟨-, -, f3⟩ | ⟨f1, f2, f3, -, f5⟩
          · exact absurd hw (f3 i hi.1 hi.2)
          · exact ⟨⟨f1, f2⟩, f3, f5 i hi.1 hi.2 hw⟩
        obtain ⟨v1, v2, -⟩ := fa_full h hF2.1 hF2.2.1
        obtain ⟨τ3, hf2⟩ := w_fullAt (Γ := Γ) (d := d) (σ := σ) (τ := τ2) (u := u) F 0 hF2.1 (by decide) ok
        rw [hfa F 0 hF2.1, if_pos hF2.2.1] at hf2
        have hle := hF2.2.2
        refine zr_iload dL_hangs_965 (rfl : 965 + 2 = 967) rfl ?_
        refine zr_bipush dL_hangs_967 (rfl : 967 + 2 = 969) (by decide) ?_
        refine zr_icmp_ge (tgt := 1022) dL_hangs_969 (by decide) (rfl : 969 + 3 = 972) (jI_le (by first | omega | (simp only [bset, reduceIte, Nat.reduceEqDiff]; omega)) (by first | omega | (simp only [bset, reduceIte, Nat.reduceEqDiff]; omega)) (by first | omega | (simp only [bset, reduceIte, Nat.reduceEqDiff]; omega)) (by first | omega | (simp only [bset, reduceIte, Nat.reduceEqDiff]; omega))) (fun h969 => ?_) (fun h969 => ?_)
        · exfalso
          omega
        refine zr_iload dL_hangs_972 (rfl : 972 + 2 = 974) rfl ?_
        refine zr_if_eq (tgt := 1022) dL_hangs_974 (by decide) (rfl : 974 + 3 = 977) (by first | exact jb_iff | exact jI_z (by first | omega | (simp only [bset, reduceIte, Nat.reduceEqDiff]; omega)) (by first | omega | (simp only [bset, reduceIte, Nat.reduceEqDiff]; omega))) (fun h974 => ?_) (fun h974 => ?_)
        · exfalso
          omega
        refine zr_aload_n dL_hangs_977 (rfl : 977 + 1 = 978) rfl ?_
        refine zr_iload dL_hangs_978 (rfl : 978 + 2 = 980) rfl ?_
        refine zr_iconst dL_hangs_980 (rfl : 980 + 1 = 981) ?_
        refine zr_fnH dL_hangs_981 (rfl : 981 + 3 = 984) l_L_138 hf1 rfl rfl (Nat.le_of_ble_eq_true rfl) ?_
        refine zr_istore (lv' := [_, _, _, _, _, _, _, _, _, _, _, _, _, _, _, _, _]) dL_hangs_984 (rfl : 984 + 2 = 986) (Nat.le_of_ble_eq_true rfl) rfl ?_
        refine zr_iload dL_hangs_986 (rfl : 986 + 2 = 988) rfl ?_
        refine zr_iconst dL_hangs_988 (rfl : 988 + 1 = 989) ?_
        refine zr_icmp_eq (tgt := 1009) dL_hangs_989 (by decide) (rfl : 989 + 3 = 992) (jI_eq (by first | omega | (simp only [bset, reduceIte, Nat.reduceEqDiff]; omega)) (by first | omega | (simp only [bset, reduceIte, Nat.reduceEqDiff]; omega)) (by first | omega | (simp only [bset, reduceIte, Nat.reduceEqDiff]; omega)) (by first | omega | (simp only [bset, reduceIte, Nat.reduceEqDiff]; omega))) (fun h989 => ?_) (fun h989 => ?_)
        · exfalso
          omega
        refine zr_iload dL_hangs_992 (rfl : 992 + 2 = 994) rfl ?_
        refine zr_if_lt (tgt := 1013) dL_hangs_994 (by decide) (rfl : 994 + 3 = 997) (jI_ltz (by first | omega | (simp only [bset, reduceIte, Nat.reduceEqDiff]; omega)) (by first | omega | (simp only [bset, reduceIte, Nat.reduceEqDiff]; omega))) (fun h994 => ?_) (fun h994 => ?_)
        · exfalso
          omega
        refine zr_aload_n dL_hangs_997 (rfl : 997 + 1 = 998) rfl ?_
        refine zr_iload dL_hangs_998 (rfl : 998 + 2 = 1000) rfl ?_
        refine zr_iconst dL_hangs_1000 (rfl : 1000 + 1 = 1001) ?_
        refine zr_fnH dL_hangs_1001 (rfl : 1001 + 3 = 1004) l_L_138 hf2 rfl rfl (Nat.le_of_ble_eq_true rfl) ?_
        refine zr_iload dL_hangs_1004 (rfl : 1004 + 2 = 1006) rfl ?_
        refine zr_icmp_gt (tgt := 1013) dL_hangs_1006 (by decide) (rfl : 1006 + 3 = 1009) (jI_lt (by first | omega | (simp only [bset, reduceIte, Nat.reduceEqDiff]; omega)) (by first | omega | (simp only [bset, reduceIte, Nat.reduceEqDiff]; omega)) (by first | omega | (simp only [bset, reduceIte, Nat.reduceEqDiff]; omega)) (by first | omega | (simp only [bset, reduceIte, Nat.reduceEqDiff]; omega))) (fun h1006 => ?_) (fun h1006 => ?_)
        · exfalso
          omega
        refine zr_iconst dL_hangs_1009 (rfl : 1009 + 1 = 1010) ?_
        refine zr_goto (tgt := 1014) dL_hangs_1010 (by decide) ?_
        refine zr_istore (lv' := [_, _, _, _, _, _, _, _, _, _, _, _, _, _, _, _, _]) dL_hangs_1014 (rfl : 1014 + 2 = 1016) (Nat.le_of_ble_eq_true rfl) rfl ?_
        refine zr_iinc (lv' := [_, _, _, _, _, _, _, _, _, _, _, _, _, _, _, _, _]) dL_hangs_1016 (rfl : 1016 + 3 = 1019) (Nat.le_of_ble_eq_true rfl) rfl (by first | exact jI_add _ _ | rfl) rfl ?_
        refine zr_goto (tgt := 965) dL_hangs_1019 (by decide) ?_
        exact hk _ _ () trivial
      · rw [if_neg hw] at hf1
        refine zr_iload dL_hangs_965 (rfl : 965 + 2 = 967) rfl ?_
        refine zr_bipush dL_hangs_967 (rfl : 967 + 2 = 969) (by decide) ?_
        refine zr_icmp_ge (tgt := 1022) dL_hangs_969 (by decide) (rfl : 969 + 3 = 972) (jI_le (by first | omega | (simp only [bset, reduceIte, Nat.reduceEqDiff]; omega)) (by first | omega | (simp only [bset, reduceIte, Nat.reduceEqDiff]; omega)) (by first | omega | (simp only [bset, reduceIte, Nat.reduceEqDiff]; omega)) (by first | omega | (simp only [bset, reduceIte, Nat.reduceEqDiff]; omega))) (fun h969 => ?_) (fun h969 => ?_)
        · exfalso
          omega
        refine zr_iload dL_hangs_972 (rfl : 972 + 2 = 974) rfl ?_
        refine zr_if_eq (tgt := 1022) dL_hangs_974 (by decide) (rfl : 974 + 3 = 977) (by first | exact jb_iff | exact jI_z (by first | omega | (simp only [bset, reduceIte, Nat.reduceEqDiff]; omega)) (by first | omega | (simp only [bset, reduceIte, Nat.reduceEqDiff]; omega))) (fun h974 => ?_) (fun h974 => ?_)
        · exfalso
          omega
        refine zr_aload_n dL_hangs_977 (rfl : 977 + 1 = 978) rfl ?_
        refine zr_iload dL_hangs_978 (rfl : 978 + 2 = 980) rfl ?_
        refine zr_iconst dL_hangs_980 (rfl : 980 + 1 = 981) ?_
        refine zr_fnH dL_hangs_981 (rfl : 981 + 3 = 984) l_L_138 hf1 rfl rfl (Nat.le_of_ble_eq_true rfl) ?_
        refine zr_istore (lv' := [_, _, _, _, _, _, _, _, _, _, _, _, _, _, _, _, _]) dL_hangs_984 (rfl : 984 + 2 = 986) (Nat.le_of_ble_eq_true rfl) rfl ?_
        refine zr_iload dL_hangs_986 (rfl : 986 + 2 = 988) rfl ?_
        refine zr_iconst dL_hangs_988 (rfl : 988 + 1 = 989) ?_
        refine zr_icmp_eq (tgt := 1009) dL_hangs_989 (by decide) (rfl : 989 + 3 = 992) (jI_eq (by first | omega | (simp only [bset, reduceIte, Nat.reduceEqDiff]; omega)) (by first | omega | (simp only [bset, reduceIte, Nat.reduceEqDiff]; omega)) (by first | omega | (simp only [bset, reduceIte, Nat.reduceEqDiff]; omega)) (by first | omega | (simp only [bset, reduceIte, Nat.reduceEqDiff]; omega))) (fun h989 => ?_) (fun h989 => ?_)
        rotate_left
        · exfalso
          omega
        refine zr_iconst dL_hangs_1009 (rfl : 1009 + 1 = 1010) ?_
        refine zr_goto (tgt := 1014) dL_hangs_1010 (by decide) ?_
        refine zr_istore (lv' := [_, _, _, _, _, _, _, _, _, _, _, _, _, _, _, _, _]) dL_hangs_1014 (rfl : 1014 + 2 = 1016) (Nat.le_of_ble_eq_true rfl) rfl ?_
        refine zr_iinc (lv' := [_, _, _, _, _, _, _, _, _, _, _, _, _, _, _, _, _]) dL_hangs_1016 (rfl : 1016 + 3 = 1019) (Nat.le_of_ble_eq_true rfl) rfl (by first | exact jI_add _ _ | rfl) rfl ?_
        refine zr_goto (tgt := 965) dL_hangs_1019 (by decide) ?_
        exact hk _ _ () trivial
    · intro o14 τ _ _
      by_cases q : F = -1
      · refine zr_iload dL_hangs_965 (rfl : 965 + 2 = 967) rfl ?_
        refine zr_bipush dL_hangs_967 (rfl : 967 + 2 = 969) (by decide) ?_
        refine zr_icmp_ge (tgt := 1022) dL_hangs_969 (by decide) (rfl : 969 + 3 = 972) (jI_le (by first | omega | (simp only [bset, reduceIte, Nat.reduceEqDiff]; omega)) (by first | omega | (simp only [bset, reduceIte, Nat.reduceEqDiff]; omega)) (by first | omega | (simp only [bset, reduceIte, Nat.reduceEqDiff]; omega)) (by first | omega | (simp only [bset, reduceIte, Nat.reduceEqDiff]; omega))) (fun h969 => ?_) (fun h969 => ?_)
        rotate_left
        · exfalso
          omega
        refine zr_iload dL_hangs_1022 (rfl : 1022 + 2 = 1024) rfl ?_
        refine zr_if_eq (tgt := 1055) dL_hangs_1024 (by decide) (rfl : 1024 + 3 = 1027) (by first | exact jb_iff | exact jI_z (by first | omega | (simp only [bset, reduceIte, Nat.reduceEqDiff]; omega)) (by first | omega | (simp only [bset, reduceIte, Nat.reduceEqDiff]; omega))) (fun h1024 => ?_) (fun h1024 => ?_)
        · exfalso
          omega
        refine zr_iload dL_hangs_1027 (rfl : 1027 + 2 = 1029) rfl ?_
        refine zr_iconst dL_hangs_1029 (rfl : 1029 + 1 = 1030) ?_
        refine zr_icmp_ne (tgt := 1037) dL_hangs_1030 (by decide) (rfl : 1030 + 3 = 1033) (jI_eq (by first | omega | (simp only [bset, reduceIte, Nat.reduceEqDiff]; omega)) (by first | omega | (simp only [bset, reduceIte, Nat.reduceEqDiff]; omega)) (by first | omega | (simp only [bset, reduceIte, Nat.reduceEqDiff]; omega)) (by first | omega | (simp only [bset, reduceIte, Nat.reduceEqDiff]; omega))) (fun h1030 => ?_) (fun h1030 => ?_)
        · exfalso
          omega
        refine zr_iconst dL_hangs_1033 (rfl : 1033 + 1 = 1034) ?_
        refine zr_goto (tgt := 1038) dL_hangs_1034 (by decide) ?_
        refine zr_iload dL_hangs_1038 (rfl : 1038 + 2 = 1040) rfl ?_
        refine zr_if_ne (tgt := 1047) dL_hangs_1040 (by decide) (rfl : 1040 + 3 = 1043) (by first | exact jb_iff | exact jI_z (by first | omega | (simp only [bset, reduceIte, Nat.reduceEqDiff]; omega)) (by first | omega | (simp only [bset, reduceIte, Nat.reduceEqDiff]; omega))) (fun h1040 => ?_) (fun h1040 => ?_)
        · exfalso
          omega
        refine zr_iconst dL_hangs_1043 (rfl : 1043 + 1 = 1044) ?_
        refine zr_goto (tgt := 1048) dL_hangs_1044 (by decide) ?_
        refine zr_icmp_ne (tgt := 1055) dL_hangs_1048 (by decide) (rfl : 1048 + 3 = 1051) (jI_eq (by first | omega | (simp only [bset, reduceIte, Nat.reduceEqDiff]; omega)) (by first | omega | (simp only [bset, reduceIte, Nat.reduceEqDiff]; omega)) (by first | omega | (simp only [bset, reduceIte, Nat.reduceEqDiff]; omega)) (by first | omega | (simp only [bset, reduceIte, Nat.reduceEqDiff]; omega))) (fun h1048 => ?_) (fun h1048 => ?_)
        · exfalso
          omega
        refine zr_iconst dL_hangs_1051 (rfl : 1051 + 1 = 1052) ?_
        refine zr_goto (tgt := 1056) dL_hangs_1052 (by decide) ?_
        exact hQ _ _ _ _ dL_hangs_1056
      · refine zr_iload dL_hangs_965 (rfl : 965 + 2 = 967) rfl ?_
        refine zr_bipush dL_hangs_967 (rfl : 967 + 2 = 969) (by decide) ?_
        refine zr_icmp_ge (tgt := 1022) dL_hangs_969 (by decide) (rfl : 969 + 3 = 972) (jI_le (by first | omega | (simp only [bset, reduceIte, Nat.reduceEqDiff]; omega)) (by first | omega | (simp only [bset, reduceIte, Nat.reduceEqDiff]; omega)) (by first | omega | (simp only [bset, reduceIte, Nat.reduceEqDiff]; omega)) (by first | omega | (simp only [bset, reduceIte, Nat.reduceEqDiff]; omega))) (fun h969 => ?_) (fun h969 => ?_)
        rotate_left
        · exfalso
          omega
        refine zr_iload dL_hangs_1022 (rfl : 1022 + 2 = 1024) rfl ?_
        refine zr_if_eq (tgt := 1055) dL_hangs_1024 (by decide) (rfl : 1024 + 3 = 1027) (by first | exact jb_iff | exact jI_z (by first | omega | (simp only [bset, reduceIte, Nat.reduceEqDiff]; omega)) (by first | omega | (simp only [bset, reduceIte, Nat.reduceEqDiff]; omega))) (fun h1024 => ?_) (fun h1024 => ?_)
        · exfalso
          omega
        refine zr_iload dL_hangs_1027 (rfl : 1027 + 2 = 1029) rfl ?_
        refine zr_iconst dL_hangs_1029 (rfl : 1029 + 1 = 1030) ?_
        refine zr_icmp_ne (tgt := 1037) dL_hangs_1030 (by decide) (rfl : 1030 + 3 = 1033) (jI_eq (by first | omega | (simp only [bset, reduceIte, Nat.reduceEqDiff]; omega)) (by first | omega | (simp only [bset, reduceIte, Nat.reduceEqDiff]; omega)) (by first | omega | (simp only [bset, reduceIte, Nat.reduceEqDiff]; omega)) (by first | omega | (simp only [bset, reduceIte, Nat.reduceEqDiff]; omega))) (fun h1030 => ?_) (fun h1030 => ?_)
        rotate_left
        · exfalso
          omega
        refine zr_iconst dL_hangs_1037 (rfl : 1037 + 1 = 1038) ?_
        refine zr_iload dL_hangs_1038 (rfl : 1038 + 2 = 1040) rfl ?_
        refine zr_if_ne (tgt := 1047) dL_hangs_1040 (by decide) (rfl : 1040 + 3 = 1043) (by first | exact jb_iff | exact jI_z (by first | omega | (simp only [bset, reduceIte, Nat.reduceEqDiff]; omega)) (by first | omega | (simp only [bset, reduceIte, Nat.reduceEqDiff]; omega))) (fun h1040 => ?_) (fun h1040 => ?_)
        rotate_left
        · exfalso
          omega
        refine zr_iconst dL_hangs_1047 (rfl : 1047 + 1 = 1048) ?_
        refine zr_icmp_ne (tgt := 1055) dL_hangs_1048 (by decide) (rfl : 1048 + 3 = 1051) (jI_eq (by first | omega | (simp only [bset, reduceIte, Nat.reduceEqDiff]; omega)) (by first | omega | (simp only [bset, reduceIte, Nat.reduceEqDiff]; omega)) (by first | omega | (simp only [bset, reduceIte, Nat.reduceEqDiff]; omega)) (by first | omega | (simp only [bset, reduceIte, Nat.reduceEqDiff]; omega))) (fun h1048 => ?_) (fun h1048 => ?_)
        · exfalso
          omega
        refine zr_iconst dL_hangs_1051 (rfl : 1051 + 1 = 1052) ?_
        refine zr_goto (tgt := 1056) dL_hangs_1052 (by decide) ?_
        exact hQ _ _ _ _ dL_hangs_1056
  refine zr_iload dL_hangs_947 (rfl : 947 + 2 = 949) rfl ?_
  refine zr_if_eq (tgt := 959) dL_hangs_949 (by decide) (rfl : 949 + 3 = 952) (by first | exact jb_iff | exact jI_z (by first | omega | (simp only [bset, reduceIte, Nat.reduceEqDiff]; omega)) (by first | omega | (simp only [bset, reduceIte, Nat.reduceEqDiff]; omega))) (fun h949 => ?_) (fun h949 => ?_)
  · exfalso
    omega
  refine zr_aload_n dL_hangs_952 (rfl : 952 + 1 = 953) rfl ?_
  refine zr_fnV dL_hangs_953 (rfl : 953 + 3 = 956) l_L_149 hff lc_5 rfl rfl rfl (Nat.le_of_ble_eq_true rfl) ?_
  refine zr_goto (tgt := 960) dL_hangs_956 (by decide) ?_
  refine zr_istore (lv' := [_, _, _, _, _, _, _, _, _, _, _, _, _, _, _, _, _]) dL_hangs_960 (rfl : 960 + 2 = 962) (Nat.le_of_ble_eq_true rfl) rfl ?_
  refine zr_iconst dL_hangs_962 (rfl : 962 + 1 = 963) ?_
  refine zr_istore (lv' := [_, _, _, _, _, _, _, _, _, _, _, _, _, _, _, _, _]) dL_hangs_963 (rfl : 963 + 2 = 965) (Nat.le_of_ble_eq_true rfl) rfl ?_
  exact main τ1 o14
theorem hg (h : jin B) : zOt Γ md_L_hangs (d + 9) 1 [.ref 5] (bk 6 B (cr σ τ u)) (fun r w2 => r = some (.int (jI 1)) ∧ ∃ τ', w2 = bk 6 B (cr σ τ' u)) := by
  have ok := h.ok
  have hca := ok.ca
  have hcl : jcl B (B 12 0) 0 = -1 := if_pos (Int.le_refl _)
  refine zOt.of_run (lv := [some (.ref 5), none, none, none, none, none, none, none, none, none, none, none, none, none, none, none, none]) (by decide) rfl (Nat.le_of_ble_eq_true rfl) rfl (fun n9 g9 => ?_)
  refine zr_aload_n dL_hangs_0 (rfl : 0 + 1 = 1) rfl ?_
  refine zr_bipush dL_hangs_1 (rfl : 1 + 2 = 3) (by decide) ?_
  refine zr_fnH dL_hangs_3 (rfl : 3 + 3 = 6) l_L_127 (w_count 8 (by decide) ok) rfl rfl (Nat.le_of_ble_eq_true rfl) ?_
  rw [jct_8]
  refine zr_istore_n (lv' := [_, _, _, _, _, _, _, _, _, _, _, _, _, _, _, _, _]) dL_hangs_6 (rfl : 6 + 1 = 7) (Nat.le_of_ble_eq_true rfl) rfl ?_
  refine zr_iconst dL_hangs_7 (rfl : 7 + 1 = 8) ?_
  refine zr_istore_n (lv' := [_, _, _, _, _, _, _, _, _, _, _, _, _, _, _, _, _]) dL_hangs_8 (rfl : 8 + 1 = 9) (Nat.le_of_ble_eq_true rfl) rfl ?_
  refine zr_iconst dL_hangs_9 (rfl : 9 + 1 = 10) ?_
  refine zr_istore_n (lv' := [_, _, _, _, _, _, _, _, _, _, _, _, _, _, _, _, _]) dL_hangs_10 (rfl : 10 + 1 = 11) (Nat.le_of_ble_eq_true rfl) rfl ?_
  refine zr_iconst dL_hangs_11 (rfl : 11 + 1 = 12) ?_
  refine zr_istore (lv' := [_, _, _, _, _, _, _, _, _, _, _, _, _, _, _, _, _]) dL_hangs_12 (rfl : 12 + 2 = 14) (Nat.le_of_ble_eq_true rfl) rfl ?_
  refine zr_aload_n dL_hangs_14 (rfl : 14 + 1 = 15) rfl ?_
  refine zr_iload_n dL_hangs_15 (rfl : 15 + 1 = 16) rfl ?_
  refine zr_iconst dL_hangs_16 (rfl : 16 + 1 = 17) ?_
  refine zr_fnH dL_hangs_17 (rfl : 17 + 3 = 20) l_L_129 (w_called (B 12 0) 0 (by first | omega | (simp only [bset, reduceIte, Nat.reduceEqDiff]; omega)) ⟨by omega, by decide⟩ ok) rfl rfl (Nat.le_of_ble_eq_true rfl) ?_
  rw [hcl]
  refine zr_iconst dL_hangs_20 (rfl : 20 + 1 = 21) ?_
  refine zr_icmp_ne (tgt := 40) dL_hangs_21 (by decide) (rfl : 21 + 3 = 24) (jI_eq (by first | omega | (simp only [bset, reduceIte, Nat.reduceEqDiff]; omega)) (by first | omega | (simp only [bset, reduceIte, Nat.reduceEqDiff]; omega)) (by first | omega | (simp only [bset, reduceIte, Nat.reduceEqDiff]; omega)) (by first | omega | (simp only [bset, reduceIte, Nat.reduceEqDiff]; omega))) (fun h21 => ?_) (fun h21 => ?_)
  · exfalso
    omega
  refine zr_aload_n dL_hangs_24 (rfl : 24 + 1 = 25) rfl ?_
  refine zr_bipush dL_hangs_25 (rfl : 25 + 2 = 27) (by decide) ?_
  refine zr_iconst dL_hangs_27 (rfl : 27 + 1 = 28) ?_
  refine zr_otH dL_hangs_28 (rfl : 28 + 3 = 31) l_L_132 (lt_numberOf1 lc_5 (t_numberOf1 (d := d) 91 0 (by first | omega | (simp only [bset, reduceIte, Nat.reduceEqDiff]; omega)) (by first | omega | (simp only [bset, reduceIte, Nat.reduceEqDiff]; omega)) (by first | omega | (simp only [bset, reduceIte, Nat.reduceEqDiff]; omega)))) rfl rfl (Nat.le_of_ble_eq_true rfl) (by first | omega | (simp only [bset, reduceIte, Nat.reduceEqDiff]; omega)) (by first | omega | (simp only [bset, reduceIte, Nat.reduceEqDiff]; omega)) ?_
  intro g28
  refine zr_ldc dL_hangs_31 (rfl : 31 + 2 = 33) kj_L_17 ?_
  refine zr_icmp_ne (tgt := 40) dL_hangs_33 (by decide) (rfl : 33 + 3 = 36) (jI_eq (by first | omega | (simp only [bset, reduceIte, Nat.reduceEqDiff]; omega)) (by first | omega | (simp only [bset, reduceIte, Nat.reduceEqDiff]; omega)) (by first | omega | (simp only [bset, reduceIte, Nat.reduceEqDiff]; omega)) (by first | omega | (simp only [bset, reduceIte, Nat.reduceEqDiff]; omega))) (fun h33 => ?_) (fun h33 => ?_)
  · exfalso
    omega
  refine zr_iconst dL_hangs_36 (rfl : 36 + 1 = 37) ?_
  refine zr_goto (tgt := 41) dL_hangs_37 (by decide) ?_
  refine zr_istore (lv' := [_, _, _, _, _, _, _, _, _, _, _, _, _, _, _, _, _]) dL_hangs_41 (rfl : 41 + 2 = 43) (Nat.le_of_ble_eq_true rfl) rfl ?_
  refine zr_iconst dL_hangs_43 (rfl : 43 + 1 = 44) ?_
  refine zr_istore (lv' := [_, _, _, _, _, _, _, _, _, _, _, _, _, _, _, _, _]) dL_hangs_44 (rfl : 44 + 2 = 46) (Nat.le_of_ble_eq_true rfl) rfl ?_
  refine hg_1 h (fun o6 o7 o8 o9 => hg_2 h (fun o7 => hg_3 h (fun o12 o13 o14 o15 τ1 => hg_4 h (fun τ2 => hg_5 h (fun o12 o13 o14 o15 o16 => hg_6 h (fun pc lv τ' g' hd => ?_))))))
  exact zr_iretO hd rfl rfl ⟨rfl, τ', rfl⟩ rfl
end HG

