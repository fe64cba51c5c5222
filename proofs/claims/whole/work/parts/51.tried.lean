/-! the reference: all balls, tried -/
section TR
variable {Γ : zΓ} {d : Nat} {S : Int → Int} {st : Int} {ik : Int → Int} {th : Int} {tx : Int → Int} {ty : Int} {w : zW} {B : zB}
/-- the book with all balls drawn -/
def jall9 (B : zB) : zB := jdrs (B 4 0).toNat B
theorem m_empties (h : mr S 0 B) (ok : jok B) (lk : jlk B) : zFe Γ md_X7_empties (d + 2) [.ref 167] (mw S st ik th tx ty w) (zMP none (fun S' => jagb 4446 S' S ∧ mr S' 4446 (jall9 B)) st ik th tx ty w) := by
  have hco := ok.ca
  have hds := ok.ds
  have hb9 : mr (jcpy S S (494 * 0) (494 * 9) 494) (494 * 9) B := mr.block (a := 9) (b := 0) jbq_cpy h hco.2
  have hag : jagb 4446 (jcpy S S (494 * 0) (494 * 9) 494) S := by
    intro z hz
    unfold jcpy
    rw [if_neg (by omega)]
  refine zFe.of_run (lv := [some (.ref 167)]) (by decide) rfl (Nat.le_of_ble_eq_true rfl) rfl (fun n9 g9 => ?_)
  refine zr_aload_n dX7_empties_0 (rfl : 0 + 1 = 1) rfl ?_
  refine zr_iconst dX7_empties_1 (rfl : 1 + 1 = 2) ?_
  refine zr_bipush dX7_empties_2 (rfl : 2 + 2 = 4) (by decide) ?_
  refine zr_fnV dX7_empties_4 (rfl : 4 + 3 = 7) l_X7_28 (m_copies 0 9 (by decide) (by decide) (by decide)) (by first | assumption | exact mw_167 | exact mw_168 | exact mw_169 | exact mw_170 | exact bk_0 | exact bk_1 | exact bk_2 | exact bk_3 | exact bk_4 | exact bk_5 | exact bk_6 | exact bk_7 | exact bk_8 | exact bk_9 | exact bk_10 | exact bk_11 | exact bk_12 | exact bk_13 | exact bk_14 | exact bk_15 | exact bk_16 | exact zup_self | exact (zup_ne (by first | assumption | omega)).trans (by first | assumption | exact zup_self) | exact (zup_ne (by first | assumption | omega)).trans ((zup_ne (by first | assumption | omega)).trans (by first | assumption | exact zup_self)) | exact (bk_out (by first | omega | (simp only [bset, reduceIte, Nat.reduceEqDiff]; omega))).trans (by first | exact bk_0 | exact bk_1 | exact bk_2 | exact bk_3 | exact bk_4 | exact bk_5 | exact bk_6 | exact bk_7 | exact bk_8 | exact bk_9 | exact bk_10 | exact bk_11 | exact bk_12 | exact bk_13 | exact bk_14 | exact bk_15 | exact bk_16 | exact cr_5 | exact cr_23 | exact cr_24 | exact cr_25 | exact cr_26 | exact cr_27 | exact cr_28 | exact cr_29 | exact cr_30 | assumption)) rfl rfl rfl (Nat.le_of_ble_eq_true rfl) ?_
  generalize jcpy S S (494 * 0) (494 * 9) 494 = S0 at hb9 hag
  rw [show (494 : Int) * 9 = 4446 by decide] at hb9
  refine zfor1 0 (B 4 0).toNat (fun i S1 => jagb 4446 S1 S ∧ mr S1 4446 (jdrs i.toNat B)) (fun _ _ => [some (.ref 167)]) (fun _ S1 => mw S1 st ik th tx ty w) S0 ⟨hag, hb9⟩ ?_ ?_
  · intro i S1 i0 i1 hI hk
    obtain ⟨ag, hm⟩ := hI
    have hcai := jdrs_ca B i.toNat
    have hca := hm.ca
    rw [show (4446 : Int) + 457 = 4903 by decide] at hca
    refine zr_aload_n dX7_empties_7 (rfl : 7 + 1 = 8) rfl ?_
    refine zr_getf dX7_empties_8 (rfl : 8 + 3 = 11) f_X7_7 (by first | assumption | exact mw_167 | exact mw_168 | exact mw_169 | exact mw_170 | exact bk_0 | exact bk_1 | exact bk_2 | exact bk_3 | exact bk_4 | exact bk_5 | exact bk_6 | exact bk_7 | exact bk_8 | exact bk_9 | exact bk_10 | exact bk_11 | exact bk_12 | exact bk_13 | exact bk_14 | exact bk_15 | exact bk_16 | exact zup_self | exact (zup_ne (by first | assumption | omega)).trans (by first | assumption | exact zup_self) | exact (zup_ne (by first | assumption | omega)).trans ((zup_ne (by first | assumption | omega)).trans (by first | assumption | exact zup_self)) | exact (bk_out (by first | omega | (simp only [bset, reduceIte, Nat.reduceEqDiff]; omega))).trans (by first | exact bk_0 | exact bk_1 | exact bk_2 | exact bk_3 | exact bk_4 | exact bk_5 | exact bk_6 | exact bk_7 | exact bk_8 | exact bk_9 | exact bk_10 | exact bk_11 | exact bk_12 | exact bk_13 | exact bk_14 | exact bk_15 | exact bk_16 | exact cr_5 | exact cr_23 | exact cr_24 | exact cr_25 | exact cr_26 | exact cr_27 | exact cr_28 | exact cr_29 | exact cr_30 | assumption)) rfl ?_
    refine zr_sipush dX7_empties_11 (rfl : 11 + 3 = 14) (by decide) ?_
    refine zr_iald dX7_empties_14 (rfl : 14 + 1 = 15) (by first | assumption | exact mw_167 | exact mw_168 | exact mw_169 | exact mw_170 | exact bk_0 | exact bk_1 | exact bk_2 | exact bk_3 | exact bk_4 | exact bk_5 | exact bk_6 | exact bk_7 | exact bk_8 | exact bk_9 | exact bk_10 | exact bk_11 | exact bk_12 | exact bk_13 | exact bk_14 | exact bk_15 | exact bk_16 | exact zup_self | exact (zup_ne (by first | assumption | omega)).trans (by first | assumption | exact zup_self) | exact (zup_ne (by first | assumption | omega)).trans ((zup_ne (by first | assumption | omega)).trans (by first | assumption | exact zup_self)) | exact (bk_out (by first | omega | (simp only [bset, reduceIte, Nat.reduceEqDiff]; omega))).trans (by first | exact bk_0 | exact bk_1 | exact bk_2 | exact bk_3 | exact bk_4 | exact bk_5 | exact bk_6 | exact bk_7 | exact bk_8 | exact bk_9 | exact bk_10 | exact bk_11 | exact bk_12 | exact bk_13 | exact bk_14 | exact bk_15 | exact bk_16 | exact cr_5 | exact cr_23 | exact cr_24 | exact cr_25 | exact cr_26 | exact cr_27 | exact cr_28 | exact cr_29 | exact cr_30 | assumption)) (by decide) (by first | omega | (simp only [bset, reduceIte, Nat.reduceEqDiff]; omega)) (by first | omega | (simp only [bset, reduceIte, Nat.reduceEqDiff]; omega)) ?_
    rw [hca]
    refine zr_bipush dX7_empties_15 (rfl : 15 + 2 = 17) (by decide) ?_
    refine zr_icmp_ge (tgt := 31) dX7_empties_17 (by decide) (rfl : 17 + 3 = 20) (jI_le (by first | omega | (simp only [bset, reduceIte, Nat.reduceEqDiff]; omega)) (by first | omega | (simp only [bset, reduceIte, Nat.reduceEqDiff]; omega)) (by first | omega | (simp only [bset, reduceIte, Nat.reduceEqDiff]; omega)) (by first | omega | (simp only [bset, reduceIte, Nat.reduceEqDiff]; omega))) (fun h17 => ?_) (fun h17 => ?_)
    · exfalso; omega
    · refine zr_aload_n dX7_empties_20 (rfl : 20 + 1 = 21) rfl ?_
      refine zr_sipush dX7_empties_21 (rfl : 21 + 3 = 24) (by decide) ?_
      refine zr_feV dX7_empties_24 (rfl : 24 + 3 = 27) l_X7_90 (m_draws 4446 (by decide) (by first | omega | (simp only [bset, reduceIte, Nat.reduceEqDiff]; omega)) hm (jok_drs ok i.toNat (by first | omega | (simp only [bset, reduceIte, Nat.reduceEqDiff]; omega))) (jlk_drs ok lk i.toNat (by first | omega | (simp only [bset, reduceIte, Nat.reduceEqDiff]; omega)))) (by first | assumption | exact mw_167 | exact mw_168 | exact mw_169 | exact mw_170 | exact bk_0 | exact bk_1 | exact bk_2 | exact bk_3 | exact bk_4 | exact bk_5 | exact bk_6 | exact bk_7 | exact bk_8 | exact bk_9 | exact bk_10 | exact bk_11 | exact bk_12 | exact bk_13 | exact bk_14 | exact bk_15 | exact bk_16 | exact zup_self | exact (zup_ne (by first | assumption | omega)).trans (by first | assumption | exact zup_self) | exact (zup_ne (by first | assumption | omega)).trans ((zup_ne (by first | assumption | omega)).trans (by first | assumption | exact zup_self)) | exact (bk_out (by first | omega | (simp only [bset, reduceIte, Nat.reduceEqDiff]; omega))).trans (by first | exact bk_0 | exact bk_1 | exact bk_2 | exact bk_3 | exact bk_4 | exact bk_5 | exact bk_6 | exact bk_7 | exact bk_8 | exact bk_9 | exact bk_10 | exact bk_11 | exact bk_12 | exact bk_13 | exact bk_14 | exact bk_15 | exact bk_16 | exact cr_5 | exact cr_23 | exact cr_24 | exact cr_25 | exact cr_26 | exact cr_27 | exact cr_28 | exact cr_29 | exact cr_30 | assumption)) rfl rfl rfl (Nat.le_of_ble_eq_true rfl) ?_
      rintro _ _ ⟨rfl, S24, hS24, rfl⟩
      refine zr_pop dX7_empties_27 (rfl : 27 + 1 = 28) rfl ?_
      refine zr_goto (tgt := 7) dX7_empties_28 (by decide) ?_
      obtain ⟨ag2, hm2⟩ := hS24
      refine hk _ ⟨ag2.trans ag, ?_⟩
      rw [show (i + 1).toNat = i.toNat + 1 by omega]
      exact hm2
  · intro S1 hI
    rw [show ((0 : Int) + ((B 4 0).toNat : Int)).toNat = (B 4 0).toNat by omega] at hI
    obtain ⟨ag, hm⟩ := hI
    have hcai := jdrs_ca B (B 4 0).toNat
    have hca := hm.ca
    rw [show (4446 : Int) + 457 = 4903 by decide] at hca
    refine zr_aload_n dX7_empties_7 (rfl : 7 + 1 = 8) rfl ?_
    refine zr_getf dX7_empties_8 (rfl : 8 + 3 = 11) f_X7_7 (by first | assumption | exact mw_167 | exact mw_168 | exact mw_169 | exact mw_170 | exact bk_0 | exact bk_1 | exact bk_2 | exact bk_3 | exact bk_4 | exact bk_5 | exact bk_6 | exact bk_7 | exact bk_8 | exact bk_9 | exact bk_10 | exact bk_11 | exact bk_12 | exact bk_13 | exact bk_14 | exact bk_15 | exact bk_16 | exact zup_self | exact (zup_ne (by first | assumption | omega)).trans (by first | assumption | exact zup_self) | exact (zup_ne (by first | assumption | omega)).trans ((zup_ne (by first | assumption | omega)).trans (by first | assumption | exact zup_self)) | exact (bk_out (by first | omega | (simp only [bset, reduceIte, Nat.reduceEqDiff]; omega))).trans (by first | exact bk_0 | exact bk_1 | exact bk_2 | exact bk_3 | exact bk_4 | exact bk_5 | exact bk_6 | exact bk_7 | exact bk_8 | exact bk_9 | exact bk_10 | exact bk_11 | exact bk_12 | exact bk_13 | exact bk_14 | exact bk_15 | exact bk_16 | exact cr_5 | exact cr_23 | exact cr_24 | exact cr_25 | exact cr_26 | exact cr_27 | exact cr_28 | exact cr_29 | exact cr_30 | assumption)) rfl ?_
    refine zr_sipush dX7_empties_11 (rfl : 11 + 3 = 14) (by decide) ?_
    refine zr_iald dX7_empties_14 (rfl : 14 + 1 = 15) (by first | assumption | exact mw_167 | exact mw_168 | exact mw_169 | exact mw_170 | exact bk_0 | exact bk_1 | exact bk_2 | exact bk_3 | exact bk_4 | exact bk_5 | exact bk_6 | exact bk_7 | exact bk_8 | exact bk_9 | exact bk_10 | exact bk_11 | exact bk_12 | exact bk_13 | exact bk_14 | exact bk_15 | exact bk_16 | exact zup_self | exact (zup_ne (by first | assumption | omega)).trans (by first | assumption | exact zup_self) | exact (zup_ne (by first | assumption | omega)).trans ((zup_ne (by first | assumption | omega)).trans (by first | assumption | exact zup_self)) | exact (bk_out (by first | omega | (simp only [bset, reduceIte, Nat.reduceEqDiff]; omega))).trans (by first | exact bk_0 | exact bk_1 | exact bk_2 | exact bk_3 | exact bk_4 | exact bk_5 | exact bk_6 | exact bk_7 | exact bk_8 | exact bk_9 | exact bk_10 | exact bk_11 | exact bk_12 | exact bk_13 | exact bk_14 | exact bk_15 | exact bk_16 | exact cr_5 | exact cr_23 | exact cr_24 | exact cr_25 | exact cr_26 | exact cr_27 | exact cr_28 | exact cr_29 | exact cr_30 | assumption)) (by decide) (by first | omega | (simp only [bset, reduceIte, Nat.reduceEqDiff]; omega)) (by first | omega | (simp only [bset, reduceIte, Nat.reduceEqDiff]; omega)) ?_
    rw [hca]
    refine zr_bipush dX7_empties_15 (rfl : 15 + 2 = 17) (by decide) ?_
    refine zr_icmp_ge (tgt := 31) dX7_empties_17 (by decide) (rfl : 17 + 3 = 20) (jI_le (by first | omega | (simp only [bset, reduceIte, Nat.reduceEqDiff]; omega)) (by first | omega | (simp only [bset, reduceIte, Nat.reduceEqDiff]; omega)) (by first | omega | (simp only [bset, reduceIte, Nat.reduceEqDiff]; omega)) (by first | omega | (simp only [bset, reduceIte, Nat.reduceEqDiff]; omega))) (fun h17 => ?_) (fun h17 => ?_)
    · refine zr_vreE dX7_empties_31 rfl ?_
      exact ⟨rfl, _, ⟨ag, hm⟩, rfl⟩
    · exfalso; omega
/-! the order of the balls, in the book with all of them -/
theorem jdrs_5 (B : zB) : ∀ m : Nat, ∀ i : Int, i < B 12 0 + m → jdrs m B 5 i = if i < B 12 0 then B 5 i else jball (jdrs (i - B 12 0).toNat B)
  | 0, i, h => by
    rw [if_pos (by omega)]
    rfl
  | m + 1, i, h => by
    show jdr1 (jdrs m B) 5 i = _
    rw [(jdr1_5 _).1, jdrs_ca]
    by_cases e : i = B 12 0 + m
    · rw [jup_at e, if_neg (by omega), show (i - B 12 0).toNat = m by omega]
    · rw [jup_ne e]
      exact jdrs_5 B m i (by omega)
theorem jod_all (ok : jok B) {i : Int} (h : i < 90) : jall9 B 5 i = jod B i := by
  have hco := ok.ca
  have hds := ok.ds
  unfold jall9 jod
  exact jdrs_5 B _ i (by omega)
theorem jall9_ca (ok : jok B) : jall9 B 12 0 = 90 := by
  have hco := ok.ca
  have hds := ok.ds
  unfold jall9
  rw [jdrs_ca]
  omega
theorem jok_all9 (ok : jok B) : jok (jall9 B) := by
  have hco := ok.ca
  have hds := ok.ds
  exact jok_drs ok _ (by omega)
theorem jlk_all9 (ok : jok B) (lk : jlk B) : jlk (jall9 B) := by
  have hco := ok.ca
  have hds := ok.ds
  exact jlk_drs ok lk _ (by omega)
theorem jdrs_p (B : zB) : ∀ m : Nat, jdrs m B 0 = B 0 ∧ jdrs m B 1 = B 1
  | 0 => ⟨rfl, rfl⟩
  | m + 1 => by
    obtain ⟨p0, p1, -⟩ := jdr1_p (jdrs m B)
    obtain ⟨i0, i1⟩ := jdrs_p B m
    exact ⟨p0.trans i0, p1.trans i1⟩
/-- every number has its call, every call its number -/
theorem jcall_od (ok : jok B) (lk : jlk B) {n : Int} (hn : 1 ≤ n ∧ n ≤ 90) : 1 ≤ jall9 B 7 n ∧ jall9 B 7 n ≤ 90 ∧ jod B (jall9 B 7 n - 1) = n := by
  have ok9 := jok_all9 ok
  have lk9 := jlk_all9 ok lk
  have hca9 := jall9_ca ok
  have hda := ok9.da n
  have hne : jall9 B 7 n ≠ 0 := by
    intro h0
    have hz := lk9.di.1
    rw [ok9.ds, hca9] at hz
    have := jcnt_pos (n := 90) (q := fun z => jund (jall9 B) (z + 1)) (k := n - 1) (by omega) (by omega) (by show decide (jall9 B 7 (n - 1 + 1) = 0) = true; rw [show n - 1 + 1 = n by omega]; exact decide_eq_true h0)
    exact this hz.symm
  refine ⟨by omega, hda.2, ?_⟩
  rw [← jod_all ok (by omega)]
  exact lk9.kd n hn.1 hn.2 hne
theorem jod_call (ok : jok B) (lk : jlk B) {i : Int} (hi : 0 ≤ i ∧ i < 90) : 1 ≤ jod B i ∧ jod B i ≤ 90 ∧ jall9 B 7 (jod B i) = i + 1 := by
  have ok9 := jok_all9 ok
  have lk9 := jlk_all9 ok lk
  have hca9 := jall9_ca ok
  have := lk9.dk i hi.1 (by omega)
  rw [jod_all ok hi.2] at this
  have h2 := ok9.dr i
  rw [jod_all ok hi.2] at h2
  exact ⟨this.1, h2.2, this.2⟩
theorem jlo_spec {od : Int → Int} {c : Int} : ∀ n : Nat, (jlo od B c n = -1 ∧ ∀ i : Int, 0 ≤ i → i < n → ¬ json B c (od i)) ∨ (∃ i : Int, 0 ≤ i ∧ i < n ∧ json B c (od i) ∧ jlo od B c n = i + 1 ∧ ∀ j : Int, i < j → j < n → ¬ json B c (od j))
  | 0 => Or.inl ⟨rfl, fun i i0 i1 => absurd i1 (by omega)⟩
  | n + 1 => by
    by_cases hj : json B c (od n)
    · refine Or.inr ⟨n, by omega, by omega, hj, ?_, fun j j0 j1 => by omega⟩
      show (if json B c (od n) then (n : Int) + 1 else jlo od B c n) = _
      rw [if_pos hj]
    · have e : jlo od B c (n + 1) = jlo od B c n := by
        show (if json B c (od n) then (n : Int) + 1 else jlo od B c n) = _
        rw [if_neg hj]
      rw [e]
      rcases jlo_spec (od := od) (c := c) n with ⟨h1, h2⟩ | ⟨i, i0, i1, i2, i3, i4⟩
      · refine Or.inl ⟨h1, fun i i0 i1 => ?_⟩
        by_cases ei : i = n
        · rw [ei]
          exact hj
        · exact h2 i i0 (by omega)
      · refine Or.inr ⟨i, i0, by omega, i2, i3, fun j j0 j1 => ?_⟩
        by_cases ej : j = n
        · rw [ej]
          exact hj
        · exact i4 j j0 (by omega)
/-- a card's numbers, counted by calls -/
theorem jcard_cnt (ok : jok B) (lk : jlk B) {c : Int} (hc : 0 ≤ c ∧ c < 6) : jcnt 90 (fun i => decide (json B c (jod B i))) = jcs (B 0) c := by
  have h1 : jcnt 90 (fun i => decide (json B c (jod B i))) = jcnt 90 (fun z => decide (0 ≤ B 1 (z + 1) - c * 3 ∧ B 1 (z + 1) - c * 3 ≤ 2)) := by
    refine jcnt_bij (fun i => jod B i - 1) (fun z => jall9 B 7 (z + 1) - 1) 90 (fun i i0 i1 hi => ?_) (fun z z0 z1 hz => ?_)
    · have hi := of_decide_eq_true hi
      obtain ⟨a1, a2, a3⟩ := jod_call ok lk ⟨i0, i1⟩
      refine ⟨by show 0 ≤ jod B i - 1; omega, by show jod B i - 1 < 90; omega, decide_eq_true ?_, ?_⟩
      · rw [show jod B i - 1 + 1 = jod B i by omega]
        have := hi.2
        omega
      · show jall9 B 7 (jod B i - 1 + 1) - 1 = i
        rw [show jod B i - 1 + 1 = jod B i by omega, a3]
        omega
    · have hz := of_decide_eq_true hz
      obtain ⟨a1, a2, a3⟩ := jcall_od ok lk (n := z + 1) (by omega)
      refine ⟨by show 0 ≤ jall9 B 7 (z + 1) - 1; omega, by show jall9 B 7 (z + 1) - 1 < 90; omega, decide_eq_true ?_, ?_⟩
      · rw [a3]
        exact ⟨by omega, by omega, by omega⟩
      · show jod B (jall9 B 7 (z + 1) - 1) - 1 = z
        rw [a3]
        omega
  rw [h1]
  have r0 := jrow_cnt ok lk (r := c * 3) (by omega) (fun _ => true)
  have r1 := jrow_cnt ok lk (r := c * 3 + 1) (by omega) (fun _ => true)
  have r2 := jrow_cnt ok lk (r := c * 3 + 1 + 1) (by omega) (fun _ => true)
  simp only [Bool.and_true] at r0 r1 r2
  unfold jcs jrs
  rw [← r0, ← r1, ← r2]
  have h2 : jcnt 90 (fun z => decide (0 ≤ B 1 (z + 1) - c * 3 ∧ B 1 (z + 1) - c * 3 ≤ 1)) = jcnt 90 (fun z => decide (B 1 (z + 1) = c * 3)) + jcnt 90 (fun z => decide (B 1 (z + 1) = c * 3 + 1)) := by
    refine jcnt_add 90 fun z z0 z1 => ?_
    by_cases e0 : B 1 (z + 1) = c * 3
    · rw [jb_pos (decide_eq_true (by omega)), jb_pos (decide_eq_true e0), jb_neg (by rw [decide_eq_true_eq]; omega)]
      rfl
    · by_cases e1 : B 1 (z + 1) = c * 3 + 1
      · rw [jb_pos (decide_eq_true (by omega)), jb_neg (by rw [decide_eq_true_eq]; omega), jb_pos (decide_eq_true e1)]
        rfl
      · rw [jb_neg (by rw [decide_eq_true_eq]; omega), jb_neg (by rw [decide_eq_true_eq]; omega), jb_neg (by rw [decide_eq_true_eq]; omega)]
        rfl
  rw [← h2]
  refine jcnt_add 90 fun z z0 z1 => ?_
  by_cases e0 : 0 ≤ B 1 (z + 1) - c * 3 ∧ B 1 (z + 1) - c * 3 ≤ 1
  · rw [jb_pos (decide_eq_true (by omega)), jb_pos (decide_eq_true e0), jb_neg (by rw [decide_eq_true_eq]; omega)]
    rfl
  · by_cases e1 : B 1 (z + 1) = c * 3 + 1 + 1
    · rw [jb_pos (decide_eq_true (by omega)), jb_neg (by rw [decide_eq_true_eq]; omega), jb_pos (decide_eq_true e1)]
      rfl
    · rw [jb_neg (by rw [decide_eq_true_eq]; omega), jb_neg (by rw [decide_eq_true_eq]; omega), jb_neg (by rw [decide_eq_true_eq]; omega)]
      rfl
/-- ball by ball, or by the order -/
theorem jcnt_split {q : Int → Bool} {n : Nat} {i : Int} (h : n ≤ i) (hq : q i = true) : ∀ m : Nat, i < m → jcnt n q + 1 ≤ jcnt m q
  | 0, hm => absurd hm (by omega)
  | m + 1, hm => by
    rw [jcnt_succ]
    by_cases e : i = m
    · rw [jb_pos (by rw [← e]; exact hq)]
      have : ∀ k : Nat, n ≤ k → jcnt n q ≤ jcnt k q := by
        intro k
        induction k with
        | zero =>
          intro hk
          have : n = 0 := by omega
          rw [this]
          exact Int.le_refl _
        | succ k ih =>
          intro hk
          by_cases e2 : n = k + 1
          · rw [e2]
            exact Int.le_refl _
          · rw [jcnt_succ]
            have := ih (by omega)
            have := jb_r (P := q (k : Int) = true)
            omega
      have := this m (by omega)
      omega
    · have := jcnt_split h hq m (by omega)
      have := jb_r (P := q (m : Int) = true)
      omega
theorem jfb_eq (ok : jok B) (lk : jlk B) {c : Int} (hc : 0 ≤ c ∧ c < 6) (hw : jcs (B 0) c = 15) : (jfb B c 90 1 0).1 = jlc B c := by
  have ht := jcard_cnt ok lk hc
  rw [hw] at ht
  have key : ∀ (n : Nat) (i f : Int), (n : Int) + i = 91 → 1 ≤ i → f = jcnt (i - 1).toNat (fun i => decide (json B c (jod B i))) → f < 15 → (jfb B c n i f).1 = jlc B c := by
    intro n
    induction n with
    | zero =>
      intro i f h1 h2 h3 h4
      have e : (i - 1).toNat = 90 := by omega
      rw [e, ht] at h3
      omega
    | succ n ih =>
      intro i f h1 h2 h3 h4
      rw [jfb_succ]
      have hn := jcnt_next (q := fun i => decide (json B c (jod B i))) (i := i - 1) (by omega)
      have ejb : jb ((fun i => decide (json B c (jod B i))) (i - 1) = true) = jb (json B c (jod B (i - 1))) := jb_congr (by simp)
      rw [ejb, ← h3] at hn
      have hbr := jb_r (P := json B c (jod B (i - 1)))
      by_cases h5 : f + jb (json B c (jod B (i - 1))) = 15
      · rw [if_pos h5]
        show i = jlc B c
        have hj : json B c (jod B (i - 1)) := jb_1 (by omega)
        unfold jlc
        rcases jlo_spec (B := B) (od := jod B) (c := c) 90 with ⟨-, l2⟩ | ⟨j, j0, j1, j2, j3, j4⟩
        · exact absurd hj (l2 (i - 1) (by omega) (by omega))
        · rw [j3]
          rcases Int.lt_trichotomy j (i - 1) with e | e | e
          · exact absurd hj (j4 (i - 1) e (by omega))
          · omega
          · have := jcnt_split (q := fun i => decide (json B c (jod B i))) (n := (i - 1 + 1).toNat) (i := j) (by omega) (decide_eq_true j2) 90 j1
            rw [hn, ht] at this
            omega
      · rw [if_neg h5]
        refine ih (i + 1) _ (by omega) (by omega) ?_ (by omega)
        rw [show i + 1 - 1 = i - 1 + 1 by omega, hn]
  exact key 90 1 0 (by decide) (by decide) rfl (by decide)
/-- the greatest call of a card's numbers -/
def jmx (B : zB) (c : Int) : Nat → Int
  | 0 => 0
  | n + 1 => if (B 1 ((n : Int) + 1) + 1 + 2) / 3 = c + 1 ∧ jmx B c n < jall9 B 7 ((n : Int) + 1) then jall9 B 7 ((n : Int) + 1) else jmx B c n
theorem jmx_r (ok : jok B) {c : Int} : ∀ n : Nat, 0 ≤ jmx B c n ∧ jmx B c n ≤ 90
  | 0 => ⟨(by decide : (0 : Int) ≤ 0), (by decide : (0 : Int) ≤ 90)⟩
  | n + 1 => by
    have ih := jmx_r ok (c := c) n
    have hd := (jok_all9 ok).da ((n : Int) + 1)
    unfold jmx
    split <;> omega
theorem jmx_spec {c : Int} : ∀ n : Nat, (∀ m : Int, 1 ≤ m → m ≤ n → (B 1 m + 1 + 2) / 3 = c + 1 → jall9 B 7 m ≤ jmx B c n) ∧ (jmx B c n = 0 ∨ ∃ m : Int, 1 ≤ m ∧ m ≤ n ∧ (B 1 m + 1 + 2) / 3 = c + 1 ∧ jall9 B 7 m = jmx B c n)
  | 0 => ⟨fun m m0 m1 _ => absurd m1 (by omega), Or.inl rfl⟩
  | n + 1 => by
    obtain ⟨i1, i2⟩ := jmx_spec (c := c) n
    unfold jmx
    by_cases h : (B 1 ((n : Int) + 1) + 1 + 2) / 3 = c + 1 ∧ jmx B c n < jall9 B 7 ((n : Int) + 1)
    · rw [if_pos h]
      refine ⟨fun m m0 m1 hm => ?_, Or.inr ⟨(n : Int) + 1, by omega, by omega, h.1, rfl⟩⟩
      by_cases e : m = (n : Int) + 1
      · rw [e]
        exact Int.le_refl _
      · have := i1 m m0 (by omega) hm
        omega
    · rw [if_neg h]
      refine ⟨fun m m0 m1 hm => ?_, ?_⟩
      · by_cases e : m = (n : Int) + 1
        · rw [e] at hm ⊢
          by_cases h2 : jmx B c n < jall9 B 7 ((n : Int) + 1)
          · exact absurd ⟨hm, h2⟩ h
          · omega
        · exact i1 m m0 (by omega) hm
      · rcases i2 with e | ⟨m, a1, a2, a3, a4⟩
        · exact Or.inl e
        · exact Or.inr ⟨m, a1, by omega, a3, a4⟩
theorem jmx_eq (ok : jok B) (lk : jlk B) {c : Int} (hc : 0 ≤ c ∧ c < 6) (hw : jcs (B 0) c = 15) : jmx B c 90 = jlc B c := by
  have ht := jcard_cnt ok lk hc
  rw [hw] at ht
  obtain ⟨i, i0, i1, hi⟩ := jcnt_ex (N := 90) (q := fun i => decide (json B c (jod B i))) (by omega)
  have hi := of_decide_eq_true hi
  obtain ⟨s1, s2⟩ := jmx_spec (B := B) (c := c) 90
  unfold jlc
  rcases jlo_spec (B := B) (od := jod B) (c := c) 90 with ⟨-, l2⟩ | ⟨j, j0, j1, j2, j3, j4⟩
  · exact absurd hi (l2 i i0 i1)
  · rw [j3]
    obtain ⟨a1, a2, a3⟩ := jod_call ok lk ⟨j0, j1⟩
    have hge := s1 (jod B j) a1 a2 (by have := j2.2.2; have := j2.2.1; omega)
    rw [a3] at hge
    rcases s2 with e | ⟨m, m1, m2, m3, m4⟩
    · omega
    · obtain ⟨b1, b2, b3⟩ := jcall_od ok lk (n := m) ⟨m1, m2⟩
      rw [← m4] at hge ⊢
      by_cases e : j < jall9 B 7 m - 1
      · have hR := ok.R m
        refine absurd ?_ (j4 _ e (by omega))
        rw [b3]
        exact ⟨⟨m1, m2⟩, by omega, by omega⟩
      · omega
theorem m_full (c : Int) (hc : 0 ≤ c ∧ c < 6) (h : mr S 0 B) (ok : jok B) (lk : jlk B) : zFe Γ md_X7_full (d + 3) [.ref 167, .int (jI c)] (mw S st ik th tx ty w) (zMP (some (.int (jI (if jcs (B 0) c = 15 then jlc B c else -1)))) (fun S' => jagb 4446 S' S) st ik th tx ty w) := by
  by_cases hw : jcs (B 0) c = 15
  · rw [if_pos hw, ← jmx_eq ok lk hc hw]
    refine zFe.of_run (lv := [some (.ref 167), some (.int (jI c)), none, none, none, none]) (by decide) rfl (Nat.le_of_ble_eq_true rfl) rfl (fun n9 g9 => ?_)
    have key : zRun Γ md_X7_full (d + 3) none 10 [some (.ref 167), some (.int (jI c)), none, none, none, none] [] (n9, g9, 0, 0) (mw S st ik th tx ty w) (zPost md_X7_full (zMP (some (.int (jI (jmx B c 90)))) (fun S' => jagb 4446 S' S) st ik th tx ty w) n9 g9) := by
      refine zr_aload_n dX7_full_10 (rfl : 10 + 1 = 11) rfl ?_
      refine zr_feV dX7_full_11 (rfl : 11 + 3 = 14) l_X7_178 (m_empties h ok lk) (by first | assumption | exact mw_167 | exact mw_168 | exact mw_169 | exact mw_170 | exact bk_0 | exact bk_1 | exact bk_2 | exact bk_3 | exact bk_4 | exact bk_5 | exact bk_6 | exact bk_7 | exact bk_8 | exact bk_9 | exact bk_10 | exact bk_11 | exact bk_12 | exact bk_13 | exact bk_14 | exact bk_15 | exact bk_16 | exact zup_self | exact (zup_ne (by first | assumption | omega)).trans (by first | assumption | exact zup_self) | exact (zup_ne (by first | assumption | omega)).trans ((zup_ne (by first | assumption | omega)).trans (by first | assumption | exact zup_self)) | exact (bk_out (by first | omega | (simp only [bset, reduceIte, Nat.reduceEqDiff]; omega))).trans (by first | exact bk_0 | exact bk_1 | exact bk_2 | exact bk_3 | exact bk_4 | exact bk_5 | exact bk_6 | exact bk_7 | exact bk_8 | exact bk_9 | exact bk_10 | exact bk_11 | exact bk_12 | exact bk_13 | exact bk_14 | exact bk_15 | exact bk_16 | exact cr_5 | exact cr_23 | exact cr_24 | exact cr_25 | exact cr_26 | exact cr_27 | exact cr_28 | exact cr_29 | exact cr_30 | assumption)) rfl rfl rfl (Nat.le_of_ble_eq_true rfl) ?_
      rintro _ _ ⟨rfl, S11, hS11, rfl⟩
      obtain ⟨ag, hm⟩ := hS11
      have hda : ∀ n, 1 ≤ n → n ≤ 90 → S11 (4541 + n) = jall9 B 7 n := by
        intro n n0 n1
        rw [show (4541 : Int) + n = 4446 + 95 + n by omega]
        exact hm.da n n0 n1
      have hpl : ∀ n, 1 ≤ n → n ≤ 90 → S11 (4 + n) = B 1 n + 1 := by
        intro n n0 n1
        rw [ag (4 + n) (by omega)]
        exact h.pl0 n n0 n1
      refine zr_iconst dX7_full_14 (rfl : 14 + 1 = 15) ?_
      refine zr_istore_n (lv' := [_, _, _, _, _, _]) dX7_full_15 (rfl : 15 + 1 = 16) (Nat.le_of_ble_eq_true rfl) rfl ?_
      refine zr_iconst dX7_full_16 (rfl : 16 + 1 = 17) ?_
      refine zr_istore_n (lv' := [_, _, _, _, _, _]) dX7_full_17 (rfl : 17 + 1 = 18) (Nat.le_of_ble_eq_true rfl) rfl ?_
      refine zfor1 1 90 (fun n (a : Int × Option Value × Option Value) => a.1 = jmx B c (n - 1).toNat) (fun n a => [some (.ref 167), some (.int (jI c)), some (.int (jI a.1)), some (.int (jI n)), a.2.1, a.2.2]) (fun _ _ => mw S11 st ik th tx ty w) (0, none, none) rfl ?_ ?_
      · intro n a n0 n1 hx hk
        obtain ⟨x, o4, o5⟩ := a
        simp only at hx ⊢
        have hk2 := fun (x' : Int) (o o' : Option Value) => hk (x', o, o')
        simp only at hk2
        clear hk
        have hp := hpl n n0 (by omega)
        have hd := hda n n0 (by omega)
        have hR := ok.R n
        have hdr := (jok_all9 ok).da n
        have hxr := jmx_r ok (c := c) (n - 1).toNat
        rw [← hx] at hxr
        have hn : jmx B c (n + 1 - 1).toNat = if (B 1 n + 1 + 2) / 3 = c + 1 ∧ x < jall9 B 7 n then jall9 B 7 n else x := by
          rw [show (n + 1 - 1).toNat = (n - 1).toNat + 1 by omega, hx]
          show (if (B 1 (((n - 1).toNat : Int) + 1) + 1 + 2) / 3 = c + 1 ∧ jmx B c (n - 1).toNat < jall9 B 7 (((n - 1).toNat : Int) + 1) then jall9 B 7 (((n - 1).toNat : Int) + 1) else jmx B c (n - 1).toNat) = _
          rw [show (((n - 1).toNat : Int) + 1) = n by omega]
        rw [hn] at hk2
        clear hn hx hda hpl
        generalize jall9 B 7 n = cl at hd hdr hk2
        refine zr_iload_n dX7_full_18 (rfl : 18 + 1 = 19) rfl ?_
        refine zr_bipush dX7_full_19 (rfl : 19 + 2 = 21) (by decide) ?_
        refine zr_icmp_gt (tgt := 85) dX7_full_21 (by decide) (rfl : 21 + 3 = 24) (jI_lt (by first | omega | (simp only [bset, reduceIte, Nat.reduceEqDiff]; omega)) (by first | omega | (simp only [bset, reduceIte, Nat.reduceEqDiff]; omega)) (by first | omega | (simp only [bset, reduceIte, Nat.reduceEqDiff]; omega)) (by first | omega | (simp only [bset, reduceIte, Nat.reduceEqDiff]; omega))) (fun h21 => ?_) (fun h21 => ?_)
        · first
          | (exfalso; omega)
          | (
            exfalso
            omega)
        · first
          | (exfalso; omega)
          | (
            refine zr_aload_n dX7_full_24 (rfl : 24 + 1 = 25) rfl ?_
            refine zr_getf dX7_full_25 (rfl : 25 + 3 = 28) f_X7_7 (by first | assumption | exact mw_167 | exact mw_168 | exact mw_169 | exact mw_170 | exact bk_0 | exact bk_1 | exact bk_2 | exact bk_3 | exact bk_4 | exact bk_5 | exact bk_6 | exact bk_7 | exact bk_8 | exact bk_9 | exact bk_10 | exact bk_11 | exact bk_12 | exact bk_13 | exact bk_14 | exact bk_15 | exact bk_16 | exact zup_self | exact (zup_ne (by first | assumption | omega)).trans (by first | assumption | exact zup_self) | exact (zup_ne (by first | assumption | omega)).trans ((zup_ne (by first | assumption | omega)).trans (by first | assumption | exact zup_self)) | exact (bk_out (by first | omega | (simp only [bset, reduceIte, Nat.reduceEqDiff]; omega))).trans (by first | exact bk_0 | exact bk_1 | exact bk_2 | exact bk_3 | exact bk_4 | exact bk_5 | exact bk_6 | exact bk_7 | exact bk_8 | exact bk_9 | exact bk_10 | exact bk_11 | exact bk_12 | exact bk_13 | exact bk_14 | exact bk_15 | exact bk_16 | exact cr_5 | exact cr_23 | exact cr_24 | exact cr_25 | exact cr_26 | exact cr_27 | exact cr_28 | exact cr_29 | exact cr_30 | assumption)) rfl ?_
            refine zr_iconst dX7_full_28 (rfl : 28 + 1 = 29) ?_
            refine zr_iload_n dX7_full_29 (rfl : 29 + 1 = 30) rfl ?_
            refine zr_iadd dX7_full_30 (rfl : 30 + 1 = 31) (by first | exact jI_add _ _ | rfl) ?_
            refine zr_iald dX7_full_31 (rfl : 31 + 1 = 32) (by first | assumption | exact mw_167 | exact mw_168 | exact mw_169 | exact mw_170 | exact bk_0 | exact bk_1 | exact bk_2 | exact bk_3 | exact bk_4 | exact bk_5 | exact bk_6 | exact bk_7 | exact bk_8 | exact bk_9 | exact bk_10 | exact bk_11 | exact bk_12 | exact bk_13 | exact bk_14 | exact bk_15 | exact bk_16 | exact zup_self | exact (zup_ne (by first | assumption | omega)).trans (by first | assumption | exact zup_self) | exact (zup_ne (by first | assumption | omega)).trans ((zup_ne (by first | assumption | omega)).trans (by first | assumption | exact zup_self)) | exact (bk_out (by first | omega | (simp only [bset, reduceIte, Nat.reduceEqDiff]; omega))).trans (by first | exact bk_0 | exact bk_1 | exact bk_2 | exact bk_3 | exact bk_4 | exact bk_5 | exact bk_6 | exact bk_7 | exact bk_8 | exact bk_9 | exact bk_10 | exact bk_11 | exact bk_12 | exact bk_13 | exact bk_14 | exact bk_15 | exact bk_16 | exact cr_5 | exact cr_23 | exact cr_24 | exact cr_25 | exact cr_26 | exact cr_27 | exact cr_28 | exact cr_29 | exact cr_30 | assumption)) (by decide) (by first | omega | (simp only [bset, reduceIte, Nat.reduceEqDiff]; omega)) (by first | omega | (simp only [bset, reduceIte, Nat.reduceEqDiff]; omega)) ?_
            refine zr_iconst dX7_full_32 (rfl : 32 + 1 = 33) ?_
            refine zr_iadd dX7_full_33 (rfl : 33 + 1 = 34) (by first | exact jI_add _ _ | rfl) ?_
            refine zr_iconst dX7_full_34 (rfl : 34 + 1 = 35) ?_
            refine zr_idiv dX7_full_35 (rfl : 35 + 1 = 36) (fun q => absurd ((jI_z (by first | omega | (simp only [bset, reduceIte, Nat.reduceEqDiff]; omega)) (by first | omega | (simp only [bset, reduceIte, Nat.reduceEqDiff]; omega))).mp q) (by first | omega | (simp only [bset, reduceIte, Nat.reduceEqDiff]; omega))) (jI_div (by first | omega | (simp only [bset, reduceIte, Nat.reduceEqDiff]; omega)) (by first | omega | (simp only [bset, reduceIte, Nat.reduceEqDiff]; omega)) (by first | omega | (simp only [bset, reduceIte, Nat.reduceEqDiff]; omega)) (by first | omega | (simp only [bset, reduceIte, Nat.reduceEqDiff]; omega))) ?_
            refine zr_iload_n dX7_full_36 (rfl : 36 + 1 = 37) rfl ?_
            refine zr_iconst dX7_full_37 (rfl : 37 + 1 = 38) ?_
            refine zr_iadd dX7_full_38 (rfl : 38 + 1 = 39) (by first | exact jI_add _ _ | rfl) ?_
            refine zr_icmp_ne (tgt := 46) dX7_full_39 (by decide) (rfl : 39 + 3 = 42) (jI_eq (by first | omega | (simp only [bset, reduceIte, Nat.reduceEqDiff]; omega)) (by first | omega | (simp only [bset, reduceIte, Nat.reduceEqDiff]; omega)) (by first | omega | (simp only [bset, reduceIte, Nat.reduceEqDiff]; omega)) (by first | omega | (simp only [bset, reduceIte, Nat.reduceEqDiff]; omega))) (fun h39 => ?_) (fun h39 => ?_)
            · first
              | (exfalso; omega)
              | (
                refine zr_iconst dX7_full_46 (rfl : 46 + 1 = 47) ?_
                refine zr_istore (lv' := [_, _, _, _, _, _]) dX7_full_47 (rfl : 47 + 2 = 49) (Nat.le_of_ble_eq_true rfl) rfl ?_
                refine zr_aload_n dX7_full_49 (rfl : 49 + 1 = 50) rfl ?_
                refine zr_getf dX7_full_50 (rfl : 50 + 3 = 53) f_X7_7 (by first | assumption | exact mw_167 | exact mw_168 | exact mw_169 | exact mw_170 | exact bk_0 | exact bk_1 | exact bk_2 | exact bk_3 | exact bk_4 | exact bk_5 | exact bk_6 | exact bk_7 | exact bk_8 | exact bk_9 | exact bk_10 | exact bk_11 | exact bk_12 | exact bk_13 | exact bk_14 | exact bk_15 | exact bk_16 | exact zup_self | exact (zup_ne (by first | assumption | omega)).trans (by first | assumption | exact zup_self) | exact (zup_ne (by first | assumption | omega)).trans ((zup_ne (by first | assumption | omega)).trans (by first | assumption | exact zup_self)) | exact (bk_out (by first | omega | (simp only [bset, reduceIte, Nat.reduceEqDiff]; omega))).trans (by first | exact bk_0 | exact bk_1 | exact bk_2 | exact bk_3 | exact bk_4 | exact bk_5 | exact bk_6 | exact bk_7 | exact bk_8 | exact bk_9 | exact bk_10 | exact bk_11 | exact bk_12 | exact bk_13 | exact bk_14 | exact bk_15 | exact bk_16 | exact cr_5 | exact cr_23 | exact cr_24 | exact cr_25 | exact cr_26 | exact cr_27 | exact cr_28 | exact cr_29 | exact cr_30 | assumption)) rfl ?_
                refine zr_sipush dX7_full_53 (rfl : 53 + 3 = 56) (by decide) ?_
                refine zr_iload_n dX7_full_56 (rfl : 56 + 1 = 57) rfl ?_
                refine zr_iadd dX7_full_57 (rfl : 57 + 1 = 58) (by first | exact jI_add _ _ | rfl) ?_
                refine zr_iald dX7_full_58 (rfl : 58 + 1 = 59) (by first | assumption | exact mw_167 | exact mw_168 | exact mw_169 | exact mw_170 | exact bk_0 | exact bk_1 | exact bk_2 | exact bk_3 | exact bk_4 | exact bk_5 | exact bk_6 | exact bk_7 | exact bk_8 | exact bk_9 | exact bk_10 | exact bk_11 | exact bk_12 | exact bk_13 | exact bk_14 | exact bk_15 | exact bk_16 | exact zup_self | exact (zup_ne (by first | assumption | omega)).trans (by first | assumption | exact zup_self) | exact (zup_ne (by first | assumption | omega)).trans ((zup_ne (by first | assumption | omega)).trans (by first | assumption | exact zup_self)) | exact (bk_out (by first | omega | (simp only [bset, reduceIte, Nat.reduceEqDiff]; omega))).trans (by first | exact bk_0 | exact bk_1 | exact bk_2 | exact bk_3 | exact bk_4 | exact bk_5 | exact bk_6 | exact bk_7 | exact bk_8 | exact bk_9 | exact bk_10 | exact bk_11 | exact bk_12 | exact bk_13 | exact bk_14 | exact bk_15 | exact bk_16 | exact cr_5 | exact cr_23 | exact cr_24 | exact cr_25 | exact cr_26 | exact cr_27 | exact cr_28 | exact cr_29 | exact cr_30 | assumption)) (by decide) (by first | omega | (simp only [bset, reduceIte, Nat.reduceEqDiff]; omega)) (by first | omega | (simp only [bset, reduceIte, Nat.reduceEqDiff]; omega)) ?_
                refine zr_istore (lv' := [_, _, _, _, _, _]) dX7_full_59 (rfl : 59 + 2 = 61) (Nat.le_of_ble_eq_true rfl) rfl ?_
                refine zr_iload dX7_full_61 (rfl : 61 + 2 = 63) rfl ?_
                refine zr_if_eq (tgt := 77) dX7_full_63 (by decide) (rfl : 63 + 3 = 66) (by first | exact jb_iff | exact jI_z (by first | omega | (simp only [bset, reduceIte, Nat.reduceEqDiff]; omega)) (by first | omega | (simp only [bset, reduceIte, Nat.reduceEqDiff]; omega))) (fun h63 => ?_) (fun h63 => ?_)
                · first
                  | (exfalso; omega)
                  | (
                    refine zr_iload_n dX7_full_77 (rfl : 77 + 1 = 78) rfl ?_
                    refine zr_istore_n (lv' := [_, _, _, _, _, _]) dX7_full_78 (rfl : 78 + 1 = 79) (Nat.le_of_ble_eq_true rfl) rfl ?_
                    refine zr_iinc (lv' := [_, _, _, _, _, _]) dX7_full_79 (rfl : 79 + 3 = 82) (Nat.le_of_ble_eq_true rfl) rfl (by first | exact jI_add _ _ | rfl) rfl ?_
                    refine zr_goto (tgt := 18) dX7_full_82 (by decide) ?_
                    refine hk2 _ _ _ ?_
                    first | (rw [if_pos ⟨by omega, by omega⟩]; exact hd) | (rw [if_neg (fun q => by omega)]; done))
                · first
                  | (exfalso; omega)
                  | (
                    refine zr_iload dX7_full_66 (rfl : 66 + 2 = 68) rfl ?_
                    refine zr_iload_n dX7_full_68 (rfl : 68 + 1 = 69) rfl ?_
                    refine zr_icmp_le (tgt := 77) dX7_full_69 (by decide) (rfl : 69 + 3 = 72) (jI_le (by first | omega | (simp only [bset, reduceIte, Nat.reduceEqDiff]; omega)) (by first | omega | (simp only [bset, reduceIte, Nat.reduceEqDiff]; omega)) (by first | omega | (simp only [bset, reduceIte, Nat.reduceEqDiff]; omega)) (by first | omega | (simp only [bset, reduceIte, Nat.reduceEqDiff]; omega))) (fun h69 => ?_) (fun h69 => ?_)
                    · first
                      | (exfalso; omega)
                      | (
                        refine zr_iload_n dX7_full_77 (rfl : 77 + 1 = 78) rfl ?_
                        refine zr_istore_n (lv' := [_, _, _, _, _, _]) dX7_full_78 (rfl : 78 + 1 = 79) (Nat.le_of_ble_eq_true rfl) rfl ?_
                        refine zr_iinc (lv' := [_, _, _, _, _, _]) dX7_full_79 (rfl : 79 + 3 = 82) (Nat.le_of_ble_eq_true rfl) rfl (by first | exact jI_add _ _ | rfl) rfl ?_
                        refine zr_goto (tgt := 18) dX7_full_82 (by decide) ?_
                        refine hk2 _ _ _ ?_
                        first | (rw [if_pos ⟨by omega, by omega⟩]; exact hd) | (rw [if_neg (fun q => by omega)]; done))
                    · first
                      | (exfalso; omega)
                      | (
                        refine zr_iload dX7_full_72 (rfl : 72 + 2 = 74) rfl ?_
                        refine zr_goto (tgt := 78) dX7_full_74 (by decide) ?_
                        refine zr_istore_n (lv' := [_, _, _, _, _, _]) dX7_full_78 (rfl : 78 + 1 = 79) (Nat.le_of_ble_eq_true rfl) rfl ?_
                        refine zr_iinc (lv' := [_, _, _, _, _, _]) dX7_full_79 (rfl : 79 + 3 = 82) (Nat.le_of_ble_eq_true rfl) rfl (by first | exact jI_add _ _ | rfl) rfl ?_
                        refine zr_goto (tgt := 18) dX7_full_82 (by decide) ?_
                        refine hk2 _ _ _ ?_
                        first | (rw [if_pos ⟨by omega, by omega⟩]; exact hd) | (rw [if_neg (fun q => by omega)]; done))))
            · first
              | (exfalso; omega)
              | (
                refine zr_iconst dX7_full_42 (rfl : 42 + 1 = 43) ?_
                refine zr_goto (tgt := 47) dX7_full_43 (by decide) ?_
                refine zr_istore (lv' := [_, _, _, _, _, _]) dX7_full_47 (rfl : 47 + 2 = 49) (Nat.le_of_ble_eq_true rfl) rfl ?_
                refine zr_aload_n dX7_full_49 (rfl : 49 + 1 = 50) rfl ?_
                refine zr_getf dX7_full_50 (rfl : 50 + 3 = 53) f_X7_7 (by first | assumption | exact mw_167 | exact mw_168 | exact mw_169 | exact mw_170 | exact bk_0 | exact bk_1 | exact bk_2 | exact bk_3 | exact bk_4 | exact bk_5 | exact bk_6 | exact bk_7 | exact bk_8 | exact bk_9 | exact bk_10 | exact bk_11 | exact bk_12 | exact bk_13 | exact bk_14 | exact bk_15 | exact bk_16 | exact zup_self | exact (zup_ne (by first | assumption | omega)).trans (by first | assumption | exact zup_self) | exact (zup_ne (by first | assumption | omega)).trans ((zup_ne (by first | assumption | omega)).trans (by first | assumption | exact zup_self)) | exact (bk_out (by first | omega | (simp only [bset, reduceIte, Nat.reduceEqDiff]; omega))).trans (by first | exact bk_0 | exact bk_1 | exact bk_2 | exact bk_3 | exact bk_4 | exact bk_5 | exact bk_6 | exact bk_7 | exact bk_8 | exact bk_9 | exact bk_10 | exact bk_11 | exact bk_12 | exact bk_13 | exact bk_14 | exact bk_15 | exact bk_16 | exact cr_5 | exact cr_23 | exact cr_24 | exact cr_25 | exact cr_26 | exact cr_27 | exact cr_28 | exact cr_29 | exact cr_30 | assumption)) rfl ?_
                refine zr_sipush dX7_full_53 (rfl : 53 + 3 = 56) (by decide) ?_
                refine zr_iload_n dX7_full_56 (rfl : 56 + 1 = 57) rfl ?_
                refine zr_iadd dX7_full_57 (rfl : 57 + 1 = 58) (by first | exact jI_add _ _ | rfl) ?_
                refine zr_iald dX7_full_58 (rfl : 58 + 1 = 59) (by first | assumption | exact mw_167 | exact mw_168 | exact mw_169 | exact mw_170 | exact bk_0 | exact bk_1 | exact bk_2 | exact bk_3 | exact bk_4 | exact bk_5 | exact bk_6 | exact bk_7 | exact bk_8 | exact bk_9 | exact bk_10 | exact bk_11 | exact bk_12 | exact bk_13 | exact bk_14 | exact bk_15 | exact bk_16 | exact zup_self | exact (zup_ne (by first | assumption | omega)).trans (by first | assumption | exact zup_self) | exact (zup_ne (by first | assumption | omega)).trans ((zup_ne (by first | assumption | omega)).trans (by first | assumption | exact zup_self)) | exact (bk_out (by first | omega | (simp only [bset, reduceIte, Nat.reduceEqDiff]; omega))).trans (by first | exact bk_0 | exact bk_1 | exact bk_2 | exact bk_3 | exact bk_4 | exact bk_5 | exact bk_6 | exact bk_7 | exact bk_8 | exact bk_9 | exact bk_10 | exact bk_11 | exact bk_12 | exact bk_13 | exact bk_14 | exact bk_15 | exact bk_16 | exact cr_5 | exact cr_23 | exact cr_24 | exact cr_25 | exact cr_26 | exact cr_27 | exact cr_28 | exact cr_29 | exact cr_30 | assumption)) (by decide) (by first | omega | (simp only [bset, reduceIte, Nat.reduceEqDiff]; omega)) (by first | omega | (simp only [bset, reduceIte, Nat.reduceEqDiff]; omega)) ?_
                refine zr_istore (lv' := [_, _, _, _, _, _]) dX7_full_59 (rfl : 59 + 2 = 61) (Nat.le_of_ble_eq_true rfl) rfl ?_
                refine zr_iload dX7_full_61 (rfl : 61 + 2 = 63) rfl ?_
                refine zr_if_eq (tgt := 77) dX7_full_63 (by decide) (rfl : 63 + 3 = 66) (by first | exact jb_iff | exact jI_z (by first | omega | (simp only [bset, reduceIte, Nat.reduceEqDiff]; omega)) (by first | omega | (simp only [bset, reduceIte, Nat.reduceEqDiff]; omega))) (fun h63 => ?_) (fun h63 => ?_)
                · first
                  | (exfalso; omega)
                  | (
                    refine zr_iload_n dX7_full_77 (rfl : 77 + 1 = 78) rfl ?_
                    refine zr_istore_n (lv' := [_, _, _, _, _, _]) dX7_full_78 (rfl : 78 + 1 = 79) (Nat.le_of_ble_eq_true rfl) rfl ?_
                    refine zr_iinc (lv' := [_, _, _, _, _, _]) dX7_full_79 (rfl : 79 + 3 = 82) (Nat.le_of_ble_eq_true rfl) rfl (by first | exact jI_add _ _ | rfl) rfl ?_
                    refine zr_goto (tgt := 18) dX7_full_82 (by decide) ?_
                    refine hk2 _ _ _ ?_
                    first | (rw [if_pos ⟨by omega, by omega⟩]; exact hd) | (rw [if_neg (fun q => by omega)]; done))
                · first
                  | (exfalso; omega)
                  | (
                    refine zr_iload dX7_full_66 (rfl : 66 + 2 = 68) rfl ?_
                    refine zr_iload_n dX7_full_68 (rfl : 68 + 1 = 69) rfl ?_
                    refine zr_icmp_le (tgt := 77) dX7_full_69 (by decide) (rfl : 69 + 3 = 72) (jI_le (by first | omega | (simp only [bset, reduceIte, Nat.reduceEqDiff]; omega)) (by first | omega | (simp only [bset, reduceIte, Nat.reduceEqDiff]; omega)) (by first | omega | (simp only [bset, reduceIte, Nat.reduceEqDiff]; omega)) (by first | omega | (simp only [bset, reduceIte, Nat.reduceEqDiff]; omega))) (fun h69 => ?_) (fun h69 => ?_)
                    · first
                      | (exfalso; omega)
                      | (
                        refine zr_iload_n dX7_full_77 (rfl : 77 + 1 = 78) rfl ?_
                        refine zr_istore_n (lv' := [_, _, _, _, _, _]) dX7_full_78 (rfl : 78 + 1 = 79) (Nat.le_of_ble_eq_true rfl) rfl ?_
                        refine zr_iinc (lv' := [_, _, _, _, _, _]) dX7_full_79 (rfl : 79 + 3 = 82) (Nat.le_of_ble_eq_true rfl) rfl (by first | exact jI_add _ _ | rfl) rfl ?_
                        refine zr_goto (tgt := 18) dX7_full_82 (by decide) ?_
                        refine hk2 _ _ _ ?_
                        first | (rw [if_pos ⟨by omega, by omega⟩]; exact hd) | (rw [if_neg (fun q => by omega)]; done))
                    · first
                      | (exfalso; omega)
                      | (
                        refine zr_iload dX7_full_72 (rfl : 72 + 2 = 74) rfl ?_
                        refine zr_goto (tgt := 78) dX7_full_74 (by decide) ?_
                        refine zr_istore_n (lv' := [_, _, _, _, _, _]) dX7_full_78 (rfl : 78 + 1 = 79) (Nat.le_of_ble_eq_true rfl) rfl ?_
                        refine zr_iinc (lv' := [_, _, _, _, _, _]) dX7_full_79 (rfl : 79 + 3 = 82) (Nat.le_of_ble_eq_true rfl) rfl (by first | exact jI_add _ _ | rfl) rfl ?_
                        refine zr_goto (tgt := 18) dX7_full_82 (by decide) ?_
                        refine hk2 _ _ _ ?_
                        first | (rw [if_pos ⟨by omega, by omega⟩]; exact hd) | (rw [if_neg (fun q => by omega)]; done)))))
      · intro a hx
        obtain ⟨x, o4, o5⟩ := a
        have hx : x = jmx B c 90 := hx
        rw [hx]
        simp only
        refine zr_iload_n dX7_full_18 (rfl : 18 + 1 = 19) rfl ?_
        refine zr_bipush dX7_full_19 (rfl : 19 + 2 = 21) (by decide) ?_
        refine zr_icmp_gt (tgt := 85) dX7_full_21 (by decide) (rfl : 21 + 3 = 24) (jI_lt (by first | omega | (simp only [bset, reduceIte, Nat.reduceEqDiff]; omega)) (by first | omega | (simp only [bset, reduceIte, Nat.reduceEqDiff]; omega)) (by first | omega | (simp only [bset, reduceIte, Nat.reduceEqDiff]; omega)) (by first | omega | (simp only [bset, reduceIte, Nat.reduceEqDiff]; omega))) (fun h21 => ?_) (fun h21 => ?_)
        · refine zr_iload_n dX7_full_85 (rfl : 85 + 1 = 86) rfl ?_
          refine zr_ireE dX7_full_86 rfl rfl ?_
          exact ⟨rfl, _, ag, rfl⟩
        · exfalso; omega
    refine zr_aload_n dX7_full_0 (rfl : 0 + 1 = 1) rfl ?_
    refine zr_iload_n dX7_full_1 (rfl : 1 + 1 = 2) rfl ?_
    refine zr_fnV dX7_full_2 (rfl : 2 + 3 = 5) l_X7_81 (m_isWhole c hc h ok lk) (by first | assumption | exact mw_167 | exact mw_168 | exact mw_169 | exact mw_170 | exact bk_0 | exact bk_1 | exact bk_2 | exact bk_3 | exact bk_4 | exact bk_5 | exact bk_6 | exact bk_7 | exact bk_8 | exact bk_9 | exact bk_10 | exact bk_11 | exact bk_12 | exact bk_13 | exact bk_14 | exact bk_15 | exact bk_16 | exact zup_self | exact (zup_ne (by first | assumption | omega)).trans (by first | assumption | exact zup_self) | exact (zup_ne (by first | assumption | omega)).trans ((zup_ne (by first | assumption | omega)).trans (by first | assumption | exact zup_self)) | exact (bk_out (by first | omega | (simp only [bset, reduceIte, Nat.reduceEqDiff]; omega))).trans (by first | exact bk_0 | exact bk_1 | exact bk_2 | exact bk_3 | exact bk_4 | exact bk_5 | exact bk_6 | exact bk_7 | exact bk_8 | exact bk_9 | exact bk_10 | exact bk_11 | exact bk_12 | exact bk_13 | exact bk_14 | exact bk_15 | exact bk_16 | exact cr_5 | exact cr_23 | exact cr_24 | exact cr_25 | exact cr_26 | exact cr_27 | exact cr_28 | exact cr_29 | exact cr_30 | assumption)) rfl rfl rfl (Nat.le_of_ble_eq_true rfl) ?_
    refine zr_if_ne (tgt := 10) dX7_full_5 (by decide) (rfl : 5 + 3 = 8) (by first | exact jb_iff | exact jI_z (by first | omega | (simp only [bset, reduceIte, Nat.reduceEqDiff]; omega)) (by first | omega | (simp only [bset, reduceIte, Nat.reduceEqDiff]; omega))) (fun h5 => ?_) (fun h5 => ?_)
    · first
      | (exfalso; omega)
      | (
        exact key)
    · first
      | (exfalso; omega)
      | (
        exfalso
        omega)
  · rw [if_neg hw]
    refine zFe.of_run (lv := [some (.ref 167), some (.int (jI c)), none, none, none, none]) (by decide) rfl (Nat.le_of_ble_eq_true rfl) rfl (fun n9 g9 => ?_)
    refine zr_aload_n dX7_full_0 (rfl : 0 + 1 = 1) rfl ?_
    refine zr_iload_n dX7_full_1 (rfl : 1 + 1 = 2) rfl ?_
    refine zr_fnV dX7_full_2 (rfl : 2 + 3 = 5) l_X7_81 (m_isWhole c hc h ok lk) (by first | assumption | exact mw_167 | exact mw_168 | exact mw_169 | exact mw_170 | exact bk_0 | exact bk_1 | exact bk_2 | exact bk_3 | exact bk_4 | exact bk_5 | exact bk_6 | exact bk_7 | exact bk_8 | exact bk_9 | exact bk_10 | exact bk_11 | exact bk_12 | exact bk_13 | exact bk_14 | exact bk_15 | exact bk_16 | exact zup_self | exact (zup_ne (by first | assumption | omega)).trans (by first | assumption | exact zup_self) | exact (zup_ne (by first | assumption | omega)).trans ((zup_ne (by first | assumption | omega)).trans (by first | assumption | exact zup_self)) | exact (bk_out (by first | omega | (simp only [bset, reduceIte, Nat.reduceEqDiff]; omega))).trans (by first | exact bk_0 | exact bk_1 | exact bk_2 | exact bk_3 | exact bk_4 | exact bk_5 | exact bk_6 | exact bk_7 | exact bk_8 | exact bk_9 | exact bk_10 | exact bk_11 | exact bk_12 | exact bk_13 | exact bk_14 | exact bk_15 | exact bk_16 | exact cr_5 | exact cr_23 | exact cr_24 | exact cr_25 | exact cr_26 | exact cr_27 | exact cr_28 | exact cr_29 | exact cr_30 | assumption)) rfl rfl rfl (Nat.le_of_ble_eq_true rfl) ?_
    refine zr_if_ne (tgt := 10) dX7_full_5 (by decide) (rfl : 5 + 3 = 8) (by first | exact jb_iff | exact jI_z (by first | omega | (simp only [bset, reduceIte, Nat.reduceEqDiff]; omega)) (by first | omega | (simp only [bset, reduceIte, Nat.reduceEqDiff]; omega))) (fun h5 => ?_) (fun h5 => ?_)
    · first
      | (exfalso; omega)
      | (
        exfalso
        omega)
    · first
      | (exfalso; omega)
      | (
        refine zr_iconst dX7_full_8 (rfl : 8 + 1 = 9) ?_
        refine zr_ireE dX7_full_9 rfl rfl ?_
        exact ⟨rfl, _, jagb.refl, rfl⟩)
theorem mr_tried {S' : Int → Int} (h : mr S 0 B) (ag : jagb 4446 S' S) (ok : jok B) : mr S' 0 B := by
  have hco := ok.ca
  have hq : jbq S' 0 S 0 := fun k k0 k1 => ag _ (by omega)
  exact mr.block (a := 0) (b := 0) hq h hco.2
theorem m_first (h : mr S 0 B) (ok : jok B) (lk : jlk B) : zFe Γ md_X7_first (d + 4) [.ref 167] (mw S st ik th tx ty w) (zMP (some (.int (jI (jff B 6).1))) (fun S' => jagb 4446 S' S) st ik th tx ty w) := by
  refine zFe.of_run (lv := [some (.ref 167), none, none, none, none]) (by decide) rfl (Nat.le_of_ble_eq_true rfl) rfl (fun n9 g9 => ?_)
  refine zr_iconst dX7_first_0 (rfl : 0 + 1 = 1) ?_
  refine zr_istore_n (lv' := [_, _, _, _, _]) dX7_first_1 (rfl : 1 + 1 = 2) (Nat.le_of_ble_eq_true rfl) rfl ?_
  refine zr_iconst dX7_first_2 (rfl : 2 + 1 = 3) ?_
  refine zr_istore_n (lv' := [_, _, _, _, _]) dX7_first_3 (rfl : 3 + 1 = 4) (Nat.le_of_ble_eq_true rfl) rfl ?_
  refine zr_iconst dX7_first_4 (rfl : 4 + 1 = 5) ?_
  refine zr_istore_n (lv' := [_, _, _, _, _]) dX7_first_5 (rfl : 5 + 1 = 6) (Nat.le_of_ble_eq_true rfl) rfl ?_
  refine zfor1 0 6 (fun i (a : (Int → Int) × Int × Int × Option Value) => jagb 4446 a.1 S ∧ a.2.1 = (jff B i.toNat).1 ∧ ((a.2.1 = -1 ∧ (jff B i.toNat).2 = 91) ∨ (0 ≤ a.2.1 ∧ a.2.1 < 6 ∧ a.2.2.1 = (jff B i.toNat).2 ∧ 1 ≤ a.2.2.1 ∧ a.2.2.1 ≤ 90))) (fun i a => [some (.ref 167), some (.int (jI a.2.1)), some (.int (jI a.2.2.1)), some (.int (jI i)), a.2.2.2]) (fun _ a => mw a.1 st ik th tx ty w) (S, -1, 0, none) ⟨jagb.refl, rfl, Or.inl ⟨rfl, rfl⟩⟩ ?_ ?_
  · intro i a i0 i1 hI hk
    obtain ⟨S1, f, l, o4⟩ := a
    obtain ⟨ag, hf, hl⟩ := hI
    simp only at ag hf hl ⊢
    have hk2 := fun (S2 : Int → Int) (x y : Int) (o : Option Value) => hk (S2, x, y, o)
    simp only at hk2
    clear hk
    have hm1 := mr_tried h ag ok
    have hlr := jlo_r (B := B) (od := jod B) (c := i) 90
    rw [show jlo (jod B) B i 90 = jlc B i from rfl] at hlr
    have hn : jff B (i + 1).toNat = if jcs (B 0) i = 15 ∧ jlc B i ≠ -1 ∧ jlc B i < (jff B i.toNat).2 then (i, jlc B i) else jff B i.toNat := by
      rw [show (i + 1).toNat = i.toNat + 1 by omega]
      show (if jcs (B 0) (i.toNat : Int) = 15 ∧ jlc B (i.toNat : Int) ≠ -1 ∧ jlc B (i.toNat : Int) < (jff B i.toNat).2 then ((i.toNat : Int), jlc B (i.toNat : Int)) else jff B i.toNat) = _
      rw [show (i.toNat : Int) = i by omega]
    rw [hn] at hk2
    generalize hJ : jff B i.toNat = J at hf hl hk2
    obtain ⟨Jf, Jl⟩ := J
    simp only at hf hl hk2
    subst hf
    have hv : ((if jcs (B 0) i = 15 then jlc B i else -1) = -1 ∧ ¬ (jcs (B 0) i = 15 ∧ jlc B i ≠ -1)) ∨ ((if jcs (B 0) i = 15 then jlc B i else -1) = jlc B i ∧ 1 ≤ jlc B i ∧ jlc B i ≤ 90 ∧ jcs (B 0) i = 15) := by
      by_cases hw : jcs (B 0) i = 15
      · rw [if_pos hw]
        omega
      · rw [if_neg hw]
        exact Or.inl ⟨rfl, fun q => hw q.1⟩
    have hfu := m_full (Γ := Γ) (d := d) (st := st) (ik := ik) (th := th) (tx := tx) (ty := ty) (w := w) i ⟨i0, by omega⟩ hm1 ok lk
    generalize (if jcs (B 0) i = 15 then jlc B i else -1) = V at hv hfu
    generalize jlc B i = LC at hv hk2 hlr
    clear hn hJ
    refine zr_iload_n dX7_first_6 (rfl : 6 + 1 = 7) rfl ?_
    refine zr_bipush dX7_first_7 (rfl : 7 + 2 = 9) (by decide) ?_
    refine zr_icmp_ge (tgt := 45) dX7_first_9 (by decide) (rfl : 9 + 3 = 12) (jI_le (by first | omega | (simp only [bset, reduceIte, Nat.reduceEqDiff]; omega)) (by first | omega | (simp only [bset, reduceIte, Nat.reduceEqDiff]; omega)) (by first | omega | (simp only [bset, reduceIte, Nat.reduceEqDiff]; omega)) (by first | omega | (simp only [bset, reduceIte, Nat.reduceEqDiff]; omega))) (fun h9 => ?_) (fun h9 => ?_)
    · exfalso; omega
    · refine zr_aload_n dX7_first_12 (rfl : 12 + 1 = 13) rfl ?_
      refine zr_iload_n dX7_first_13 (rfl : 13 + 1 = 14) rfl ?_
      refine zr_feV dX7_first_14 (rfl : 14 + 3 = 17) l_X7_181 (hfu) (by first | assumption | exact mw_167 | exact mw_168 | exact mw_169 | exact mw_170 | exact bk_0 | exact bk_1 | exact bk_2 | exact bk_3 | exact bk_4 | exact bk_5 | exact bk_6 | exact bk_7 | exact bk_8 | exact bk_9 | exact bk_10 | exact bk_11 | exact bk_12 | exact bk_13 | exact bk_14 | exact bk_15 | exact bk_16 | exact zup_self | exact (zup_ne (by first | assumption | omega)).trans (by first | assumption | exact zup_self) | exact (zup_ne (by first | assumption | omega)).trans ((zup_ne (by first | assumption | omega)).trans (by first | assumption | exact zup_self)) | exact (bk_out (by first | omega | (simp only [bset, reduceIte, Nat.reduceEqDiff]; omega))).trans (by first | exact bk_0 | exact bk_1 | exact bk_2 | exact bk_3 | exact bk_4 | exact bk_5 | exact bk_6 | exact bk_7 | exact bk_8 | exact bk_9 | exact bk_10 | exact bk_11 | exact bk_12 | exact bk_13 | exact bk_14 | exact bk_15 | exact bk_16 | exact cr_5 | exact cr_23 | exact cr_24 | exact cr_25 | exact cr_26 | exact cr_27 | exact cr_28 | exact cr_29 | exact cr_30 | assumption)) rfl rfl rfl (Nat.le_of_ble_eq_true rfl) ?_
      rintro _ _ ⟨rfl, S14, hS14, rfl⟩
      refine zr_istore (lv' := [_, _, _, _, _]) dX7_first_17 (rfl : 17 + 2 = 19) (Nat.le_of_ble_eq_true rfl) rfl ?_
      have ag2 := hS14.trans ag
      refine zr_iload dX7_first_19 (rfl : 19 + 2 = 21) rfl ?_
      refine zr_if_le (tgt := 39) dX7_first_21 (by decide) (rfl : 21 + 3 = 24) (jI_lez (by first | omega | (simp only [bset, reduceIte, Nat.reduceEqDiff]; omega)) (by first | omega | (simp only [bset, reduceIte, Nat.reduceEqDiff]; omega))) (fun h21 => ?_) (fun h21 => ?_)
      · first
        | (exfalso; omega)
        | (
          refine zr_iinc (lv' := [_, _, _, _, _]) dX7_first_39 (rfl : 39 + 3 = 42) (Nat.le_of_ble_eq_true rfl) rfl (by first | exact jI_add _ _ | rfl) rfl ?_
          refine zr_goto (tgt := 6) dX7_first_42 (by decide) ?_
          refine hk2 _ _ _ _ ⟨ag2, ?_, ?_⟩
          · first | (rw [if_pos ⟨by omega, by omega, by omega⟩]; done) | (rw [if_neg (fun q => by omega)]; done)
          · first | (rw [if_pos ⟨by omega, by omega, by omega⟩]; exact Or.inr ⟨by omega, by omega, by show _ = LC; omega, by omega, by omega⟩) | (rw [if_neg (fun q => by omega)]; exact hl))
      · first
        | (exfalso; omega)
        | (
          refine zr_iload_n dX7_first_24 (rfl : 24 + 1 = 25) rfl ?_
          refine zr_if_lt (tgt := 34) dX7_first_25 (by decide) (rfl : 25 + 3 = 28) (jI_ltz (by first | omega | (simp only [bset, reduceIte, Nat.reduceEqDiff]; omega)) (by first | omega | (simp only [bset, reduceIte, Nat.reduceEqDiff]; omega))) (fun h25 => ?_) (fun h25 => ?_)
          · first
            | (exfalso; omega)
            | (
              refine zr_iload_n dX7_first_34 (rfl : 34 + 1 = 35) rfl ?_
              refine zr_istore_n (lv' := [_, _, _, _, _]) dX7_first_35 (rfl : 35 + 1 = 36) (Nat.le_of_ble_eq_true rfl) rfl ?_
              refine zr_iload dX7_first_36 (rfl : 36 + 2 = 38) rfl ?_
              refine zr_istore_n (lv' := [_, _, _, _, _]) dX7_first_38 (rfl : 38 + 1 = 39) (Nat.le_of_ble_eq_true rfl) rfl ?_
              refine zr_iinc (lv' := [_, _, _, _, _]) dX7_first_39 (rfl : 39 + 3 = 42) (Nat.le_of_ble_eq_true rfl) rfl (by first | exact jI_add _ _ | rfl) rfl ?_
              refine zr_goto (tgt := 6) dX7_first_42 (by decide) ?_
              refine hk2 _ _ _ _ ⟨ag2, ?_, ?_⟩
              · first | (rw [if_pos ⟨by omega, by omega, by omega⟩]; done) | (rw [if_neg (fun q => by omega)]; done)
              · first | (rw [if_pos ⟨by omega, by omega, by omega⟩]; exact Or.inr ⟨by omega, by omega, by show _ = LC; omega, by omega, by omega⟩) | (rw [if_neg (fun q => by omega)]; exact hl))
          · first
            | (exfalso; omega)
            | (
              refine zr_iload dX7_first_28 (rfl : 28 + 2 = 30) rfl ?_
              refine zr_iload_n dX7_first_30 (rfl : 30 + 1 = 31) rfl ?_
              refine zr_icmp_ge (tgt := 39) dX7_first_31 (by decide) (rfl : 31 + 3 = 34) (jI_le (by first | omega | (simp only [bset, reduceIte, Nat.reduceEqDiff]; omega)) (by first | omega | (simp only [bset, reduceIte, Nat.reduceEqDiff]; omega)) (by first | omega | (simp only [bset, reduceIte, Nat.reduceEqDiff]; omega)) (by first | omega | (simp only [bset, reduceIte, Nat.reduceEqDiff]; omega))) (fun h31 => ?_) (fun h31 => ?_)
              · first
                | (exfalso; omega)
                | (
                  refine zr_iinc (lv' := [_, _, _, _, _]) dX7_first_39 (rfl : 39 + 3 = 42) (Nat.le_of_ble_eq_true rfl) rfl (by first | exact jI_add _ _ | rfl) rfl ?_
                  refine zr_goto (tgt := 6) dX7_first_42 (by decide) ?_
                  refine hk2 _ _ _ _ ⟨ag2, ?_, ?_⟩
                  · first | (rw [if_pos ⟨by omega, by omega, by omega⟩]; done) | (rw [if_neg (fun q => by omega)]; done)
                  · first | (rw [if_pos ⟨by omega, by omega, by omega⟩]; exact Or.inr ⟨by omega, by omega, by show _ = LC; omega, by omega, by omega⟩) | (rw [if_neg (fun q => by omega)]; exact hl))
              · first
                | (exfalso; omega)
                | (
                  refine zr_iload_n dX7_first_34 (rfl : 34 + 1 = 35) rfl ?_
                  refine zr_istore_n (lv' := [_, _, _, _, _]) dX7_first_35 (rfl : 35 + 1 = 36) (Nat.le_of_ble_eq_true rfl) rfl ?_
                  refine zr_iload dX7_first_36 (rfl : 36 + 2 = 38) rfl ?_
                  refine zr_istore_n (lv' := [_, _, _, _, _]) dX7_first_38 (rfl : 38 + 1 = 39) (Nat.le_of_ble_eq_true rfl) rfl ?_
                  refine zr_iinc (lv' := [_, _, _, _, _]) dX7_first_39 (rfl : 39 + 3 = 42) (Nat.le_of_ble_eq_true rfl) rfl (by first | exact jI_add _ _ | rfl) rfl ?_
                  refine zr_goto (tgt := 6) dX7_first_42 (by decide) ?_
                  refine hk2 _ _ _ _ ⟨ag2, ?_, ?_⟩
                  · first | (rw [if_pos ⟨by omega, by omega, by omega⟩]; done) | (rw [if_neg (fun q => by omega)]; done)
                  · first | (rw [if_pos ⟨by omega, by omega, by omega⟩]; exact Or.inr ⟨by omega, by omega, by show _ = LC; omega, by omega, by omega⟩) | (rw [if_neg (fun q => by omega)]; exact hl))))
  · intro a hI
    obtain ⟨S1, f, l, o4⟩ := a
    obtain ⟨ag, hf, hl⟩ := hI
    simp only at ag hf hl ⊢
    rw [show f = (jff B 6).1 from hf]
    refine zr_iload_n dX7_first_6 (rfl : 6 + 1 = 7) rfl ?_
    refine zr_bipush dX7_first_7 (rfl : 7 + 2 = 9) (by decide) ?_
    refine zr_icmp_ge (tgt := 45) dX7_first_9 (by decide) (rfl : 9 + 3 = 12) (jI_le (by first | omega | (simp only [bset, reduceIte, Nat.reduceEqDiff]; omega)) (by first | omega | (simp only [bset, reduceIte, Nat.reduceEqDiff]; omega)) (by first | omega | (simp only [bset, reduceIte, Nat.reduceEqDiff]; omega)) (by first | omega | (simp only [bset, reduceIte, Nat.reduceEqDiff]; omega))) (fun h9 => ?_) (fun h9 => ?_)
    · refine zr_iload_n dX7_first_45 (rfl : 45 + 1 = 46) rfl ?_
      refine zr_ireE dX7_first_46 rfl rfl ?_
      exact ⟨rfl, _, ag, rfl⟩
    · exfalso; omega
theorem m_nextBall (m : Int) (hm : 1 ≤ m ∧ m ≤ 90) (h : mr S 0 B) (ok : jok B) (lk : jlk B) : zFe Γ md_X7_nextBall (d + 3) [.ref 167, .int (jI m)] (mw S st ik th tx ty w) (zMP (some (.int (jI (jnb B m)))) (fun S' => jagb 4446 S' S) st ik th tx ty w) := by
  have hco := ok.ca
  have hds := ok.ds
  refine zFe.of_run (lv := [some (.ref 167), some (.int (jI m)), none]) (by decide) rfl (Nat.le_of_ble_eq_true rfl) rfl (fun n9 g9 => ?_)
  refine zr_aload_n dX7_nextBall_0 (rfl : 0 + 1 = 1) rfl ?_
  refine zr_feV dX7_nextBall_1 (rfl : 1 + 3 = 4) l_X7_178 (m_empties h ok lk) (by first | assumption | exact mw_167 | exact mw_168 | exact mw_169 | exact mw_170 | exact bk_0 | exact bk_1 | exact bk_2 | exact bk_3 | exact bk_4 | exact bk_5 | exact bk_6 | exact bk_7 | exact bk_8 | exact bk_9 | exact bk_10 | exact bk_11 | exact bk_12 | exact bk_13 | exact bk_14 | exact bk_15 | exact bk_16 | exact zup_self | exact (zup_ne (by first | assumption | omega)).trans (by first | assumption | exact zup_self) | exact (zup_ne (by first | assumption | omega)).trans ((zup_ne (by first | assumption | omega)).trans (by first | assumption | exact zup_self)) | exact (bk_out (by first | omega | (simp only [bset, reduceIte, Nat.reduceEqDiff]; omega))).trans (by first | exact bk_0 | exact bk_1 | exact bk_2 | exact bk_3 | exact bk_4 | exact bk_5 | exact bk_6 | exact bk_7 | exact bk_8 | exact bk_9 | exact bk_10 | exact bk_11 | exact bk_12 | exact bk_13 | exact bk_14 | exact bk_15 | exact bk_16 | exact cr_5 | exact cr_23 | exact cr_24 | exact cr_25 | exact cr_26 | exact cr_27 | exact cr_28 | exact cr_29 | exact cr_30 | assumption)) rfl rfl rfl (Nat.le_of_ble_eq_true rfl) ?_
  rintro _ _ ⟨rfl, S1, hS1, rfl⟩
  obtain ⟨ag, hm9⟩ := hS1
  have hca : S1 457 = B 12 0 := by
    rw [ag 457 (by omega)]
    exact h.ca0
  have hca9 := jall9_ca ok
  unfold jnb
  by_cases hB : B 4 0 < m
  · rw [if_pos hB]
    refine zr_aload_n dX7_nextBall_4 (rfl : 4 + 1 = 5) rfl ?_
    refine zr_getf dX7_nextBall_5 (rfl : 5 + 3 = 8) f_X7_7 (by first | assumption | exact mw_167 | exact mw_168 | exact mw_169 | exact mw_170 | exact bk_0 | exact bk_1 | exact bk_2 | exact bk_3 | exact bk_4 | exact bk_5 | exact bk_6 | exact bk_7 | exact bk_8 | exact bk_9 | exact bk_10 | exact bk_11 | exact bk_12 | exact bk_13 | exact bk_14 | exact bk_15 | exact bk_16 | exact zup_self | exact (zup_ne (by first | assumption | omega)).trans (by first | assumption | exact zup_self) | exact (zup_ne (by first | assumption | omega)).trans ((zup_ne (by first | assumption | omega)).trans (by first | assumption | exact zup_self)) | exact (bk_out (by first | omega | (simp only [bset, reduceIte, Nat.reduceEqDiff]; omega))).trans (by first | exact bk_0 | exact bk_1 | exact bk_2 | exact bk_3 | exact bk_4 | exact bk_5 | exact bk_6 | exact bk_7 | exact bk_8 | exact bk_9 | exact bk_10 | exact bk_11 | exact bk_12 | exact bk_13 | exact bk_14 | exact bk_15 | exact bk_16 | exact cr_5 | exact cr_23 | exact cr_24 | exact cr_25 | exact cr_26 | exact cr_27 | exact cr_28 | exact cr_29 | exact cr_30 | assumption)) rfl ?_
    refine zr_sipush dX7_nextBall_8 (rfl : 8 + 3 = 11) (by decide) ?_
    refine zr_iald dX7_nextBall_11 (rfl : 11 + 1 = 12) (by first | assumption | exact mw_167 | exact mw_168 | exact mw_169 | exact mw_170 | exact bk_0 | exact bk_1 | exact bk_2 | exact bk_3 | exact bk_4 | exact bk_5 | exact bk_6 | exact bk_7 | exact bk_8 | exact bk_9 | exact bk_10 | exact bk_11 | exact bk_12 | exact bk_13 | exact bk_14 | exact bk_15 | exact bk_16 | exact zup_self | exact (zup_ne (by first | assumption | omega)).trans (by first | assumption | exact zup_self) | exact (zup_ne (by first | assumption | omega)).trans ((zup_ne (by first | assumption | omega)).trans (by first | assumption | exact zup_self)) | exact (bk_out (by first | omega | (simp only [bset, reduceIte, Nat.reduceEqDiff]; omega))).trans (by first | exact bk_0 | exact bk_1 | exact bk_2 | exact bk_3 | exact bk_4 | exact bk_5 | exact bk_6 | exact bk_7 | exact bk_8 | exact bk_9 | exact bk_10 | exact bk_11 | exact bk_12 | exact bk_13 | exact bk_14 | exact bk_15 | exact bk_16 | exact cr_5 | exact cr_23 | exact cr_24 | exact cr_25 | exact cr_26 | exact cr_27 | exact cr_28 | exact cr_29 | exact cr_30 | assumption)) (by decide) (by first | omega | (simp only [bset, reduceIte, Nat.reduceEqDiff]; omega)) (by first | omega | (simp only [bset, reduceIte, Nat.reduceEqDiff]; omega)) ?_
    rw [hca]
    refine zr_iload_n dX7_nextBall_12 (rfl : 12 + 1 = 13) rfl ?_
    refine zr_iadd dX7_nextBall_13 (rfl : 13 + 1 = 14) (by first | exact jI_add _ _ | rfl) ?_
    refine zr_istore_n (lv' := [_, _, _]) dX7_nextBall_14 (rfl : 14 + 1 = 15) (Nat.le_of_ble_eq_true rfl) rfl ?_
    refine zr_iload_n dX7_nextBall_15 (rfl : 15 + 1 = 16) rfl ?_
    refine zr_bipush dX7_nextBall_16 (rfl : 16 + 2 = 18) (by decide) ?_
    refine zr_icmp_le (tgt := 25) dX7_nextBall_18 (by decide) (rfl : 18 + 3 = 21) (jI_le (by first | omega | (simp only [bset, reduceIte, Nat.reduceEqDiff]; omega)) (by first | omega | (simp only [bset, reduceIte, Nat.reduceEqDiff]; omega)) (by first | omega | (simp only [bset, reduceIte, Nat.reduceEqDiff]; omega)) (by first | omega | (simp only [bset, reduceIte, Nat.reduceEqDiff]; omega))) (fun h18 => ?_) (fun h18 => ?_)
    · first
      | (exfalso; omega)
      | (
        exfalso
        omega)
    · first
      | (exfalso; omega)
      | (
        refine zr_iconst dX7_nextBall_21 (rfl : 21 + 1 = 22) ?_
        refine zr_goto (tgt := 37) dX7_nextBall_22 (by decide) ?_
        refine zr_ireE dX7_nextBall_37 rfl rfl ?_
        exact ⟨rfl, _, ag, rfl⟩)
  · rw [if_neg hB]
    have hdr : S1 (4723 + (B 12 0 + m) - 1) = jball (jdrs (m - 1).toNat B) := by
      have h1 := hm9.dr (B 12 0 + m - 1) (by omega) (by omega)
      rw [jod_all ok (by omega)] at h1
      unfold jod at h1
      rw [if_neg (by omega), show B 12 0 + m - 1 - B 12 0 = m - 1 by omega] at h1
      rw [← h1]
      congr 1
      omega
    refine zr_aload_n dX7_nextBall_4 (rfl : 4 + 1 = 5) rfl ?_
    refine zr_getf dX7_nextBall_5 (rfl : 5 + 3 = 8) f_X7_7 (by first | assumption | exact mw_167 | exact mw_168 | exact mw_169 | exact mw_170 | exact bk_0 | exact bk_1 | exact bk_2 | exact bk_3 | exact bk_4 | exact bk_5 | exact bk_6 | exact bk_7 | exact bk_8 | exact bk_9 | exact bk_10 | exact bk_11 | exact bk_12 | exact bk_13 | exact bk_14 | exact bk_15 | exact bk_16 | exact zup_self | exact (zup_ne (by first | assumption | omega)).trans (by first | assumption | exact zup_self) | exact (zup_ne (by first | assumption | omega)).trans ((zup_ne (by first | assumption | omega)).trans (by first | assumption | exact zup_self)) | exact (bk_out (by first | omega | (simp only [bset, reduceIte, Nat.reduceEqDiff]; omega))).trans (by first | exact bk_0 | exact bk_1 | exact bk_2 | exact bk_3 | exact bk_4 | exact bk_5 | exact bk_6 | exact bk_7 | exact bk_8 | exact bk_9 | exact bk_10 | exact bk_11 | exact bk_12 | exact bk_13 | exact bk_14 | exact bk_15 | exact bk_16 | exact cr_5 | exact cr_23 | exact cr_24 | exact cr_25 | exact cr_26 | exact cr_27 | exact cr_28 | exact cr_29 | exact cr_30 | assumption)) rfl ?_
    refine zr_sipush dX7_nextBall_8 (rfl : 8 + 3 = 11) (by decide) ?_
    refine zr_iald dX7_nextBall_11 (rfl : 11 + 1 = 12) (by first | assumption | exact mw_167 | exact mw_168 | exact mw_169 | exact mw_170 | exact bk_0 | exact bk_1 | exact bk_2 | exact bk_3 | exact bk_4 | exact bk_5 | exact bk_6 | exact bk_7 | exact bk_8 | exact bk_9 | exact bk_10 | exact bk_11 | exact bk_12 | exact bk_13 | exact bk_14 | exact bk_15 | exact bk_16 | exact zup_self | exact (zup_ne (by first | assumption | omega)).trans (by first | assumption | exact zup_self) | exact (zup_ne (by first | assumption | omega)).trans ((zup_ne (by first | assumption | omega)).trans (by first | assumption | exact zup_self)) | exact (bk_out (by first | omega | (simp only [bset, reduceIte, Nat.reduceEqDiff]; omega))).trans (by first | exact bk_0 | exact bk_1 | exact bk_2 | exact bk_3 | exact bk_4 | exact bk_5 | exact bk_6 | exact bk_7 | exact bk_8 | exact bk_9 | exact bk_10 | exact bk_11 | exact bk_12 | exact bk_13 | exact bk_14 | exact bk_15 | exact bk_16 | exact cr_5 | exact cr_23 | exact cr_24 | exact cr_25 | exact cr_26 | exact cr_27 | exact cr_28 | exact cr_29 | exact cr_30 | assumption)) (by decide) (by first | omega | (simp only [bset, reduceIte, Nat.reduceEqDiff]; omega)) (by first | omega | (simp only [bset, reduceIte, Nat.reduceEqDiff]; omega)) ?_
    rw [hca]
    refine zr_iload_n dX7_nextBall_12 (rfl : 12 + 1 = 13) rfl ?_
    refine zr_iadd dX7_nextBall_13 (rfl : 13 + 1 = 14) (by first | exact jI_add _ _ | rfl) ?_
    refine zr_istore_n (lv' := [_, _, _]) dX7_nextBall_14 (rfl : 14 + 1 = 15) (Nat.le_of_ble_eq_true rfl) rfl ?_
    refine zr_iload_n dX7_nextBall_15 (rfl : 15 + 1 = 16) rfl ?_
    refine zr_bipush dX7_nextBall_16 (rfl : 16 + 2 = 18) (by decide) ?_
    refine zr_icmp_le (tgt := 25) dX7_nextBall_18 (by decide) (rfl : 18 + 3 = 21) (jI_le (by first | omega | (simp only [bset, reduceIte, Nat.reduceEqDiff]; omega)) (by first | omega | (simp only [bset, reduceIte, Nat.reduceEqDiff]; omega)) (by first | omega | (simp only [bset, reduceIte, Nat.reduceEqDiff]; omega)) (by first | omega | (simp only [bset, reduceIte, Nat.reduceEqDiff]; omega))) (fun h18 => ?_) (fun h18 => ?_)
    · first
      | (exfalso; omega)
      | (
        refine zr_aload_n dX7_nextBall_25 (rfl : 25 + 1 = 26) rfl ?_
        refine zr_getf dX7_nextBall_26 (rfl : 26 + 3 = 29) f_X7_7 (by first | assumption | exact mw_167 | exact mw_168 | exact mw_169 | exact mw_170 | exact bk_0 | exact bk_1 | exact bk_2 | exact bk_3 | exact bk_4 | exact bk_5 | exact bk_6 | exact bk_7 | exact bk_8 | exact bk_9 | exact bk_10 | exact bk_11 | exact bk_12 | exact bk_13 | exact bk_14 | exact bk_15 | exact bk_16 | exact zup_self | exact (zup_ne (by first | assumption | omega)).trans (by first | assumption | exact zup_self) | exact (zup_ne (by first | assumption | omega)).trans ((zup_ne (by first | assumption | omega)).trans (by first | assumption | exact zup_self)) | exact (bk_out (by first | omega | (simp only [bset, reduceIte, Nat.reduceEqDiff]; omega))).trans (by first | exact bk_0 | exact bk_1 | exact bk_2 | exact bk_3 | exact bk_4 | exact bk_5 | exact bk_6 | exact bk_7 | exact bk_8 | exact bk_9 | exact bk_10 | exact bk_11 | exact bk_12 | exact bk_13 | exact bk_14 | exact bk_15 | exact bk_16 | exact cr_5 | exact cr_23 | exact cr_24 | exact cr_25 | exact cr_26 | exact cr_27 | exact cr_28 | exact cr_29 | exact cr_30 | assumption)) rfl ?_
        refine zr_sipush dX7_nextBall_29 (rfl : 29 + 3 = 32) (by decide) ?_
        refine zr_iload_n dX7_nextBall_32 (rfl : 32 + 1 = 33) rfl ?_
        refine zr_iadd dX7_nextBall_33 (rfl : 33 + 1 = 34) (by first | exact jI_add _ _ | rfl) ?_
        refine zr_iconst dX7_nextBall_34 (rfl : 34 + 1 = 35) ?_
        refine zr_isub dX7_nextBall_35 (rfl : 35 + 1 = 36) (by first | exact jI_sub _ _ | rfl) ?_
        refine zr_iald dX7_nextBall_36 (rfl : 36 + 1 = 37) (by first | assumption | exact mw_167 | exact mw_168 | exact mw_169 | exact mw_170 | exact bk_0 | exact bk_1 | exact bk_2 | exact bk_3 | exact bk_4 | exact bk_5 | exact bk_6 | exact bk_7 | exact bk_8 | exact bk_9 | exact bk_10 | exact bk_11 | exact bk_12 | exact bk_13 | exact bk_14 | exact bk_15 | exact bk_16 | exact zup_self | exact (zup_ne (by first | assumption | omega)).trans (by first | assumption | exact zup_self) | exact (zup_ne (by first | assumption | omega)).trans ((zup_ne (by first | assumption | omega)).trans (by first | assumption | exact zup_self)) | exact (bk_out (by first | omega | (simp only [bset, reduceIte, Nat.reduceEqDiff]; omega))).trans (by first | exact bk_0 | exact bk_1 | exact bk_2 | exact bk_3 | exact bk_4 | exact bk_5 | exact bk_6 | exact bk_7 | exact bk_8 | exact bk_9 | exact bk_10 | exact bk_11 | exact bk_12 | exact bk_13 | exact bk_14 | exact bk_15 | exact bk_16 | exact cr_5 | exact cr_23 | exact cr_24 | exact cr_25 | exact cr_26 | exact cr_27 | exact cr_28 | exact cr_29 | exact cr_30 | assumption)) (by decide) (by first | omega | (simp only [bset, reduceIte, Nat.reduceEqDiff]; omega)) (by first | omega | (simp only [bset, reduceIte, Nat.reduceEqDiff]; omega)) ?_
        rw [hdr]
        refine zr_ireE dX7_nextBall_37 rfl rfl ?_
        exact ⟨rfl, _, ag, rfl⟩)
    · first
      | (exfalso; omega)
      | (
        exfalso
        omega)
theorem m_share (h : mr S 0 B) (ok : jok B) (lk : jlk B) (h2 : 0 ≤ B 2 0 ∧ B 2 0 ≤ 90) (h3 : 0 ≤ jdn B ∧ jdn B ≤ B 2 0) : zFn Γ md_X7_share (d + 3) [.ref 167] (mw S st ik th tx ty w) (some (.double (jsr B))) (mw S st ik th tx ty w) := by
  have hck := jck_sr h2 h3
  have hm := fun (c : Int) (hc : 0 ≤ c ∧ c < 6) => m_ofCard (Γ := Γ) (d := d) (st := st) (ik := ik) (th := th) (tx := tx) (ty := ty) (w := w) c 1 hc (by decide) h ok lk
  have o1 : ∀ c : Int, jorw B (c * 3 + 0) 1 + jorw B (c * 3 + 1) 1 + jorw B (c * 3 + 2) 1 = jmc (B 0) (B 7) c := by
    intro c
    unfold jmc jorw
    rw [show c * 3 + 0 = c * 3 by omega, show c * 3 + 1 + 1 = c * 3 + 2 by omega]
    rfl
  unfold jsr at hck ⊢
  refine zFn.of_run (lv := [some (.ref 167), none, none]) (by decide) rfl (Nat.le_of_ble_eq_true rfl) rfl (fun n9 g9 => ?_)
  refine zr_iconst dX7_share_0 (rfl : 0 + 1 = 1) ?_
  refine zr_istore_n (lv' := [_, _, _]) dX7_share_1 (rfl : 1 + 1 = 2) (Nat.le_of_ble_eq_true rfl) rfl ?_
  refine zr_iconst dX7_share_2 (rfl : 2 + 1 = 3) ?_
  refine zr_istore_n (lv' := [_, _, _]) dX7_share_3 (rfl : 3 + 1 = 4) (Nat.le_of_ble_eq_true rfl) rfl ?_
  refine zfor1 0 6 (fun i x => x = jdp B i.toNat) (fun i x => [some (.ref 167), some (.int (jI x)), some (.int (jI i))]) (fun _ _ => (mw S st ik th tx ty w)) 0 rfl ?_ ?_
  · intro i x i0 i1 hx hk
    have hmi := hm i ⟨i0, by omega⟩
    rw [o1] at hmi
    refine zr_iload_n dX7_share_4 (rfl : 4 + 1 = 5) rfl ?_
    refine zr_bipush dX7_share_5 (rfl : 5 + 2 = 7) (by decide) ?_
    refine zr_icmp_ge (tgt := 25) dX7_share_7 (by decide) (rfl : 7 + 3 = 10) (jI_le (by first | omega | (simp only [bset, reduceIte, Nat.reduceEqDiff]; omega)) (by first | omega | (simp only [bset, reduceIte, Nat.reduceEqDiff]; omega)) (by first | omega | (simp only [bset, reduceIte, Nat.reduceEqDiff]; omega)) (by first | omega | (simp only [bset, reduceIte, Nat.reduceEqDiff]; omega))) (fun h7 => ?_) (fun h7 => ?_)
    · exfalso; omega
    · refine zr_iload_n dX7_share_10 (rfl : 10 + 1 = 11) rfl ?_
      refine zr_aload_n dX7_share_11 (rfl : 11 + 1 = 12) rfl ?_
      refine zr_iload_n dX7_share_12 (rfl : 12 + 1 = 13) rfl ?_
      refine zr_iconst dX7_share_13 (rfl : 13 + 1 = 14) ?_
      refine zr_fnV dX7_share_14 (rfl : 14 + 3 = 17) l_X7_143 (hmi) (by first | assumption | exact mw_167 | exact mw_168 | exact mw_169 | exact mw_170 | exact bk_0 | exact bk_1 | exact bk_2 | exact bk_3 | exact bk_4 | exact bk_5 | exact bk_6 | exact bk_7 | exact bk_8 | exact bk_9 | exact bk_10 | exact bk_11 | exact bk_12 | exact bk_13 | exact bk_14 | exact bk_15 | exact bk_16 | exact zup_self | exact (zup_ne (by first | assumption | omega)).trans (by first | assumption | exact zup_self) | exact (zup_ne (by first | assumption | omega)).trans ((zup_ne (by first | assumption | omega)).trans (by first | assumption | exact zup_self)) | exact (bk_out (by first | omega | (simp only [bset, reduceIte, Nat.reduceEqDiff]; omega))).trans (by first | exact bk_0 | exact bk_1 | exact bk_2 | exact bk_3 | exact bk_4 | exact bk_5 | exact bk_6 | exact bk_7 | exact bk_8 | exact bk_9 | exact bk_10 | exact bk_11 | exact bk_12 | exact bk_13 | exact bk_14 | exact bk_15 | exact bk_16 | exact cr_5 | exact cr_23 | exact cr_24 | exact cr_25 | exact cr_26 | exact cr_27 | exact cr_28 | exact cr_29 | exact cr_30 | assumption)) rfl rfl rfl (Nat.le_of_ble_eq_true rfl) ?_
      refine zr_iadd dX7_share_17 (rfl : 17 + 1 = 18) (by first | exact jI_add _ _ | rfl) ?_
      refine zr_istore_n (lv' := [_, _, _]) dX7_share_18 (rfl : 18 + 1 = 19) (Nat.le_of_ble_eq_true rfl) rfl ?_
      refine zr_iinc (lv' := [_, _, _]) dX7_share_19 (rfl : 19 + 3 = 22) (Nat.le_of_ble_eq_true rfl) rfl (by first | exact jI_add _ _ | rfl) rfl ?_
      refine zr_goto (tgt := 4) dX7_share_22 (by decide) ?_
      refine hk _ ?_
      rw [show (i + 1).toNat = i.toNat + 1 by omega, hx]
      show _ = jdp B i.toNat + jmc (B 0) (B 7) (i.toNat : Int)
      rw [show (i.toNat : Int) = i by omega]
  · intro x hx
    rw [show x = jdn B from hx]
    refine zr_iload_n dX7_share_4 (rfl : 4 + 1 = 5) rfl ?_
    refine zr_bipush dX7_share_5 (rfl : 5 + 2 = 7) (by decide) ?_
    refine zr_icmp_ge (tgt := 25) dX7_share_7 (by decide) (rfl : 7 + 3 = 10) (jI_le (by first | omega | (simp only [bset, reduceIte, Nat.reduceEqDiff]; omega)) (by first | omega | (simp only [bset, reduceIte, Nat.reduceEqDiff]; omega)) (by first | omega | (simp only [bset, reduceIte, Nat.reduceEqDiff]; omega)) (by first | omega | (simp only [bset, reduceIte, Nat.reduceEqDiff]; omega))) (fun h7 => ?_) (fun h7 => ?_)
    · refine zr_aload_n dX7_share_25 (rfl : 25 + 1 = 26) rfl ?_
      refine zr_fnV dX7_share_26 (rfl : 26 + 3 = 29) l_X7_70 (m_inBook h ok lk) (by first | assumption | exact mw_167 | exact mw_168 | exact mw_169 | exact mw_170 | exact bk_0 | exact bk_1 | exact bk_2 | exact bk_3 | exact bk_4 | exact bk_5 | exact bk_6 | exact bk_7 | exact bk_8 | exact bk_9 | exact bk_10 | exact bk_11 | exact bk_12 | exact bk_13 | exact bk_14 | exact bk_15 | exact bk_16 | exact zup_self | exact (zup_ne (by first | assumption | omega)).trans (by first | assumption | exact zup_self) | exact (zup_ne (by first | assumption | omega)).trans ((zup_ne (by first | assumption | omega)).trans (by first | assumption | exact zup_self)) | exact (bk_out (by first | omega | (simp only [bset, reduceIte, Nat.reduceEqDiff]; omega))).trans (by first | exact bk_0 | exact bk_1 | exact bk_2 | exact bk_3 | exact bk_4 | exact bk_5 | exact bk_6 | exact bk_7 | exact bk_8 | exact bk_9 | exact bk_10 | exact bk_11 | exact bk_12 | exact bk_13 | exact bk_14 | exact bk_15 | exact bk_16 | exact cr_5 | exact cr_23 | exact cr_24 | exact cr_25 | exact cr_26 | exact cr_27 | exact cr_28 | exact cr_29 | exact cr_30 | assumption)) rfl rfl rfl (Nat.le_of_ble_eq_true rfl) ?_
      refine zr_if_ne (tgt := 36) dX7_share_29 (by decide) (rfl : 29 + 3 = 32) (by first | exact jb_iff | exact jI_z (by first | omega | (simp only [bset, reduceIte, Nat.reduceEqDiff]; omega)) (by first | omega | (simp only [bset, reduceIte, Nat.reduceEqDiff]; omega))) (fun h29 => ?_) (fun h29 => ?_)
      · rw [if_neg h29] at hck ⊢
        unfold jck at hck
        simp only [Bool.and_eq_true] at hck
        have hn := jn64_n hck.1.1
        refine zr_iload_n dX7_share_36 (rfl : 36 + 1 = 37) rfl ?_
        refine zr_i2d dX7_share_37 (rfl : 37 + 1 = 38) ?_
        refine zr_aload_n dX7_share_38 (rfl : 38 + 1 = 39) rfl ?_
        refine zr_fnV dX7_share_39 (rfl : 39 + 3 = 42) l_X7_70 (m_inBook h ok lk) (by first | assumption | exact mw_167 | exact mw_168 | exact mw_169 | exact mw_170 | exact bk_0 | exact bk_1 | exact bk_2 | exact bk_3 | exact bk_4 | exact bk_5 | exact bk_6 | exact bk_7 | exact bk_8 | exact bk_9 | exact bk_10 | exact bk_11 | exact bk_12 | exact bk_13 | exact bk_14 | exact bk_15 | exact bk_16 | exact zup_self | exact (zup_ne (by first | assumption | omega)).trans (by first | assumption | exact zup_self) | exact (zup_ne (by first | assumption | omega)).trans ((zup_ne (by first | assumption | omega)).trans (by first | assumption | exact zup_self)) | exact (bk_out (by first | omega | (simp only [bset, reduceIte, Nat.reduceEqDiff]; omega))).trans (by first | exact bk_0 | exact bk_1 | exact bk_2 | exact bk_3 | exact bk_4 | exact bk_5 | exact bk_6 | exact bk_7 | exact bk_8 | exact bk_9 | exact bk_10 | exact bk_11 | exact bk_12 | exact bk_13 | exact bk_14 | exact bk_15 | exact bk_16 | exact cr_5 | exact cr_23 | exact cr_24 | exact cr_25 | exact cr_26 | exact cr_27 | exact cr_28 | exact cr_29 | exact cr_30 | assumption)) rfl rfl rfl (Nat.le_of_ble_eq_true rfl) ?_
        refine zr_i2d dX7_share_42 (rfl : 42 + 1 = 43) ?_
        refine zr_ddiv dX7_share_43 (rfl : 43 + 1 = 44) hn ?_
        exact zr_dret dX7_share_44 rfl rfl rfl rfl rfl
      · rw [if_pos h29]
        refine zr_dconst0 dX7_share_32 (rfl : 32 + 1 = 33) ?_
        refine zr_goto (tgt := 44) dX7_share_33 (by decide) ?_
        exact zr_dret dX7_share_44 rfl rfl rfl rfl rfl
    · exfalso; omega
/-- the bounds of a share -/
theorem jsz_r (lk : jlk B) : 0 ≤ B 2 0 ∧ B 2 0 ≤ 90 := by
  have h1 := lk.sz
  have h2 := jall_r (jfree B)
  omega
end TR

