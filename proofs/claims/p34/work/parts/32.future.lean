/-! what would be drawn -/
theorem jdr1_lot (B : zB) : jdr1 B 24 0 = jlot (B 24 0) := by
  unfold jdr1
  split <;> rfl
theorem jdr1_ds (B : zB) : jdr1 B 4 0 = B 4 0 - 1 := by
  unfold jdr1
  split <;> rfl
theorem jdr1_nu (B : zB) : jdr1 B 3 = jtk (B 3) (B 4 0) (jlot (B 24 0) % B 4 0) := by
  unfold jdr1
  split <;> rfl
theorem jdrs_ds (B : zB) : ∀ n : Nat, jdrs n B 4 0 = B 4 0 - n
  | 0 => by simp [jdrs]
  | n + 1 => by
    show jdr1 (jdrs n B) 4 0 = _
    rw [jdr1_ds, jdrs_ds B n]
    omega
theorem jtk_congr {f g : Int → Int} {s k : Int} (h : ∀ z, 0 ≤ z → z < s → f z = g z) (hk : 0 ≤ k ∧ k < s) : ∀ z, 0 ≤ z → z < s - 1 → jtk f s k z = jtk g s k z := by
  intro z z0 z1
  unfold jtk jcpy
  split
  · exact h _ (by omega) (by omega)
  · exact h z z0 (by omega)
/-- the trial drum after k balls -/
def jt0 (B : zB) (τ : zTau) : zTau := (jcpy (B 3) τ.tf 0 0 (B 4 0), B 4 0, τ.od)
def jtn (B : zB) (τ : zTau) : Nat → zTau
  | 0 => jt0 B τ
  | k + 1 => (jtk (jtn B τ k).tf (jtn B τ k).ts (jlot (jdrs k B 24 0) % (jtn B τ k).ts), (jtn B τ k).ts - 1, (jtn B τ k).od)
section TN
variable {Γ : zΓ} {d : Nat} {σ : zC} {τ : zTau} {u w : zW} {B : zB}
theorem jtn_ts : ∀ k : Nat, (jtn B τ k).ts = B 4 0 - k
  | 0 => by show B 4 0 = B 4 0 - ((0 : Nat) : Int); omega
  | k + 1 => by
    show (jtn B τ k).ts - 1 = _
    rw [jtn_ts k]
    omega
theorem jtn_od : ∀ k : Nat, (jtn B τ k).od = τ.od
  | 0 => rfl
  | k + 1 => jtn_od k
theorem jtn_tf (hs : 0 ≤ B 4 0) : ∀ k : Nat, (k : Int) ≤ B 4 0 → ∀ z, 0 ≤ z → z < B 4 0 - k → (jtn B τ k).tf z = jdrs k B 3 z
  | 0, _, z, z0, z1 => jcpy_at ⟨z0, by omega⟩
  | k + 1, hk, z, z0, z1 => by
    have ih := jtn_tf hs k (by omega)
    show jtk (jtn B τ k).tf (jtn B τ k).ts (jlot (jdrs k B 24 0) % (jtn B τ k).ts) z = jdr1 (jdrs k B) 3 z
    rw [jdr1_nu, jtn_ts, jdrs_ds]
    exact jtk_congr ih ⟨Int.emod_nonneg _ (by omega), Int.emod_lt_of_pos _ (by omega)⟩ z z0 (by omega)
/-- a ball of the trial -/
theorem s_tryOut (k : Nat) (od : Int → Int) (ok : jok B) (hk : (k : Int) < B 4 0) : zFn Γ md_X2_takeOut (d + 1) [.ref 28, .int (jI (jlot (jdrs k B 24 0)))] (bk 6 B (cr σ ((jtn B τ k).1, (jtn B τ k).2.1, od) u)) (some (.int (jI (jball (jdrs k B))))) (bk 6 B (cr σ ((jtn B τ (k + 1)).1, (jtn B τ (k + 1)).2.1, od) u)) := by
  have hs := ok.ds
  have hc := ok.ca
  have ts := jtn_ts (B := B) (τ := τ) k
  have okk := jok_drs ok k (by omega)
  have hl := jlot_r okk.lo
  have h := s_takeOut (Γ := Γ) (d := d) (w := bk 6 B (cr σ ((jtn B τ k).1, (jtn B τ k).2.1, od) u)) (a := 28) (p := 29) (s := (jtn B τ k).ts) (f := (jtn B τ k).tf) (jlot (jdrs k B 24 0)) hl (by omega) (by decide) (cr_at (by omega) cr_28) (cr_at (by omega) cr_29)
  have e : (jtn B τ k).tf (jlot (jdrs k B 24 0) % (jtn B τ k).ts) = jball (jdrs k B) := by
    unfold jball
    rw [jtn_tf (by omega) k (by omega) _ (Int.emod_nonneg _ (by omega)) (by rw [← ts]; exact Int.emod_lt_of_pos _ (by omega)), ts, jdrs_ds]
  rw [e, cru_28, cru_29] at h
  exact h
theorem s_tryCopy (ok : jok B) : zFn Γ md_X2_copyFrom (d + 1) [.ref 28, .ref (6 + 5)] (bk 6 B (cr σ τ u)) none (bk 6 B (cr σ ((jtn B τ 0).1, (jtn B τ 0).2.1, τ.od) u)) := by
  have hs := ok.ds
  have hc := ok.ca
  have h := s_drumCopy (Γ := Γ) (d := d) (w := bk 6 B (cr σ τ u)) (a := 28) (p := 29) (s := τ.ts) (f := τ.tf) (a2 := 6 + 5) (p2 := 6 + 6) (f2 := B 3) (s2 := B 4 0) (by omega) (by decide) (cr_at (by omega) cr_28) (cr_at (by omega) cr_29) bk_5 bk_6 (by decide)
  rw [cru_29, cru_28] at h
  exact h
theorem t_next1 (m : Int) (hm : j32 m) (h : ¬ (1 ≤ m ∧ m ≤ 90)) : zThr Γ md_X6_next (d + 7) [.ref 5, .int (jI m)] w zIAE := by
  refine zThr.of_run (lv := [some (.ref 5), some (.int (jI m)), none, none, none]) (by decide) rfl (Nat.le_of_ble_eq_true rfl) rfl (fun n9 g9 => ?_)
  refine zr_iload_n dX6_next_0 (rfl : 0 + 1 = 1) rfl ?_
  refine zr_iconst dX6_next_1 (rfl : 1 + 1 = 2) ?_
  refine zr_icmp_lt (tgt := 15) dX6_next_2 (by decide) (rfl : 2 + 3 = 5) (jI_lt (by first | omega | (simp only [bset, reduceIte, Nat.reduceEqDiff]; omega)) (by first | omega | (simp only [bset, reduceIte, Nat.reduceEqDiff]; omega)) (by first | omega | (simp only [bset, reduceIte, Nat.reduceEqDiff]; omega)) (by first | omega | (simp only [bset, reduceIte, Nat.reduceEqDiff]; omega))) (fun h2 => ?_) (fun h2 => ?_)
  · first
    | (exfalso; omega)
    | (
      refine zr_iconst dX6_next_15 (rfl : 15 + 1 = 16) ?_
      refine zr_thS dX6_next_16 l_X6_59 (t_needValue) rfl rfl (Nat.le_of_ble_eq_true rfl) (Nat.le_of_ble_eq_true rfl) (Nat.le_of_ble_eq_true rfl) ?_
      exact zr_raised rfl)
  · first
    | (exfalso; omega)
    | (
      refine zr_iload_n dX6_next_5 (rfl : 5 + 1 = 6) rfl ?_
      refine zr_bipush dX6_next_6 (rfl : 6 + 2 = 8) (by decide) ?_
      refine zr_icmp_gt (tgt := 15) dX6_next_8 (by decide) (rfl : 8 + 3 = 11) (jI_lt (by first | omega | (simp only [bset, reduceIte, Nat.reduceEqDiff]; omega)) (by first | omega | (simp only [bset, reduceIte, Nat.reduceEqDiff]; omega)) (by first | omega | (simp only [bset, reduceIte, Nat.reduceEqDiff]; omega)) (by first | omega | (simp only [bset, reduceIte, Nat.reduceEqDiff]; omega))) (fun h8 => ?_) (fun h8 => ?_)
      · first
        | (exfalso; omega)
        | (
          refine zr_iconst dX6_next_15 (rfl : 15 + 1 = 16) ?_
          refine zr_thS dX6_next_16 l_X6_59 (t_needValue) rfl rfl (Nat.le_of_ble_eq_true rfl) (Nat.le_of_ble_eq_true rfl) (Nat.le_of_ble_eq_true rfl) ?_
          exact zr_raised rfl)
      · first
        | (exfalso; omega)
        | (
          refine zr_iconst dX6_next_11 (rfl : 11 + 1 = 12) ?_
          refine zr_goto (tgt := 16) dX6_next_12 (by decide) ?_
          refine zr_thS dX6_next_16 l_X6_59 (t_needValue) rfl rfl (Nat.le_of_ble_eq_true rfl) (Nat.le_of_ble_eq_true rfl) (Nat.le_of_ble_eq_true rfl) ?_
          exact zr_raised rfl))
def jnb (B : zB) (m : Int) : Int := if B 4 0 < m then -1 else jball (jdrs (m - 1).toNat B)
theorem s_next (m : Int) (h : 1 ≤ m ∧ m ≤ 90) (ok : jok B) : ∃ τ', zFn Γ md_X6_next (d + 5) [.ref 5, .int (jI m)] (bk 6 B (cr σ τ u)) (some (.int (jI (jnb B m)))) (bk 6 B (cr σ τ' u)) := by
  have hs := ok.ds
  have hc := ok.ca
  by_cases hm : B 4 0 < m
  · refine ⟨τ, ?_⟩
    unfold jnb
    rw [if_pos hm]
    refine zFn.of_run (lv := [some (.ref 5), some (.int (jI m)), none, none, none]) (by decide) rfl (Nat.le_of_ble_eq_true rfl) rfl (fun n9 g9 => ?_)
    refine zr_iload_n dX6_next_0 (rfl : 0 + 1 = 1) rfl ?_
    refine zr_iconst dX6_next_1 (rfl : 1 + 1 = 2) ?_
    refine zr_icmp_lt (tgt := 15) dX6_next_2 (by decide) (rfl : 2 + 3 = 5) (jI_lt (by first | omega | (simp only [bset, reduceIte, Nat.reduceEqDiff]; omega)) (by first | omega | (simp only [bset, reduceIte, Nat.reduceEqDiff]; omega)) (by first | omega | (simp only [bset, reduceIte, Nat.reduceEqDiff]; omega)) (by first | omega | (simp only [bset, reduceIte, Nat.reduceEqDiff]; omega))) (fun h2 => ?_) (fun h2 => ?_)
    · first
      | (exfalso; omega)
      | (
        refine zr_iconst dX6_next_15 (rfl : 15 + 1 = 16) ?_
        refine zr_fnS dX6_next_16 (rfl : 16 + 3 = 19) l_X6_59 (s_needValue) rfl rfl (Nat.le_of_ble_eq_true rfl) ?_
        refine zr_iload_n dX6_next_19 (rfl : 19 + 1 = 20) rfl ?_
        refine zr_aload_n dX6_next_20 (rfl : 20 + 1 = 21) rfl ?_
        refine zr_getf dX6_next_21 (rfl : 21 + 3 = 24) f_X6_10 (by first | assumption | exact mw_167 | exact mw_168 | exact mw_169 | exact mw_170 | exact bk_0 | exact bk_1 | exact bk_2 | exact bk_3 | exact bk_4 | exact bk_5 | exact bk_6 | exact bk_7 | exact bk_8 | exact bk_9 | exact bk_10 | exact bk_11 | exact bk_12 | exact bk_13 | exact bk_14 | exact bk_15 | exact bk_16 | exact zup_self | exact (zup_ne (by first | assumption | omega)).trans (by first | assumption | exact zup_self) | exact (zup_ne (by first | assumption | omega)).trans ((zup_ne (by first | assumption | omega)).trans (by first | assumption | exact zup_self)) | exact (bk_out (by first | omega | (simp only [bset, reduceIte, Nat.reduceEqDiff]; omega))).trans (by first | exact bk_0 | exact bk_1 | exact bk_2 | exact bk_3 | exact bk_4 | exact bk_5 | exact bk_6 | exact bk_7 | exact bk_8 | exact bk_9 | exact bk_10 | exact bk_11 | exact bk_12 | exact bk_13 | exact bk_14 | exact bk_15 | exact bk_16 | exact cr_5 | exact cr_23 | exact cr_24 | exact cr_25 | exact cr_26 | exact cr_27 | exact cr_28 | exact cr_29 | exact cr_30 | assumption)) rfl ?_
        refine zr_getf dX6_next_24 (rfl : 24 + 3 = 27) f_X6_78 (by first | assumption | exact mw_167 | exact mw_168 | exact mw_169 | exact mw_170 | exact bk_0 | exact bk_1 | exact bk_2 | exact bk_3 | exact bk_4 | exact bk_5 | exact bk_6 | exact bk_7 | exact bk_8 | exact bk_9 | exact bk_10 | exact bk_11 | exact bk_12 | exact bk_13 | exact bk_14 | exact bk_15 | exact bk_16 | exact zup_self | exact (zup_ne (by first | assumption | omega)).trans (by first | assumption | exact zup_self) | exact (zup_ne (by first | assumption | omega)).trans ((zup_ne (by first | assumption | omega)).trans (by first | assumption | exact zup_self)) | exact (bk_out (by first | omega | (simp only [bset, reduceIte, Nat.reduceEqDiff]; omega))).trans (by first | exact bk_0 | exact bk_1 | exact bk_2 | exact bk_3 | exact bk_4 | exact bk_5 | exact bk_6 | exact bk_7 | exact bk_8 | exact bk_9 | exact bk_10 | exact bk_11 | exact bk_12 | exact bk_13 | exact bk_14 | exact bk_15 | exact bk_16 | exact cr_5 | exact cr_23 | exact cr_24 | exact cr_25 | exact cr_26 | exact cr_27 | exact cr_28 | exact cr_29 | exact cr_30 | assumption)) rfl ?_
        refine zr_getf dX6_next_27 (rfl : 27 + 3 = 30) f_X6_121 (by first | assumption | exact mw_167 | exact mw_168 | exact mw_169 | exact mw_170 | exact bk_0 | exact bk_1 | exact bk_2 | exact bk_3 | exact bk_4 | exact bk_5 | exact bk_6 | exact bk_7 | exact bk_8 | exact bk_9 | exact bk_10 | exact bk_11 | exact bk_12 | exact bk_13 | exact bk_14 | exact bk_15 | exact bk_16 | exact zup_self | exact (zup_ne (by first | assumption | omega)).trans (by first | assumption | exact zup_self) | exact (zup_ne (by first | assumption | omega)).trans ((zup_ne (by first | assumption | omega)).trans (by first | assumption | exact zup_self)) | exact (bk_out (by first | omega | (simp only [bset, reduceIte, Nat.reduceEqDiff]; omega))).trans (by first | exact bk_0 | exact bk_1 | exact bk_2 | exact bk_3 | exact bk_4 | exact bk_5 | exact bk_6 | exact bk_7 | exact bk_8 | exact bk_9 | exact bk_10 | exact bk_11 | exact bk_12 | exact bk_13 | exact bk_14 | exact bk_15 | exact bk_16 | exact cr_5 | exact cr_23 | exact cr_24 | exact cr_25 | exact cr_26 | exact cr_27 | exact cr_28 | exact cr_29 | exact cr_30 | assumption)) rfl ?_
        refine zr_getf dX6_next_30 (rfl : 30 + 3 = 33) f_X6_124 (by first | assumption | exact mw_167 | exact mw_168 | exact mw_169 | exact mw_170 | exact bk_0 | exact bk_1 | exact bk_2 | exact bk_3 | exact bk_4 | exact bk_5 | exact bk_6 | exact bk_7 | exact bk_8 | exact bk_9 | exact bk_10 | exact bk_11 | exact bk_12 | exact bk_13 | exact bk_14 | exact bk_15 | exact bk_16 | exact zup_self | exact (zup_ne (by first | assumption | omega)).trans (by first | assumption | exact zup_self) | exact (zup_ne (by first | assumption | omega)).trans ((zup_ne (by first | assumption | omega)).trans (by first | assumption | exact zup_self)) | exact (bk_out (by first | omega | (simp only [bset, reduceIte, Nat.reduceEqDiff]; omega))).trans (by first | exact bk_0 | exact bk_1 | exact bk_2 | exact bk_3 | exact bk_4 | exact bk_5 | exact bk_6 | exact bk_7 | exact bk_8 | exact bk_9 | exact bk_10 | exact bk_11 | exact bk_12 | exact bk_13 | exact bk_14 | exact bk_15 | exact bk_16 | exact cr_5 | exact cr_23 | exact cr_24 | exact cr_25 | exact cr_26 | exact cr_27 | exact cr_28 | exact cr_29 | exact cr_30 | assumption)) rfl ?_
        refine zr_icmp_le (tgt := 38) dX6_next_33 (by decide) (rfl : 33 + 3 = 36) (jI_le (by first | omega | (simp only [bset, reduceIte, Nat.reduceEqDiff]; omega)) (by first | omega | (simp only [bset, reduceIte, Nat.reduceEqDiff]; omega)) (by first | omega | (simp only [bset, reduceIte, Nat.reduceEqDiff]; omega)) (by first | omega | (simp only [bset, reduceIte, Nat.reduceEqDiff]; omega))) (fun h33 => ?_) (fun h33 => ?_)
        · first
          | (exfalso; omega)
          | (
            exfalso
            omega)
        · first
          | (exfalso; omega)
          | (
            refine zr_iconst dX6_next_36 (rfl : 36 + 1 = 37) ?_
            refine zr_iret dX6_next_37 rfl rfl ?_ rfl rfl rfl
            first | rfl | rw [jb_pos (by first | assumption | omega)] | rw [jb_neg (by first | assumption | omega)] | rw [if_pos (by first | assumption | omega)] | rw [if_neg (by first | assumption | omega)]))
    · first
      | (exfalso; omega)
      | (
        refine zr_iload_n dX6_next_5 (rfl : 5 + 1 = 6) rfl ?_
        refine zr_bipush dX6_next_6 (rfl : 6 + 2 = 8) (by decide) ?_
        refine zr_icmp_gt (tgt := 15) dX6_next_8 (by decide) (rfl : 8 + 3 = 11) (jI_lt (by first | omega | (simp only [bset, reduceIte, Nat.reduceEqDiff]; omega)) (by first | omega | (simp only [bset, reduceIte, Nat.reduceEqDiff]; omega)) (by first | omega | (simp only [bset, reduceIte, Nat.reduceEqDiff]; omega)) (by first | omega | (simp only [bset, reduceIte, Nat.reduceEqDiff]; omega))) (fun h8 => ?_) (fun h8 => ?_)
        · first
          | (exfalso; omega)
          | (
            refine zr_iconst dX6_next_15 (rfl : 15 + 1 = 16) ?_
            refine zr_fnS dX6_next_16 (rfl : 16 + 3 = 19) l_X6_59 (s_needValue) rfl rfl (Nat.le_of_ble_eq_true rfl) ?_
            refine zr_iload_n dX6_next_19 (rfl : 19 + 1 = 20) rfl ?_
            refine zr_aload_n dX6_next_20 (rfl : 20 + 1 = 21) rfl ?_
            refine zr_getf dX6_next_21 (rfl : 21 + 3 = 24) f_X6_10 (by first | assumption | exact mw_167 | exact mw_168 | exact mw_169 | exact mw_170 | exact bk_0 | exact bk_1 | exact bk_2 | exact bk_3 | exact bk_4 | exact bk_5 | exact bk_6 | exact bk_7 | exact bk_8 | exact bk_9 | exact bk_10 | exact bk_11 | exact bk_12 | exact bk_13 | exact bk_14 | exact bk_15 | exact bk_16 | exact zup_self | exact (zup_ne (by first | assumption | omega)).trans (by first | assumption | exact zup_self) | exact (zup_ne (by first | assumption | omega)).trans ((zup_ne (by first | assumption | omega)).trans (by first | assumption | exact zup_self)) | exact (bk_out (by first | omega | (simp only [bset, reduceIte, Nat.reduceEqDiff]; omega))).trans (by first | exact bk_0 | exact bk_1 | exact bk_2 | exact bk_3 | exact bk_4 | exact bk_5 | exact bk_6 | exact bk_7 | exact bk_8 | exact bk_9 | exact bk_10 | exact bk_11 | exact bk_12 | exact bk_13 | exact bk_14 | exact bk_15 | exact bk_16 | exact cr_5 | exact cr_23 | exact cr_24 | exact cr_25 | exact cr_26 | exact cr_27 | exact cr_28 | exact cr_29 | exact cr_30 | assumption)) rfl ?_
            refine zr_getf dX6_next_24 (rfl : 24 + 3 = 27) f_X6_78 (by first | assumption | exact mw_167 | exact mw_168 | exact mw_169 | exact mw_170 | exact bk_0 | exact bk_1 | exact bk_2 | exact bk_3 | exact bk_4 | exact bk_5 | exact bk_6 | exact bk_7 | exact bk_8 | exact bk_9 | exact bk_10 | exact bk_11 | exact bk_12 | exact bk_13 | exact bk_14 | exact bk_15 | exact bk_16 | exact zup_self | exact (zup_ne (by first | assumption | omega)).trans (by first | assumption | exact zup_self) | exact (zup_ne (by first | assumption | omega)).trans ((zup_ne (by first | assumption | omega)).trans (by first | assumption | exact zup_self)) | exact (bk_out (by first | omega | (simp only [bset, reduceIte, Nat.reduceEqDiff]; omega))).trans (by first | exact bk_0 | exact bk_1 | exact bk_2 | exact bk_3 | exact bk_4 | exact bk_5 | exact bk_6 | exact bk_7 | exact bk_8 | exact bk_9 | exact bk_10 | exact bk_11 | exact bk_12 | exact bk_13 | exact bk_14 | exact bk_15 | exact bk_16 | exact cr_5 | exact cr_23 | exact cr_24 | exact cr_25 | exact cr_26 | exact cr_27 | exact cr_28 | exact cr_29 | exact cr_30 | assumption)) rfl ?_
            refine zr_getf dX6_next_27 (rfl : 27 + 3 = 30) f_X6_121 (by first | assumption | exact mw_167 | exact mw_168 | exact mw_169 | exact mw_170 | exact bk_0 | exact bk_1 | exact bk_2 | exact bk_3 | exact bk_4 | exact bk_5 | exact bk_6 | exact bk_7 | exact bk_8 | exact bk_9 | exact bk_10 | exact bk_11 | exact bk_12 | exact bk_13 | exact bk_14 | exact bk_15 | exact bk_16 | exact zup_self | exact (zup_ne (by first | assumption | omega)).trans (by first | assumption | exact zup_self) | exact (zup_ne (by first | assumption | omega)).trans ((zup_ne (by first | assumption | omega)).trans (by first | assumption | exact zup_self)) | exact (bk_out (by first | omega | (simp only [bset, reduceIte, Nat.reduceEqDiff]; omega))).trans (by first | exact bk_0 | exact bk_1 | exact bk_2 | exact bk_3 | exact bk_4 | exact bk_5 | exact bk_6 | exact bk_7 | exact bk_8 | exact bk_9 | exact bk_10 | exact bk_11 | exact bk_12 | exact bk_13 | exact bk_14 | exact bk_15 | exact bk_16 | exact cr_5 | exact cr_23 | exact cr_24 | exact cr_25 | exact cr_26 | exact cr_27 | exact cr_28 | exact cr_29 | exact cr_30 | assumption)) rfl ?_
            refine zr_getf dX6_next_30 (rfl : 30 + 3 = 33) f_X6_124 (by first | assumption | exact mw_167 | exact mw_168 | exact mw_169 | exact mw_170 | exact bk_0 | exact bk_1 | exact bk_2 | exact bk_3 | exact bk_4 | exact bk_5 | exact bk_6 | exact bk_7 | exact bk_8 | exact bk_9 | exact bk_10 | exact bk_11 | exact bk_12 | exact bk_13 | exact bk_14 | exact bk_15 | exact bk_16 | exact zup_self | exact (zup_ne (by first | assumption | omega)).trans (by first | assumption | exact zup_self) | exact (zup_ne (by first | assumption | omega)).trans ((zup_ne (by first | assumption | omega)).trans (by first | assumption | exact zup_self)) | exact (bk_out (by first | omega | (simp only [bset, reduceIte, Nat.reduceEqDiff]; omega))).trans (by first | exact bk_0 | exact bk_1 | exact bk_2 | exact bk_3 | exact bk_4 | exact bk_5 | exact bk_6 | exact bk_7 | exact bk_8 | exact bk_9 | exact bk_10 | exact bk_11 | exact bk_12 | exact bk_13 | exact bk_14 | exact bk_15 | exact bk_16 | exact cr_5 | exact cr_23 | exact cr_24 | exact cr_25 | exact cr_26 | exact cr_27 | exact cr_28 | exact cr_29 | exact cr_30 | assumption)) rfl ?_
            refine zr_icmp_le (tgt := 38) dX6_next_33 (by decide) (rfl : 33 + 3 = 36) (jI_le (by first | omega | (simp only [bset, reduceIte, Nat.reduceEqDiff]; omega)) (by first | omega | (simp only [bset, reduceIte, Nat.reduceEqDiff]; omega)) (by first | omega | (simp only [bset, reduceIte, Nat.reduceEqDiff]; omega)) (by first | omega | (simp only [bset, reduceIte, Nat.reduceEqDiff]; omega))) (fun h33 => ?_) (fun h33 => ?_)
            · first
              | (exfalso; omega)
              | (
                exfalso
                omega)
            · first
              | (exfalso; omega)
              | (
                refine zr_iconst dX6_next_36 (rfl : 36 + 1 = 37) ?_
                refine zr_iret dX6_next_37 rfl rfl ?_ rfl rfl rfl
                first | rfl | rw [jb_pos (by first | assumption | omega)] | rw [jb_neg (by first | assumption | omega)] | rw [if_pos (by first | assumption | omega)] | rw [if_neg (by first | assumption | omega)]))
        · first
          | (exfalso; omega)
          | (
            refine zr_iconst dX6_next_11 (rfl : 11 + 1 = 12) ?_
            refine zr_goto (tgt := 16) dX6_next_12 (by decide) ?_
            refine zr_fnS dX6_next_16 (rfl : 16 + 3 = 19) l_X6_59 (s_needValue) rfl rfl (Nat.le_of_ble_eq_true rfl) ?_
            refine zr_iload_n dX6_next_19 (rfl : 19 + 1 = 20) rfl ?_
            refine zr_aload_n dX6_next_20 (rfl : 20 + 1 = 21) rfl ?_
            refine zr_getf dX6_next_21 (rfl : 21 + 3 = 24) f_X6_10 (by first | assumption | exact mw_167 | exact mw_168 | exact mw_169 | exact mw_170 | exact bk_0 | exact bk_1 | exact bk_2 | exact bk_3 | exact bk_4 | exact bk_5 | exact bk_6 | exact bk_7 | exact bk_8 | exact bk_9 | exact bk_10 | exact bk_11 | exact bk_12 | exact bk_13 | exact bk_14 | exact bk_15 | exact bk_16 | exact zup_self | exact (zup_ne (by first | assumption | omega)).trans (by first | assumption | exact zup_self) | exact (zup_ne (by first | assumption | omega)).trans ((zup_ne (by first | assumption | omega)).trans (by first | assumption | exact zup_self)) | exact (bk_out (by first | omega | (simp only [bset, reduceIte, Nat.reduceEqDiff]; omega))).trans (by first | exact bk_0 | exact bk_1 | exact bk_2 | exact bk_3 | exact bk_4 | exact bk_5 | exact bk_6 | exact bk_7 | exact bk_8 | exact bk_9 | exact bk_10 | exact bk_11 | exact bk_12 | exact bk_13 | exact bk_14 | exact bk_15 | exact bk_16 | exact cr_5 | exact cr_23 | exact cr_24 | exact cr_25 | exact cr_26 | exact cr_27 | exact cr_28 | exact cr_29 | exact cr_30 | assumption)) rfl ?_
            refine zr_getf dX6_next_24 (rfl : 24 + 3 = 27) f_X6_78 (by first | assumption | exact mw_167 | exact mw_168 | exact mw_169 | exact mw_170 | exact bk_0 | exact bk_1 | exact bk_2 | exact bk_3 | exact bk_4 | exact bk_5 | exact bk_6 | exact bk_7 | exact bk_8 | exact bk_9 | exact bk_10 | exact bk_11 | exact bk_12 | exact bk_13 | exact bk_14 | exact bk_15 | exact bk_16 | exact zup_self | exact (zup_ne (by first | assumption | omega)).trans (by first | assumption | exact zup_self) | exact (zup_ne (by first | assumption | omega)).trans ((zup_ne (by first | assumption | omega)).trans (by first | assumption | exact zup_self)) | exact (bk_out (by first | omega | (simp only [bset, reduceIte, Nat.reduceEqDiff]; omega))).trans (by first | exact bk_0 | exact bk_1 | exact bk_2 | exact bk_3 | exact bk_4 | exact bk_5 | exact bk_6 | exact bk_7 | exact bk_8 | exact bk_9 | exact bk_10 | exact bk_11 | exact bk_12 | exact bk_13 | exact bk_14 | exact bk_15 | exact bk_16 | exact cr_5 | exact cr_23 | exact cr_24 | exact cr_25 | exact cr_26 | exact cr_27 | exact cr_28 | exact cr_29 | exact cr_30 | assumption)) rfl ?_
            refine zr_getf dX6_next_27 (rfl : 27 + 3 = 30) f_X6_121 (by first | assumption | exact mw_167 | exact mw_168 | exact mw_169 | exact mw_170 | exact bk_0 | exact bk_1 | exact bk_2 | exact bk_3 | exact bk_4 | exact bk_5 | exact bk_6 | exact bk_7 | exact bk_8 | exact bk_9 | exact bk_10 | exact bk_11 | exact bk_12 | exact bk_13 | exact bk_14 | exact bk_15 | exact bk_16 | exact zup_self | exact (zup_ne (by first | assumption | omega)).trans (by first | assumption | exact zup_self) | exact (zup_ne (by first | assumption | omega)).trans ((zup_ne (by first | assumption | omega)).trans (by first | assumption | exact zup_self)) | exact (bk_out (by first | omega | (simp only [bset, reduceIte, Nat.reduceEqDiff]; omega))).trans (by first | exact bk_0 | exact bk_1 | exact bk_2 | exact bk_3 | exact bk_4 | exact bk_5 | exact bk_6 | exact bk_7 | exact bk_8 | exact bk_9 | exact bk_10 | exact bk_11 | exact bk_12 | exact bk_13 | exact bk_14 | exact bk_15 | exact bk_16 | exact cr_5 | exact cr_23 | exact cr_24 | exact cr_25 | exact cr_26 | exact cr_27 | exact cr_28 | exact cr_29 | exact cr_30 | assumption)) rfl ?_
            refine zr_getf dX6_next_30 (rfl : 30 + 3 = 33) f_X6_124 (by first | assumption | exact mw_167 | exact mw_168 | exact mw_169 | exact mw_170 | exact bk_0 | exact bk_1 | exact bk_2 | exact bk_3 | exact bk_4 | exact bk_5 | exact bk_6 | exact bk_7 | exact bk_8 | exact bk_9 | exact bk_10 | exact bk_11 | exact bk_12 | exact bk_13 | exact bk_14 | exact bk_15 | exact bk_16 | exact zup_self | exact (zup_ne (by first | assumption | omega)).trans (by first | assumption | exact zup_self) | exact (zup_ne (by first | assumption | omega)).trans ((zup_ne (by first | assumption | omega)).trans (by first | assumption | exact zup_self)) | exact (bk_out (by first | omega | (simp only [bset, reduceIte, Nat.reduceEqDiff]; omega))).trans (by first | exact bk_0 | exact bk_1 | exact bk_2 | exact bk_3 | exact bk_4 | exact bk_5 | exact bk_6 | exact bk_7 | exact bk_8 | exact bk_9 | exact bk_10 | exact bk_11 | exact bk_12 | exact bk_13 | exact bk_14 | exact bk_15 | exact bk_16 | exact cr_5 | exact cr_23 | exact cr_24 | exact cr_25 | exact cr_26 | exact cr_27 | exact cr_28 | exact cr_29 | exact cr_30 | assumption)) rfl ?_
            refine zr_icmp_le (tgt := 38) dX6_next_33 (by decide) (rfl : 33 + 3 = 36) (jI_le (by first | omega | (simp only [bset, reduceIte, Nat.reduceEqDiff]; omega)) (by first | omega | (simp only [bset, reduceIte, Nat.reduceEqDiff]; omega)) (by first | omega | (simp only [bset, reduceIte, Nat.reduceEqDiff]; omega)) (by first | omega | (simp only [bset, reduceIte, Nat.reduceEqDiff]; omega))) (fun h33 => ?_) (fun h33 => ?_)
            · first
              | (exfalso; omega)
              | (
                exfalso
                omega)
            · first
              | (exfalso; omega)
              | (
                refine zr_iconst dX6_next_36 (rfl : 36 + 1 = 37) ?_
                refine zr_iret dX6_next_37 rfl rfl ?_ rfl rfl rfl
                first | rfl | rw [jb_pos (by first | assumption | omega)] | rw [jb_neg (by first | assumption | omega)] | rw [if_pos (by first | assumption | omega)] | rw [if_neg (by first | assumption | omega)])))
  · refine ⟨((jtn B τ m.toNat).1, (jtn B τ m.toNat).2.1, τ.od), ?_⟩
    unfold jnb
    rw [if_neg hm]
    refine zFn.of_run (lv := [some (.ref 5), some (.int (jI m)), none, none, none]) (by decide) rfl (Nat.le_of_ble_eq_true rfl) rfl (fun n9 g9 => ?_)
    have main : zRun Γ md_X6_next (d + 5) none 38 [some (.ref 5), some (.int (jI m)), none, none, none] [] (n9, g9, 0, 0) (bk 6 B (cr σ τ u)) (zDone md_X6_next (some (.int (jI (jball (jdrs (m - 1).toNat B))))) (bk 6 B (cr σ ((jtn B τ m.toNat).1, (jtn B τ m.toNat).2.1, τ.od) u)) n9 g9) := by
      refine zr_aload_n dX6_next_38 (rfl : 38 + 1 = 39) rfl ?_
      refine zr_getf dX6_next_39 (rfl : 39 + 3 = 42) f_X6_37 (by first | assumption | exact mw_167 | exact mw_168 | exact mw_169 | exact mw_170 | exact bk_0 | exact bk_1 | exact bk_2 | exact bk_3 | exact bk_4 | exact bk_5 | exact bk_6 | exact bk_7 | exact bk_8 | exact bk_9 | exact bk_10 | exact bk_11 | exact bk_12 | exact bk_13 | exact bk_14 | exact bk_15 | exact bk_16 | exact zup_self | exact (zup_ne (by first | assumption | omega)).trans (by first | assumption | exact zup_self) | exact (zup_ne (by first | assumption | omega)).trans ((zup_ne (by first | assumption | omega)).trans (by first | assumption | exact zup_self)) | exact (bk_out (by first | omega | (simp only [bset, reduceIte, Nat.reduceEqDiff]; omega))).trans (by first | exact bk_0 | exact bk_1 | exact bk_2 | exact bk_3 | exact bk_4 | exact bk_5 | exact bk_6 | exact bk_7 | exact bk_8 | exact bk_9 | exact bk_10 | exact bk_11 | exact bk_12 | exact bk_13 | exact bk_14 | exact bk_15 | exact bk_16 | exact cr_5 | exact cr_23 | exact cr_24 | exact cr_25 | exact cr_26 | exact cr_27 | exact cr_28 | exact cr_29 | exact cr_30 | assumption)) rfl ?_
      refine zr_aload_n dX6_next_42 (rfl : 42 + 1 = 43) rfl ?_
      refine zr_getf dX6_next_43 (rfl : 43 + 3 = 46) f_X6_10 (by first | assumption | exact mw_167 | exact mw_168 | exact mw_169 | exact mw_170 | exact bk_0 | exact bk_1 | exact bk_2 | exact bk_3 | exact bk_4 | exact bk_5 | exact bk_6 | exact bk_7 | exact bk_8 | exact bk_9 | exact bk_10 | exact bk_11 | exact bk_12 | exact bk_13 | exact bk_14 | exact bk_15 | exact bk_16 | exact zup_self | exact (zup_ne (by first | assumption | omega)).trans (by first | assumption | exact zup_self) | exact (zup_ne (by first | assumption | omega)).trans ((zup_ne (by first | assumption | omega)).trans (by first | assumption | exact zup_self)) | exact (bk_out (by first | omega | (simp only [bset, reduceIte, Nat.reduceEqDiff]; omega))).trans (by first | exact bk_0 | exact bk_1 | exact bk_2 | exact bk_3 | exact bk_4 | exact bk_5 | exact bk_6 | exact bk_7 | exact bk_8 | exact bk_9 | exact bk_10 | exact bk_11 | exact bk_12 | exact bk_13 | exact bk_14 | exact bk_15 | exact bk_16 | exact cr_5 | exact cr_23 | exact cr_24 | exact cr_25 | exact cr_26 | exact cr_27 | exact cr_28 | exact cr_29 | exact cr_30 | assumption)) rfl ?_
      refine zr_getf dX6_next_46 (rfl : 46 + 3 = 49) f_X6_78 (by first | assumption | exact mw_167 | exact mw_168 | exact mw_169 | exact mw_170 | exact bk_0 | exact bk_1 | exact bk_2 | exact bk_3 | exact bk_4 | exact bk_5 | exact bk_6 | exact bk_7 | exact bk_8 | exact bk_9 | exact bk_10 | exact bk_11 | exact bk_12 | exact bk_13 | exact bk_14 | exact bk_15 | exact bk_16 | exact zup_self | exact (zup_ne (by first | assumption | omega)).trans (by first | assumption | exact zup_self) | exact (zup_ne (by first | assumption | omega)).trans ((zup_ne (by first | assumption | omega)).trans (by first | assumption | exact zup_self)) | exact (bk_out (by first | omega | (simp only [bset, reduceIte, Nat.reduceEqDiff]; omega))).trans (by first | exact bk_0 | exact bk_1 | exact bk_2 | exact bk_3 | exact bk_4 | exact bk_5 | exact bk_6 | exact bk_7 | exact bk_8 | exact bk_9 | exact bk_10 | exact bk_11 | exact bk_12 | exact bk_13 | exact bk_14 | exact bk_15 | exact bk_16 | exact cr_5 | exact cr_23 | exact cr_24 | exact cr_25 | exact cr_26 | exact cr_27 | exact cr_28 | exact cr_29 | exact cr_30 | assumption)) rfl ?_
      refine zr_getf dX6_next_49 (rfl : 49 + 3 = 52) f_X6_121 (by first | assumption | exact mw_167 | exact mw_168 | exact mw_169 | exact mw_170 | exact bk_0 | exact bk_1 | exact bk_2 | exact bk_3 | exact bk_4 | exact bk_5 | exact bk_6 | exact bk_7 | exact bk_8 | exact bk_9 | exact bk_10 | exact bk_11 | exact bk_12 | exact bk_13 | exact bk_14 | exact bk_15 | exact bk_16 | exact zup_self | exact (zup_ne (by first | assumption | omega)).trans (by first | assumption | exact zup_self) | exact (zup_ne (by first | assumption | omega)).trans ((zup_ne (by first | assumption | omega)).trans (by first | assumption | exact zup_self)) | exact (bk_out (by first | omega | (simp only [bset, reduceIte, Nat.reduceEqDiff]; omega))).trans (by first | exact bk_0 | exact bk_1 | exact bk_2 | exact bk_3 | exact bk_4 | exact bk_5 | exact bk_6 | exact bk_7 | exact bk_8 | exact bk_9 | exact bk_10 | exact bk_11 | exact bk_12 | exact bk_13 | exact bk_14 | exact bk_15 | exact bk_16 | exact cr_5 | exact cr_23 | exact cr_24 | exact cr_25 | exact cr_26 | exact cr_27 | exact cr_28 | exact cr_29 | exact cr_30 | assumption)) rfl ?_
      refine zr_fnV dX6_next_52 (rfl : 52 + 3 = 55) l_X6_270 (s_tryCopy ok) (by first | assumption | exact mw_167 | exact mw_168 | exact mw_169 | exact mw_170 | exact bk_0 | exact bk_1 | exact bk_2 | exact bk_3 | exact bk_4 | exact bk_5 | exact bk_6 | exact bk_7 | exact bk_8 | exact bk_9 | exact bk_10 | exact bk_11 | exact bk_12 | exact bk_13 | exact bk_14 | exact bk_15 | exact bk_16 | exact zup_self | exact (zup_ne (by first | assumption | omega)).trans (by first | assumption | exact zup_self) | exact (zup_ne (by first | assumption | omega)).trans ((zup_ne (by first | assumption | omega)).trans (by first | assumption | exact zup_self)) | exact (bk_out (by first | omega | (simp only [bset, reduceIte, Nat.reduceEqDiff]; omega))).trans (by first | exact bk_0 | exact bk_1 | exact bk_2 | exact bk_3 | exact bk_4 | exact bk_5 | exact bk_6 | exact bk_7 | exact bk_8 | exact bk_9 | exact bk_10 | exact bk_11 | exact bk_12 | exact bk_13 | exact bk_14 | exact bk_15 | exact bk_16 | exact cr_5 | exact cr_23 | exact cr_24 | exact cr_25 | exact cr_26 | exact cr_27 | exact cr_28 | exact cr_29 | exact cr_30 | assumption)) rfl rfl rfl (Nat.le_of_ble_eq_true rfl) ?_
      refine zr_aload_n dX6_next_55 (rfl : 55 + 1 = 56) rfl ?_
      refine zr_getf dX6_next_56 (rfl : 56 + 3 = 59) f_X6_10 (by first | assumption | exact mw_167 | exact mw_168 | exact mw_169 | exact mw_170 | exact bk_0 | exact bk_1 | exact bk_2 | exact bk_3 | exact bk_4 | exact bk_5 | exact bk_6 | exact bk_7 | exact bk_8 | exact bk_9 | exact bk_10 | exact bk_11 | exact bk_12 | exact bk_13 | exact bk_14 | exact bk_15 | exact bk_16 | exact zup_self | exact (zup_ne (by first | assumption | omega)).trans (by first | assumption | exact zup_self) | exact (zup_ne (by first | assumption | omega)).trans ((zup_ne (by first | assumption | omega)).trans (by first | assumption | exact zup_self)) | exact (bk_out (by first | omega | (simp only [bset, reduceIte, Nat.reduceEqDiff]; omega))).trans (by first | exact bk_0 | exact bk_1 | exact bk_2 | exact bk_3 | exact bk_4 | exact bk_5 | exact bk_6 | exact bk_7 | exact bk_8 | exact bk_9 | exact bk_10 | exact bk_11 | exact bk_12 | exact bk_13 | exact bk_14 | exact bk_15 | exact bk_16 | exact cr_5 | exact cr_23 | exact cr_24 | exact cr_25 | exact cr_26 | exact cr_27 | exact cr_28 | exact cr_29 | exact cr_30 | assumption)) rfl ?_
      refine zr_getf dX6_next_59 (rfl : 59 + 3 = 62) f_X6_105 (by first | assumption | exact mw_167 | exact mw_168 | exact mw_169 | exact mw_170 | exact bk_0 | exact bk_1 | exact bk_2 | exact bk_3 | exact bk_4 | exact bk_5 | exact bk_6 | exact bk_7 | exact bk_8 | exact bk_9 | exact bk_10 | exact bk_11 | exact bk_12 | exact bk_13 | exact bk_14 | exact bk_15 | exact bk_16 | exact zup_self | exact (zup_ne (by first | assumption | omega)).trans (by first | assumption | exact zup_self) | exact (zup_ne (by first | assumption | omega)).trans ((zup_ne (by first | assumption | omega)).trans (by first | assumption | exact zup_self)) | exact (bk_out (by first | omega | (simp only [bset, reduceIte, Nat.reduceEqDiff]; omega))).trans (by first | exact bk_0 | exact bk_1 | exact bk_2 | exact bk_3 | exact bk_4 | exact bk_5 | exact bk_6 | exact bk_7 | exact bk_8 | exact bk_9 | exact bk_10 | exact bk_11 | exact bk_12 | exact bk_13 | exact bk_14 | exact bk_15 | exact bk_16 | exact cr_5 | exact cr_23 | exact cr_24 | exact cr_25 | exact cr_26 | exact cr_27 | exact cr_28 | exact cr_29 | exact cr_30 | assumption)) rfl ?_
      refine zr_istore_n (lv' := [_, _, _, _, _]) dX6_next_62 (rfl : 62 + 1 = 63) (Nat.le_of_ble_eq_true rfl) rfl ?_
      refine zr_iconst dX6_next_63 (rfl : 63 + 1 = 64) ?_
      refine zr_istore_n (lv' := [_, _, _, _, _]) dX6_next_64 (rfl : 64 + 1 = 65) (Nat.le_of_ble_eq_true rfl) rfl ?_
      refine zr_iconst dX6_next_65 (rfl : 65 + 1 = 66) ?_
      refine zr_istore (lv' := [_, _, _, _, _]) dX6_next_66 (rfl : 66 + 2 = 68) (Nat.le_of_ble_eq_true rfl) rfl ?_
      refine zfor2 0 m.toNat (fun i x n => x = jdrs i.toNat B 24 0 ∧ (0 < i → n = jball (jdrs (i - 1).toNat B))) (fun i x n => [some (.ref 5), some (.int (jI m)), some (.int (jI x)), some (.int (jI n)), some (.int (jI i))]) (fun i _ _ => bk 6 B (cr σ ((jtn B τ i.toNat).1, (jtn B τ i.toNat).2.1, τ.od) u)) (B 24 0) (-1) ⟨rfl, fun h => absurd h (by decide)⟩ ?_ ?_
      · intro i x n i0 i1 hI hk
        obtain ⟨hx, hn⟩ := hI
        have okk := jok_drs ok i.toNat (by omega)
        have hlo := okk.lo
        rw [← hx] at hlo
        have ht := s_tryOut (Γ := Γ) (d := d + 3) (σ := σ) (τ := τ) (u := u) i.toNat τ.od ok (by omega)
        rw [← hx] at ht
        refine zr_iload dX6_next_68 (rfl : 68 + 2 = 70) rfl ?_
        refine zr_iload_n dX6_next_70 (rfl : 70 + 1 = 71) rfl ?_
        refine zr_icmp_ge (tgt := 94) dX6_next_71 (by decide) (rfl : 71 + 3 = 74) (jI_le (by first | omega | (simp only [bset, reduceIte, Nat.reduceEqDiff]; omega)) (by first | omega | (simp only [bset, reduceIte, Nat.reduceEqDiff]; omega)) (by first | omega | (simp only [bset, reduceIte, Nat.reduceEqDiff]; omega)) (by first | omega | (simp only [bset, reduceIte, Nat.reduceEqDiff]; omega))) (fun h71 => ?_) (fun h71 => ?_)
        · exfalso; omega
        · refine zr_iload_n dX6_next_74 (rfl : 74 + 1 = 75) rfl ?_
          refine zr_fnS dX6_next_75 (rfl : 75 + 3 = 78) l_X6_273 (s_lotAfter x hlo) rfl rfl (Nat.le_of_ble_eq_true rfl) ?_
          refine zr_istore_n (lv' := [_, _, _, _, _]) dX6_next_78 (rfl : 78 + 1 = 79) (Nat.le_of_ble_eq_true rfl) rfl ?_
          refine zr_aload_n dX6_next_79 (rfl : 79 + 1 = 80) rfl ?_
          refine zr_getf dX6_next_80 (rfl : 80 + 3 = 83) f_X6_37 (by first | assumption | exact mw_167 | exact mw_168 | exact mw_169 | exact mw_170 | exact bk_0 | exact bk_1 | exact bk_2 | exact bk_3 | exact bk_4 | exact bk_5 | exact bk_6 | exact bk_7 | exact bk_8 | exact bk_9 | exact bk_10 | exact bk_11 | exact bk_12 | exact bk_13 | exact bk_14 | exact bk_15 | exact bk_16 | exact zup_self | exact (zup_ne (by first | assumption | omega)).trans (by first | assumption | exact zup_self) | exact (zup_ne (by first | assumption | omega)).trans ((zup_ne (by first | assumption | omega)).trans (by first | assumption | exact zup_self)) | exact (bk_out (by first | omega | (simp only [bset, reduceIte, Nat.reduceEqDiff]; omega))).trans (by first | exact bk_0 | exact bk_1 | exact bk_2 | exact bk_3 | exact bk_4 | exact bk_5 | exact bk_6 | exact bk_7 | exact bk_8 | exact bk_9 | exact bk_10 | exact bk_11 | exact bk_12 | exact bk_13 | exact bk_14 | exact bk_15 | exact bk_16 | exact cr_5 | exact cr_23 | exact cr_24 | exact cr_25 | exact cr_26 | exact cr_27 | exact cr_28 | exact cr_29 | exact cr_30 | assumption)) rfl ?_
          refine zr_iload_n dX6_next_83 (rfl : 83 + 1 = 84) rfl ?_
          refine zr_fnV dX6_next_84 (rfl : 84 + 3 = 87) l_X6_276 (ht) (by first | assumption | exact mw_167 | exact mw_168 | exact mw_169 | exact mw_170 | exact bk_0 | exact bk_1 | exact bk_2 | exact bk_3 | exact bk_4 | exact bk_5 | exact bk_6 | exact bk_7 | exact bk_8 | exact bk_9 | exact bk_10 | exact bk_11 | exact bk_12 | exact bk_13 | exact bk_14 | exact bk_15 | exact bk_16 | exact zup_self | exact (zup_ne (by first | assumption | omega)).trans (by first | assumption | exact zup_self) | exact (zup_ne (by first | assumption | omega)).trans ((zup_ne (by first | assumption | omega)).trans (by first | assumption | exact zup_self)) | exact (bk_out (by first | omega | (simp only [bset, reduceIte, Nat.reduceEqDiff]; omega))).trans (by first | exact bk_0 | exact bk_1 | exact bk_2 | exact bk_3 | exact bk_4 | exact bk_5 | exact bk_6 | exact bk_7 | exact bk_8 | exact bk_9 | exact bk_10 | exact bk_11 | exact bk_12 | exact bk_13 | exact bk_14 | exact bk_15 | exact bk_16 | exact cr_5 | exact cr_23 | exact cr_24 | exact cr_25 | exact cr_26 | exact cr_27 | exact cr_28 | exact cr_29 | exact cr_30 | assumption)) rfl rfl rfl (Nat.le_of_ble_eq_true rfl) ?_
          refine zr_istore_n (lv' := [_, _, _, _, _]) dX6_next_87 (rfl : 87 + 1 = 88) (Nat.le_of_ble_eq_true rfl) rfl ?_
          refine zr_iinc (lv' := [_, _, _, _, _]) dX6_next_88 (rfl : 88 + 3 = 91) (Nat.le_of_ble_eq_true rfl) rfl (by first | exact jI_add _ _ | rfl) rfl ?_
          refine zr_goto (tgt := 68) dX6_next_91 (by decide) ?_
          rw [show i.toNat + 1 = (i + 1).toNat by omega]
          refine hk _ _ ⟨?_, fun _ => ?_⟩
          · rw [show (i + 1).toNat = i.toNat + 1 by omega]
            show jlot x = jdr1 (jdrs i.toNat B) 24 0
            rw [jdr1_lot, hx]
          · rw [show (i + 1 - 1).toNat = i.toNat by omega]
      · intro x n hI
        rw [show ((0 : Int) + (m.toNat : Int)) = m by omega] at hI ⊢
        rw [hI.2 (by omega)]
        refine zr_iload dX6_next_68 (rfl : 68 + 2 = 70) rfl ?_
        refine zr_iload_n dX6_next_70 (rfl : 70 + 1 = 71) rfl ?_
        refine zr_icmp_ge (tgt := 94) dX6_next_71 (by decide) (rfl : 71 + 3 = 74) (jI_le (by first | omega | (simp only [bset, reduceIte, Nat.reduceEqDiff]; omega)) (by first | omega | (simp only [bset, reduceIte, Nat.reduceEqDiff]; omega)) (by first | omega | (simp only [bset, reduceIte, Nat.reduceEqDiff]; omega)) (by first | omega | (simp only [bset, reduceIte, Nat.reduceEqDiff]; omega))) (fun h71 => ?_) (fun h71 => ?_)
        · first
          | (exfalso; omega)
          | (
            refine zr_iload_n dX6_next_94 (rfl : 94 + 1 = 95) rfl ?_
            refine zr_iret dX6_next_95 rfl rfl ?_ rfl rfl rfl
            first | rfl | rw [jb_pos (by first | assumption | omega)] | rw [jb_neg (by first | assumption | omega)] | rw [if_pos (by first | assumption | omega)] | rw [if_neg (by first | assumption | omega)])
        · first
          | (exfalso; omega)
          | (
            exfalso
            omega)
    refine zr_iload_n dX6_next_0 (rfl : 0 + 1 = 1) rfl ?_
    refine zr_iconst dX6_next_1 (rfl : 1 + 1 = 2) ?_
    refine zr_icmp_lt (tgt := 15) dX6_next_2 (by decide) (rfl : 2 + 3 = 5) (jI_lt (by first | omega | (simp only [bset, reduceIte, Nat.reduceEqDiff]; omega)) (by first | omega | (simp only [bset, reduceIte, Nat.reduceEqDiff]; omega)) (by first | omega | (simp only [bset, reduceIte, Nat.reduceEqDiff]; omega)) (by first | omega | (simp only [bset, reduceIte, Nat.reduceEqDiff]; omega))) (fun h2 => ?_) (fun h2 => ?_)
    · first
      | (exfalso; omega)
      | (
        refine zr_iconst dX6_next_15 (rfl : 15 + 1 = 16) ?_
        refine zr_fnS dX6_next_16 (rfl : 16 + 3 = 19) l_X6_59 (s_needValue) rfl rfl (Nat.le_of_ble_eq_true rfl) ?_
        refine zr_iload_n dX6_next_19 (rfl : 19 + 1 = 20) rfl ?_
        refine zr_aload_n dX6_next_20 (rfl : 20 + 1 = 21) rfl ?_
        refine zr_getf dX6_next_21 (rfl : 21 + 3 = 24) f_X6_10 (by first | assumption | exact mw_167 | exact mw_168 | exact mw_169 | exact mw_170 | exact bk_0 | exact bk_1 | exact bk_2 | exact bk_3 | exact bk_4 | exact bk_5 | exact bk_6 | exact bk_7 | exact bk_8 | exact bk_9 | exact bk_10 | exact bk_11 | exact bk_12 | exact bk_13 | exact bk_14 | exact bk_15 | exact bk_16 | exact zup_self | exact (zup_ne (by first | assumption | omega)).trans (by first | assumption | exact zup_self) | exact (zup_ne (by first | assumption | omega)).trans ((zup_ne (by first | assumption | omega)).trans (by first | assumption | exact zup_self)) | exact (bk_out (by first | omega | (simp only [bset, reduceIte, Nat.reduceEqDiff]; omega))).trans (by first | exact bk_0 | exact bk_1 | exact bk_2 | exact bk_3 | exact bk_4 | exact bk_5 | exact bk_6 | exact bk_7 | exact bk_8 | exact bk_9 | exact bk_10 | exact bk_11 | exact bk_12 | exact bk_13 | exact bk_14 | exact bk_15 | exact bk_16 | exact cr_5 | exact cr_23 | exact cr_24 | exact cr_25 | exact cr_26 | exact cr_27 | exact cr_28 | exact cr_29 | exact cr_30 | assumption)) rfl ?_
        refine zr_getf dX6_next_24 (rfl : 24 + 3 = 27) f_X6_78 (by first | assumption | exact mw_167 | exact mw_168 | exact mw_169 | exact mw_170 | exact bk_0 | exact bk_1 | exact bk_2 | exact bk_3 | exact bk_4 | exact bk_5 | exact bk_6 | exact bk_7 | exact bk_8 | exact bk_9 | exact bk_10 | exact bk_11 | exact bk_12 | exact bk_13 | exact bk_14 | exact bk_15 | exact bk_16 | exact zup_self | exact (zup_ne (by first | assumption | omega)).trans (by first | assumption | exact zup_self) | exact (zup_ne (by first | assumption | omega)).trans ((zup_ne (by first | assumption | omega)).trans (by first | assumption | exact zup_self)) | exact (bk_out (by first | omega | (simp only [bset, reduceIte, Nat.reduceEqDiff]; omega))).trans (by first | exact bk_0 | exact bk_1 | exact bk_2 | exact bk_3 | exact bk_4 | exact bk_5 | exact bk_6 | exact bk_7 | exact bk_8 | exact bk_9 | exact bk_10 | exact bk_11 | exact bk_12 | exact bk_13 | exact bk_14 | exact bk_15 | exact bk_16 | exact cr_5 | exact cr_23 | exact cr_24 | exact cr_25 | exact cr_26 | exact cr_27 | exact cr_28 | exact cr_29 | exact cr_30 | assumption)) rfl ?_
        refine zr_getf dX6_next_27 (rfl : 27 + 3 = 30) f_X6_121 (by first | assumption | exact mw_167 | exact mw_168 | exact mw_169 | exact mw_170 | exact bk_0 | exact bk_1 | exact bk_2 | exact bk_3 | exact bk_4 | exact bk_5 | exact bk_6 | exact bk_7 | exact bk_8 | exact bk_9 | exact bk_10 | exact bk_11 | exact bk_12 | exact bk_13 | exact bk_14 | exact bk_15 | exact bk_16 | exact zup_self | exact (zup_ne (by first | assumption | omega)).trans (by first | assumption | exact zup_self) | exact (zup_ne (by first | assumption | omega)).trans ((zup_ne (by first | assumption | omega)).trans (by first | assumption | exact zup_self)) | exact (bk_out (by first | omega | (simp only [bset, reduceIte, Nat.reduceEqDiff]; omega))).trans (by first | exact bk_0 | exact bk_1 | exact bk_2 | exact bk_3 | exact bk_4 | exact bk_5 | exact bk_6 | exact bk_7 | exact bk_8 | exact bk_9 | exact bk_10 | exact bk_11 | exact bk_12 | exact bk_13 | exact bk_14 | exact bk_15 | exact bk_16 | exact cr_5 | exact cr_23 | exact cr_24 | exact cr_25 | exact cr_26 | exact cr_27 | exact cr_28 | exact cr_29 | exact cr_30 | assumption)) rfl ?_
        refine zr_getf dX6_next_30 (rfl : 30 + 3 = 33) f_X6_124 (by first | assumption | exact mw_167 | exact mw_168 | exact mw_169 | exact mw_170 | exact bk_0 | exact bk_1 | exact bk_2 | exact bk_3 | exact bk_4 | exact bk_5 | exact bk_6 | exact bk_7 | exact bk_8 | exact bk_9 | exact bk_10 | exact bk_11 | exact bk_12 | exact bk_13 | exact bk_14 | exact bk_15 | exact bk_16 | exact zup_self | exact (zup_ne (by first | assumption | omega)).trans (by first | assumption | exact zup_self) | exact (zup_ne (by first | assumption | omega)).trans ((zup_ne (by first | assumption | omega)).trans (by first | assumption | exact zup_self)) | exact (bk_out (by first | omega | (simp only [bset, reduceIte, Nat.reduceEqDiff]; omega))).trans (by first | exact bk_0 | exact bk_1 | exact bk_2 | exact bk_3 | exact bk_4 | exact bk_5 | exact bk_6 | exact bk_7 | exact bk_8 | exact bk_9 | exact bk_10 | exact bk_11 | exact bk_12 | exact bk_13 | exact bk_14 | exact bk_15 | exact bk_16 | exact cr_5 | exact cr_23 | exact cr_24 | exact cr_25 | exact cr_26 | exact cr_27 | exact cr_28 | exact cr_29 | exact cr_30 | assumption)) rfl ?_
        refine zr_icmp_le (tgt := 38) dX6_next_33 (by decide) (rfl : 33 + 3 = 36) (jI_le (by first | omega | (simp only [bset, reduceIte, Nat.reduceEqDiff]; omega)) (by first | omega | (simp only [bset, reduceIte, Nat.reduceEqDiff]; omega)) (by first | omega | (simp only [bset, reduceIte, Nat.reduceEqDiff]; omega)) (by first | omega | (simp only [bset, reduceIte, Nat.reduceEqDiff]; omega))) (fun h33 => ?_) (fun h33 => ?_)
        · first
          | (exfalso; omega)
          | (
            exact main)
        · first
          | (exfalso; omega)
          | (
            refine zr_iconst dX6_next_36 (rfl : 36 + 1 = 37) ?_
            refine zr_iret dX6_next_37 rfl rfl ?_ rfl rfl rfl
            first | rfl | rw [jb_pos (by first | assumption | omega)] | rw [jb_neg (by first | assumption | omega)] | rw [if_pos (by first | assumption | omega)] | rw [if_neg (by first | assumption | omega)]))
    · first
      | (exfalso; omega)
      | (
        refine zr_iload_n dX6_next_5 (rfl : 5 + 1 = 6) rfl ?_
        refine zr_bipush dX6_next_6 (rfl : 6 + 2 = 8) (by decide) ?_
        refine zr_icmp_gt (tgt := 15) dX6_next_8 (by decide) (rfl : 8 + 3 = 11) (jI_lt (by first | omega | (simp only [bset, reduceIte, Nat.reduceEqDiff]; omega)) (by first | omega | (simp only [bset, reduceIte, Nat.reduceEqDiff]; omega)) (by first | omega | (simp only [bset, reduceIte, Nat.reduceEqDiff]; omega)) (by first | omega | (simp only [bset, reduceIte, Nat.reduceEqDiff]; omega))) (fun h8 => ?_) (fun h8 => ?_)
        · first
          | (exfalso; omega)
          | (
            refine zr_iconst dX6_next_15 (rfl : 15 + 1 = 16) ?_
            refine zr_fnS dX6_next_16 (rfl : 16 + 3 = 19) l_X6_59 (s_needValue) rfl rfl (Nat.le_of_ble_eq_true rfl) ?_
            refine zr_iload_n dX6_next_19 (rfl : 19 + 1 = 20) rfl ?_
            refine zr_aload_n dX6_next_20 (rfl : 20 + 1 = 21) rfl ?_
            refine zr_getf dX6_next_21 (rfl : 21 + 3 = 24) f_X6_10 (by first | assumption | exact mw_167 | exact mw_168 | exact mw_169 | exact mw_170 | exact bk_0 | exact bk_1 | exact bk_2 | exact bk_3 | exact bk_4 | exact bk_5 | exact bk_6 | exact bk_7 | exact bk_8 | exact bk_9 | exact bk_10 | exact bk_11 | exact bk_12 | exact bk_13 | exact bk_14 | exact bk_15 | exact bk_16 | exact zup_self | exact (zup_ne (by first | assumption | omega)).trans (by first | assumption | exact zup_self) | exact (zup_ne (by first | assumption | omega)).trans ((zup_ne (by first | assumption | omega)).trans (by first | assumption | exact zup_self)) | exact (bk_out (by first | omega | (simp only [bset, reduceIte, Nat.reduceEqDiff]; omega))).trans (by first | exact bk_0 | exact bk_1 | exact bk_2 | exact bk_3 | exact bk_4 | exact bk_5 | exact bk_6 | exact bk_7 | exact bk_8 | exact bk_9 | exact bk_10 | exact bk_11 | exact bk_12 | exact bk_13 | exact bk_14 | exact bk_15 | exact bk_16 | exact cr_5 | exact cr_23 | exact cr_24 | exact cr_25 | exact cr_26 | exact cr_27 | exact cr_28 | exact cr_29 | exact cr_30 | assumption)) rfl ?_
            refine zr_getf dX6_next_24 (rfl : 24 + 3 = 27) f_X6_78 (by first | assumption | exact mw_167 | exact mw_168 | exact mw_169 | exact mw_170 | exact bk_0 | exact bk_1 | exact bk_2 | exact bk_3 | exact bk_4 | exact bk_5 | exact bk_6 | exact bk_7 | exact bk_8 | exact bk_9 | exact bk_10 | exact bk_11 | exact bk_12 | exact bk_13 | exact bk_14 | exact bk_15 | exact bk_16 | exact zup_self | exact (zup_ne (by first | assumption | omega)).trans (by first | assumption | exact zup_self) | exact (zup_ne (by first | assumption | omega)).trans ((zup_ne (by first | assumption | omega)).trans (by first | assumption | exact zup_self)) | exact (bk_out (by first | omega | (simp only [bset, reduceIte, Nat.reduceEqDiff]; omega))).trans (by first | exact bk_0 | exact bk_1 | exact bk_2 | exact bk_3 | exact bk_4 | exact bk_5 | exact bk_6 | exact bk_7 | exact bk_8 | exact bk_9 | exact bk_10 | exact bk_11 | exact bk_12 | exact bk_13 | exact bk_14 | exact bk_15 | exact bk_16 | exact cr_5 | exact cr_23 | exact cr_24 | exact cr_25 | exact cr_26 | exact cr_27 | exact cr_28 | exact cr_29 | exact cr_30 | assumption)) rfl ?_
            refine zr_getf dX6_next_27 (rfl : 27 + 3 = 30) f_X6_121 (by first | assumption | exact mw_167 | exact mw_168 | exact mw_169 | exact mw_170 | exact bk_0 | exact bk_1 | exact bk_2 | exact bk_3 | exact bk_4 | exact bk_5 | exact bk_6 | exact bk_7 | exact bk_8 | exact bk_9 | exact bk_10 | exact bk_11 | exact bk_12 | exact bk_13 | exact bk_14 | exact bk_15 | exact bk_16 | exact zup_self | exact (zup_ne (by first | assumption | omega)).trans (by first | assumption | exact zup_self) | exact (zup_ne (by first | assumption | omega)).trans ((zup_ne (by first | assumption | omega)).trans (by first | assumption | exact zup_self)) | exact (bk_out (by first | omega | (simp only [bset, reduceIte, Nat.reduceEqDiff]; omega))).trans (by first | exact bk_0 | exact bk_1 | exact bk_2 | exact bk_3 | exact bk_4 | exact bk_5 | exact bk_6 | exact bk_7 | exact bk_8 | exact bk_9 | exact bk_10 | exact bk_11 | exact bk_12 | exact bk_13 | exact bk_14 | exact bk_15 | exact bk_16 | exact cr_5 | exact cr_23 | exact cr_24 | exact cr_25 | exact cr_26 | exact cr_27 | exact cr_28 | exact cr_29 | exact cr_30 | assumption)) rfl ?_
            refine zr_getf dX6_next_30 (rfl : 30 + 3 = 33) f_X6_124 (by first | assumption | exact mw_167 | exact mw_168 | exact mw_169 | exact mw_170 | exact bk_0 | exact bk_1 | exact bk_2 | exact bk_3 | exact bk_4 | exact bk_5 | exact bk_6 | exact bk_7 | exact bk_8 | exact bk_9 | exact bk_10 | exact bk_11 | exact bk_12 | exact bk_13 | exact bk_14 | exact bk_15 | exact bk_16 | exact zup_self | exact (zup_ne (by first | assumption | omega)).trans (by first | assumption | exact zup_self) | exact (zup_ne (by first | assumption | omega)).trans ((zup_ne (by first | assumption | omega)).trans (by first | assumption | exact zup_self)) | exact (bk_out (by first | omega | (simp only [bset, reduceIte, Nat.reduceEqDiff]; omega))).trans (by first | exact bk_0 | exact bk_1 | exact bk_2 | exact bk_3 | exact bk_4 | exact bk_5 | exact bk_6 | exact bk_7 | exact bk_8 | exact bk_9 | exact bk_10 | exact bk_11 | exact bk_12 | exact bk_13 | exact bk_14 | exact bk_15 | exact bk_16 | exact cr_5 | exact cr_23 | exact cr_24 | exact cr_25 | exact cr_26 | exact cr_27 | exact cr_28 | exact cr_29 | exact cr_30 | assumption)) rfl ?_
            refine zr_icmp_le (tgt := 38) dX6_next_33 (by decide) (rfl : 33 + 3 = 36) (jI_le (by first | omega | (simp only [bset, reduceIte, Nat.reduceEqDiff]; omega)) (by first | omega | (simp only [bset, reduceIte, Nat.reduceEqDiff]; omega)) (by first | omega | (simp only [bset, reduceIte, Nat.reduceEqDiff]; omega)) (by first | omega | (simp only [bset, reduceIte, Nat.reduceEqDiff]; omega))) (fun h33 => ?_) (fun h33 => ?_)
            · first
              | (exfalso; omega)
              | (
                exact main)
            · first
              | (exfalso; omega)
              | (
                refine zr_iconst dX6_next_36 (rfl : 36 + 1 = 37) ?_
                refine zr_iret dX6_next_37 rfl rfl ?_ rfl rfl rfl
                first | rfl | rw [jb_pos (by first | assumption | omega)] | rw [jb_neg (by first | assumption | omega)] | rw [if_pos (by first | assumption | omega)] | rw [if_neg (by first | assumption | omega)]))
        · first
          | (exfalso; omega)
          | (
            refine zr_iconst dX6_next_11 (rfl : 11 + 1 = 12) ?_
            refine zr_goto (tgt := 16) dX6_next_12 (by decide) ?_
            refine zr_fnS dX6_next_16 (rfl : 16 + 3 = 19) l_X6_59 (s_needValue) rfl rfl (Nat.le_of_ble_eq_true rfl) ?_
            refine zr_iload_n dX6_next_19 (rfl : 19 + 1 = 20) rfl ?_
            refine zr_aload_n dX6_next_20 (rfl : 20 + 1 = 21) rfl ?_
            refine zr_getf dX6_next_21 (rfl : 21 + 3 = 24) f_X6_10 (by first | assumption | exact mw_167 | exact mw_168 | exact mw_169 | exact mw_170 | exact bk_0 | exact bk_1 | exact bk_2 | exact bk_3 | exact bk_4 | exact bk_5 | exact bk_6 | exact bk_7 | exact bk_8 | exact bk_9 | exact bk_10 | exact bk_11 | exact bk_12 | exact bk_13 | exact bk_14 | exact bk_15 | exact bk_16 | exact zup_self | exact (zup_ne (by first | assumption | omega)).trans (by first | assumption | exact zup_self) | exact (zup_ne (by first | assumption | omega)).trans ((zup_ne (by first | assumption | omega)).trans (by first | assumption | exact zup_self)) | exact (bk_out (by first | omega | (simp only [bset, reduceIte, Nat.reduceEqDiff]; omega))).trans (by first | exact bk_0 | exact bk_1 | exact bk_2 | exact bk_3 | exact bk_4 | exact bk_5 | exact bk_6 | exact bk_7 | exact bk_8 | exact bk_9 | exact bk_10 | exact bk_11 | exact bk_12 | exact bk_13 | exact bk_14 | exact bk_15 | exact bk_16 | exact cr_5 | exact cr_23 | exact cr_24 | exact cr_25 | exact cr_26 | exact cr_27 | exact cr_28 | exact cr_29 | exact cr_30 | assumption)) rfl ?_
            refine zr_getf dX6_next_24 (rfl : 24 + 3 = 27) f_X6_78 (by first | assumption | exact mw_167 | exact mw_168 | exact mw_169 | exact mw_170 | exact bk_0 | exact bk_1 | exact bk_2 | exact bk_3 | exact bk_4 | exact bk_5 | exact bk_6 | exact bk_7 | exact bk_8 | exact bk_9 | exact bk_10 | exact bk_11 | exact bk_12 | exact bk_13 | exact bk_14 | exact bk_15 | exact bk_16 | exact zup_self | exact (zup_ne (by first | assumption | omega)).trans (by first | assumption | exact zup_self) | exact (zup_ne (by first | assumption | omega)).trans ((zup_ne (by first | assumption | omega)).trans (by first | assumption | exact zup_self)) | exact (bk_out (by first | omega | (simp only [bset, reduceIte, Nat.reduceEqDiff]; omega))).trans (by first | exact bk_0 | exact bk_1 | exact bk_2 | exact bk_3 | exact bk_4 | exact bk_5 | exact bk_6 | exact bk_7 | exact bk_8 | exact bk_9 | exact bk_10 | exact bk_11 | exact bk_12 | exact bk_13 | exact bk_14 | exact bk_15 | exact bk_16 | exact cr_5 | exact cr_23 | exact cr_24 | exact cr_25 | exact cr_26 | exact cr_27 | exact cr_28 | exact cr_29 | exact cr_30 | assumption)) rfl ?_
            refine zr_getf dX6_next_27 (rfl : 27 + 3 = 30) f_X6_121 (by first | assumption | exact mw_167 | exact mw_168 | exact mw_169 | exact mw_170 | exact bk_0 | exact bk_1 | exact bk_2 | exact bk_3 | exact bk_4 | exact bk_5 | exact bk_6 | exact bk_7 | exact bk_8 | exact bk_9 | exact bk_10 | exact bk_11 | exact bk_12 | exact bk_13 | exact bk_14 | exact bk_15 | exact bk_16 | exact zup_self | exact (zup_ne (by first | assumption | omega)).trans (by first | assumption | exact zup_self) | exact (zup_ne (by first | assumption | omega)).trans ((zup_ne (by first | assumption | omega)).trans (by first | assumption | exact zup_self)) | exact (bk_out (by first | omega | (simp only [bset, reduceIte, Nat.reduceEqDiff]; omega))).trans (by first | exact bk_0 | exact bk_1 | exact bk_2 | exact bk_3 | exact bk_4 | exact bk_5 | exact bk_6 | exact bk_7 | exact bk_8 | exact bk_9 | exact bk_10 | exact bk_11 | exact bk_12 | exact bk_13 | exact bk_14 | exact bk_15 | exact bk_16 | exact cr_5 | exact cr_23 | exact cr_24 | exact cr_25 | exact cr_26 | exact cr_27 | exact cr_28 | exact cr_29 | exact cr_30 | assumption)) rfl ?_
            refine zr_getf dX6_next_30 (rfl : 30 + 3 = 33) f_X6_124 (by first | assumption | exact mw_167 | exact mw_168 | exact mw_169 | exact mw_170 | exact bk_0 | exact bk_1 | exact bk_2 | exact bk_3 | exact bk_4 | exact bk_5 | exact bk_6 | exact bk_7 | exact bk_8 | exact bk_9 | exact bk_10 | exact bk_11 | exact bk_12 | exact bk_13 | exact bk_14 | exact bk_15 | exact bk_16 | exact zup_self | exact (zup_ne (by first | assumption | omega)).trans (by first | assumption | exact zup_self) | exact (zup_ne (by first | assumption | omega)).trans ((zup_ne (by first | assumption | omega)).trans (by first | assumption | exact zup_self)) | exact (bk_out (by first | omega | (simp only [bset, reduceIte, Nat.reduceEqDiff]; omega))).trans (by first | exact bk_0 | exact bk_1 | exact bk_2 | exact bk_3 | exact bk_4 | exact bk_5 | exact bk_6 | exact bk_7 | exact bk_8 | exact bk_9 | exact bk_10 | exact bk_11 | exact bk_12 | exact bk_13 | exact bk_14 | exact bk_15 | exact bk_16 | exact cr_5 | exact cr_23 | exact cr_24 | exact cr_25 | exact cr_26 | exact cr_27 | exact cr_28 | exact cr_29 | exact cr_30 | assumption)) rfl ?_
            refine zr_icmp_le (tgt := 38) dX6_next_33 (by decide) (rfl : 33 + 3 = 36) (jI_le (by first | omega | (simp only [bset, reduceIte, Nat.reduceEqDiff]; omega)) (by first | omega | (simp only [bset, reduceIte, Nat.reduceEqDiff]; omega)) (by first | omega | (simp only [bset, reduceIte, Nat.reduceEqDiff]; omega)) (by first | omega | (simp only [bset, reduceIte, Nat.reduceEqDiff]; omega))) (fun h33 => ?_) (fun h33 => ?_)
            · first
              | (exfalso; omega)
              | (
                exact main)
            · first
              | (exfalso; omega)
              | (
                refine zr_iconst dX6_next_36 (rfl : 36 + 1 = 37) ?_
                refine zr_iret dX6_next_37 rfl rfl ?_ rfl rfl rfl
                first | rfl | rw [jb_pos (by first | assumption | omega)] | rw [jb_neg (by first | assumption | omega)] | rw [if_pos (by first | assumption | omega)] | rw [if_neg (by first | assumption | omega)])))
/-! the order of all balls -/
def jod (B : zB) (i : Int) : Int := if i < B 12 0 then B 5 i else jball (jdrs (i - B 12 0).toNat B)
def jon (B : zB) (od : Int → Int) : Nat → Int → Int
  | 0 => jcpy (B 5) od 0 0 (B 12 0)
  | k + 1 => jup (jon B od k) (B 12 0 + k) (jball (jdrs k B))
theorem jon_at {od : Int → Int} : ∀ k : Nat, ∀ z, 0 ≤ z → z < B 12 0 + k → jon B od k z = jod B z
  | 0, z, z0, z1 => by
    unfold jod
    rw [if_pos (by omega)]
    exact jcpy_at ⟨z0, by omega⟩
  | k + 1, z, z0, z1 => by
    show jup (jon B od k) (B 12 0 + k) (jball (jdrs k B)) z = _
    unfold jup
    split
    · rename_i hz
      unfold jod
      rw [if_neg (by omega), hz, show (B 12 0 + (k : Int) - B 12 0).toNat = k by omega]
    · exact jon_at k z z0 (by omega)
theorem jod_r (ok : jok B) {i : Int} (h : 0 ≤ i ∧ i < 90) : 0 ≤ jod B i ∧ jod B i ≤ 90 := by
  have hc := ok.ca
  unfold jod
  split
  · exact ok.dr i
  · have okk := jok_drs ok (i - B 12 0).toNat (by omega)
    have := jball_r okk (by rw [jdrs_ca]; omega)
    omega
theorem s_layOrder (ok : jok B) : zFn Γ md_X6_layOrder (d + 3) [.ref 5] (bk 6 B (cr σ τ u)) none (bk 6 B (cr σ ((jtn B τ (B 4 0).toNat).1, (jtn B τ (B 4 0).toNat).2.1, jon B τ.od (B 4 0).toNat) u)) := by
  have hs := ok.ds
  have hc := ok.ca
  refine zFn.of_run (lv := [some (.ref 5), none, none, none]) (by decide) rfl (Nat.le_of_ble_eq_true rfl) rfl (fun n9 g9 => ?_)
  refine zr_aload_n dX6_layOrder_0 (rfl : 0 + 1 = 1) rfl ?_
  refine zr_getf dX6_layOrder_1 (rfl : 1 + 3 = 4) f_X6_10 (by first | assumption | exact mw_167 | exact mw_168 | exact mw_169 | exact mw_170 | exact bk_0 | exact bk_1 | exact bk_2 | exact bk_3 | exact bk_4 | exact bk_5 | exact bk_6 | exact bk_7 | exact bk_8 | exact bk_9 | exact bk_10 | exact bk_11 | exact bk_12 | exact bk_13 | exact bk_14 | exact bk_15 | exact bk_16 | exact zup_self | exact (zup_ne (by first | assumption | omega)).trans (by first | assumption | exact zup_self) | exact (zup_ne (by first | assumption | omega)).trans ((zup_ne (by first | assumption | omega)).trans (by first | assumption | exact zup_self)) | exact (bk_out (by first | omega | (simp only [bset, reduceIte, Nat.reduceEqDiff]; omega))).trans (by first | exact bk_0 | exact bk_1 | exact bk_2 | exact bk_3 | exact bk_4 | exact bk_5 | exact bk_6 | exact bk_7 | exact bk_8 | exact bk_9 | exact bk_10 | exact bk_11 | exact bk_12 | exact bk_13 | exact bk_14 | exact bk_15 | exact bk_16 | exact cr_5 | exact cr_23 | exact cr_24 | exact cr_25 | exact cr_26 | exact cr_27 | exact cr_28 | exact cr_29 | exact cr_30 | assumption)) rfl ?_
  refine zr_getf dX6_layOrder_4 (rfl : 4 + 3 = 7) f_X6_78 (by first | assumption | exact mw_167 | exact mw_168 | exact mw_169 | exact mw_170 | exact bk_0 | exact bk_1 | exact bk_2 | exact bk_3 | exact bk_4 | exact bk_5 | exact bk_6 | exact bk_7 | exact bk_8 | exact bk_9 | exact bk_10 | exact bk_11 | exact bk_12 | exact bk_13 | exact bk_14 | exact bk_15 | exact bk_16 | exact zup_self | exact (zup_ne (by first | assumption | omega)).trans (by first | assumption | exact zup_self) | exact (zup_ne (by first | assumption | omega)).trans ((zup_ne (by first | assumption | omega)).trans (by first | assumption | exact zup_self)) | exact (bk_out (by first | omega | (simp only [bset, reduceIte, Nat.reduceEqDiff]; omega))).trans (by first | exact bk_0 | exact bk_1 | exact bk_2 | exact bk_3 | exact bk_4 | exact bk_5 | exact bk_6 | exact bk_7 | exact bk_8 | exact bk_9 | exact bk_10 | exact bk_11 | exact bk_12 | exact bk_13 | exact bk_14 | exact bk_15 | exact bk_16 | exact cr_5 | exact cr_23 | exact cr_24 | exact cr_25 | exact cr_26 | exact cr_27 | exact cr_28 | exact cr_29 | exact cr_30 | assumption)) rfl ?_
  refine zr_astore_n (lv' := [_, _, _, _]) dX6_layOrder_7 (rfl : 7 + 1 = 8) (Nat.le_of_ble_eq_true rfl) rfl ?_
  refine zr_aload_n dX6_layOrder_8 (rfl : 8 + 1 = 9) rfl ?_
  refine zr_getf dX6_layOrder_9 (rfl : 9 + 3 = 12) f_X6_216 (by first | assumption | exact mw_167 | exact mw_168 | exact mw_169 | exact mw_170 | exact bk_0 | exact bk_1 | exact bk_2 | exact bk_3 | exact bk_4 | exact bk_5 | exact bk_6 | exact bk_7 | exact bk_8 | exact bk_9 | exact bk_10 | exact bk_11 | exact bk_12 | exact bk_13 | exact bk_14 | exact bk_15 | exact bk_16 | exact zup_self | exact (zup_ne (by first | assumption | omega)).trans (by first | assumption | exact zup_self) | exact (zup_ne (by first | assumption | omega)).trans ((zup_ne (by first | assumption | omega)).trans (by first | assumption | exact zup_self)) | exact (bk_out (by first | omega | (simp only [bset, reduceIte, Nat.reduceEqDiff]; omega))).trans (by first | exact bk_0 | exact bk_1 | exact bk_2 | exact bk_3 | exact bk_4 | exact bk_5 | exact bk_6 | exact bk_7 | exact bk_8 | exact bk_9 | exact bk_10 | exact bk_11 | exact bk_12 | exact bk_13 | exact bk_14 | exact bk_15 | exact bk_16 | exact cr_5 | exact cr_23 | exact cr_24 | exact cr_25 | exact cr_26 | exact cr_27 | exact cr_28 | exact cr_29 | exact cr_30 | assumption)) rfl ?_
  refine zr_iconst dX6_layOrder_12 (rfl : 12 + 1 = 13) ?_
  refine zr_aload_n dX6_layOrder_13 (rfl : 13 + 1 = 14) rfl ?_
  refine zr_getf dX6_layOrder_14 (rfl : 14 + 3 = 17) f_X6_41 (by first | assumption | exact mw_167 | exact mw_168 | exact mw_169 | exact mw_170 | exact bk_0 | exact bk_1 | exact bk_2 | exact bk_3 | exact bk_4 | exact bk_5 | exact bk_6 | exact bk_7 | exact bk_8 | exact bk_9 | exact bk_10 | exact bk_11 | exact bk_12 | exact bk_13 | exact bk_14 | exact bk_15 | exact bk_16 | exact zup_self | exact (zup_ne (by first | assumption | omega)).trans (by first | assumption | exact zup_self) | exact (zup_ne (by first | assumption | omega)).trans ((zup_ne (by first | assumption | omega)).trans (by first | assumption | exact zup_self)) | exact (bk_out (by first | omega | (simp only [bset, reduceIte, Nat.reduceEqDiff]; omega))).trans (by first | exact bk_0 | exact bk_1 | exact bk_2 | exact bk_3 | exact bk_4 | exact bk_5 | exact bk_6 | exact bk_7 | exact bk_8 | exact bk_9 | exact bk_10 | exact bk_11 | exact bk_12 | exact bk_13 | exact bk_14 | exact bk_15 | exact bk_16 | exact cr_5 | exact cr_23 | exact cr_24 | exact cr_25 | exact cr_26 | exact cr_27 | exact cr_28 | exact cr_29 | exact cr_30 | assumption)) rfl ?_
  refine zr_iconst dX6_layOrder_17 (rfl : 17 + 1 = 18) ?_
  refine zr_aload_n dX6_layOrder_18 (rfl : 18 + 1 = 19) rfl ?_
  refine zr_getf dX6_layOrder_19 (rfl : 19 + 3 = 22) f_X6_213 (by first | assumption | exact mw_167 | exact mw_168 | exact mw_169 | exact mw_170 | exact bk_0 | exact bk_1 | exact bk_2 | exact bk_3 | exact bk_4 | exact bk_5 | exact bk_6 | exact bk_7 | exact bk_8 | exact bk_9 | exact bk_10 | exact bk_11 | exact bk_12 | exact bk_13 | exact bk_14 | exact bk_15 | exact bk_16 | exact zup_self | exact (zup_ne (by first | assumption | omega)).trans (by first | assumption | exact zup_self) | exact (zup_ne (by first | assumption | omega)).trans ((zup_ne (by first | assumption | omega)).trans (by first | assumption | exact zup_self)) | exact (bk_out (by first | omega | (simp only [bset, reduceIte, Nat.reduceEqDiff]; omega))).trans (by first | exact bk_0 | exact bk_1 | exact bk_2 | exact bk_3 | exact bk_4 | exact bk_5 | exact bk_6 | exact bk_7 | exact bk_8 | exact bk_9 | exact bk_10 | exact bk_11 | exact bk_12 | exact bk_13 | exact bk_14 | exact bk_15 | exact bk_16 | exact cr_5 | exact cr_23 | exact cr_24 | exact cr_25 | exact cr_26 | exact cr_27 | exact cr_28 | exact cr_29 | exact cr_30 | assumption)) rfl ?_
  refine zr_copy dX6_layOrder_22 (rfl : 22 + 3 = 25) l_X6_369 bk_7 (cr_at (by first | omega | (simp only [bset, reduceIte, Nat.reduceEqDiff]; omega)) cr_30) (by first | omega | (simp only [bset, reduceIte, Nat.reduceEqDiff]; omega)) (by first | omega | (simp only [bset, reduceIte, Nat.reduceEqDiff]; omega)) (by first | omega | (simp only [bset, reduceIte, Nat.reduceEqDiff]; omega)) (by first | omega | (simp only [bset, reduceIte, Nat.reduceEqDiff]; omega)) (by first | omega | (simp only [bset, reduceIte, Nat.reduceEqDiff]; omega)) (by decide) (Nat.le_of_ble_eq_true rfl) rfl ?_
  rw [cru_30]
  have htc := s_tryCopy (Γ := Γ) (d := d + 1) (σ := σ) (τ := (τ.1, τ.2.1, jcpy (B 5) τ.2.2 0 0 (B 12 0))) (u := u) ok
  refine zr_aload_n dX6_layOrder_25 (rfl : 25 + 1 = 26) rfl ?_
  refine zr_getf dX6_layOrder_26 (rfl : 26 + 3 = 29) f_X6_37 (by first | assumption | exact mw_167 | exact mw_168 | exact mw_169 | exact mw_170 | exact bk_0 | exact bk_1 | exact bk_2 | exact bk_3 | exact bk_4 | exact bk_5 | exact bk_6 | exact bk_7 | exact bk_8 | exact bk_9 | exact bk_10 | exact bk_11 | exact bk_12 | exact bk_13 | exact bk_14 | exact bk_15 | exact bk_16 | exact zup_self | exact (zup_ne (by first | assumption | omega)).trans (by first | assumption | exact zup_self) | exact (zup_ne (by first | assumption | omega)).trans ((zup_ne (by first | assumption | omega)).trans (by first | assumption | exact zup_self)) | exact (bk_out (by first | omega | (simp only [bset, reduceIte, Nat.reduceEqDiff]; omega))).trans (by first | exact bk_0 | exact bk_1 | exact bk_2 | exact bk_3 | exact bk_4 | exact bk_5 | exact bk_6 | exact bk_7 | exact bk_8 | exact bk_9 | exact bk_10 | exact bk_11 | exact bk_12 | exact bk_13 | exact bk_14 | exact bk_15 | exact bk_16 | exact cr_5 | exact cr_23 | exact cr_24 | exact cr_25 | exact cr_26 | exact cr_27 | exact cr_28 | exact cr_29 | exact cr_30 | assumption)) rfl ?_
  refine zr_aload_n dX6_layOrder_29 (rfl : 29 + 1 = 30) rfl ?_
  refine zr_getf dX6_layOrder_30 (rfl : 30 + 3 = 33) f_X6_121 (by first | assumption | exact mw_167 | exact mw_168 | exact mw_169 | exact mw_170 | exact bk_0 | exact bk_1 | exact bk_2 | exact bk_3 | exact bk_4 | exact bk_5 | exact bk_6 | exact bk_7 | exact bk_8 | exact bk_9 | exact bk_10 | exact bk_11 | exact bk_12 | exact bk_13 | exact bk_14 | exact bk_15 | exact bk_16 | exact zup_self | exact (zup_ne (by first | assumption | omega)).trans (by first | assumption | exact zup_self) | exact (zup_ne (by first | assumption | omega)).trans ((zup_ne (by first | assumption | omega)).trans (by first | assumption | exact zup_self)) | exact (bk_out (by first | omega | (simp only [bset, reduceIte, Nat.reduceEqDiff]; omega))).trans (by first | exact bk_0 | exact bk_1 | exact bk_2 | exact bk_3 | exact bk_4 | exact bk_5 | exact bk_6 | exact bk_7 | exact bk_8 | exact bk_9 | exact bk_10 | exact bk_11 | exact bk_12 | exact bk_13 | exact bk_14 | exact bk_15 | exact bk_16 | exact cr_5 | exact cr_23 | exact cr_24 | exact cr_25 | exact cr_26 | exact cr_27 | exact cr_28 | exact cr_29 | exact cr_30 | assumption)) rfl ?_
  refine zr_fnV dX6_layOrder_33 (rfl : 33 + 3 = 36) l_X6_270 (htc) (by first | assumption | exact mw_167 | exact mw_168 | exact mw_169 | exact mw_170 | exact bk_0 | exact bk_1 | exact bk_2 | exact bk_3 | exact bk_4 | exact bk_5 | exact bk_6 | exact bk_7 | exact bk_8 | exact bk_9 | exact bk_10 | exact bk_11 | exact bk_12 | exact bk_13 | exact bk_14 | exact bk_15 | exact bk_16 | exact zup_self | exact (zup_ne (by first | assumption | omega)).trans (by first | assumption | exact zup_self) | exact (zup_ne (by first | assumption | omega)).trans ((zup_ne (by first | assumption | omega)).trans (by first | assumption | exact zup_self)) | exact (bk_out (by first | omega | (simp only [bset, reduceIte, Nat.reduceEqDiff]; omega))).trans (by first | exact bk_0 | exact bk_1 | exact bk_2 | exact bk_3 | exact bk_4 | exact bk_5 | exact bk_6 | exact bk_7 | exact bk_8 | exact bk_9 | exact bk_10 | exact bk_11 | exact bk_12 | exact bk_13 | exact bk_14 | exact bk_15 | exact bk_16 | exact cr_5 | exact cr_23 | exact cr_24 | exact cr_25 | exact cr_26 | exact cr_27 | exact cr_28 | exact cr_29 | exact cr_30 | assumption)) rfl rfl rfl (Nat.le_of_ble_eq_true rfl) ?_
  refine zr_aload_n dX6_layOrder_36 (rfl : 36 + 1 = 37) rfl ?_
  refine zr_getf dX6_layOrder_37 (rfl : 37 + 3 = 40) f_X6_10 (by first | assumption | exact mw_167 | exact mw_168 | exact mw_169 | exact mw_170 | exact bk_0 | exact bk_1 | exact bk_2 | exact bk_3 | exact bk_4 | exact bk_5 | exact bk_6 | exact bk_7 | exact bk_8 | exact bk_9 | exact bk_10 | exact bk_11 | exact bk_12 | exact bk_13 | exact bk_14 | exact bk_15 | exact bk_16 | exact zup_self | exact (zup_ne (by first | assumption | omega)).trans (by first | assumption | exact zup_self) | exact (zup_ne (by first | assumption | omega)).trans ((zup_ne (by first | assumption | omega)).trans (by first | assumption | exact zup_self)) | exact (bk_out (by first | omega | (simp only [bset, reduceIte, Nat.reduceEqDiff]; omega))).trans (by first | exact bk_0 | exact bk_1 | exact bk_2 | exact bk_3 | exact bk_4 | exact bk_5 | exact bk_6 | exact bk_7 | exact bk_8 | exact bk_9 | exact bk_10 | exact bk_11 | exact bk_12 | exact bk_13 | exact bk_14 | exact bk_15 | exact bk_16 | exact cr_5 | exact cr_23 | exact cr_24 | exact cr_25 | exact cr_26 | exact cr_27 | exact cr_28 | exact cr_29 | exact cr_30 | assumption)) rfl ?_
  refine zr_getf dX6_layOrder_40 (rfl : 40 + 3 = 43) f_X6_105 (by first | assumption | exact mw_167 | exact mw_168 | exact mw_169 | exact mw_170 | exact bk_0 | exact bk_1 | exact bk_2 | exact bk_3 | exact bk_4 | exact bk_5 | exact bk_6 | exact bk_7 | exact bk_8 | exact bk_9 | exact bk_10 | exact bk_11 | exact bk_12 | exact bk_13 | exact bk_14 | exact bk_15 | exact bk_16 | exact zup_self | exact (zup_ne (by first | assumption | omega)).trans (by first | assumption | exact zup_self) | exact (zup_ne (by first | assumption | omega)).trans ((zup_ne (by first | assumption | omega)).trans (by first | assumption | exact zup_self)) | exact (bk_out (by first | omega | (simp only [bset, reduceIte, Nat.reduceEqDiff]; omega))).trans (by first | exact bk_0 | exact bk_1 | exact bk_2 | exact bk_3 | exact bk_4 | exact bk_5 | exact bk_6 | exact bk_7 | exact bk_8 | exact bk_9 | exact bk_10 | exact bk_11 | exact bk_12 | exact bk_13 | exact bk_14 | exact bk_15 | exact bk_16 | exact cr_5 | exact cr_23 | exact cr_24 | exact cr_25 | exact cr_26 | exact cr_27 | exact cr_28 | exact cr_29 | exact cr_30 | assumption)) rfl ?_
  refine zr_istore_n (lv' := [_, _, _, _]) dX6_layOrder_43 (rfl : 43 + 1 = 44) (Nat.le_of_ble_eq_true rfl) rfl ?_
  refine zr_aload_n dX6_layOrder_44 (rfl : 44 + 1 = 45) rfl ?_
  refine zr_getf dX6_layOrder_45 (rfl : 45 + 3 = 48) f_X6_213 (by first | assumption | exact mw_167 | exact mw_168 | exact mw_169 | exact mw_170 | exact bk_0 | exact bk_1 | exact bk_2 | exact bk_3 | exact bk_4 | exact bk_5 | exact bk_6 | exact bk_7 | exact bk_8 | exact bk_9 | exact bk_10 | exact bk_11 | exact bk_12 | exact bk_13 | exact bk_14 | exact bk_15 | exact bk_16 | exact zup_self | exact (zup_ne (by first | assumption | omega)).trans (by first | assumption | exact zup_self) | exact (zup_ne (by first | assumption | omega)).trans ((zup_ne (by first | assumption | omega)).trans (by first | assumption | exact zup_self)) | exact (bk_out (by first | omega | (simp only [bset, reduceIte, Nat.reduceEqDiff]; omega))).trans (by first | exact bk_0 | exact bk_1 | exact bk_2 | exact bk_3 | exact bk_4 | exact bk_5 | exact bk_6 | exact bk_7 | exact bk_8 | exact bk_9 | exact bk_10 | exact bk_11 | exact bk_12 | exact bk_13 | exact bk_14 | exact bk_15 | exact bk_16 | exact cr_5 | exact cr_23 | exact cr_24 | exact cr_25 | exact cr_26 | exact cr_27 | exact cr_28 | exact cr_29 | exact cr_30 | assumption)) rfl ?_
  refine zr_istore_n (lv' := [_, _, _, _]) dX6_layOrder_48 (rfl : 48 + 1 = 49) (Nat.le_of_ble_eq_true rfl) rfl ?_
  have key : zRun Γ md_X6_layOrder (d + 3) none 49 [some (.ref 5), some (.ref (6 + 4)), some (.int (jI (jdrs (B 12 0 - B 12 0).toNat B 24 0))), some (.int (jI (B 12 0)))] [] (n9, g9, 0, 0) (bk 6 B (cr σ ((jtn B τ (B 12 0 - B 12 0).toNat).1, (jtn B τ (B 12 0 - B 12 0).toNat).2.1, jon B τ.od (B 12 0 - B 12 0).toNat) u)) (zDone md_X6_layOrder none (bk 6 B (cr σ ((jtn B τ (B 4 0).toNat).1, (jtn B τ (B 4 0).toNat).2.1, jon B τ.od (B 4 0).toNat) u)) n9 g9) := by
    refine zfor1 (B 12 0) (B 4 0).toNat (fun _ _ => True) (fun i (_ : Unit) => [some (.ref 5), some (.ref (6 + 4)), some (.int (jI (jdrs (i - B 12 0).toNat B 24 0))), some (.int (jI i))]) (fun i _ => bk 6 B (cr σ ((jtn B τ (i - B 12 0).toNat).1, (jtn B τ (i - B 12 0).toNat).2.1, jon B τ.od (i - B 12 0).toNat) u)) () trivial ?_ ?_
    · intro i _ i0 i1 _ hk
      have hk := hk () trivial
      rw [show (i + 1 - B 12 0).toNat = (i - B 12 0).toNat + 1 by omega] at hk
      have okk := jok_drs ok (i - B 12 0).toNat (by omega)
      have hlo := okk.lo
      have ht := s_tryOut (Γ := Γ) (d := d + 1) (σ := σ) (τ := τ) (u := u) (i - B 12 0).toNat (jon B τ.od (i - B 12 0).toNat) ok (by omega)
      have e1 : jdrs ((i - B 12 0).toNat + 1) B 24 0 = jlot (jdrs (i - B 12 0).toNat B 24 0) := jdr1_lot _
      rw [e1] at hk
      have e2 : jon B τ.od ((i - B 12 0).toNat + 1) = jup (jon B τ.od (i - B 12 0).toNat) i (jball (jdrs (i - B 12 0).toNat B)) := by
        show jup _ _ _ = _
        rw [show B 12 0 + ((i - B 12 0).toNat : Int) = i by omega]
      rw [e2] at hk
      refine zr_iload_n dX6_layOrder_49 (rfl : 49 + 1 = 50) rfl ?_
      refine zr_bipush dX6_layOrder_50 (rfl : 50 + 2 = 52) (by decide) ?_
      refine zr_icmp_ge (tgt := 80) dX6_layOrder_52 (by decide) (rfl : 52 + 3 = 55) (jI_le (by first | omega | (simp only [bset, reduceIte, Nat.reduceEqDiff]; omega)) (by first | omega | (simp only [bset, reduceIte, Nat.reduceEqDiff]; omega)) (by first | omega | (simp only [bset, reduceIte, Nat.reduceEqDiff]; omega)) (by first | omega | (simp only [bset, reduceIte, Nat.reduceEqDiff]; omega))) (fun h52 => ?_) (fun h52 => ?_)
      · exfalso; omega
      · refine zr_iload_n dX6_layOrder_55 (rfl : 55 + 1 = 56) rfl ?_
        refine zr_fnS dX6_layOrder_56 (rfl : 56 + 3 = 59) l_X6_273 (s_lotAfter _ hlo) rfl rfl (Nat.le_of_ble_eq_true rfl) ?_
        refine zr_istore_n (lv' := [_, _, _, _]) dX6_layOrder_59 (rfl : 59 + 1 = 60) (Nat.le_of_ble_eq_true rfl) rfl ?_
        refine zr_aload_n dX6_layOrder_60 (rfl : 60 + 1 = 61) rfl ?_
        refine zr_getf dX6_layOrder_61 (rfl : 61 + 3 = 64) f_X6_41 (by first | assumption | exact mw_167 | exact mw_168 | exact mw_169 | exact mw_170 | exact bk_0 | exact bk_1 | exact bk_2 | exact bk_3 | exact bk_4 | exact bk_5 | exact bk_6 | exact bk_7 | exact bk_8 | exact bk_9 | exact bk_10 | exact bk_11 | exact bk_12 | exact bk_13 | exact bk_14 | exact bk_15 | exact bk_16 | exact zup_self | exact (zup_ne (by first | assumption | omega)).trans (by first | assumption | exact zup_self) | exact (zup_ne (by first | assumption | omega)).trans ((zup_ne (by first | assumption | omega)).trans (by first | assumption | exact zup_self)) | exact (bk_out (by first | omega | (simp only [bset, reduceIte, Nat.reduceEqDiff]; omega))).trans (by first | exact bk_0 | exact bk_1 | exact bk_2 | exact bk_3 | exact bk_4 | exact bk_5 | exact bk_6 | exact bk_7 | exact bk_8 | exact bk_9 | exact bk_10 | exact bk_11 | exact bk_12 | exact bk_13 | exact bk_14 | exact bk_15 | exact bk_16 | exact cr_5 | exact cr_23 | exact cr_24 | exact cr_25 | exact cr_26 | exact cr_27 | exact cr_28 | exact cr_29 | exact cr_30 | assumption)) rfl ?_
        refine zr_iload_n dX6_layOrder_64 (rfl : 64 + 1 = 65) rfl ?_
        refine zr_aload_n dX6_layOrder_65 (rfl : 65 + 1 = 66) rfl ?_
        refine zr_getf dX6_layOrder_66 (rfl : 66 + 3 = 69) f_X6_37 (by first | assumption | exact mw_167 | exact mw_168 | exact mw_169 | exact mw_170 | exact bk_0 | exact bk_1 | exact bk_2 | exact bk_3 | exact bk_4 | exact bk_5 | exact bk_6 | exact bk_7 | exact bk_8 | exact bk_9 | exact bk_10 | exact bk_11 | exact bk_12 | exact bk_13 | exact bk_14 | exact bk_15 | exact bk_16 | exact zup_self | exact (zup_ne (by first | assumption | omega)).trans (by first | assumption | exact zup_self) | exact (zup_ne (by first | assumption | omega)).trans ((zup_ne (by first | assumption | omega)).trans (by first | assumption | exact zup_self)) | exact (bk_out (by first | omega | (simp only [bset, reduceIte, Nat.reduceEqDiff]; omega))).trans (by first | exact bk_0 | exact bk_1 | exact bk_2 | exact bk_3 | exact bk_4 | exact bk_5 | exact bk_6 | exact bk_7 | exact bk_8 | exact bk_9 | exact bk_10 | exact bk_11 | exact bk_12 | exact bk_13 | exact bk_14 | exact bk_15 | exact bk_16 | exact cr_5 | exact cr_23 | exact cr_24 | exact cr_25 | exact cr_26 | exact cr_27 | exact cr_28 | exact cr_29 | exact cr_30 | assumption)) rfl ?_
        refine zr_iload_n dX6_layOrder_69 (rfl : 69 + 1 = 70) rfl ?_
        refine zr_fnV dX6_layOrder_70 (rfl : 70 + 3 = 73) l_X6_276 (ht) (by first | assumption | exact mw_167 | exact mw_168 | exact mw_169 | exact mw_170 | exact bk_0 | exact bk_1 | exact bk_2 | exact bk_3 | exact bk_4 | exact bk_5 | exact bk_6 | exact bk_7 | exact bk_8 | exact bk_9 | exact bk_10 | exact bk_11 | exact bk_12 | exact bk_13 | exact bk_14 | exact bk_15 | exact bk_16 | exact zup_self | exact (zup_ne (by first | assumption | omega)).trans (by first | assumption | exact zup_self) | exact (zup_ne (by first | assumption | omega)).trans ((zup_ne (by first | assumption | omega)).trans (by first | assumption | exact zup_self)) | exact (bk_out (by first | omega | (simp only [bset, reduceIte, Nat.reduceEqDiff]; omega))).trans (by first | exact bk_0 | exact bk_1 | exact bk_2 | exact bk_3 | exact bk_4 | exact bk_5 | exact bk_6 | exact bk_7 | exact bk_8 | exact bk_9 | exact bk_10 | exact bk_11 | exact bk_12 | exact bk_13 | exact bk_14 | exact bk_15 | exact bk_16 | exact cr_5 | exact cr_23 | exact cr_24 | exact cr_25 | exact cr_26 | exact cr_27 | exact cr_28 | exact cr_29 | exact cr_30 | assumption)) rfl rfl rfl (Nat.le_of_ble_eq_true rfl) ?_
        refine zr_iast dX6_layOrder_73 (rfl : 73 + 1 = 74) (cr_at (by first | omega | (simp only [bset, reduceIte, Nat.reduceEqDiff]; omega)) cr_30) (by decide) (by first | omega | (simp only [bset, reduceIte, Nat.reduceEqDiff]; omega)) (by first | omega | (simp only [bset, reduceIte, Nat.reduceEqDiff]; omega)) rfl ?_
        rw [cru_30]
        refine zr_iinc (lv' := [_, _, _, _]) dX6_layOrder_74 (rfl : 74 + 3 = 77) (Nat.le_of_ble_eq_true rfl) rfl (by first | exact jI_add _ _ | rfl) rfl ?_
        refine zr_goto (tgt := 49) dX6_layOrder_77 (by decide) ?_
        exact hk
    · intro _ _
      rw [show B 12 0 + ((B 4 0).toNat : Int) - B 12 0 = B 4 0 by omega]
      refine zr_iload_n dX6_layOrder_49 (rfl : 49 + 1 = 50) rfl ?_
      refine zr_bipush dX6_layOrder_50 (rfl : 50 + 2 = 52) (by decide) ?_
      refine zr_icmp_ge (tgt := 80) dX6_layOrder_52 (by decide) (rfl : 52 + 3 = 55) (jI_le (by first | omega | (simp only [bset, reduceIte, Nat.reduceEqDiff]; omega)) (by first | omega | (simp only [bset, reduceIte, Nat.reduceEqDiff]; omega)) (by first | omega | (simp only [bset, reduceIte, Nat.reduceEqDiff]; omega)) (by first | omega | (simp only [bset, reduceIte, Nat.reduceEqDiff]; omega))) (fun h52 => ?_) (fun h52 => ?_)
      · first
        | (exfalso; omega)
        | (
          exact zr_vret dX6_layOrder_80 rfl rfl rfl rfl)
      · first
        | (exfalso; omega)
        | (
          exfalso
          omega)
  rw [show (B 12 0 - B 12 0).toNat = 0 by omega] at key
  exact key
/-- the last call at which a number of the card is drawn -/
def jlo (od : Int → Int) (B : zB) (c : Int) : Nat → Int
  | 0 => -1
  | n + 1 => if json B c (od n) then (n : Int) + 1 else jlo od B c n
def jlc (B : zB) (c : Int) : Int := jlo (jod B) B c 90
theorem jlo_congr {od od2 : Int → Int} {c : Int} : ∀ n : Nat, (∀ z : Int, 0 ≤ z → z < n → od z = od2 z) → jlo od B c n = jlo od2 B c n
  | 0, _ => rfl
  | n + 1, h => by
    unfold jlo
    rw [h n (by omega) (by omega), jlo_congr n (fun z z0 z1 => h z z0 (by omega))]
theorem jlo_r {od : Int → Int} {c : Int} : ∀ n : Nat, jlo od B c n = -1 ∨ (1 ≤ jlo od B c n ∧ jlo od B c n ≤ n)
  | 0 => Or.inl rfl
  | n + 1 => by
    unfold jlo
    have : jlo od B c n = -1 ∨ (1 ≤ jlo od B c n ∧ jlo od B c n ≤ n) := jlo_r n
    split
    · exact Or.inr ⟨by omega, by omega⟩
    · omega
theorem s_lastCall (c : Int) (hc : 0 ≤ c ∧ c < 6) (ok : jok B) (ho : ∀ z, 0 ≤ z → z < 90 → 0 ≤ τ.od z ∧ τ.od z ≤ 90) : zFn Γ md_X6_lastCallInOrder (d + 4) [.ref 5, .int (jI c)] (bk 6 B (cr σ τ u)) (some (.int (jI (jlo τ.od B c 90)))) (bk 6 B (cr σ τ u)) := by
  refine zFn.of_run (lv := [some (.ref 5), some (.int (jI c)), none, none]) (by decide) rfl (Nat.le_of_ble_eq_true rfl) rfl (fun n9 g9 => ?_)
  refine zr_iconst dX6_lastCallInOrder_0 (rfl : 0 + 1 = 1) ?_
  refine zr_istore_n (lv' := [_, _, _, _]) dX6_lastCallInOrder_1 (rfl : 1 + 1 = 2) (Nat.le_of_ble_eq_true rfl) rfl ?_
  refine zr_iconst dX6_lastCallInOrder_2 (rfl : 2 + 1 = 3) ?_
  refine zr_istore_n (lv' := [_, _, _, _]) dX6_lastCallInOrder_3 (rfl : 3 + 1 = 4) (Nat.le_of_ble_eq_true rfl) rfl ?_
  refine zfor1 0 90 (fun i x => x = jlo τ.od B c i.toNat) (fun i x => [some (.ref 5), some (.int (jI c)), some (.int (jI x)), some (.int (jI i))]) (fun _ _ => bk 6 B (cr σ τ u)) (-1) rfl ?_ ?_
  · intro i x i0 i1 hx hk
    have hoi := ho i i0 (by omega)
    have hn : jlo τ.od B c (i + 1).toNat = if json B c (τ.od i) then i + 1 else x := by
      rw [show (i + 1).toNat = i.toNat + 1 by omega, hx]
      show (if json B c (τ.od (i.toNat : Int)) then (i.toNat : Int) + 1 else _) = _
      rw [show (i.toNat : Int) = i by omega]
    refine zr_iload_n dX6_lastCallInOrder_4 (rfl : 4 + 1 = 5) rfl ?_
    refine zr_bipush dX6_lastCallInOrder_5 (rfl : 5 + 2 = 7) (by decide) ?_
    refine zr_icmp_ge (tgt := 40) dX6_lastCallInOrder_7 (by decide) (rfl : 7 + 3 = 10) (jI_le (by first | omega | (simp only [bset, reduceIte, Nat.reduceEqDiff]; omega)) (by first | omega | (simp only [bset, reduceIte, Nat.reduceEqDiff]; omega)) (by first | omega | (simp only [bset, reduceIte, Nat.reduceEqDiff]; omega)) (by first | omega | (simp only [bset, reduceIte, Nat.reduceEqDiff]; omega))) (fun h7 => ?_) (fun h7 => ?_)
    · first
      | (exfalso; omega)
      | (
        refine zr_iload_n dX6_lastCallInOrder_40 (rfl : 40 + 1 = 41) rfl ?_
        refine zr_iret dX6_lastCallInOrder_41 rfl rfl ?_ rfl rfl rfl
        first | rfl | rw [jb_pos (by first | assumption | omega)] | rw [jb_neg (by first | assumption | omega)] | rw [if_pos (by first | assumption | omega)] | rw [if_neg (by first | assumption | omega)])
    · first
      | (exfalso; omega)
      | (
        refine zr_aload_n dX6_lastCallInOrder_10 (rfl : 10 + 1 = 11) rfl ?_
        refine zr_getf dX6_lastCallInOrder_11 (rfl : 11 + 3 = 14) f_X6_10 (by first | assumption | exact mw_167 | exact mw_168 | exact mw_169 | exact mw_170 | exact bk_0 | exact bk_1 | exact bk_2 | exact bk_3 | exact bk_4 | exact bk_5 | exact bk_6 | exact bk_7 | exact bk_8 | exact bk_9 | exact bk_10 | exact bk_11 | exact bk_12 | exact bk_13 | exact bk_14 | exact bk_15 | exact bk_16 | exact zup_self | exact (zup_ne (by first | assumption | omega)).trans (by first | assumption | exact zup_self) | exact (zup_ne (by first | assumption | omega)).trans ((zup_ne (by first | assumption | omega)).trans (by first | assumption | exact zup_self)) | exact (bk_out (by first | omega | (simp only [bset, reduceIte, Nat.reduceEqDiff]; omega))).trans (by first | exact bk_0 | exact bk_1 | exact bk_2 | exact bk_3 | exact bk_4 | exact bk_5 | exact bk_6 | exact bk_7 | exact bk_8 | exact bk_9 | exact bk_10 | exact bk_11 | exact bk_12 | exact bk_13 | exact bk_14 | exact bk_15 | exact bk_16 | exact cr_5 | exact cr_23 | exact cr_24 | exact cr_25 | exact cr_26 | exact cr_27 | exact cr_28 | exact cr_29 | exact cr_30 | assumption)) rfl ?_
        refine zr_getf dX6_lastCallInOrder_14 (rfl : 14 + 3 = 17) f_X6_69 (by first | assumption | exact mw_167 | exact mw_168 | exact mw_169 | exact mw_170 | exact bk_0 | exact bk_1 | exact bk_2 | exact bk_3 | exact bk_4 | exact bk_5 | exact bk_6 | exact bk_7 | exact bk_8 | exact bk_9 | exact bk_10 | exact bk_11 | exact bk_12 | exact bk_13 | exact bk_14 | exact bk_15 | exact bk_16 | exact zup_self | exact (zup_ne (by first | assumption | omega)).trans (by first | assumption | exact zup_self) | exact (zup_ne (by first | assumption | omega)).trans ((zup_ne (by first | assumption | omega)).trans (by first | assumption | exact zup_self)) | exact (bk_out (by first | omega | (simp only [bset, reduceIte, Nat.reduceEqDiff]; omega))).trans (by first | exact bk_0 | exact bk_1 | exact bk_2 | exact bk_3 | exact bk_4 | exact bk_5 | exact bk_6 | exact bk_7 | exact bk_8 | exact bk_9 | exact bk_10 | exact bk_11 | exact bk_12 | exact bk_13 | exact bk_14 | exact bk_15 | exact bk_16 | exact cr_5 | exact cr_23 | exact cr_24 | exact cr_25 | exact cr_26 | exact cr_27 | exact cr_28 | exact cr_29 | exact cr_30 | assumption)) rfl ?_
        refine zr_iload_n dX6_lastCallInOrder_17 (rfl : 17 + 1 = 18) rfl ?_
        refine zr_aload_n dX6_lastCallInOrder_18 (rfl : 18 + 1 = 19) rfl ?_
        refine zr_getf dX6_lastCallInOrder_19 (rfl : 19 + 3 = 22) f_X6_41 (by first | assumption | exact mw_167 | exact mw_168 | exact mw_169 | exact mw_170 | exact bk_0 | exact bk_1 | exact bk_2 | exact bk_3 | exact bk_4 | exact bk_5 | exact bk_6 | exact bk_7 | exact bk_8 | exact bk_9 | exact bk_10 | exact bk_11 | exact bk_12 | exact bk_13 | exact bk_14 | exact bk_15 | exact bk_16 | exact zup_self | exact (zup_ne (by first | assumption | omega)).trans (by first | assumption | exact zup_self) | exact (zup_ne (by first | assumption | omega)).trans ((zup_ne (by first | assumption | omega)).trans (by first | assumption | exact zup_self)) | exact (bk_out (by first | omega | (simp only [bset, reduceIte, Nat.reduceEqDiff]; omega))).trans (by first | exact bk_0 | exact bk_1 | exact bk_2 | exact bk_3 | exact bk_4 | exact bk_5 | exact bk_6 | exact bk_7 | exact bk_8 | exact bk_9 | exact bk_10 | exact bk_11 | exact bk_12 | exact bk_13 | exact bk_14 | exact bk_15 | exact bk_16 | exact cr_5 | exact cr_23 | exact cr_24 | exact cr_25 | exact cr_26 | exact cr_27 | exact cr_28 | exact cr_29 | exact cr_30 | assumption)) rfl ?_
        refine zr_iload_n dX6_lastCallInOrder_22 (rfl : 22 + 1 = 23) rfl ?_
        refine zr_iald dX6_lastCallInOrder_23 (rfl : 23 + 1 = 24) (by first | assumption | exact mw_167 | exact mw_168 | exact mw_169 | exact mw_170 | exact bk_0 | exact bk_1 | exact bk_2 | exact bk_3 | exact bk_4 | exact bk_5 | exact bk_6 | exact bk_7 | exact bk_8 | exact bk_9 | exact bk_10 | exact bk_11 | exact bk_12 | exact bk_13 | exact bk_14 | exact bk_15 | exact bk_16 | exact zup_self | exact (zup_ne (by first | assumption | omega)).trans (by first | assumption | exact zup_self) | exact (zup_ne (by first | assumption | omega)).trans ((zup_ne (by first | assumption | omega)).trans (by first | assumption | exact zup_self)) | exact (bk_out (by first | omega | (simp only [bset, reduceIte, Nat.reduceEqDiff]; omega))).trans (by first | exact bk_0 | exact bk_1 | exact bk_2 | exact bk_3 | exact bk_4 | exact bk_5 | exact bk_6 | exact bk_7 | exact bk_8 | exact bk_9 | exact bk_10 | exact bk_11 | exact bk_12 | exact bk_13 | exact bk_14 | exact bk_15 | exact bk_16 | exact cr_5 | exact cr_23 | exact cr_24 | exact cr_25 | exact cr_26 | exact cr_27 | exact cr_28 | exact cr_29 | exact cr_30 | assumption)) (by decide) (by first | omega | (simp only [bset, reduceIte, Nat.reduceEqDiff]; omega)) (by first | omega | (simp only [bset, reduceIte, Nat.reduceEqDiff]; omega)) ?_
        refine zr_fnV dX6_lastCallInOrder_24 (rfl : 24 + 3 = 27) l_X6_365 (s_standsIn c (τ.od i) (by first | omega | (simp only [bset, reduceIte, Nat.reduceEqDiff]; omega)) hc ok.R) (by first | assumption | exact mw_167 | exact mw_168 | exact mw_169 | exact mw_170 | exact bk_0 | exact bk_1 | exact bk_2 | exact bk_3 | exact bk_4 | exact bk_5 | exact bk_6 | exact bk_7 | exact bk_8 | exact bk_9 | exact bk_10 | exact bk_11 | exact bk_12 | exact bk_13 | exact bk_14 | exact bk_15 | exact bk_16 | exact zup_self | exact (zup_ne (by first | assumption | omega)).trans (by first | assumption | exact zup_self) | exact (zup_ne (by first | assumption | omega)).trans ((zup_ne (by first | assumption | omega)).trans (by first | assumption | exact zup_self)) | exact (bk_out (by first | omega | (simp only [bset, reduceIte, Nat.reduceEqDiff]; omega))).trans (by first | exact bk_0 | exact bk_1 | exact bk_2 | exact bk_3 | exact bk_4 | exact bk_5 | exact bk_6 | exact bk_7 | exact bk_8 | exact bk_9 | exact bk_10 | exact bk_11 | exact bk_12 | exact bk_13 | exact bk_14 | exact bk_15 | exact bk_16 | exact cr_5 | exact cr_23 | exact cr_24 | exact cr_25 | exact cr_26 | exact cr_27 | exact cr_28 | exact cr_29 | exact cr_30 | assumption)) rfl rfl rfl (Nat.le_of_ble_eq_true rfl) ?_
        refine zr_if_eq (tgt := 34) dX6_lastCallInOrder_27 (by decide) (rfl : 27 + 3 = 30) (by first | exact jb_iff | exact jI_z (by first | omega | (simp only [bset, reduceIte, Nat.reduceEqDiff]; omega)) (by first | omega | (simp only [bset, reduceIte, Nat.reduceEqDiff]; omega))) (fun h27 => ?_) (fun h27 => ?_)
        · first
          | (exfalso; omega)
          | (
            refine zr_iinc (lv' := [_, _, _, _]) dX6_lastCallInOrder_34 (rfl : 34 + 3 = 37) (Nat.le_of_ble_eq_true rfl) rfl (by first | exact jI_add _ _ | rfl) rfl ?_
            refine zr_goto (tgt := 4) dX6_lastCallInOrder_37 (by decide) ?_
            refine hk _ ?_
            first | rw [hn, if_pos h27] | rw [hn, if_neg h27] | rw [hn, if_pos (Decidable.not_not.mp h27)])
        · first
          | (exfalso; omega)
          | (
            refine zr_iload_n dX6_lastCallInOrder_30 (rfl : 30 + 1 = 31) rfl ?_
            refine zr_iconst dX6_lastCallInOrder_31 (rfl : 31 + 1 = 32) ?_
            refine zr_iadd dX6_lastCallInOrder_32 (rfl : 32 + 1 = 33) (by first | exact jI_add _ _ | rfl) ?_
            refine zr_istore_n (lv' := [_, _, _, _]) dX6_lastCallInOrder_33 (rfl : 33 + 1 = 34) (Nat.le_of_ble_eq_true rfl) rfl ?_
            refine zr_iinc (lv' := [_, _, _, _]) dX6_lastCallInOrder_34 (rfl : 34 + 3 = 37) (Nat.le_of_ble_eq_true rfl) rfl (by first | exact jI_add _ _ | rfl) rfl ?_
            refine zr_goto (tgt := 4) dX6_lastCallInOrder_37 (by decide) ?_
            refine hk _ ?_
            first | rw [hn, if_pos h27] | rw [hn, if_neg h27] | rw [hn, if_pos (Decidable.not_not.mp h27)]))
  · intro x hx
    rw [show x = jlo τ.od B c 90 from hx]
    refine zr_iload_n dX6_lastCallInOrder_4 (rfl : 4 + 1 = 5) rfl ?_
    refine zr_bipush dX6_lastCallInOrder_5 (rfl : 5 + 2 = 7) (by decide) ?_
    refine zr_icmp_ge (tgt := 40) dX6_lastCallInOrder_7 (by decide) (rfl : 7 + 3 = 10) (jI_le (by first | omega | (simp only [bset, reduceIte, Nat.reduceEqDiff]; omega)) (by first | omega | (simp only [bset, reduceIte, Nat.reduceEqDiff]; omega)) (by first | omega | (simp only [bset, reduceIte, Nat.reduceEqDiff]; omega)) (by first | omega | (simp only [bset, reduceIte, Nat.reduceEqDiff]; omega))) (fun h7 => ?_) (fun h7 => ?_)
    · first
      | (exfalso; omega)
      | (
        refine zr_iload_n dX6_lastCallInOrder_40 (rfl : 40 + 1 = 41) rfl ?_
        refine zr_iret dX6_lastCallInOrder_41 rfl rfl ?_ rfl rfl rfl
        first | rfl | rw [jb_pos (by first | assumption | omega)] | rw [jb_neg (by first | assumption | omega)] | rw [if_pos (by first | assumption | omega)] | rw [if_neg (by first | assumption | omega)])
    · first
      | (exfalso; omega)
      | (
        exfalso
        omega)
end TN

