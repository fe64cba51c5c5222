/-! drawing, claims -/
/-- the drum without the ball of the lot; the lot -/
def jdr0 (B : zB) : zB := bset (bset (bset B 24 (fun _ => jlot (B 24 0))) 4 (fun _ => B 4 0 - 1)) 3 (jtk (B 3) (B 4 0) (jlot (B 24 0) % B 4 0))
/-- the ball of the next lot -/
def jball (B : zB) : Int := B 3 (jlot (B 24 0) % B 4 0)
/-- a ball is drawn and told -/
def jdr1 (B : zB) : zB := if 0 < B 23 1 ∧ (B 12 0 + 1) % B 23 1 = 0 then jtl (jdr0 B) (jball B) (jball B % 90 + 1) 1 else jtl (jdr0 B) (jball B) (jball B) 0
def jdrs : Nat → zB → zB
  | 0, B => B
  | n + 1, B => jdr1 (jdrs n B)
theorem jlot_r {x : Int} (h : 0 ≤ x ∧ x < 10000) : 0 ≤ jlot x ∧ jlot x < 10000 := by unfold jlot; omega
theorem jball_r {B : zB} (ok : jok B) (h : B 12 0 < 90) : 1 ≤ jball B ∧ jball B ≤ 90 ∧ 0 ≤ jlot (B 24 0) % B 4 0 ∧ jlot (B 24 0) % B 4 0 < B 4 0 := by
  have hs := ok.ds
  have hc := ok.ca
  have h1 : 0 ≤ jlot (B 24 0) % B 4 0 := Int.emod_nonneg _ (by omega)
  have h2 : jlot (B 24 0) % B 4 0 < B 4 0 := Int.emod_lt_of_pos _ (by omega)
  have := ok.nu (jlot (B 24 0) % B 4 0) h1 (by omega)
  exact ⟨this.1, this.2, h1, h2⟩
theorem jok_tl {B : zB} {n sp sl : Int} (ok : jok (bset B 4 (fun _ => 90 - B 12 0))) (h4 : B 4 0 = 90 - B 12 0 - 1) (hc : B 12 0 < 90) (hn : 1 ≤ n ∧ n ≤ 90) (hsp : 1 ≤ sp ∧ sp ≤ 90) : jok (jtl B n sp sl) := by
  have hP := ok.P
  have hR := ok.R
  have hbo := ok.bo
  have hca := ok.ca
  have hW := ok.W
  have hwa := ok.wa
  have hda := ok.da
  have hsa := ok.sa
  have hlo := ok.lo
  have hse := ok.se
  have hnu := ok.nu
  have hdr := ok.dr
  have hsd := ok.sd
  have hpo := ok.po
  have hda2 := ok.da2
  have hsa2 := ok.sa2
  simp only [bset, reduceIte, Nat.reduceEqDiff] at hP hR hbo hca hW hwa hda hsa hlo hse hnu hdr hsd hpo hda2 hsa2
  have hs9 := hsa2 sp (by omega) (by omega)
  have hs8 := hsa sp
  refine ⟨hP, hR, hbo, ?_, hW, hwa, ?_, ?_, hlo, hse, ?_, hnu, ?_, ?_, hpo, ?_, ?_⟩
  · show 0 ≤ B 12 0 + 1 ∧ B 12 0 + 1 ≤ 90
    omega
  · intro z
    show 0 ≤ jup (B 7) n (B 12 0 + 1) z ∧ jup (B 7) n (B 12 0 + 1) z ≤ 90
    unfold jup
    split
    · omega
    · exact hda z
  · intro z
    show 0 ≤ jup (B 8) sp (B 8 sp + 1) z ∧ jup (B 8) sp (B 8 sp + 1) z ≤ 90
    unfold jup
    split
    · omega
    · exact hsa z
  · show B 4 0 = 90 - (B 12 0 + 1)
    omega
  · intro z
    show 0 ≤ jup (B 5) (B 12 0) n z ∧ jup (B 5) (B 12 0) n z ≤ 90
    unfold jup
    split
    · omega
    · exact hdr z
  · intro z
    show 0 ≤ jup (B 6) (B 12 0) sp z ∧ jup (B 6) (B 12 0) sp z ≤ 90
    unfold jup
    split
    · omega
    · exact hsd z
  · intro z z0 z9
    show jup (B 7) n (B 12 0 + 1) z ≤ B 12 0 + 1
    unfold jup
    split
    · omega
    · have := hda2 z z0 z9; omega
  · intro z z0 z9
    show jup (B 8) sp (B 8 sp + 1) z ≤ B 12 0 + 1
    unfold jup
    split
    · omega
    · have := hsa2 z z0 z9; omega
theorem jok_dr0 {B : zB} (ok : jok B) (hc : B 12 0 < 90) : jok (bset (jdr0 B) 4 (fun _ => 90 - (jdr0 B) 12 0)) := by
  obtain ⟨b1, b2, k0, k1⟩ := jball_r ok hc
  have hs := ok.ds
  have hca := ok.ca
  refine ⟨ok.P, ok.R, ok.bo, ok.ca, ok.W, ok.wa, ok.da, ok.sa, jlot_r ok.lo, ok.se, rfl, ?_, ok.dr, ok.sd, ok.po, ok.da2, ok.sa2⟩
  intro z z0 z9
  show 1 ≤ jtk (B 3) (B 4 0) (jlot (B 24 0) % B 4 0) z ∧ jtk (B 3) (B 4 0) (jlot (B 24 0) % B 4 0) z ≤ 90
  unfold jtk jcpy
  split
  · exact ok.nu _ (by omega) (by omega)
  · exact ok.nu z z0 z9
theorem jok_dr1 {B : zB} (ok : jok B) (hc : B 12 0 < 90) : jok (jdr1 B) := by
  obtain ⟨b1, b2, k0, k1⟩ := jball_r ok hc
  have hs := ok.ds
  unfold jdr1
  split
  · exact jok_tl (jok_dr0 ok hc) (by show B 4 0 - 1 = 90 - B 12 0 - 1; omega) hc ⟨b1, b2⟩ (by omega)
  · exact jok_tl (jok_dr0 ok hc) (by show B 4 0 - 1 = 90 - B 12 0 - 1; omega) hc ⟨b1, b2⟩ ⟨b1, b2⟩
theorem jdr1_ca (B : zB) : jdr1 B 12 0 = B 12 0 + 1 := by
  unfold jdr1
  split <;> rfl
theorem jdrs_ca (B : zB) : ∀ n : Nat, jdrs n B 12 0 = B 12 0 + n
  | 0 => by simp [jdrs]
  | n + 1 => by
    show jdr1 (jdrs n B) 12 0 = _
    rw [jdr1_ca, jdrs_ca B n]
    omega
theorem jok_drs {B : zB} (ok : jok B) : ∀ n : Nat, B 12 0 + n ≤ 90 → jok (jdrs n B)
  | 0, _ => ok
  | n + 1, h => jok_dr1 (jok_drs ok n (by omega)) (by rw [jdrs_ca]; omega)
/-- the last of n balls -/
def jdrl (B : zB) (n : Nat) : Int := match n with
  | 0 => -1
  | n + 1 => jball (jdrs n B)
section DB
variable {Γ : zΓ} {d : Nat} {w : zW} {b : Nat} {B : zB}
theorem s_tell (n : Int) (hn : 1 ≤ n ∧ n ≤ 90) (hc : 0 ≤ B 12 0 ∧ B 12 0 < 90) (hs : 0 ≤ B 23 1 ∧ B 23 1 < 100) : zFn Γ md_X3_tell d [.ref (b + 4), .int (jI n), .int (jI (B 23 1))] (bk b B w) none (bk b (if 0 < B 23 1 ∧ (B 12 0 + 1) % B 23 1 = 0 then jtl B n (n % 90 + 1) 1 else jtl B n n 0) w) := by
  by_cases h : 0 < B 23 1 ∧ (B 12 0 + 1) % B 23 1 = 0
  · rw [if_pos h]
    exact s_tell1 n _ hn hs hc h
  · rw [if_neg h]
    exact s_tell0 n _ hn hs hc h
theorem s_drawBalls (n : Nat) (hn : 1 ≤ n ∧ n ≤ 90) (ok : jok B) (h9 : B 12 0 + n ≤ 90) : zFn Γ md_X0_drawBalls (d + 2) [.ref b, .int (jI n)] (bk b B w) (some (.int (jI (jdrl B n)))) (bk b (jdrs n B) w) := by
  refine zFn.of_run (lv := [some (.ref b), some (.int (jI n)), none, none]) (by decide) rfl (Nat.le_of_ble_eq_true rfl) rfl (fun n9 g9 => ?_)
  refine zr_iconst dX0_drawBalls_0 (rfl : 0 + 1 = 1) ?_
  refine zr_istore_n (lv' := [_, _, _, _]) dX0_drawBalls_1 (rfl : 1 + 1 = 2) (Nat.le_of_ble_eq_true rfl) rfl ?_
  refine zr_iconst dX0_drawBalls_2 (rfl : 2 + 1 = 3) ?_
  refine zr_istore_n (lv' := [_, _, _, _]) dX0_drawBalls_3 (rfl : 3 + 1 = 4) (Nat.le_of_ble_eq_true rfl) rfl ?_
  refine zfor2 0 n (fun i x B1 => x = jdrl B i.toNat ∧ B1 = jdrs i.toNat B) (fun i x _ => [some (.ref b), some (.int (jI n)), some (.int (jI x)), some (.int (jI i))]) (fun i _ B1 => bk b B1 w) (-1) B ⟨rfl, rfl⟩ ?_ ?_
  · rintro i x B1 h0 hi ⟨rfl, hB1⟩ hk
    have ok1 : jok B1 := by rw [hB1]; exact jok_drs ok _ (by omega)
    have hc1 : B1 12 0 = B 12 0 + i := by rw [hB1, jdrs_ca]; omega
    have hds := ok1.ds
    have hlo := ok1.lo
    have hlo2 := jlot_r hlo
    have hca := ok1.ca
    obtain ⟨b1, b2, k0, k1⟩ := jball_r ok1 (by omega)
    have hse := ok1.se 1
    have hnx : jdrs (i + 1).toNat B = jdr1 B1 := by
      rw [show (i + 1).toNat = i.toNat + 1 by omega, hB1]
      rfl
    have hnl : jdrl B (i + 1).toNat = jball B1 := by
      rw [show (i + 1).toNat = i.toNat + 1 by omega, hB1]
      rfl
    refine zr_iload_n dX0_drawBalls_4 (rfl : 4 + 1 = 5) rfl ?_
    refine zr_iload_n dX0_drawBalls_5 (rfl : 5 + 1 = 6) rfl ?_
    refine zr_icmp_ge (tgt := 68) dX0_drawBalls_6 (by decide) (rfl : 6 + 3 = 9) (jI_le (by first | omega | (simp only [bset, reduceIte, Nat.reduceEqDiff]; omega)) (by first | omega | (simp only [bset, reduceIte, Nat.reduceEqDiff]; omega)) (by first | omega | (simp only [bset, reduceIte, Nat.reduceEqDiff]; omega)) (by first | omega | (simp only [bset, reduceIte, Nat.reduceEqDiff]; omega))) (fun h6 => ?_) (fun h6 => ?_)
    · exfalso; omega
    · refine zr_aload_n dX0_drawBalls_9 (rfl : 9 + 1 = 10) rfl ?_
      refine zr_getf dX0_drawBalls_10 (rfl : 10 + 3 = 13) f_X0_21 (by first | assumption | exact mw_167 | exact mw_168 | exact mw_169 | exact mw_170 | exact bk_0 | exact bk_1 | exact bk_2 | exact bk_3 | exact bk_4 | exact bk_5 | exact bk_6 | exact bk_7 | exact bk_8 | exact bk_9 | exact bk_10 | exact bk_11 | exact bk_12 | exact bk_13 | exact bk_14 | exact bk_15 | exact bk_16 | exact zup_self | exact (zup_ne (by first | assumption | omega)).trans (by first | assumption | exact zup_self) | exact (zup_ne (by first | assumption | omega)).trans ((zup_ne (by first | assumption | omega)).trans (by first | assumption | exact zup_self)) | exact (bk_out (by first | omega | (simp only [bset, reduceIte, Nat.reduceEqDiff]; omega))).trans (by first | exact bk_0 | exact bk_1 | exact bk_2 | exact bk_3 | exact bk_4 | exact bk_5 | exact bk_6 | exact bk_7 | exact bk_8 | exact bk_9 | exact bk_10 | exact bk_11 | exact bk_12 | exact bk_13 | exact bk_14 | exact bk_15 | exact bk_16 | exact cr_5 | exact cr_23 | exact cr_24 | exact cr_25 | exact cr_26 | exact cr_27 | exact cr_28 | exact cr_29 | exact cr_30 | assumption)) rfl ?_
      refine zr_getf dX0_drawBalls_13 (rfl : 13 + 3 = 16) f_X0_107 (by first | assumption | exact mw_167 | exact mw_168 | exact mw_169 | exact mw_170 | exact bk_0 | exact bk_1 | exact bk_2 | exact bk_3 | exact bk_4 | exact bk_5 | exact bk_6 | exact bk_7 | exact bk_8 | exact bk_9 | exact bk_10 | exact bk_11 | exact bk_12 | exact bk_13 | exact bk_14 | exact bk_15 | exact bk_16 | exact zup_self | exact (zup_ne (by first | assumption | omega)).trans (by first | assumption | exact zup_self) | exact (zup_ne (by first | assumption | omega)).trans ((zup_ne (by first | assumption | omega)).trans (by first | assumption | exact zup_self)) | exact (bk_out (by first | omega | (simp only [bset, reduceIte, Nat.reduceEqDiff]; omega))).trans (by first | exact bk_0 | exact bk_1 | exact bk_2 | exact bk_3 | exact bk_4 | exact bk_5 | exact bk_6 | exact bk_7 | exact bk_8 | exact bk_9 | exact bk_10 | exact bk_11 | exact bk_12 | exact bk_13 | exact bk_14 | exact bk_15 | exact bk_16 | exact cr_5 | exact cr_23 | exact cr_24 | exact cr_25 | exact cr_26 | exact cr_27 | exact cr_28 | exact cr_29 | exact cr_30 | assumption)) rfl ?_
      refine zr_getf dX0_drawBalls_16 (rfl : 16 + 3 = 19) f_X0_79 (by first | assumption | exact mw_167 | exact mw_168 | exact mw_169 | exact mw_170 | exact bk_0 | exact bk_1 | exact bk_2 | exact bk_3 | exact bk_4 | exact bk_5 | exact bk_6 | exact bk_7 | exact bk_8 | exact bk_9 | exact bk_10 | exact bk_11 | exact bk_12 | exact bk_13 | exact bk_14 | exact bk_15 | exact bk_16 | exact zup_self | exact (zup_ne (by first | assumption | omega)).trans (by first | assumption | exact zup_self) | exact (zup_ne (by first | assumption | omega)).trans ((zup_ne (by first | assumption | omega)).trans (by first | assumption | exact zup_self)) | exact (bk_out (by first | omega | (simp only [bset, reduceIte, Nat.reduceEqDiff]; omega))).trans (by first | exact bk_0 | exact bk_1 | exact bk_2 | exact bk_3 | exact bk_4 | exact bk_5 | exact bk_6 | exact bk_7 | exact bk_8 | exact bk_9 | exact bk_10 | exact bk_11 | exact bk_12 | exact bk_13 | exact bk_14 | exact bk_15 | exact bk_16 | exact cr_5 | exact cr_23 | exact cr_24 | exact cr_25 | exact cr_26 | exact cr_27 | exact cr_28 | exact cr_29 | exact cr_30 | assumption)) rfl ?_
      refine zr_if_le (tgt := 68) dX0_drawBalls_19 (by decide) (rfl : 19 + 3 = 22) (jI_lez (by first | omega | (simp only [bset, reduceIte, Nat.reduceEqDiff]; omega)) (by first | omega | (simp only [bset, reduceIte, Nat.reduceEqDiff]; omega))) (fun h19 => ?_) (fun h19 => ?_)
      · exfalso; omega
      · refine zr_aload_n dX0_drawBalls_22 (rfl : 22 + 1 = 23) rfl ?_
        refine zr_aload_n dX0_drawBalls_23 (rfl : 23 + 1 = 24) rfl ?_
        refine zr_getf dX0_drawBalls_24 (rfl : 24 + 3 = 27) f_X0_36 (by first | assumption | exact mw_167 | exact mw_168 | exact mw_169 | exact mw_170 | exact bk_0 | exact bk_1 | exact bk_2 | exact bk_3 | exact bk_4 | exact bk_5 | exact bk_6 | exact bk_7 | exact bk_8 | exact bk_9 | exact bk_10 | exact bk_11 | exact bk_12 | exact bk_13 | exact bk_14 | exact bk_15 | exact bk_16 | exact zup_self | exact (zup_ne (by first | assumption | omega)).trans (by first | assumption | exact zup_self) | exact (zup_ne (by first | assumption | omega)).trans ((zup_ne (by first | assumption | omega)).trans (by first | assumption | exact zup_self)) | exact (bk_out (by first | omega | (simp only [bset, reduceIte, Nat.reduceEqDiff]; omega))).trans (by first | exact bk_0 | exact bk_1 | exact bk_2 | exact bk_3 | exact bk_4 | exact bk_5 | exact bk_6 | exact bk_7 | exact bk_8 | exact bk_9 | exact bk_10 | exact bk_11 | exact bk_12 | exact bk_13 | exact bk_14 | exact bk_15 | exact bk_16 | exact cr_5 | exact cr_23 | exact cr_24 | exact cr_25 | exact cr_26 | exact cr_27 | exact cr_28 | exact cr_29 | exact cr_30 | assumption)) rfl ?_
        refine zr_fnSN dX0_drawBalls_27 (rfl : 27 + 3 = 30) l_X0_82 (s_lotAfter _ hlo) rfl rfl (Nat.le_of_ble_eq_true rfl) ?_
        refine zr_putf (fs' := [_, _, _, _, _]) dX0_drawBalls_30 (rfl : 30 + 3 = 33) f_X0_36 ft_0_4 (by first | assumption | exact mw_167 | exact mw_168 | exact mw_169 | exact mw_170 | exact bk_0 | exact bk_1 | exact bk_2 | exact bk_3 | exact bk_4 | exact bk_5 | exact bk_6 | exact bk_7 | exact bk_8 | exact bk_9 | exact bk_10 | exact bk_11 | exact bk_12 | exact bk_13 | exact bk_14 | exact bk_15 | exact bk_16 | exact zup_self | exact (zup_ne (by first | assumption | omega)).trans (by first | assumption | exact zup_self) | exact (zup_ne (by first | assumption | omega)).trans ((zup_ne (by first | assumption | omega)).trans (by first | assumption | exact zup_self)) | exact (bk_out (by first | omega | (simp only [bset, reduceIte, Nat.reduceEqDiff]; omega))).trans (by first | exact bk_0 | exact bk_1 | exact bk_2 | exact bk_3 | exact bk_4 | exact bk_5 | exact bk_6 | exact bk_7 | exact bk_8 | exact bk_9 | exact bk_10 | exact bk_11 | exact bk_12 | exact bk_13 | exact bk_14 | exact bk_15 | exact bk_16 | exact cr_5 | exact cr_23 | exact cr_24 | exact cr_25 | exact cr_26 | exact cr_27 | exact cr_28 | exact cr_29 | exact cr_30 | assumption)) (Nat.le_of_ble_eq_true rfl) rfl rfl rfl ?_
        rw [bku_24]
        refine zr_aload_n dX0_drawBalls_33 (rfl : 33 + 1 = 34) rfl ?_
        refine zr_getf dX0_drawBalls_34 (rfl : 34 + 3 = 37) f_X0_21 (by first | assumption | exact mw_167 | exact mw_168 | exact mw_169 | exact mw_170 | exact bk_0 | exact bk_1 | exact bk_2 | exact bk_3 | exact bk_4 | exact bk_5 | exact bk_6 | exact bk_7 | exact bk_8 | exact bk_9 | exact bk_10 | exact bk_11 | exact bk_12 | exact bk_13 | exact bk_14 | exact bk_15 | exact bk_16 | exact zup_self | exact (zup_ne (by first | assumption | omega)).trans (by first | assumption | exact zup_self) | exact (zup_ne (by first | assumption | omega)).trans ((zup_ne (by first | assumption | omega)).trans (by first | assumption | exact zup_self)) | exact (bk_out (by first | omega | (simp only [bset, reduceIte, Nat.reduceEqDiff]; omega))).trans (by first | exact bk_0 | exact bk_1 | exact bk_2 | exact bk_3 | exact bk_4 | exact bk_5 | exact bk_6 | exact bk_7 | exact bk_8 | exact bk_9 | exact bk_10 | exact bk_11 | exact bk_12 | exact bk_13 | exact bk_14 | exact bk_15 | exact bk_16 | exact cr_5 | exact cr_23 | exact cr_24 | exact cr_25 | exact cr_26 | exact cr_27 | exact cr_28 | exact cr_29 | exact cr_30 | assumption)) rfl ?_
        refine zr_getf dX0_drawBalls_37 (rfl : 37 + 3 = 40) f_X0_107 (by first | assumption | exact mw_167 | exact mw_168 | exact mw_169 | exact mw_170 | exact bk_0 | exact bk_1 | exact bk_2 | exact bk_3 | exact bk_4 | exact bk_5 | exact bk_6 | exact bk_7 | exact bk_8 | exact bk_9 | exact bk_10 | exact bk_11 | exact bk_12 | exact bk_13 | exact bk_14 | exact bk_15 | exact bk_16 | exact zup_self | exact (zup_ne (by first | assumption | omega)).trans (by first | assumption | exact zup_self) | exact (zup_ne (by first | assumption | omega)).trans ((zup_ne (by first | assumption | omega)).trans (by first | assumption | exact zup_self)) | exact (bk_out (by first | omega | (simp only [bset, reduceIte, Nat.reduceEqDiff]; omega))).trans (by first | exact bk_0 | exact bk_1 | exact bk_2 | exact bk_3 | exact bk_4 | exact bk_5 | exact bk_6 | exact bk_7 | exact bk_8 | exact bk_9 | exact bk_10 | exact bk_11 | exact bk_12 | exact bk_13 | exact bk_14 | exact bk_15 | exact bk_16 | exact cr_5 | exact cr_23 | exact cr_24 | exact cr_25 | exact cr_26 | exact cr_27 | exact cr_28 | exact cr_29 | exact cr_30 | assumption)) rfl ?_
        refine zr_aload_n dX0_drawBalls_40 (rfl : 40 + 1 = 41) rfl ?_
        refine zr_getf dX0_drawBalls_41 (rfl : 41 + 3 = 44) f_X0_36 (by first | assumption | exact mw_167 | exact mw_168 | exact mw_169 | exact mw_170 | exact bk_0 | exact bk_1 | exact bk_2 | exact bk_3 | exact bk_4 | exact bk_5 | exact bk_6 | exact bk_7 | exact bk_8 | exact bk_9 | exact bk_10 | exact bk_11 | exact bk_12 | exact bk_13 | exact bk_14 | exact bk_15 | exact bk_16 | exact zup_self | exact (zup_ne (by first | assumption | omega)).trans (by first | assumption | exact zup_self) | exact (zup_ne (by first | assumption | omega)).trans ((zup_ne (by first | assumption | omega)).trans (by first | assumption | exact zup_self)) | exact (bk_out (by first | omega | (simp only [bset, reduceIte, Nat.reduceEqDiff]; omega))).trans (by first | exact bk_0 | exact bk_1 | exact bk_2 | exact bk_3 | exact bk_4 | exact bk_5 | exact bk_6 | exact bk_7 | exact bk_8 | exact bk_9 | exact bk_10 | exact bk_11 | exact bk_12 | exact bk_13 | exact bk_14 | exact bk_15 | exact bk_16 | exact cr_5 | exact cr_23 | exact cr_24 | exact cr_25 | exact cr_26 | exact cr_27 | exact cr_28 | exact cr_29 | exact cr_30 | assumption)) rfl ?_
        refine zr_fnV dX0_drawBalls_44 (rfl : 44 + 3 = 47) l_X0_92 (s_takeOut (a := b + 5) (p := b + 6) (f := B1 3) (s := B1 4 0) _ hlo2 (by first | omega | (simp only [bset, reduceIte, Nat.reduceEqDiff]; omega)) (by first | omega | (simp only [bset, reduceIte, Nat.reduceEqDiff]; omega)) bk_5 bk_6) (by first | assumption | exact mw_167 | exact mw_168 | exact mw_169 | exact mw_170 | exact bk_0 | exact bk_1 | exact bk_2 | exact bk_3 | exact bk_4 | exact bk_5 | exact bk_6 | exact bk_7 | exact bk_8 | exact bk_9 | exact bk_10 | exact bk_11 | exact bk_12 | exact bk_13 | exact bk_14 | exact bk_15 | exact bk_16 | exact zup_self | exact (zup_ne (by first | assumption | omega)).trans (by first | assumption | exact zup_self) | exact (zup_ne (by first | assumption | omega)).trans ((zup_ne (by first | assumption | omega)).trans (by first | assumption | exact zup_self)) | exact (bk_out (by first | omega | (simp only [bset, reduceIte, Nat.reduceEqDiff]; omega))).trans (by first | exact bk_0 | exact bk_1 | exact bk_2 | exact bk_3 | exact bk_4 | exact bk_5 | exact bk_6 | exact bk_7 | exact bk_8 | exact bk_9 | exact bk_10 | exact bk_11 | exact bk_12 | exact bk_13 | exact bk_14 | exact bk_15 | exact bk_16 | exact cr_5 | exact cr_23 | exact cr_24 | exact cr_25 | exact cr_26 | exact cr_27 | exact cr_28 | exact cr_29 | exact cr_30 | assumption)) rfl rfl rfl (Nat.le_of_ble_eq_true rfl) ?_
        rw [bku_4, bku_3]
        have hball : (bset B1 24 (fun _ => jlot (B1 24 0))) 3 = B1 3 := rfl
        refine zr_istore_n (lv' := [_, _, _, _]) dX0_drawBalls_47 (rfl : 47 + 1 = 48) (Nat.le_of_ble_eq_true rfl) rfl ?_
        refine zr_aload_n dX0_drawBalls_48 (rfl : 48 + 1 = 49) rfl ?_
        refine zr_getf dX0_drawBalls_49 (rfl : 49 + 3 = 52) f_X0_21 (by first | assumption | exact mw_167 | exact mw_168 | exact mw_169 | exact mw_170 | exact bk_0 | exact bk_1 | exact bk_2 | exact bk_3 | exact bk_4 | exact bk_5 | exact bk_6 | exact bk_7 | exact bk_8 | exact bk_9 | exact bk_10 | exact bk_11 | exact bk_12 | exact bk_13 | exact bk_14 | exact bk_15 | exact bk_16 | exact zup_self | exact (zup_ne (by first | assumption | omega)).trans (by first | assumption | exact zup_self) | exact (zup_ne (by first | assumption | omega)).trans ((zup_ne (by first | assumption | omega)).trans (by first | assumption | exact zup_self)) | exact (bk_out (by first | omega | (simp only [bset, reduceIte, Nat.reduceEqDiff]; omega))).trans (by first | exact bk_0 | exact bk_1 | exact bk_2 | exact bk_3 | exact bk_4 | exact bk_5 | exact bk_6 | exact bk_7 | exact bk_8 | exact bk_9 | exact bk_10 | exact bk_11 | exact bk_12 | exact bk_13 | exact bk_14 | exact bk_15 | exact bk_16 | exact cr_5 | exact cr_23 | exact cr_24 | exact cr_25 | exact cr_26 | exact cr_27 | exact cr_28 | exact cr_29 | exact cr_30 | assumption)) rfl ?_
        refine zr_iload_n dX0_drawBalls_52 (rfl : 52 + 1 = 53) rfl ?_
        refine zr_aload_n dX0_drawBalls_53 (rfl : 53 + 1 = 54) rfl ?_
        refine zr_getf dX0_drawBalls_54 (rfl : 54 + 3 = 57) f_X0_32 (by first | assumption | exact mw_167 | exact mw_168 | exact mw_169 | exact mw_170 | exact bk_0 | exact bk_1 | exact bk_2 | exact bk_3 | exact bk_4 | exact bk_5 | exact bk_6 | exact bk_7 | exact bk_8 | exact bk_9 | exact bk_10 | exact bk_11 | exact bk_12 | exact bk_13 | exact bk_14 | exact bk_15 | exact bk_16 | exact zup_self | exact (zup_ne (by first | assumption | omega)).trans (by first | assumption | exact zup_self) | exact (zup_ne (by first | assumption | omega)).trans ((zup_ne (by first | assumption | omega)).trans (by first | assumption | exact zup_self)) | exact (bk_out (by first | omega | (simp only [bset, reduceIte, Nat.reduceEqDiff]; omega))).trans (by first | exact bk_0 | exact bk_1 | exact bk_2 | exact bk_3 | exact bk_4 | exact bk_5 | exact bk_6 | exact bk_7 | exact bk_8 | exact bk_9 | exact bk_10 | exact bk_11 | exact bk_12 | exact bk_13 | exact bk_14 | exact bk_15 | exact bk_16 | exact cr_5 | exact cr_23 | exact cr_24 | exact cr_25 | exact cr_26 | exact cr_27 | exact cr_28 | exact cr_29 | exact cr_30 | assumption)) rfl ?_
        refine zr_iconst dX0_drawBalls_57 (rfl : 57 + 1 = 58) ?_
        refine zr_iald dX0_drawBalls_58 (rfl : 58 + 1 = 59) (by first | assumption | exact mw_167 | exact mw_168 | exact mw_169 | exact mw_170 | exact bk_0 | exact bk_1 | exact bk_2 | exact bk_3 | exact bk_4 | exact bk_5 | exact bk_6 | exact bk_7 | exact bk_8 | exact bk_9 | exact bk_10 | exact bk_11 | exact bk_12 | exact bk_13 | exact bk_14 | exact bk_15 | exact bk_16 | exact zup_self | exact (zup_ne (by first | assumption | omega)).trans (by first | assumption | exact zup_self) | exact (zup_ne (by first | assumption | omega)).trans ((zup_ne (by first | assumption | omega)).trans (by first | assumption | exact zup_self)) | exact (bk_out (by first | omega | (simp only [bset, reduceIte, Nat.reduceEqDiff]; omega))).trans (by first | exact bk_0 | exact bk_1 | exact bk_2 | exact bk_3 | exact bk_4 | exact bk_5 | exact bk_6 | exact bk_7 | exact bk_8 | exact bk_9 | exact bk_10 | exact bk_11 | exact bk_12 | exact bk_13 | exact bk_14 | exact bk_15 | exact bk_16 | exact cr_5 | exact cr_23 | exact cr_24 | exact cr_25 | exact cr_26 | exact cr_27 | exact cr_28 | exact cr_29 | exact cr_30 | assumption)) (by decide) (by first | omega | (simp only [bset, reduceIte, Nat.reduceEqDiff]; omega)) (by first | omega | (simp only [bset, reduceIte, Nat.reduceEqDiff]; omega)) ?_
        refine zr_fnV dX0_drawBalls_59 (rfl : 59 + 3 = 62) l_X0_111 (s_tell (B := jdr0 B1) (jball B1) ⟨b1, b2⟩ (by show 0 ≤ B1 12 0 ∧ B1 12 0 < 90; omega) hse) bk_4 rfl rfl rfl (Nat.le_of_ble_eq_true rfl) ?_
        refine zr_iinc (lv' := [_, _, _, _]) dX0_drawBalls_62 (rfl : 62 + 3 = 65) (Nat.le_of_ble_eq_true rfl) rfl (by first | exact jI_add _ _ | rfl) rfl ?_
        refine zr_goto (tgt := 4) dX0_drawBalls_65 (by decide) ?_
        exact hk _ _ ⟨hnl.symm, hnx.symm⟩
  · rintro x B1 ⟨rfl, rfl⟩
    simp only [Int.zero_add, Int.toNat_natCast]
    refine zr_iload_n dX0_drawBalls_4 (rfl : 4 + 1 = 5) rfl ?_
    refine zr_iload_n dX0_drawBalls_5 (rfl : 5 + 1 = 6) rfl ?_
    refine zr_icmp_ge (tgt := 68) dX0_drawBalls_6 (by decide) (rfl : 6 + 3 = 9) (jI_le (by first | omega | (simp only [bset, reduceIte, Nat.reduceEqDiff]; omega)) (by first | omega | (simp only [bset, reduceIte, Nat.reduceEqDiff]; omega)) (by first | omega | (simp only [bset, reduceIte, Nat.reduceEqDiff]; omega)) (by first | omega | (simp only [bset, reduceIte, Nat.reduceEqDiff]; omega))) (fun h6 => ?_) (fun h6 => ?_)
    · first
      | (exfalso; omega)
      | (
        refine zr_iload_n dX0_drawBalls_68 (rfl : 68 + 1 = 69) rfl ?_
        refine zr_iret dX0_drawBalls_69 rfl rfl ?_ rfl rfl rfl
        rfl)
    · first
      | (exfalso; omega)
      | (
        refine zr_aload_n dX0_drawBalls_9 (rfl : 9 + 1 = 10) rfl ?_
        refine zr_getf dX0_drawBalls_10 (rfl : 10 + 3 = 13) f_X0_21 (by first | assumption | exact mw_167 | exact mw_168 | exact mw_169 | exact mw_170 | exact bk_0 | exact bk_1 | exact bk_2 | exact bk_3 | exact bk_4 | exact bk_5 | exact bk_6 | exact bk_7 | exact bk_8 | exact bk_9 | exact bk_10 | exact bk_11 | exact bk_12 | exact bk_13 | exact bk_14 | exact bk_15 | exact bk_16 | exact zup_self | exact (zup_ne (by first | assumption | omega)).trans (by first | assumption | exact zup_self) | exact (zup_ne (by first | assumption | omega)).trans ((zup_ne (by first | assumption | omega)).trans (by first | assumption | exact zup_self)) | exact (bk_out (by first | omega | (simp only [bset, reduceIte, Nat.reduceEqDiff]; omega))).trans (by first | exact bk_0 | exact bk_1 | exact bk_2 | exact bk_3 | exact bk_4 | exact bk_5 | exact bk_6 | exact bk_7 | exact bk_8 | exact bk_9 | exact bk_10 | exact bk_11 | exact bk_12 | exact bk_13 | exact bk_14 | exact bk_15 | exact bk_16 | exact cr_5 | exact cr_23 | exact cr_24 | exact cr_25 | exact cr_26 | exact cr_27 | exact cr_28 | exact cr_29 | exact cr_30 | assumption)) rfl ?_
        refine zr_getf dX0_drawBalls_13 (rfl : 13 + 3 = 16) f_X0_107 (by first | assumption | exact mw_167 | exact mw_168 | exact mw_169 | exact mw_170 | exact bk_0 | exact bk_1 | exact bk_2 | exact bk_3 | exact bk_4 | exact bk_5 | exact bk_6 | exact bk_7 | exact bk_8 | exact bk_9 | exact bk_10 | exact bk_11 | exact bk_12 | exact bk_13 | exact bk_14 | exact bk_15 | exact bk_16 | exact zup_self | exact (zup_ne (by first | assumption | omega)).trans (by first | assumption | exact zup_self) | exact (zup_ne (by first | assumption | omega)).trans ((zup_ne (by first | assumption | omega)).trans (by first | assumption | exact zup_self)) | exact (bk_out (by first | omega | (simp only [bset, reduceIte, Nat.reduceEqDiff]; omega))).trans (by first | exact bk_0 | exact bk_1 | exact bk_2 | exact bk_3 | exact bk_4 | exact bk_5 | exact bk_6 | exact bk_7 | exact bk_8 | exact bk_9 | exact bk_10 | exact bk_11 | exact bk_12 | exact bk_13 | exact bk_14 | exact bk_15 | exact bk_16 | exact cr_5 | exact cr_23 | exact cr_24 | exact cr_25 | exact cr_26 | exact cr_27 | exact cr_28 | exact cr_29 | exact cr_30 | assumption)) rfl ?_
        refine zr_getf dX0_drawBalls_16 (rfl : 16 + 3 = 19) f_X0_79 (by first | assumption | exact mw_167 | exact mw_168 | exact mw_169 | exact mw_170 | exact bk_0 | exact bk_1 | exact bk_2 | exact bk_3 | exact bk_4 | exact bk_5 | exact bk_6 | exact bk_7 | exact bk_8 | exact bk_9 | exact bk_10 | exact bk_11 | exact bk_12 | exact bk_13 | exact bk_14 | exact bk_15 | exact bk_16 | exact zup_self | exact (zup_ne (by first | assumption | omega)).trans (by first | assumption | exact zup_self) | exact (zup_ne (by first | assumption | omega)).trans ((zup_ne (by first | assumption | omega)).trans (by first | assumption | exact zup_self)) | exact (bk_out (by first | omega | (simp only [bset, reduceIte, Nat.reduceEqDiff]; omega))).trans (by first | exact bk_0 | exact bk_1 | exact bk_2 | exact bk_3 | exact bk_4 | exact bk_5 | exact bk_6 | exact bk_7 | exact bk_8 | exact bk_9 | exact bk_10 | exact bk_11 | exact bk_12 | exact bk_13 | exact bk_14 | exact bk_15 | exact bk_16 | exact cr_5 | exact cr_23 | exact cr_24 | exact cr_25 | exact cr_26 | exact cr_27 | exact cr_28 | exact cr_29 | exact cr_30 | assumption)) rfl ?_
        refine zr_if_le (tgt := 68) dX0_drawBalls_19 (by decide) (rfl : 19 + 3 = 22) (jI_lez (by first | omega | (simp only [bset, reduceIte, Nat.reduceEqDiff]; omega)) (by first | omega | (simp only [bset, reduceIte, Nat.reduceEqDiff]; omega))) (fun h19 => ?_) (fun h19 => ?_)
        · first
          | (exfalso; omega)
          | (
            refine zr_iload_n dX0_drawBalls_68 (rfl : 68 + 1 = 69) rfl ?_
            refine zr_iret dX0_drawBalls_69 rfl rfl ?_ rfl rfl rfl
            rfl)
        · first
          | (exfalso; omega)
          | (
            refine zr_aload_n dX0_drawBalls_22 (rfl : 22 + 1 = 23) rfl ?_
            refine zr_aload_n dX0_drawBalls_23 (rfl : 23 + 1 = 24) rfl ?_
            refine zr_getf dX0_drawBalls_24 (rfl : 24 + 3 = 27) f_X0_36 (by first | assumption | exact mw_167 | exact mw_168 | exact mw_169 | exact mw_170 | exact bk_0 | exact bk_1 | exact bk_2 | exact bk_3 | exact bk_4 | exact bk_5 | exact bk_6 | exact bk_7 | exact bk_8 | exact bk_9 | exact bk_10 | exact bk_11 | exact bk_12 | exact bk_13 | exact bk_14 | exact bk_15 | exact bk_16 | exact zup_self | exact (zup_ne (by first | assumption | omega)).trans (by first | assumption | exact zup_self) | exact (zup_ne (by first | assumption | omega)).trans ((zup_ne (by first | assumption | omega)).trans (by first | assumption | exact zup_self)) | exact (bk_out (by first | omega | (simp only [bset, reduceIte, Nat.reduceEqDiff]; omega))).trans (by first | exact bk_0 | exact bk_1 | exact bk_2 | exact bk_3 | exact bk_4 | exact bk_5 | exact bk_6 | exact bk_7 | exact bk_8 | exact bk_9 | exact bk_10 | exact bk_11 | exact bk_12 | exact bk_13 | exact bk_14 | exact bk_15 | exact bk_16 | exact cr_5 | exact cr_23 | exact cr_24 | exact cr_25 | exact cr_26 | exact cr_27 | exact cr_28 | exact cr_29 | exact cr_30 | assumption)) rfl ?_
            exfalso; omega))
end DB

