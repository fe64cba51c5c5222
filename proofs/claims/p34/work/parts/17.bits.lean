/-! bits of small masks -/
def jbit (m k : Int) : Int := m / 2 ^ k.toNat % 2
def jset (m k : Int) : Int := m + (1 - jbit m k) * 2 ^ k.toNat
def jbc (m : Int) : Int := jbit m 0 + jbit m 1 + jbit m 2 + jbit m 3 + jbit m 4 + jbit m 5
theorem jfin {N : Nat} {m : Int} (h : 0 ≤ m ∧ m < N) : ∃ x : Fin N, m = ((x.val : Nat) : Int) := ⟨⟨m.toNat, by omega⟩, by simp only; omega⟩
theorem jbit_and {m k : Int} (hm : 0 ≤ m ∧ m < 64) (hk : 0 ≤ k ∧ k < 6) : (jI m &&& (jI 1 <<< (jI k &&& 31)) = 0) ↔ jbit m k = 0 := by
  have key : ∀ (x : Fin 64) (y : Fin 6), (jI ((x.val : Nat) : Int) &&& (jI 1 <<< (jI ((y.val : Nat) : Int) &&& 31)) = 0) ↔ jbit ((x.val : Nat) : Int) ((y.val : Nat) : Int) = 0 := by decide +kernel
  obtain ⟨x, rfl⟩ := jfin (N := 64) hm
  obtain ⟨y, rfl⟩ := jfin (N := 6) hk
  exact key x y
theorem jbit_or {m k : Int} (hm : 0 ≤ m ∧ m < 64) (hk : 0 ≤ k ∧ k < 6) : jI m ||| (jI 1 <<< (jI k &&& 31)) = jI (jset m k) := by
  have key : ∀ (x : Fin 64) (y : Fin 6), jI ((x.val : Nat) : Int) ||| (jI 1 <<< (jI ((y.val : Nat) : Int) &&& 31)) = jI (jset ((x.val : Nat) : Int) ((y.val : Nat) : Int)) := by decide +kernel
  obtain ⟨x, rfl⟩ := jfin (N := 64) hm
  obtain ⟨y, rfl⟩ := jfin (N := 6) hk
  exact key x y
theorem jbit_sh {m k : Int} (hm : 0 ≤ m ∧ m < 64) (hk : 0 ≤ k ∧ k < 6) : (jI m >>> (jI k &&& 31)) &&& jI 1 = jI (jbit m k) := by
  have key : ∀ (x : Fin 64) (y : Fin 6), (jI ((x.val : Nat) : Int) >>> (jI ((y.val : Nat) : Int) &&& 31)) &&& jI 1 = jI (jbit ((x.val : Nat) : Int) ((y.val : Nat) : Int)) := by decide +kernel
  obtain ⟨x, rfl⟩ := jfin (N := 64) hm
  obtain ⟨y, rfl⟩ := jfin (N := 6) hk
  exact key x y
theorem jset_r {m k : Int} (hm : 0 ≤ m ∧ m < 64) (hk : 0 ≤ k ∧ k < 6) : 0 ≤ jset m k ∧ jset m k < 64 := by
  have key : ∀ (x : Fin 64) (y : Fin 6), 0 ≤ jset ((x.val : Nat) : Int) ((y.val : Nat) : Int) ∧ jset ((x.val : Nat) : Int) ((y.val : Nat) : Int) < 64 := by decide +kernel
  obtain ⟨x, rfl⟩ := jfin (N := 64) hm
  obtain ⟨y, rfl⟩ := jfin (N := 6) hk
  exact key x y
theorem jbit_jset {m k j : Int} (hm : 0 ≤ m ∧ m < 64) (hk : 0 ≤ k ∧ k < 6) (hj : 0 ≤ j ∧ j < 6) : jbit (jset m k) j = if j = k then 1 else jbit m j := by
  have key : ∀ (x : Fin 64) (y z : Fin 6), jbit (jset ((x.val : Nat) : Int) ((y.val : Nat) : Int)) ((z.val : Nat) : Int) = if ((z.val : Nat) : Int) = ((y.val : Nat) : Int) then 1 else jbit ((x.val : Nat) : Int) ((z.val : Nat) : Int) := by decide +kernel
  obtain ⟨x, rfl⟩ := jfin (N := 64) hm
  obtain ⟨y, rfl⟩ := jfin (N := 6) hk
  obtain ⟨z, rfl⟩ := jfin (N := 6) hj
  exact key x y z
theorem jbit_r (m k : Int) : 0 ≤ jbit m k ∧ jbit m k ≤ 1 := by unfold jbit; omega
theorem jbc_r (m : Int) : 0 ≤ jbc m ∧ jbc m ≤ 6 := by
  have h0 := jbit_r m 0
  have h1 := jbit_r m 1
  have h2 := jbit_r m 2
  have h3 := jbit_r m 3
  have h4 := jbit_r m 4
  have h5 := jbit_r m 5
  unfold jbc
  omega
/-- the games that a card won, as a mask: by the games' masks of cards -/
def jgw (W : Int → Int) (c : Int) : Int := jbit (W 0) c + jbit (W 1) c * 2 + jbit (W 2) c * 4 + jbit (W 3) c * 8
theorem jgw_step {b0 b1 b2 b3 : Int} (h0 : 0 ≤ b0 ∧ b0 ≤ 1) (h1 : 0 ≤ b1 ∧ b1 ≤ 1) (h2 : 0 ≤ b2 ∧ b2 ≤ 1) (h3 : 0 ≤ b3 ∧ b3 ≤ 1) :
    jI 0 ||| (jI b0 <<< (jI 0 &&& 31)) ||| (jI b1 <<< (jI (0 + 1) &&& 31)) ||| (jI b2 <<< (jI (0 + 1 + 1) &&& 31)) ||| (jI b3 <<< (jI (0 + 1 + 1 + 1) &&& 31)) = jI (b0 + b1 * 2 + b2 * 4 + b3 * 8) := by
  have key : ∀ (x0 x1 x2 x3 : Fin 2), jI 0 ||| (jI ((x0.val : Nat) : Int) <<< (jI 0 &&& 31)) ||| (jI ((x1.val : Nat) : Int) <<< (jI (0 + 1) &&& 31)) ||| (jI ((x2.val : Nat) : Int) <<< (jI (0 + 1 + 1) &&& 31)) ||| (jI ((x3.val : Nat) : Int) <<< (jI (0 + 1 + 1 + 1) &&& 31)) = jI (((x0.val : Nat) : Int) + ((x1.val : Nat) : Int) * 2 + ((x2.val : Nat) : Int) * 4 + ((x3.val : Nat) : Int) * 8) := by decide +kernel
  obtain ⟨x0, rfl⟩ := jfin (N := 2) (m := b0) (by omega)
  obtain ⟨x1, rfl⟩ := jfin (N := 2) (m := b1) (by omega)
  obtain ⟨x2, rfl⟩ := jfin (N := 2) (m := b2) (by omega)
  obtain ⟨x3, rfl⟩ := jfin (N := 2) (m := b3) (by omega)
  exact key x0 x1 x2 x3
section BI
variable {Γ : zΓ} {d : Nat} {w : zW} {b : Nat} {B : zB}
theorem s_bitCount (m : Int) (hm : 0 ≤ m ∧ m < 64) : zFn Γ md_J6_bitCount_0f7a4 d [.int (jI m)] w (some (.int (jI (jbc m)))) w := by
  refine zFn.of_run (lv := [some (.int (jI m))]) (by decide) rfl (Nat.le_of_ble_eq_true rfl) rfl (fun n9 g9 => ?_)
  refine zr_iload_n dJ6_bitCount_0f7a4_0 (rfl : 0 + 1 = 1) rfl ?_
  refine zr_iload_n dJ6_bitCount_0f7a4_1 (rfl : 1 + 1 = 2) rfl ?_
  refine zr_iconst dJ6_bitCount_0f7a4_2 (rfl : 2 + 1 = 3) ?_
  refine zr_iushr dJ6_bitCount_0f7a4_3 (rfl : 3 + 1 = 4) rfl ?_
  refine zr_ldcw dJ6_bitCount_0f7a4_4 (rfl : 4 + 3 = 7) k_J6_265 ?_
  refine zr_iand dJ6_bitCount_0f7a4_7 (rfl : 7 + 1 = 8) rfl ?_
  refine zr_isub dJ6_bitCount_0f7a4_8 (rfl : 8 + 1 = 9) (by first | exact jI_sub _ _ | rfl) ?_
  refine zr_istore_n (lv' := [_]) dJ6_bitCount_0f7a4_9 (rfl : 9 + 1 = 10) (Nat.le_of_ble_eq_true rfl) rfl ?_
  refine zr_iload_n dJ6_bitCount_0f7a4_10 (rfl : 10 + 1 = 11) rfl ?_
  refine zr_ldcw dJ6_bitCount_0f7a4_11 (rfl : 11 + 3 = 14) k_J6_266 ?_
  refine zr_iand dJ6_bitCount_0f7a4_14 (rfl : 14 + 1 = 15) rfl ?_
  refine zr_iload_n dJ6_bitCount_0f7a4_15 (rfl : 15 + 1 = 16) rfl ?_
  refine zr_iconst dJ6_bitCount_0f7a4_16 (rfl : 16 + 1 = 17) ?_
  refine zr_iushr dJ6_bitCount_0f7a4_17 (rfl : 17 + 1 = 18) rfl ?_
  refine zr_ldcw dJ6_bitCount_0f7a4_18 (rfl : 18 + 3 = 21) k_J6_266 ?_
  refine zr_iand dJ6_bitCount_0f7a4_21 (rfl : 21 + 1 = 22) rfl ?_
  refine zr_iadd dJ6_bitCount_0f7a4_22 (rfl : 22 + 1 = 23) (by first | exact jI_add _ _ | rfl) ?_
  refine zr_istore_n (lv' := [_]) dJ6_bitCount_0f7a4_23 (rfl : 23 + 1 = 24) (Nat.le_of_ble_eq_true rfl) rfl ?_
  refine zr_iload_n dJ6_bitCount_0f7a4_24 (rfl : 24 + 1 = 25) rfl ?_
  refine zr_iload_n dJ6_bitCount_0f7a4_25 (rfl : 25 + 1 = 26) rfl ?_
  refine zr_iconst dJ6_bitCount_0f7a4_26 (rfl : 26 + 1 = 27) ?_
  refine zr_iushr dJ6_bitCount_0f7a4_27 (rfl : 27 + 1 = 28) rfl ?_
  refine zr_iadd dJ6_bitCount_0f7a4_28 (rfl : 28 + 1 = 29) (by first | exact jI_add _ _ | rfl) ?_
  refine zr_ldcw dJ6_bitCount_0f7a4_29 (rfl : 29 + 3 = 32) k_J6_267 ?_
  refine zr_iand dJ6_bitCount_0f7a4_32 (rfl : 32 + 1 = 33) rfl ?_
  refine zr_istore_n (lv' := [_]) dJ6_bitCount_0f7a4_33 (rfl : 33 + 1 = 34) (Nat.le_of_ble_eq_true rfl) rfl ?_
  refine zr_iload_n dJ6_bitCount_0f7a4_34 (rfl : 34 + 1 = 35) rfl ?_
  refine zr_iload_n dJ6_bitCount_0f7a4_35 (rfl : 35 + 1 = 36) rfl ?_
  refine zr_bipush dJ6_bitCount_0f7a4_36 (rfl : 36 + 2 = 38) (by decide) ?_
  refine zr_iushr dJ6_bitCount_0f7a4_38 (rfl : 38 + 1 = 39) rfl ?_
  refine zr_iadd dJ6_bitCount_0f7a4_39 (rfl : 39 + 1 = 40) (by first | exact jI_add _ _ | rfl) ?_
  refine zr_istore_n (lv' := [_]) dJ6_bitCount_0f7a4_40 (rfl : 40 + 1 = 41) (Nat.le_of_ble_eq_true rfl) rfl ?_
  refine zr_iload_n dJ6_bitCount_0f7a4_41 (rfl : 41 + 1 = 42) rfl ?_
  refine zr_iload_n dJ6_bitCount_0f7a4_42 (rfl : 42 + 1 = 43) rfl ?_
  refine zr_bipush dJ6_bitCount_0f7a4_43 (rfl : 43 + 2 = 45) (by decide) ?_
  refine zr_iushr dJ6_bitCount_0f7a4_45 (rfl : 45 + 1 = 46) rfl ?_
  refine zr_iadd dJ6_bitCount_0f7a4_46 (rfl : 46 + 1 = 47) (by first | exact jI_add _ _ | rfl) ?_
  refine zr_istore_n (lv' := [_]) dJ6_bitCount_0f7a4_47 (rfl : 47 + 1 = 48) (Nat.le_of_ble_eq_true rfl) rfl ?_
  refine zr_iload_n dJ6_bitCount_0f7a4_48 (rfl : 48 + 1 = 49) rfl ?_
  refine zr_bipush dJ6_bitCount_0f7a4_49 (rfl : 49 + 2 = 51) (by decide) ?_
  refine zr_iand dJ6_bitCount_0f7a4_51 (rfl : 51 + 1 = 52) rfl ?_
  refine zr_iret dJ6_bitCount_0f7a4_52 rfl rfl ?_ rfl rfl rfl
  obtain ⟨x, rfl⟩ := jfin (N := 64) hm
  congr 2
  revert x
  decide +kernel
/-! Arrays.fill -/
def jfil (N x : Int) (f : Int → Int) : Int → Int := fun z => if 0 ≤ z ∧ z < N then x else f z
theorem s_fill {a N : Nat} {f : Int → Int} (x : Int) (ha : w a = some (zia N f)) (hN : N < 100000) : zFn Γ md_J7_fill_53178 d [.ref a, .int (jI x)] w none (zup w a (zia N (jfil N x f))) := by
  refine zFn.of_run (lv := [some (.ref a), some (.int (jI x)), none, none]) (by decide) rfl (Nat.le_of_ble_eq_true rfl) rfl (fun n9 g9 => ?_)
  refine zr_iconst dJ7_fill_53178_0 (rfl : 0 + 1 = 1) ?_
  refine zr_istore_n (lv' := [_, _, _, _]) dJ7_fill_53178_1 (rfl : 1 + 1 = 2) (Nat.le_of_ble_eq_true rfl) rfl ?_
  refine zr_aload_n dJ7_fill_53178_2 (rfl : 2 + 1 = 3) rfl ?_
  refine zr_alen dJ7_fill_53178_3 (rfl : 3 + 1 = 4) (by first | assumption | exact mw_167 | exact mw_168 | exact mw_169 | exact mw_170 | exact bk_0 | exact bk_1 | exact bk_2 | exact bk_3 | exact bk_4 | exact bk_5 | exact bk_6 | exact bk_7 | exact bk_8 | exact bk_9 | exact bk_10 | exact bk_11 | exact bk_12 | exact bk_13 | exact bk_14 | exact bk_15 | exact bk_16 | exact zup_self | exact (zup_ne (by first | assumption | omega)).trans (by first | assumption | exact zup_self) | exact (zup_ne (by first | assumption | omega)).trans ((zup_ne (by first | assumption | omega)).trans (by first | assumption | exact zup_self)) | exact (bk_out (by first | omega | (simp only [bset, reduceIte, Nat.reduceEqDiff]; omega))).trans (by first | exact bk_0 | exact bk_1 | exact bk_2 | exact bk_3 | exact bk_4 | exact bk_5 | exact bk_6 | exact bk_7 | exact bk_8 | exact bk_9 | exact bk_10 | exact bk_11 | exact bk_12 | exact bk_13 | exact bk_14 | exact bk_15 | exact bk_16 | exact cr_5 | exact cr_23 | exact cr_24 | exact cr_25 | exact cr_26 | exact cr_27 | exact cr_28 | exact cr_29 | exact cr_30 | assumption)) ?_
  refine zr_istore_n (lv' := [_, _, _, _]) dJ7_fill_53178_4 (rfl : 4 + 1 = 5) (Nat.le_of_ble_eq_true rfl) rfl ?_
  have e0 : w = zup w a (zia N (jfil 0 x f)) := by
    funext j
    unfold zup
    split
    · rename_i h
      rw [h, ha]
      congr 3
      funext z
      show f z = if 0 ≤ z ∧ z < 0 then x else f z
      rw [if_neg (by omega)]
    · rfl
  have key : zRun Γ md_J7_fill_53178 d none 5 [some (.ref a), some (.int (jI x)), some (.int (jI 0)), some (.int (jI N))] [] (n9, g9, 0, 0) (zup w a (zia N (jfil 0 x f))) (zDone md_J7_fill_53178 none (zup w a (zia N (jfil N x f))) n9 g9) := by
    refine zfor1 0 N (fun _ _ => True) (fun i (_ : Unit) => [some (.ref a), some (.int (jI x)), some (.int (jI i)), some (.int (jI N))]) (fun i _ => zup w a (zia N (jfil i x f))) () trivial ?_ ?_
    · intro i _ h0 h9 _ hk
      have hup : zup (zup w a (zia N (jfil i x f))) a (zia N (jup (jfil i x f) i x)) = zup w a (zia N (jfil (i + 1) x f)) := by
        funext j
        unfold zup
        split
        · congr 3
          funext z
          show jup (jfil i x f) i x z = if 0 ≤ z ∧ z < i + 1 then x else f z
          unfold jup
          by_cases h : z = i
          · rw [if_pos h, if_pos (by omega)]
          · rw [if_neg h]
            show (if 0 ≤ z ∧ z < i then x else f z) = _
            by_cases h2 : 0 ≤ z ∧ z < i
            · rw [if_pos (by omega), if_pos (by omega)]
            · rw [if_neg (by omega), if_neg (by omega)]
        · rfl
      refine zr_iload_n dJ7_fill_53178_5 (rfl : 5 + 1 = 6) rfl ?_
      refine zr_iload_n dJ7_fill_53178_6 (rfl : 6 + 1 = 7) rfl ?_
      refine zr_icmp_ge (tgt := 20) dJ7_fill_53178_7 (by decide) (rfl : 7 + 3 = 10) (jI_le (by first | omega | (simp only [bset, reduceIte, Nat.reduceEqDiff]; omega)) (by first | omega | (simp only [bset, reduceIte, Nat.reduceEqDiff]; omega)) (by first | omega | (simp only [bset, reduceIte, Nat.reduceEqDiff]; omega)) (by first | omega | (simp only [bset, reduceIte, Nat.reduceEqDiff]; omega))) (fun h7 => ?_) (fun h7 => ?_)
      · exfalso; omega
      · refine zr_aload_n dJ7_fill_53178_10 (rfl : 10 + 1 = 11) rfl ?_
        refine zr_iload_n dJ7_fill_53178_11 (rfl : 11 + 1 = 12) rfl ?_
        refine zr_iload_n dJ7_fill_53178_12 (rfl : 12 + 1 = 13) rfl ?_
        refine zr_iast dJ7_fill_53178_13 (rfl : 13 + 1 = 14) zup_self (by first | omega | (simp only [bset, reduceIte, Nat.reduceEqDiff]; omega)) (by first | omega | (simp only [bset, reduceIte, Nat.reduceEqDiff]; omega)) (by first | omega | (simp only [bset, reduceIte, Nat.reduceEqDiff]; omega)) rfl ?_
        rw [hup]
        refine zr_iinc (lv' := [_, _, _, _]) dJ7_fill_53178_14 (rfl : 14 + 3 = 17) (Nat.le_of_ble_eq_true rfl) rfl (by first | exact jI_add _ _ | rfl) rfl ?_
        refine zr_goto (tgt := 5) dJ7_fill_53178_17 (by decide) ?_
        exact hk () trivial
    · intro _ _
      refine zr_iload_n dJ7_fill_53178_5 (rfl : 5 + 1 = 6) rfl ?_
      refine zr_iload_n dJ7_fill_53178_6 (rfl : 6 + 1 = 7) rfl ?_
      refine zr_icmp_ge (tgt := 20) dJ7_fill_53178_7 (by decide) (rfl : 7 + 3 = 10) (jI_le (by first | omega | (simp only [bset, reduceIte, Nat.reduceEqDiff]; omega)) (by first | omega | (simp only [bset, reduceIte, Nat.reduceEqDiff]; omega)) (by first | omega | (simp only [bset, reduceIte, Nat.reduceEqDiff]; omega)) (by first | omega | (simp only [bset, reduceIte, Nat.reduceEqDiff]; omega))) (fun h7 => ?_) (fun h7 => ?_)
      · first
        | (exfalso; omega)
        | (
          refine zr_vret dJ7_fill_53178_20 rfl ?_ rfl rfl
          rw [Int.zero_add])
      · first
        | (exfalso; omega)
        | (
          refine zr_aload_n dJ7_fill_53178_10 (rfl : 10 + 1 = 11) rfl ?_
          refine zr_iload_n dJ7_fill_53178_11 (rfl : 11 + 1 = 12) rfl ?_
          refine zr_iload_n dJ7_fill_53178_12 (rfl : 12 + 1 = 13) rfl ?_
          refine zr_iast dJ7_fill_53178_13 (rfl : 13 + 1 = 14) (by first | assumption | exact mw_167 | exact mw_168 | exact mw_169 | exact mw_170 | exact bk_0 | exact bk_1 | exact bk_2 | exact bk_3 | exact bk_4 | exact bk_5 | exact bk_6 | exact bk_7 | exact bk_8 | exact bk_9 | exact bk_10 | exact bk_11 | exact bk_12 | exact bk_13 | exact bk_14 | exact bk_15 | exact bk_16 | exact zup_self | exact (zup_ne (by first | assumption | omega)).trans (by first | assumption | exact zup_self) | exact (zup_ne (by first | assumption | omega)).trans ((zup_ne (by first | assumption | omega)).trans (by first | assumption | exact zup_self)) | exact (bk_out (by first | omega | (simp only [bset, reduceIte, Nat.reduceEqDiff]; omega))).trans (by first | exact bk_0 | exact bk_1 | exact bk_2 | exact bk_3 | exact bk_4 | exact bk_5 | exact bk_6 | exact bk_7 | exact bk_8 | exact bk_9 | exact bk_10 | exact bk_11 | exact bk_12 | exact bk_13 | exact bk_14 | exact bk_15 | exact bk_16 | exact cr_5 | exact cr_23 | exact cr_24 | exact cr_25 | exact cr_26 | exact cr_27 | exact cr_28 | exact cr_29 | exact cr_30 | assumption)) (by decide) (by first | omega | (simp only [bset, reduceIte, Nat.reduceEqDiff]; omega)) (by first | omega | (simp only [bset, reduceIte, Nat.reduceEqDiff]; omega)) rfl ?_
          refine zr_iinc (lv' := [_, _, _, _]) dJ7_fill_53178_14 (rfl : 14 + 3 = 17) (Nat.le_of_ble_eq_true rfl) rfl (by first | exact jI_add _ _ | rfl) rfl ?_
          refine zr_goto (tgt := 5) dJ7_fill_53178_17 (by decide) ?_
          exfalso; omega)
  rw [← e0] at key
  exact key
end BI

