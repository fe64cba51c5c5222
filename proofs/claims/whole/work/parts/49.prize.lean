/-! the reference: winners, prizes, the end -/
section PZ
variable {Γ : zΓ} {d : Nat} {S : Int → Int} {st : Int} {ik : Int → Int} {th : Int} {tx : Int → Int} {ty : Int} {w : zW} {B : zB}
theorem jbit_acc {m k : Int} (hm : 0 ≤ m ∧ m < 64) (hk : 0 ≤ k ∧ k < 6) : jI (m % 2 ^ k.toNat) ||| (jI (jbit m k) <<< (jI k &&& 31)) = jI (m % 2 ^ (k + 1).toNat) := by
  have key : ∀ (x : Fin 64) (y : Fin 6), jI (((x.val : Nat) : Int) % 2 ^ (((y.val : Nat) : Int)).toNat) ||| (jI (jbit ((x.val : Nat) : Int) ((y.val : Nat) : Int)) <<< (jI ((y.val : Nat) : Int) &&& 31)) = jI (((x.val : Nat) : Int) % 2 ^ ((((y.val : Nat) : Int)) + 1).toNat) := by decide +kernel
  obtain ⟨x, rfl⟩ := jfin (N := 64) hm
  obtain ⟨y, rfl⟩ := jfin (N := 6) hk
  exact key x y
theorem m_winners (g : Int) (hg : 0 ≤ g ∧ g < 4) (h : mr S 0 B) (hW : ∀ z, 0 ≤ B 9 z ∧ B 9 z < 64) : zFn Γ md_X7_winners d [.ref 167, .int (jI g)] (mw S st ik th tx ty w) (some (.int (jI (B 9 g)))) (mw S st ik th tx ty w) := by
  have hWg := hW g
  refine zFn.of_run (lv := [some (.ref 167), some (.int (jI g)), none, none]) (by decide) rfl (Nat.le_of_ble_eq_true rfl) rfl (fun n9 g9 => ?_)
  refine zr_iconst dX7_winners_0 (rfl : 0 + 1 = 1) ?_
  refine zr_istore_n (lv' := [_, _, _, _]) dX7_winners_1 (rfl : 1 + 1 = 2) (Nat.le_of_ble_eq_true rfl) rfl ?_
  refine zr_iconst dX7_winners_2 (rfl : 2 + 1 = 3) ?_
  refine zr_istore_n (lv' := [_, _, _, _]) dX7_winners_3 (rfl : 3 + 1 = 4) (Nat.le_of_ble_eq_true rfl) rfl ?_
  refine zfor1 0 6 (fun k x => x = B 9 g % 2 ^ k.toNat) (fun k x => [some (.ref 167), some (.int (jI g)), some (.int (jI x)), some (.int (jI k))]) (fun _ _ => (mw S st ik th tx ty w)) 0 (by show (0 : Int) = B 9 g % 1; omega) ?_ ?_
  · intro k x k0 k1 hx hk
    have hwo := h.wo0 k k0 (by omega)
    have hgr := jgw_r (B 9) k
    refine zr_iload_n dX7_winners_4 (rfl : 4 + 1 = 5) rfl ?_
    refine zr_bipush dX7_winners_5 (rfl : 5 + 2 = 7) (by decide) ?_
    refine zr_icmp_ge (tgt := 35) dX7_winners_7 (by decide) (rfl : 7 + 3 = 10) (jI_le (by first | omega | (simp only [bset, reduceIte, Nat.reduceEqDiff]; omega)) (by first | omega | (simp only [bset, reduceIte, Nat.reduceEqDiff]; omega)) (by first | omega | (simp only [bset, reduceIte, Nat.reduceEqDiff]; omega)) (by first | omega | (simp only [bset, reduceIte, Nat.reduceEqDiff]; omega))) (fun h7 => ?_) (fun h7 => ?_)
    · exfalso; omega
    · refine zr_iload_n dX7_winners_10 (rfl : 10 + 1 = 11) rfl ?_
      refine zr_aload_n dX7_winners_11 (rfl : 11 + 1 = 12) rfl ?_
      refine zr_getf dX7_winners_12 (rfl : 12 + 3 = 15) f_X7_7 (by first | assumption | exact mw_167 | exact mw_168 | exact mw_169 | exact mw_170 | exact bk_0 | exact bk_1 | exact bk_2 | exact bk_3 | exact bk_4 | exact bk_5 | exact bk_6 | exact bk_7 | exact bk_8 | exact bk_9 | exact bk_10 | exact bk_11 | exact bk_12 | exact bk_13 | exact bk_14 | exact bk_15 | exact bk_16 | exact zup_self | exact (zup_ne (by first | assumption | omega)).trans (by first | assumption | exact zup_self) | exact (zup_ne (by first | assumption | omega)).trans ((zup_ne (by first | assumption | omega)).trans (by first | assumption | exact zup_self)) | exact (bk_out (by first | omega | (simp only [bset, reduceIte, Nat.reduceEqDiff]; omega))).trans (by first | exact bk_0 | exact bk_1 | exact bk_2 | exact bk_3 | exact bk_4 | exact bk_5 | exact bk_6 | exact bk_7 | exact bk_8 | exact bk_9 | exact bk_10 | exact bk_11 | exact bk_12 | exact bk_13 | exact bk_14 | exact bk_15 | exact bk_16 | exact cr_5 | exact cr_23 | exact cr_24 | exact cr_25 | exact cr_26 | exact cr_27 | exact cr_28 | exact cr_29 | exact cr_30 | assumption)) rfl ?_
      refine zr_sipush dX7_winners_15 (rfl : 15 + 3 = 18) (by decide) ?_
      refine zr_iload_n dX7_winners_18 (rfl : 18 + 1 = 19) rfl ?_
      refine zr_iadd dX7_winners_19 (rfl : 19 + 1 = 20) (by first | exact jI_add _ _ | rfl) ?_
      refine zr_iald dX7_winners_20 (rfl : 20 + 1 = 21) (by first | assumption | exact mw_167 | exact mw_168 | exact mw_169 | exact mw_170 | exact bk_0 | exact bk_1 | exact bk_2 | exact bk_3 | exact bk_4 | exact bk_5 | exact bk_6 | exact bk_7 | exact bk_8 | exact bk_9 | exact bk_10 | exact bk_11 | exact bk_12 | exact bk_13 | exact bk_14 | exact bk_15 | exact bk_16 | exact zup_self | exact (zup_ne (by first | assumption | omega)).trans (by first | assumption | exact zup_self) | exact (zup_ne (by first | assumption | omega)).trans ((zup_ne (by first | assumption | omega)).trans (by first | assumption | exact zup_self)) | exact (bk_out (by first | omega | (simp only [bset, reduceIte, Nat.reduceEqDiff]; omega))).trans (by first | exact bk_0 | exact bk_1 | exact bk_2 | exact bk_3 | exact bk_4 | exact bk_5 | exact bk_6 | exact bk_7 | exact bk_8 | exact bk_9 | exact bk_10 | exact bk_11 | exact bk_12 | exact bk_13 | exact bk_14 | exact bk_15 | exact bk_16 | exact cr_5 | exact cr_23 | exact cr_24 | exact cr_25 | exact cr_26 | exact cr_27 | exact cr_28 | exact cr_29 | exact cr_30 | assumption)) (by decide) (by first | omega | (simp only [bset, reduceIte, Nat.reduceEqDiff]; omega)) (by first | omega | (simp only [bset, reduceIte, Nat.reduceEqDiff]; omega)) ?_
      refine zr_iload_n dX7_winners_21 (rfl : 21 + 1 = 22) rfl ?_
      refine zr_ishr dX7_winners_22 (rfl : 22 + 1 = 23) rfl ?_
      refine zr_iconst dX7_winners_23 (rfl : 23 + 1 = 24) ?_
      refine zr_iand dX7_winners_24 (rfl : 24 + 1 = 25) rfl ?_
      rw [hwo, jbit_sh (by omega) (by omega), jgw_bit hg]
      refine zr_iload_n dX7_winners_25 (rfl : 25 + 1 = 26) rfl ?_
      refine zr_ishl dX7_winners_26 (rfl : 26 + 1 = 27) rfl ?_
      refine zr_ior dX7_winners_27 (rfl : 27 + 1 = 28) rfl ?_
      rw [hx, jbit_acc hWg ⟨k0, by omega⟩]
      refine zr_istore_n (lv' := [_, _, _, _]) dX7_winners_28 (rfl : 28 + 1 = 29) (Nat.le_of_ble_eq_true rfl) rfl ?_
      refine zr_iinc (lv' := [_, _, _, _]) dX7_winners_29 (rfl : 29 + 3 = 32) (Nat.le_of_ble_eq_true rfl) rfl (by first | exact jI_add _ _ | rfl) rfl ?_
      refine zr_goto (tgt := 4) dX7_winners_32 (by decide) ?_
      exact hk _ rfl
  · intro x hx
    rw [show x = B 9 g by rw [hx]; show B 9 g % 64 = B 9 g; omega]
    refine zr_iload_n dX7_winners_4 (rfl : 4 + 1 = 5) rfl ?_
    refine zr_bipush dX7_winners_5 (rfl : 5 + 2 = 7) (by decide) ?_
    refine zr_icmp_ge (tgt := 35) dX7_winners_7 (by decide) (rfl : 7 + 3 = 10) (jI_le (by first | omega | (simp only [bset, reduceIte, Nat.reduceEqDiff]; omega)) (by first | omega | (simp only [bset, reduceIte, Nat.reduceEqDiff]; omega)) (by first | omega | (simp only [bset, reduceIte, Nat.reduceEqDiff]; omega)) (by first | omega | (simp only [bset, reduceIte, Nat.reduceEqDiff]; omega))) (fun h7 => ?_) (fun h7 => ?_)
    · first
      | (exfalso; omega)
      | (
        refine zr_iload_n dX7_winners_35 (rfl : 35 + 1 = 36) rfl ?_
        refine zr_iret dX7_winners_36 rfl (by first | exact jb_nar | rfl) ?_ rfl rfl rfl
        first | rfl | rw [jb_pos (by first | assumption | omega)] | rw [jb_neg (by first | assumption | omega)] | rw [if_pos (by first | assumption | omega)] | rw [if_neg (by first | assumption | omega)])
    · first
      | (exfalso; omega)
      | (
        exfalso
        omega)
def jbp6 (m : Int) : Nat → Int
  | 0 => 0
  | n + 1 => jbp6 m n + jbit m n
theorem m_bits (m : Int) (hm : 0 ≤ m ∧ m < 64) : zFn Γ md_X7_bits d [.int (jI m)] w (some (.int (jI (jbc m)))) w := by
  refine zFn.of_run (lv := [some (.int (jI m)), none, none]) (by decide) rfl (Nat.le_of_ble_eq_true rfl) rfl (fun n9 g9 => ?_)
  refine zr_iconst dX7_bits_0 (rfl : 0 + 1 = 1) ?_
  refine zr_istore_n (lv' := [_, _, _]) dX7_bits_1 (rfl : 1 + 1 = 2) (Nat.le_of_ble_eq_true rfl) rfl ?_
  refine zr_iconst dX7_bits_2 (rfl : 2 + 1 = 3) ?_
  refine zr_istore_n (lv' := [_, _, _]) dX7_bits_3 (rfl : 3 + 1 = 4) (Nat.le_of_ble_eq_true rfl) rfl ?_
  refine zfor1 0 6 (fun k x => x = jbp6 m k.toNat) (fun k x => [some (.int (jI m)), some (.int (jI x)), some (.int (jI k))]) (fun _ _ => w) 0 rfl ?_ ?_
  · intro k x k0 k1 hx hk
    refine zr_iload_n dX7_bits_4 (rfl : 4 + 1 = 5) rfl ?_
    refine zr_bipush dX7_bits_5 (rfl : 5 + 2 = 7) (by decide) ?_
    refine zr_icmp_ge (tgt := 24) dX7_bits_7 (by decide) (rfl : 7 + 3 = 10) (jI_le (by first | omega | (simp only [bset, reduceIte, Nat.reduceEqDiff]; omega)) (by first | omega | (simp only [bset, reduceIte, Nat.reduceEqDiff]; omega)) (by first | omega | (simp only [bset, reduceIte, Nat.reduceEqDiff]; omega)) (by first | omega | (simp only [bset, reduceIte, Nat.reduceEqDiff]; omega))) (fun h7 => ?_) (fun h7 => ?_)
    · exfalso; omega
    · refine zr_iload_n dX7_bits_10 (rfl : 10 + 1 = 11) rfl ?_
      refine zr_iload_n dX7_bits_11 (rfl : 11 + 1 = 12) rfl ?_
      refine zr_iload_n dX7_bits_12 (rfl : 12 + 1 = 13) rfl ?_
      refine zr_ishr dX7_bits_13 (rfl : 13 + 1 = 14) rfl ?_
      refine zr_iconst dX7_bits_14 (rfl : 14 + 1 = 15) ?_
      refine zr_iand dX7_bits_15 (rfl : 15 + 1 = 16) rfl ?_
      rw [jbit_sh hm (by omega)]
      refine zr_iadd dX7_bits_16 (rfl : 16 + 1 = 17) (by first | exact jI_add _ _ | rfl) ?_
      refine zr_istore_n (lv' := [_, _, _]) dX7_bits_17 (rfl : 17 + 1 = 18) (Nat.le_of_ble_eq_true rfl) rfl ?_
      refine zr_iinc (lv' := [_, _, _]) dX7_bits_18 (rfl : 18 + 3 = 21) (Nat.le_of_ble_eq_true rfl) rfl (by first | exact jI_add _ _ | rfl) rfl ?_
      refine zr_goto (tgt := 4) dX7_bits_21 (by decide) ?_
      refine hk _ ?_
      rw [hx, show (k + 1).toNat = k.toNat + 1 by omega]
      show _ = jbp6 m k.toNat + jbit m (k.toNat : Int)
      rw [show (k.toNat : Int) = k by omega]
  · intro x hx
    rw [show x = jbc m by
      rw [hx]
      show 0 + jbit m 0 + jbit m 1 + jbit m 2 + jbit m 3 + jbit m 4 + jbit m 5 = _
      unfold jbc
      omega]
    refine zr_iload_n dX7_bits_4 (rfl : 4 + 1 = 5) rfl ?_
    refine zr_bipush dX7_bits_5 (rfl : 5 + 2 = 7) (by decide) ?_
    refine zr_icmp_ge (tgt := 24) dX7_bits_7 (by decide) (rfl : 7 + 3 = 10) (jI_le (by first | omega | (simp only [bset, reduceIte, Nat.reduceEqDiff]; omega)) (by first | omega | (simp only [bset, reduceIte, Nat.reduceEqDiff]; omega)) (by first | omega | (simp only [bset, reduceIte, Nat.reduceEqDiff]; omega)) (by first | omega | (simp only [bset, reduceIte, Nat.reduceEqDiff]; omega))) (fun h7 => ?_) (fun h7 => ?_)
    · first
      | (exfalso; omega)
      | (
        refine zr_iload_n dX7_bits_24 (rfl : 24 + 1 = 25) rfl ?_
        refine zr_iret dX7_bits_25 rfl (by first | exact jb_nar | rfl) ?_ rfl rfl rfl
        first | rfl | rw [jb_pos (by first | assumption | omega)] | rw [jb_neg (by first | assumption | omega)] | rw [if_pos (by first | assumption | omega)] | rw [if_neg (by first | assumption | omega)])
    · first
      | (exfalso; omega)
      | (
        exfalso
        omega)
theorem m_each (g : Int) (hg : 0 ≤ g ∧ g < 4) (h : mr S 0 B) (hW : ∀ z, 0 ≤ B 9 z ∧ B 9 z < 64) (hp : 0 ≤ B 16 0 ∧ B 16 0 ≤ 594) : zFn Γ md_X7_each (d + 1) [.ref 167, .int (jI g)] (mw S st ik th tx ty w) (some (.int (jI (jpz B g)))) (mw S st ik th tx ty w) := by
  have hb := jbc_r (B 9 g)
  have hpo := h.po0
  have hu := jhu_r g
  have m1 : 0 ≤ B 16 0 * jhu g := Int.mul_nonneg hp.1 hu.1
  have m2 : B 16 0 * jhu g ≤ 594 * 40 := Int.mul_le_mul hp.2 hu.2 hu.1 (by decide)
  have m3 : 0 ≤ B 16 0 * jhu g / 100 := Int.ediv_nonneg m1 (by decide)
  have m4 : B 16 0 * jhu g / 100 ≤ B 16 0 * jhu g := Int.ediv_le_self _ m1
  have hug : (g = 0 ∧ jhu g = 10) ∨ (g = 1 ∧ jhu g = 10) ∨ (g = 2 ∧ jhu g = 20) ∨ (g = 3 ∧ jhu g = 40) := by
    rcases (by omega : g = 0 ∨ g = 1 ∨ g = 2 ∨ g = 3) with e | e | e | e
    · exact Or.inl ⟨e, by rw [e]; rfl⟩
    · exact Or.inr (Or.inl ⟨e, by rw [e]; rfl⟩)
    · exact Or.inr (Or.inr (Or.inl ⟨e, by rw [e]; rfl⟩))
    · exact Or.inr (Or.inr (Or.inr ⟨e, by rw [e]; rfl⟩))
  refine zFn.of_run (lv := [some (.ref 167), some (.int (jI g)), none, none]) (by decide) rfl (Nat.le_of_ble_eq_true rfl) rfl (fun n9 g9 => ?_)
  have fin : zRun Γ md_X7_each (d + 1) none 31 [some (.ref 167), some (.int (jI g)), some (.int (jI (jbc (B 9 g)))), none] [.int (jI (jhu g))] (n9, g9, 0, 0) (mw S st ik th tx ty w) (zDone md_X7_each (some (.int (jI (jpz B g)))) (mw S st ik th tx ty w) n9 g9) := by
    unfold jpz
    generalize jhu g = u at hu m1 m2 m3 m4
    generalize jbc (B 9 g) = bc at hb
    refine zr_istore_n (lv' := [_, _, _, _]) dX7_each_31 (rfl : 31 + 1 = 32) (Nat.le_of_ble_eq_true rfl) rfl ?_
    refine zr_iload_n dX7_each_32 (rfl : 32 + 1 = 33) rfl ?_
    refine zr_if_ne (tgt := 40) dX7_each_33 (by decide) (rfl : 33 + 3 = 36) (by first | exact jb_iff | exact jI_z (by first | omega | (simp only [bset, reduceIte, Nat.reduceEqDiff]; omega)) (by first | omega | (simp only [bset, reduceIte, Nat.reduceEqDiff]; omega))) (fun h33 => ?_) (fun h33 => ?_)
    · refine zr_aload_n dX7_each_40 (rfl : 40 + 1 = 41) rfl ?_
      refine zr_getf dX7_each_41 (rfl : 41 + 3 = 44) f_X7_7 (by first | assumption | exact mw_167 | exact mw_168 | exact mw_169 | exact mw_170 | exact bk_0 | exact bk_1 | exact bk_2 | exact bk_3 | exact bk_4 | exact bk_5 | exact bk_6 | exact bk_7 | exact bk_8 | exact bk_9 | exact bk_10 | exact bk_11 | exact bk_12 | exact bk_13 | exact bk_14 | exact bk_15 | exact bk_16 | exact zup_self | exact (zup_ne (by first | assumption | omega)).trans (by first | assumption | exact zup_self) | exact (zup_ne (by first | assumption | omega)).trans ((zup_ne (by first | assumption | omega)).trans (by first | assumption | exact zup_self)) | exact (bk_out (by first | omega | (simp only [bset, reduceIte, Nat.reduceEqDiff]; omega))).trans (by first | exact bk_0 | exact bk_1 | exact bk_2 | exact bk_3 | exact bk_4 | exact bk_5 | exact bk_6 | exact bk_7 | exact bk_8 | exact bk_9 | exact bk_10 | exact bk_11 | exact bk_12 | exact bk_13 | exact bk_14 | exact bk_15 | exact bk_16 | exact cr_5 | exact cr_23 | exact cr_24 | exact cr_25 | exact cr_26 | exact cr_27 | exact cr_28 | exact cr_29 | exact cr_30 | assumption)) rfl ?_
      refine zr_sipush dX7_each_44 (rfl : 44 + 3 = 47) (by decide) ?_
      refine zr_iald dX7_each_47 (rfl : 47 + 1 = 48) (by first | assumption | exact mw_167 | exact mw_168 | exact mw_169 | exact mw_170 | exact bk_0 | exact bk_1 | exact bk_2 | exact bk_3 | exact bk_4 | exact bk_5 | exact bk_6 | exact bk_7 | exact bk_8 | exact bk_9 | exact bk_10 | exact bk_11 | exact bk_12 | exact bk_13 | exact bk_14 | exact bk_15 | exact bk_16 | exact zup_self | exact (zup_ne (by first | assumption | omega)).trans (by first | assumption | exact zup_self) | exact (zup_ne (by first | assumption | omega)).trans ((zup_ne (by first | assumption | omega)).trans (by first | assumption | exact zup_self)) | exact (bk_out (by first | omega | (simp only [bset, reduceIte, Nat.reduceEqDiff]; omega))).trans (by first | exact bk_0 | exact bk_1 | exact bk_2 | exact bk_3 | exact bk_4 | exact bk_5 | exact bk_6 | exact bk_7 | exact bk_8 | exact bk_9 | exact bk_10 | exact bk_11 | exact bk_12 | exact bk_13 | exact bk_14 | exact bk_15 | exact bk_16 | exact cr_5 | exact cr_23 | exact cr_24 | exact cr_25 | exact cr_26 | exact cr_27 | exact cr_28 | exact cr_29 | exact cr_30 | assumption)) (by decide) (by first | omega | (simp only [bset, reduceIte, Nat.reduceEqDiff]; omega)) (by first | omega | (simp only [bset, reduceIte, Nat.reduceEqDiff]; omega)) ?_
      rw [hpo]
      refine zr_iload_n dX7_each_48 (rfl : 48 + 1 = 49) rfl ?_
      refine zr_imul dX7_each_49 (rfl : 49 + 1 = 50) (by first | exact jI_mul _ _ | rfl) ?_
      refine zr_bipush dX7_each_50 (rfl : 50 + 2 = 52) (by decide) ?_
      refine zr_idiv dX7_each_52 (rfl : 52 + 1 = 53) (fun q => absurd ((jI_z (by first | omega | (simp only [bset, reduceIte, Nat.reduceEqDiff]; omega)) (by first | omega | (simp only [bset, reduceIte, Nat.reduceEqDiff]; omega))).mp q) (by first | omega | (simp only [bset, reduceIte, Nat.reduceEqDiff]; omega))) (jI_div (by first | omega | (simp only [bset, reduceIte, Nat.reduceEqDiff]; omega)) (by first | omega | (simp only [bset, reduceIte, Nat.reduceEqDiff]; omega)) (by first | omega | (simp only [bset, reduceIte, Nat.reduceEqDiff]; omega)) (by first | omega | (simp only [bset, reduceIte, Nat.reduceEqDiff]; omega))) ?_
      refine zr_iload_n dX7_each_53 (rfl : 53 + 1 = 54) rfl ?_
      refine zr_idiv dX7_each_54 (rfl : 54 + 1 = 55) (fun q => absurd ((jI_z (by first | omega | (simp only [bset, reduceIte, Nat.reduceEqDiff]; omega)) (by first | omega | (simp only [bset, reduceIte, Nat.reduceEqDiff]; omega))).mp q) (by first | omega | (simp only [bset, reduceIte, Nat.reduceEqDiff]; omega))) (jI_div (by first | omega | (simp only [bset, reduceIte, Nat.reduceEqDiff]; omega)) (by first | omega | (simp only [bset, reduceIte, Nat.reduceEqDiff]; omega)) (by first | omega | (simp only [bset, reduceIte, Nat.reduceEqDiff]; omega)) (by first | omega | (simp only [bset, reduceIte, Nat.reduceEqDiff]; omega))) ?_
      refine zr_iret dX7_each_55 rfl (by first | exact jb_nar | rfl) ?_ rfl rfl rfl
      rw [if_neg (by omega)]
    · rw [if_pos (by omega)]
      refine zr_iconst dX7_each_36 (rfl : 36 + 1 = 37) ?_
      refine zr_goto (tgt := 55) dX7_each_37 (by decide) ?_
      refine zr_iret dX7_each_55 rfl (by first | exact jb_nar | rfl) ?_ rfl rfl rfl
      first | rfl | rw [jb_pos (by first | assumption | omega)] | rw [jb_neg (by first | assumption | omega)] | rw [if_pos (by first | assumption | omega)] | rw [if_neg (by first | assumption | omega)]
  refine zr_aload_n dX7_each_0 (rfl : 0 + 1 = 1) rfl ?_
  refine zr_iload_n dX7_each_1 (rfl : 1 + 1 = 2) rfl ?_
  refine zr_fnV dX7_each_2 (rfl : 2 + 3 = 5) l_X7_112 (m_winners g hg h hW) (by first | assumption | exact mw_167 | exact mw_168 | exact mw_169 | exact mw_170 | exact bk_0 | exact bk_1 | exact bk_2 | exact bk_3 | exact bk_4 | exact bk_5 | exact bk_6 | exact bk_7 | exact bk_8 | exact bk_9 | exact bk_10 | exact bk_11 | exact bk_12 | exact bk_13 | exact bk_14 | exact bk_15 | exact bk_16 | exact zup_self | exact (zup_ne (by first | assumption | omega)).trans (by first | assumption | exact zup_self) | exact (zup_ne (by first | assumption | omega)).trans ((zup_ne (by first | assumption | omega)).trans (by first | assumption | exact zup_self)) | exact (bk_out (by first | omega | (simp only [bset, reduceIte, Nat.reduceEqDiff]; omega))).trans (by first | exact bk_0 | exact bk_1 | exact bk_2 | exact bk_3 | exact bk_4 | exact bk_5 | exact bk_6 | exact bk_7 | exact bk_8 | exact bk_9 | exact bk_10 | exact bk_11 | exact bk_12 | exact bk_13 | exact bk_14 | exact bk_15 | exact bk_16 | exact cr_5 | exact cr_23 | exact cr_24 | exact cr_25 | exact cr_26 | exact cr_27 | exact cr_28 | exact cr_29 | exact cr_30 | assumption)) rfl rfl rfl (Nat.le_of_ble_eq_true rfl) ?_
  refine zr_fnS dX7_each_5 (rfl : 5 + 3 = 8) l_X7_115 (m_bits _ (hW g)) rfl rfl (Nat.le_of_ble_eq_true rfl) ?_
  refine zr_istore_n (lv' := [_, _, _, _]) dX7_each_8 (rfl : 8 + 1 = 9) (Nat.le_of_ble_eq_true rfl) rfl ?_
  refine zr_iload_n dX7_each_9 (rfl : 9 + 1 = 10) rfl ?_
  refine zr_iconst dX7_each_10 (rfl : 10 + 1 = 11) ?_
  refine zr_icmp_ge (tgt := 19) dX7_each_11 (by decide) (rfl : 11 + 3 = 14) (jI_le (by first | omega | (simp only [bset, reduceIte, Nat.reduceEqDiff]; omega)) (by first | omega | (simp only [bset, reduceIte, Nat.reduceEqDiff]; omega)) (by first | omega | (simp only [bset, reduceIte, Nat.reduceEqDiff]; omega)) (by first | omega | (simp only [bset, reduceIte, Nat.reduceEqDiff]; omega))) (fun h11 => ?_) (fun h11 => ?_)
  · first
    | (exfalso; omega)
    | (
      refine zr_iload_n dX7_each_19 (rfl : 19 + 1 = 20) rfl ?_
      refine zr_iconst dX7_each_20 (rfl : 20 + 1 = 21) ?_
      refine zr_icmp_ne (tgt := 29) dX7_each_21 (by decide) (rfl : 21 + 3 = 24) (jI_eq (by first | omega | (simp only [bset, reduceIte, Nat.reduceEqDiff]; omega)) (by first | omega | (simp only [bset, reduceIte, Nat.reduceEqDiff]; omega)) (by first | omega | (simp only [bset, reduceIte, Nat.reduceEqDiff]; omega)) (by first | omega | (simp only [bset, reduceIte, Nat.reduceEqDiff]; omega))) (fun h21 => ?_) (fun h21 => ?_)
      · first
        | (exfalso; omega)
        | (
          refine zr_bipush dX7_each_29 (rfl : 29 + 2 = 31) (by decide) ?_
          rcases hug with ⟨e, hu2⟩ | ⟨e, hu2⟩ | ⟨e, hu2⟩ | ⟨e, hu2⟩ <;> first | (exfalso; omega) | (rw [hu2] at fin; exact fin))
      · first
        | (exfalso; omega)
        | (
          refine zr_bipush dX7_each_24 (rfl : 24 + 2 = 26) (by decide) ?_
          refine zr_goto (tgt := 31) dX7_each_26 (by decide) ?_
          rcases hug with ⟨e, hu2⟩ | ⟨e, hu2⟩ | ⟨e, hu2⟩ | ⟨e, hu2⟩ <;> first | (exfalso; omega) | (rw [hu2] at fin; exact fin)))
  · first
    | (exfalso; omega)
    | (
      refine zr_bipush dX7_each_14 (rfl : 14 + 2 = 16) (by decide) ?_
      refine zr_goto (tgt := 31) dX7_each_16 (by decide) ?_
      rcases hug with ⟨e, hu2⟩ | ⟨e, hu2⟩ | ⟨e, hu2⟩ | ⟨e, hu2⟩ <;> first | (exfalso; omega) | (rw [hu2] at fin; exact fin))
theorem mr_sc1 {c g : Int} (h : mr S 0 B) (hc : 0 ≤ c ∧ c < 6) (hg : 0 ≤ g ∧ g < 4) (ok : jok B) (hj : jrc B c g = 0) : mr (jup (jup (jup S 490 (B 20 0 + 1)) (464 + c) (jset (jgw (B 9) c) g)) (482 + g) (B 12 0)) 0 (jsc B c g) := by
  have hcx := ok.ca
  unfold jsc
  rw [if_pos hj]
  refine ⟨?_, ?_, ?_, ?_, ?_, ?_, ?_, ?_, ?_, ?_, ?_, ?_, ?_, ?_, ?_, ?_, ?_, ?_, ?_, ?_, ?_⟩
  · intro k h0 h1
    rw [jup_ne (by omega), jup_ne (by omega), jup_ne (by omega)]
    exact h.se k h0 h1
  · rw [jup_ne (by omega), jup_ne (by omega), jup_ne (by omega)]
    exact h.lo
  · intro n h0 h1
    rw [jup_ne (by omega), jup_ne (by omega), jup_ne (by omega)]
    exact h.pl n h0 h1
  · intro n h0 h1
    rw [jup_ne (by omega), jup_ne (by omega), jup_ne (by omega)]
    exact h.da n h0 h1
  · intro n h0 h1
    rw [jup_ne (by omega), jup_ne (by omega), jup_ne (by omega)]
    exact h.sa n h0 h1
  · intro k h0 h1
    have h1 : k < B 12 0 := h1
    rw [jup_ne (by omega), jup_ne (by omega), jup_ne (by omega)]
    exact h.dr k h0 h1
  · intro k h0 h1
    have h1 : k < B 12 0 := h1
    rw [jup_ne (by omega), jup_ne (by omega), jup_ne (by omega)]
    exact h.sd k h0 h1
  · rw [jup_ne (by omega), jup_ne (by omega), jup_ne (by omega)]
    exact h.ca
  · intro c h0 h1
    rw [jup_ne (by omega), jup_ne (by omega), jup_ne (by omega)]
    exact h.bo c h0 h1
  · intro m h0 h1
    show _ = jgw (jup (B 9) g (jset (B 9 g) c)) m
    rw [jup_ne (by omega)]
    by_cases e : m = c
    · rw [jup_at (by omega), e, jgw_set ok.W hc hg]
    · rw [jup_ne (by omega), jup_ne (by omega), jgw_oth ok.W hc ⟨h0, h1⟩ e]
      exact h.wo m h0 h1
  · intro c h0 h1
    rw [jup_ne (by omega), jup_ne (by omega), jup_ne (by omega)]
    exact h.co c h0 h1
  · intro c h0 h1
    rw [jup_ne (by omega), jup_ne (by omega), jup_ne (by omega)]
    exact h.dn c h0 h1
  · intro m h0 h1
    show _ = jup (B 10) g (B 12 0) m
    by_cases e : m = g
    · rw [jup_at (by omega), jup_at e]
    · rw [jup_ne (by omega), jup_ne (by omega), jup_ne (by omega), jup_ne e]
      exact h.ga m h0 h1
  · rw [jup_ne (by omega), jup_ne (by omega), jup_ne (by omega)]
    exact h.po
  · rw [jup_ne (by omega), jup_ne (by omega), jup_ne (by omega)]
    exact h.ci
  · rw [jup_ne (by omega), jup_ne (by omega), jup_ne (by omega)]
    exact h.pa
  · rw [jup_ne (by omega), jup_ne (by omega), jup_ne (by omega)]
    exact h.ho
  · rw [jup_ne (by omega), jup_ne (by omega), jup_at (by omega)]
    rfl
  · rw [jup_ne (by omega), jup_ne (by omega), jup_ne (by omega)]
    exact h.tu
  · rw [jup_ne (by omega), jup_ne (by omega), jup_ne (by omega)]
    exact h.ev
  · rw [jup_ne (by omega), jup_ne (by omega), jup_ne (by omega)]
    exact h.sl
theorem mr_sc2 {c g : Int} (h : mr S 0 B) (hc : 0 ≤ c ∧ c < 6) (ok : jok B) (hj : jrc B c g ≠ 0) : mr (jup (jup S 491 (B 21 0 + 1)) (476 + c) (B 15 c + 1)) 0 (jsc B c g) := by
  have hcx := ok.ca
  unfold jsc
  rw [if_neg hj]
  refine ⟨?_, ?_, ?_, ?_, ?_, ?_, ?_, ?_, ?_, ?_, ?_, ?_, ?_, ?_, ?_, ?_, ?_, ?_, ?_, ?_, ?_⟩
  · intro k h0 h1
    rw [jup_ne (by omega), jup_ne (by omega)]
    exact h.se k h0 h1
  · rw [jup_ne (by omega), jup_ne (by omega)]
    exact h.lo
  · intro n h0 h1
    rw [jup_ne (by omega), jup_ne (by omega)]
    exact h.pl n h0 h1
  · intro n h0 h1
    rw [jup_ne (by omega), jup_ne (by omega)]
    exact h.da n h0 h1
  · intro n h0 h1
    rw [jup_ne (by omega), jup_ne (by omega)]
    exact h.sa n h0 h1
  · intro k h0 h1
    have h1 : k < B 12 0 := h1
    rw [jup_ne (by omega), jup_ne (by omega)]
    exact h.dr k h0 h1
  · intro k h0 h1
    have h1 : k < B 12 0 := h1
    rw [jup_ne (by omega), jup_ne (by omega)]
    exact h.sd k h0 h1
  · rw [jup_ne (by omega), jup_ne (by omega)]
    exact h.ca
  · intro c h0 h1
    rw [jup_ne (by omega), jup_ne (by omega)]
    exact h.bo c h0 h1
  · intro c h0 h1
    rw [jup_ne (by omega), jup_ne (by omega)]
    exact h.wo c h0 h1
  · intro c h0 h1
    rw [jup_ne (by omega), jup_ne (by omega)]
    exact h.co c h0 h1
  · intro m h0 h1
    show _ = jup (B 15) c (B 15 c + 1) m
    by_cases e : m = c
    · rw [jup_at (by omega), jup_at e]
    · rw [jup_ne (by omega), jup_ne (by omega), jup_ne e]
      exact h.dn m h0 h1
  · intro g h0 h1
    rw [jup_ne (by omega), jup_ne (by omega)]
    exact h.ga g h0 h1
  · rw [jup_ne (by omega), jup_ne (by omega)]
    exact h.po
  · rw [jup_ne (by omega), jup_ne (by omega)]
    exact h.ci
  · rw [jup_ne (by omega), jup_ne (by omega)]
    exact h.pa
  · rw [jup_ne (by omega), jup_ne (by omega)]
    exact h.ho
  · rw [jup_ne (by omega), jup_ne (by omega)]
    exact h.wi
  · rw [jup_ne (by omega), jup_at (by omega)]
    rfl
  · rw [jup_ne (by omega), jup_ne (by omega)]
    exact h.ev
  · rw [jup_ne (by omega), jup_ne (by omega)]
    exact h.sl
theorem jbit_or2 {m k : Int} (hm : 0 ≤ m ∧ m < 64) (hk : 0 ≤ k ∧ k < 6) : jI m ||| (jI 1 <<< (jI k &&& 31)) = jI (jset m k) := jbit_or hm hk
theorem m_claims (c g : Int) (hc : 0 ≤ c ∧ c < 6) (hg : 0 ≤ g ∧ g < 4) (hw : jcs (B 0) c = 15) (h : mr S 0 B) (ok : jok B) (lk : jlk B) : zFe Γ md_X7_claims (d + 4) [.ref 167, .int (jI c), .int (jI g)] (mw S st ik th tx ty w) (zMP (some (.int (jI (jrc B c g)))) (fun S' => jagb 0 S' S ∧ mr S' 0 (jsc B c g)) st ik th tx ty w) := by
  have hr := jrc_r B c g
  have htu := h.tu0
  have hdn := h.dn0 c hc.1 hc.2
  have hwi := h.wi0
  have hwo := h.wo0 c hc.1 hc.2
  have hgr := jgw_r (B 9) c
  have hca := h.ca0
  refine zFe.of_run (lv := [some (.ref 167), some (.int (jI c)), some (.int (jI g)), none]) (by decide) rfl (Nat.le_of_ble_eq_true rfl) rfl (fun n9 g9 => ?_)
  refine zr_aload_n dX7_claims_0 (rfl : 0 + 1 = 1) rfl ?_
  refine zr_iload_n dX7_claims_1 (rfl : 1 + 1 = 2) rfl ?_
  refine zr_iload_n dX7_claims_2 (rfl : 2 + 1 = 3) rfl ?_
  refine zr_fnV dX7_claims_3 (rfl : 3 + 3 = 6) l_X7_106 (m_why c g hc hg hw h ok lk) (by first | assumption | exact mw_167 | exact mw_168 | exact mw_169 | exact mw_170 | exact bk_0 | exact bk_1 | exact bk_2 | exact bk_3 | exact bk_4 | exact bk_5 | exact bk_6 | exact bk_7 | exact bk_8 | exact bk_9 | exact bk_10 | exact bk_11 | exact bk_12 | exact bk_13 | exact bk_14 | exact bk_15 | exact bk_16 | exact zup_self | exact (zup_ne (by first | assumption | omega)).trans (by first | assumption | exact zup_self) | exact (zup_ne (by first | assumption | omega)).trans ((zup_ne (by first | assumption | omega)).trans (by first | assumption | exact zup_self)) | exact (bk_out (by first | omega | (simp only [bset, reduceIte, Nat.reduceEqDiff]; omega))).trans (by first | exact bk_0 | exact bk_1 | exact bk_2 | exact bk_3 | exact bk_4 | exact bk_5 | exact bk_6 | exact bk_7 | exact bk_8 | exact bk_9 | exact bk_10 | exact bk_11 | exact bk_12 | exact bk_13 | exact bk_14 | exact bk_15 | exact bk_16 | exact cr_5 | exact cr_23 | exact cr_24 | exact cr_25 | exact cr_26 | exact cr_27 | exact cr_28 | exact cr_29 | exact cr_30 | assumption)) rfl rfl rfl (Nat.le_of_ble_eq_true rfl) ?_
  refine zr_istore_n (lv' := [_, _, _, _]) dX7_claims_6 (rfl : 6 + 1 = 7) (Nat.le_of_ble_eq_true rfl) rfl ?_
  refine zr_iload_n dX7_claims_7 (rfl : 7 + 1 = 8) rfl ?_
  refine zr_if_le (tgt := 40) dX7_claims_8 (by decide) (rfl : 8 + 3 = 11) (jI_lez (by first | omega | (simp only [bset, reduceIte, Nat.reduceEqDiff]; omega)) (by first | omega | (simp only [bset, reduceIte, Nat.reduceEqDiff]; omega))) (fun h8 => ?_) (fun h8 => ?_)
  · refine zr_aload_n dX7_claims_40 (rfl : 40 + 1 = 41) rfl ?_
    refine zr_getf dX7_claims_41 (rfl : 41 + 3 = 44) f_X7_7 (by first | assumption | exact mw_167 | exact mw_168 | exact mw_169 | exact mw_170 | exact bk_0 | exact bk_1 | exact bk_2 | exact bk_3 | exact bk_4 | exact bk_5 | exact bk_6 | exact bk_7 | exact bk_8 | exact bk_9 | exact bk_10 | exact bk_11 | exact bk_12 | exact bk_13 | exact bk_14 | exact bk_15 | exact bk_16 | exact zup_self | exact (zup_ne (by first | assumption | omega)).trans (by first | assumption | exact zup_self) | exact (zup_ne (by first | assumption | omega)).trans ((zup_ne (by first | assumption | omega)).trans (by first | assumption | exact zup_self)) | exact (bk_out (by first | omega | (simp only [bset, reduceIte, Nat.reduceEqDiff]; omega))).trans (by first | exact bk_0 | exact bk_1 | exact bk_2 | exact bk_3 | exact bk_4 | exact bk_5 | exact bk_6 | exact bk_7 | exact bk_8 | exact bk_9 | exact bk_10 | exact bk_11 | exact bk_12 | exact bk_13 | exact bk_14 | exact bk_15 | exact bk_16 | exact cr_5 | exact cr_23 | exact cr_24 | exact cr_25 | exact cr_26 | exact cr_27 | exact cr_28 | exact cr_29 | exact cr_30 | assumption)) rfl ?_
    refine zr_sipush dX7_claims_44 (rfl : 44 + 3 = 47) (by decide) ?_
    refine zr_dup2 dX7_claims_47 (rfl : 47 + 1 = 48) rfl rfl ?_
    refine zr_iald dX7_claims_48 (rfl : 48 + 1 = 49) (by first | assumption | exact mw_167 | exact mw_168 | exact mw_169 | exact mw_170 | exact bk_0 | exact bk_1 | exact bk_2 | exact bk_3 | exact bk_4 | exact bk_5 | exact bk_6 | exact bk_7 | exact bk_8 | exact bk_9 | exact bk_10 | exact bk_11 | exact bk_12 | exact bk_13 | exact bk_14 | exact bk_15 | exact bk_16 | exact zup_self | exact (zup_ne (by first | assumption | omega)).trans (by first | assumption | exact zup_self) | exact (zup_ne (by first | assumption | omega)).trans ((zup_ne (by first | assumption | omega)).trans (by first | assumption | exact zup_self)) | exact (bk_out (by first | omega | (simp only [bset, reduceIte, Nat.reduceEqDiff]; omega))).trans (by first | exact bk_0 | exact bk_1 | exact bk_2 | exact bk_3 | exact bk_4 | exact bk_5 | exact bk_6 | exact bk_7 | exact bk_8 | exact bk_9 | exact bk_10 | exact bk_11 | exact bk_12 | exact bk_13 | exact bk_14 | exact bk_15 | exact bk_16 | exact cr_5 | exact cr_23 | exact cr_24 | exact cr_25 | exact cr_26 | exact cr_27 | exact cr_28 | exact cr_29 | exact cr_30 | assumption)) (by decide) (by first | omega | (simp only [bset, reduceIte, Nat.reduceEqDiff]; omega)) (by first | omega | (simp only [bset, reduceIte, Nat.reduceEqDiff]; omega)) ?_
    rw [hwi]
    refine zr_iconst dX7_claims_49 (rfl : 49 + 1 = 50) ?_
    refine zr_iadd dX7_claims_50 (rfl : 50 + 1 = 51) (by first | exact jI_add _ _ | rfl) ?_
    refine zr_iast dX7_claims_51 (rfl : 51 + 1 = 52) (by first | assumption | exact mw_167 | exact mw_168 | exact mw_169 | exact mw_170 | exact bk_0 | exact bk_1 | exact bk_2 | exact bk_3 | exact bk_4 | exact bk_5 | exact bk_6 | exact bk_7 | exact bk_8 | exact bk_9 | exact bk_10 | exact bk_11 | exact bk_12 | exact bk_13 | exact bk_14 | exact bk_15 | exact bk_16 | exact zup_self | exact (zup_ne (by first | assumption | omega)).trans (by first | assumption | exact zup_self) | exact (zup_ne (by first | assumption | omega)).trans ((zup_ne (by first | assumption | omega)).trans (by first | assumption | exact zup_self)) | exact (bk_out (by first | omega | (simp only [bset, reduceIte, Nat.reduceEqDiff]; omega))).trans (by first | exact bk_0 | exact bk_1 | exact bk_2 | exact bk_3 | exact bk_4 | exact bk_5 | exact bk_6 | exact bk_7 | exact bk_8 | exact bk_9 | exact bk_10 | exact bk_11 | exact bk_12 | exact bk_13 | exact bk_14 | exact bk_15 | exact bk_16 | exact cr_5 | exact cr_23 | exact cr_24 | exact cr_25 | exact cr_26 | exact cr_27 | exact cr_28 | exact cr_29 | exact cr_30 | assumption)) (by decide) (by first | omega | (simp only [bset, reduceIte, Nat.reduceEqDiff]; omega)) (by first | omega | (simp only [bset, reduceIte, Nat.reduceEqDiff]; omega)) rfl ?_
    rw [mwu_S]
    refine zr_aload_n dX7_claims_52 (rfl : 52 + 1 = 53) rfl ?_
    refine zr_getf dX7_claims_53 (rfl : 53 + 3 = 56) f_X7_7 (by first | assumption | exact mw_167 | exact mw_168 | exact mw_169 | exact mw_170 | exact bk_0 | exact bk_1 | exact bk_2 | exact bk_3 | exact bk_4 | exact bk_5 | exact bk_6 | exact bk_7 | exact bk_8 | exact bk_9 | exact bk_10 | exact bk_11 | exact bk_12 | exact bk_13 | exact bk_14 | exact bk_15 | exact bk_16 | exact zup_self | exact (zup_ne (by first | assumption | omega)).trans (by first | assumption | exact zup_self) | exact (zup_ne (by first | assumption | omega)).trans ((zup_ne (by first | assumption | omega)).trans (by first | assumption | exact zup_self)) | exact (bk_out (by first | omega | (simp only [bset, reduceIte, Nat.reduceEqDiff]; omega))).trans (by first | exact bk_0 | exact bk_1 | exact bk_2 | exact bk_3 | exact bk_4 | exact bk_5 | exact bk_6 | exact bk_7 | exact bk_8 | exact bk_9 | exact bk_10 | exact bk_11 | exact bk_12 | exact bk_13 | exact bk_14 | exact bk_15 | exact bk_16 | exact cr_5 | exact cr_23 | exact cr_24 | exact cr_25 | exact cr_26 | exact cr_27 | exact cr_28 | exact cr_29 | exact cr_30 | assumption)) rfl ?_
    refine zr_sipush dX7_claims_56 (rfl : 56 + 3 = 59) (by decide) ?_
    refine zr_iload_n dX7_claims_59 (rfl : 59 + 1 = 60) rfl ?_
    refine zr_iadd dX7_claims_60 (rfl : 60 + 1 = 61) (by first | exact jI_add _ _ | rfl) ?_
    refine zr_dup2 dX7_claims_61 (rfl : 61 + 1 = 62) rfl rfl ?_
    refine zr_iald dX7_claims_62 (rfl : 62 + 1 = 63) (by first | assumption | exact mw_167 | exact mw_168 | exact mw_169 | exact mw_170 | exact bk_0 | exact bk_1 | exact bk_2 | exact bk_3 | exact bk_4 | exact bk_5 | exact bk_6 | exact bk_7 | exact bk_8 | exact bk_9 | exact bk_10 | exact bk_11 | exact bk_12 | exact bk_13 | exact bk_14 | exact bk_15 | exact bk_16 | exact zup_self | exact (zup_ne (by first | assumption | omega)).trans (by first | assumption | exact zup_self) | exact (zup_ne (by first | assumption | omega)).trans ((zup_ne (by first | assumption | omega)).trans (by first | assumption | exact zup_self)) | exact (bk_out (by first | omega | (simp only [bset, reduceIte, Nat.reduceEqDiff]; omega))).trans (by first | exact bk_0 | exact bk_1 | exact bk_2 | exact bk_3 | exact bk_4 | exact bk_5 | exact bk_6 | exact bk_7 | exact bk_8 | exact bk_9 | exact bk_10 | exact bk_11 | exact bk_12 | exact bk_13 | exact bk_14 | exact bk_15 | exact bk_16 | exact cr_5 | exact cr_23 | exact cr_24 | exact cr_25 | exact cr_26 | exact cr_27 | exact cr_28 | exact cr_29 | exact cr_30 | assumption)) (by decide) (by first | omega | (simp only [bset, reduceIte, Nat.reduceEqDiff]; omega)) (by first | omega | (simp only [bset, reduceIte, Nat.reduceEqDiff]; omega)) ?_
    rw [jup_ne (by omega), hwo]
    refine zr_iconst dX7_claims_63 (rfl : 63 + 1 = 64) ?_
    refine zr_iload_n dX7_claims_64 (rfl : 64 + 1 = 65) rfl ?_
    refine zr_ishl dX7_claims_65 (rfl : 65 + 1 = 66) rfl ?_
    refine zr_ior dX7_claims_66 (rfl : 66 + 1 = 67) rfl ?_
    rw [jbit_or (by omega) (by omega)]
    refine zr_iast dX7_claims_67 (rfl : 67 + 1 = 68) (by first | assumption | exact mw_167 | exact mw_168 | exact mw_169 | exact mw_170 | exact bk_0 | exact bk_1 | exact bk_2 | exact bk_3 | exact bk_4 | exact bk_5 | exact bk_6 | exact bk_7 | exact bk_8 | exact bk_9 | exact bk_10 | exact bk_11 | exact bk_12 | exact bk_13 | exact bk_14 | exact bk_15 | exact bk_16 | exact zup_self | exact (zup_ne (by first | assumption | omega)).trans (by first | assumption | exact zup_self) | exact (zup_ne (by first | assumption | omega)).trans ((zup_ne (by first | assumption | omega)).trans (by first | assumption | exact zup_self)) | exact (bk_out (by first | omega | (simp only [bset, reduceIte, Nat.reduceEqDiff]; omega))).trans (by first | exact bk_0 | exact bk_1 | exact bk_2 | exact bk_3 | exact bk_4 | exact bk_5 | exact bk_6 | exact bk_7 | exact bk_8 | exact bk_9 | exact bk_10 | exact bk_11 | exact bk_12 | exact bk_13 | exact bk_14 | exact bk_15 | exact bk_16 | exact cr_5 | exact cr_23 | exact cr_24 | exact cr_25 | exact cr_26 | exact cr_27 | exact cr_28 | exact cr_29 | exact cr_30 | assumption)) (by decide) (by first | omega | (simp only [bset, reduceIte, Nat.reduceEqDiff]; omega)) (by first | omega | (simp only [bset, reduceIte, Nat.reduceEqDiff]; omega)) rfl ?_
    rw [mwu_S]
    refine zr_aload_n dX7_claims_68 (rfl : 68 + 1 = 69) rfl ?_
    refine zr_getf dX7_claims_69 (rfl : 69 + 3 = 72) f_X7_7 (by first | assumption | exact mw_167 | exact mw_168 | exact mw_169 | exact mw_170 | exact bk_0 | exact bk_1 | exact bk_2 | exact bk_3 | exact bk_4 | exact bk_5 | exact bk_6 | exact bk_7 | exact bk_8 | exact bk_9 | exact bk_10 | exact bk_11 | exact bk_12 | exact bk_13 | exact bk_14 | exact bk_15 | exact bk_16 | exact zup_self | exact (zup_ne (by first | assumption | omega)).trans (by first | assumption | exact zup_self) | exact (zup_ne (by first | assumption | omega)).trans ((zup_ne (by first | assumption | omega)).trans (by first | assumption | exact zup_self)) | exact (bk_out (by first | omega | (simp only [bset, reduceIte, Nat.reduceEqDiff]; omega))).trans (by first | exact bk_0 | exact bk_1 | exact bk_2 | exact bk_3 | exact bk_4 | exact bk_5 | exact bk_6 | exact bk_7 | exact bk_8 | exact bk_9 | exact bk_10 | exact bk_11 | exact bk_12 | exact bk_13 | exact bk_14 | exact bk_15 | exact bk_16 | exact cr_5 | exact cr_23 | exact cr_24 | exact cr_25 | exact cr_26 | exact cr_27 | exact cr_28 | exact cr_29 | exact cr_30 | assumption)) rfl ?_
    refine zr_sipush dX7_claims_72 (rfl : 72 + 3 = 75) (by decide) ?_
    refine zr_iload_n dX7_claims_75 (rfl : 75 + 1 = 76) rfl ?_
    refine zr_iadd dX7_claims_76 (rfl : 76 + 1 = 77) (by first | exact jI_add _ _ | rfl) ?_
    refine zr_aload_n dX7_claims_77 (rfl : 77 + 1 = 78) rfl ?_
    refine zr_getf dX7_claims_78 (rfl : 78 + 3 = 81) f_X7_7 (by first | assumption | exact mw_167 | exact mw_168 | exact mw_169 | exact mw_170 | exact bk_0 | exact bk_1 | exact bk_2 | exact bk_3 | exact bk_4 | exact bk_5 | exact bk_6 | exact bk_7 | exact bk_8 | exact bk_9 | exact bk_10 | exact bk_11 | exact bk_12 | exact bk_13 | exact bk_14 | exact bk_15 | exact bk_16 | exact zup_self | exact (zup_ne (by first | assumption | omega)).trans (by first | assumption | exact zup_self) | exact (zup_ne (by first | assumption | omega)).trans ((zup_ne (by first | assumption | omega)).trans (by first | assumption | exact zup_self)) | exact (bk_out (by first | omega | (simp only [bset, reduceIte, Nat.reduceEqDiff]; omega))).trans (by first | exact bk_0 | exact bk_1 | exact bk_2 | exact bk_3 | exact bk_4 | exact bk_5 | exact bk_6 | exact bk_7 | exact bk_8 | exact bk_9 | exact bk_10 | exact bk_11 | exact bk_12 | exact bk_13 | exact bk_14 | exact bk_15 | exact bk_16 | exact cr_5 | exact cr_23 | exact cr_24 | exact cr_25 | exact cr_26 | exact cr_27 | exact cr_28 | exact cr_29 | exact cr_30 | assumption)) rfl ?_
    refine zr_sipush dX7_claims_81 (rfl : 81 + 3 = 84) (by decide) ?_
    refine zr_iald dX7_claims_84 (rfl : 84 + 1 = 85) (by first | assumption | exact mw_167 | exact mw_168 | exact mw_169 | exact mw_170 | exact bk_0 | exact bk_1 | exact bk_2 | exact bk_3 | exact bk_4 | exact bk_5 | exact bk_6 | exact bk_7 | exact bk_8 | exact bk_9 | exact bk_10 | exact bk_11 | exact bk_12 | exact bk_13 | exact bk_14 | exact bk_15 | exact bk_16 | exact zup_self | exact (zup_ne (by first | assumption | omega)).trans (by first | assumption | exact zup_self) | exact (zup_ne (by first | assumption | omega)).trans ((zup_ne (by first | assumption | omega)).trans (by first | assumption | exact zup_self)) | exact (bk_out (by first | omega | (simp only [bset, reduceIte, Nat.reduceEqDiff]; omega))).trans (by first | exact bk_0 | exact bk_1 | exact bk_2 | exact bk_3 | exact bk_4 | exact bk_5 | exact bk_6 | exact bk_7 | exact bk_8 | exact bk_9 | exact bk_10 | exact bk_11 | exact bk_12 | exact bk_13 | exact bk_14 | exact bk_15 | exact bk_16 | exact cr_5 | exact cr_23 | exact cr_24 | exact cr_25 | exact cr_26 | exact cr_27 | exact cr_28 | exact cr_29 | exact cr_30 | assumption)) (by decide) (by first | omega | (simp only [bset, reduceIte, Nat.reduceEqDiff]; omega)) (by first | omega | (simp only [bset, reduceIte, Nat.reduceEqDiff]; omega)) ?_
    rw [jup_ne (by omega), jup_ne (by omega), hca]
    refine zr_iast dX7_claims_85 (rfl : 85 + 1 = 86) (by first | assumption | exact mw_167 | exact mw_168 | exact mw_169 | exact mw_170 | exact bk_0 | exact bk_1 | exact bk_2 | exact bk_3 | exact bk_4 | exact bk_5 | exact bk_6 | exact bk_7 | exact bk_8 | exact bk_9 | exact bk_10 | exact bk_11 | exact bk_12 | exact bk_13 | exact bk_14 | exact bk_15 | exact bk_16 | exact zup_self | exact (zup_ne (by first | assumption | omega)).trans (by first | assumption | exact zup_self) | exact (zup_ne (by first | assumption | omega)).trans ((zup_ne (by first | assumption | omega)).trans (by first | assumption | exact zup_self)) | exact (bk_out (by first | omega | (simp only [bset, reduceIte, Nat.reduceEqDiff]; omega))).trans (by first | exact bk_0 | exact bk_1 | exact bk_2 | exact bk_3 | exact bk_4 | exact bk_5 | exact bk_6 | exact bk_7 | exact bk_8 | exact bk_9 | exact bk_10 | exact bk_11 | exact bk_12 | exact bk_13 | exact bk_14 | exact bk_15 | exact bk_16 | exact cr_5 | exact cr_23 | exact cr_24 | exact cr_25 | exact cr_26 | exact cr_27 | exact cr_28 | exact cr_29 | exact cr_30 | assumption)) (by decide) (by first | omega | (simp only [bset, reduceIte, Nat.reduceEqDiff]; omega)) (by first | omega | (simp only [bset, reduceIte, Nat.reduceEqDiff]; omega)) rfl ?_
    rw [mwu_S]
    refine zr_iload_n dX7_claims_86 (rfl : 86 + 1 = 87) rfl ?_
    refine zr_ireE dX7_claims_87 rfl rfl ?_
    exact ⟨rfl, _, ⟨(jagb_up (by omega)).trans ((jagb_up (by omega)).trans (jagb_up (by omega))), mr_sc1 h hc hg ok (by omega)⟩, rfl⟩
  · refine zr_aload_n dX7_claims_11 (rfl : 11 + 1 = 12) rfl ?_
    refine zr_getf dX7_claims_12 (rfl : 12 + 3 = 15) f_X7_7 (by first | assumption | exact mw_167 | exact mw_168 | exact mw_169 | exact mw_170 | exact bk_0 | exact bk_1 | exact bk_2 | exact bk_3 | exact bk_4 | exact bk_5 | exact bk_6 | exact bk_7 | exact bk_8 | exact bk_9 | exact bk_10 | exact bk_11 | exact bk_12 | exact bk_13 | exact bk_14 | exact bk_15 | exact bk_16 | exact zup_self | exact (zup_ne (by first | assumption | omega)).trans (by first | assumption | exact zup_self) | exact (zup_ne (by first | assumption | omega)).trans ((zup_ne (by first | assumption | omega)).trans (by first | assumption | exact zup_self)) | exact (bk_out (by first | omega | (simp only [bset, reduceIte, Nat.reduceEqDiff]; omega))).trans (by first | exact bk_0 | exact bk_1 | exact bk_2 | exact bk_3 | exact bk_4 | exact bk_5 | exact bk_6 | exact bk_7 | exact bk_8 | exact bk_9 | exact bk_10 | exact bk_11 | exact bk_12 | exact bk_13 | exact bk_14 | exact bk_15 | exact bk_16 | exact cr_5 | exact cr_23 | exact cr_24 | exact cr_25 | exact cr_26 | exact cr_27 | exact cr_28 | exact cr_29 | exact cr_30 | assumption)) rfl ?_
    refine zr_sipush dX7_claims_15 (rfl : 15 + 3 = 18) (by decide) ?_
    refine zr_dup2 dX7_claims_18 (rfl : 18 + 1 = 19) rfl rfl ?_
    refine zr_iald dX7_claims_19 (rfl : 19 + 1 = 20) (by first | assumption | exact mw_167 | exact mw_168 | exact mw_169 | exact mw_170 | exact bk_0 | exact bk_1 | exact bk_2 | exact bk_3 | exact bk_4 | exact bk_5 | exact bk_6 | exact bk_7 | exact bk_8 | exact bk_9 | exact bk_10 | exact bk_11 | exact bk_12 | exact bk_13 | exact bk_14 | exact bk_15 | exact bk_16 | exact zup_self | exact (zup_ne (by first | assumption | omega)).trans (by first | assumption | exact zup_self) | exact (zup_ne (by first | assumption | omega)).trans ((zup_ne (by first | assumption | omega)).trans (by first | assumption | exact zup_self)) | exact (bk_out (by first | omega | (simp only [bset, reduceIte, Nat.reduceEqDiff]; omega))).trans (by first | exact bk_0 | exact bk_1 | exact bk_2 | exact bk_3 | exact bk_4 | exact bk_5 | exact bk_6 | exact bk_7 | exact bk_8 | exact bk_9 | exact bk_10 | exact bk_11 | exact bk_12 | exact bk_13 | exact bk_14 | exact bk_15 | exact bk_16 | exact cr_5 | exact cr_23 | exact cr_24 | exact cr_25 | exact cr_26 | exact cr_27 | exact cr_28 | exact cr_29 | exact cr_30 | assumption)) (by decide) (by first | omega | (simp only [bset, reduceIte, Nat.reduceEqDiff]; omega)) (by first | omega | (simp only [bset, reduceIte, Nat.reduceEqDiff]; omega)) ?_
    rw [htu]
    refine zr_iconst dX7_claims_20 (rfl : 20 + 1 = 21) ?_
    refine zr_iadd dX7_claims_21 (rfl : 21 + 1 = 22) (by first | exact jI_add _ _ | rfl) ?_
    refine zr_iast dX7_claims_22 (rfl : 22 + 1 = 23) (by first | assumption | exact mw_167 | exact mw_168 | exact mw_169 | exact mw_170 | exact bk_0 | exact bk_1 | exact bk_2 | exact bk_3 | exact bk_4 | exact bk_5 | exact bk_6 | exact bk_7 | exact bk_8 | exact bk_9 | exact bk_10 | exact bk_11 | exact bk_12 | exact bk_13 | exact bk_14 | exact bk_15 | exact bk_16 | exact zup_self | exact (zup_ne (by first | assumption | omega)).trans (by first | assumption | exact zup_self) | exact (zup_ne (by first | assumption | omega)).trans ((zup_ne (by first | assumption | omega)).trans (by first | assumption | exact zup_self)) | exact (bk_out (by first | omega | (simp only [bset, reduceIte, Nat.reduceEqDiff]; omega))).trans (by first | exact bk_0 | exact bk_1 | exact bk_2 | exact bk_3 | exact bk_4 | exact bk_5 | exact bk_6 | exact bk_7 | exact bk_8 | exact bk_9 | exact bk_10 | exact bk_11 | exact bk_12 | exact bk_13 | exact bk_14 | exact bk_15 | exact bk_16 | exact cr_5 | exact cr_23 | exact cr_24 | exact cr_25 | exact cr_26 | exact cr_27 | exact cr_28 | exact cr_29 | exact cr_30 | assumption)) (by decide) (by first | omega | (simp only [bset, reduceIte, Nat.reduceEqDiff]; omega)) (by first | omega | (simp only [bset, reduceIte, Nat.reduceEqDiff]; omega)) rfl ?_
    rw [mwu_S]
    refine zr_aload_n dX7_claims_23 (rfl : 23 + 1 = 24) rfl ?_
    refine zr_getf dX7_claims_24 (rfl : 24 + 3 = 27) f_X7_7 (by first | assumption | exact mw_167 | exact mw_168 | exact mw_169 | exact mw_170 | exact bk_0 | exact bk_1 | exact bk_2 | exact bk_3 | exact bk_4 | exact bk_5 | exact bk_6 | exact bk_7 | exact bk_8 | exact bk_9 | exact bk_10 | exact bk_11 | exact bk_12 | exact bk_13 | exact bk_14 | exact bk_15 | exact bk_16 | exact zup_self | exact (zup_ne (by first | assumption | omega)).trans (by first | assumption | exact zup_self) | exact (zup_ne (by first | assumption | omega)).trans ((zup_ne (by first | assumption | omega)).trans (by first | assumption | exact zup_self)) | exact (bk_out (by first | omega | (simp only [bset, reduceIte, Nat.reduceEqDiff]; omega))).trans (by first | exact bk_0 | exact bk_1 | exact bk_2 | exact bk_3 | exact bk_4 | exact bk_5 | exact bk_6 | exact bk_7 | exact bk_8 | exact bk_9 | exact bk_10 | exact bk_11 | exact bk_12 | exact bk_13 | exact bk_14 | exact bk_15 | exact bk_16 | exact cr_5 | exact cr_23 | exact cr_24 | exact cr_25 | exact cr_26 | exact cr_27 | exact cr_28 | exact cr_29 | exact cr_30 | assumption)) rfl ?_
    refine zr_sipush dX7_claims_27 (rfl : 27 + 3 = 30) (by decide) ?_
    refine zr_iload_n dX7_claims_30 (rfl : 30 + 1 = 31) rfl ?_
    refine zr_iadd dX7_claims_31 (rfl : 31 + 1 = 32) (by first | exact jI_add _ _ | rfl) ?_
    refine zr_dup2 dX7_claims_32 (rfl : 32 + 1 = 33) rfl rfl ?_
    refine zr_iald dX7_claims_33 (rfl : 33 + 1 = 34) (by first | assumption | exact mw_167 | exact mw_168 | exact mw_169 | exact mw_170 | exact bk_0 | exact bk_1 | exact bk_2 | exact bk_3 | exact bk_4 | exact bk_5 | exact bk_6 | exact bk_7 | exact bk_8 | exact bk_9 | exact bk_10 | exact bk_11 | exact bk_12 | exact bk_13 | exact bk_14 | exact bk_15 | exact bk_16 | exact zup_self | exact (zup_ne (by first | assumption | omega)).trans (by first | assumption | exact zup_self) | exact (zup_ne (by first | assumption | omega)).trans ((zup_ne (by first | assumption | omega)).trans (by first | assumption | exact zup_self)) | exact (bk_out (by first | omega | (simp only [bset, reduceIte, Nat.reduceEqDiff]; omega))).trans (by first | exact bk_0 | exact bk_1 | exact bk_2 | exact bk_3 | exact bk_4 | exact bk_5 | exact bk_6 | exact bk_7 | exact bk_8 | exact bk_9 | exact bk_10 | exact bk_11 | exact bk_12 | exact bk_13 | exact bk_14 | exact bk_15 | exact bk_16 | exact cr_5 | exact cr_23 | exact cr_24 | exact cr_25 | exact cr_26 | exact cr_27 | exact cr_28 | exact cr_29 | exact cr_30 | assumption)) (by decide) (by first | omega | (simp only [bset, reduceIte, Nat.reduceEqDiff]; omega)) (by first | omega | (simp only [bset, reduceIte, Nat.reduceEqDiff]; omega)) ?_
    rw [jup_ne (by omega), hdn]
    refine zr_iconst dX7_claims_34 (rfl : 34 + 1 = 35) ?_
    refine zr_iadd dX7_claims_35 (rfl : 35 + 1 = 36) (by first | exact jI_add _ _ | rfl) ?_
    refine zr_iast dX7_claims_36 (rfl : 36 + 1 = 37) (by first | assumption | exact mw_167 | exact mw_168 | exact mw_169 | exact mw_170 | exact bk_0 | exact bk_1 | exact bk_2 | exact bk_3 | exact bk_4 | exact bk_5 | exact bk_6 | exact bk_7 | exact bk_8 | exact bk_9 | exact bk_10 | exact bk_11 | exact bk_12 | exact bk_13 | exact bk_14 | exact bk_15 | exact bk_16 | exact zup_self | exact (zup_ne (by first | assumption | omega)).trans (by first | assumption | exact zup_self) | exact (zup_ne (by first | assumption | omega)).trans ((zup_ne (by first | assumption | omega)).trans (by first | assumption | exact zup_self)) | exact (bk_out (by first | omega | (simp only [bset, reduceIte, Nat.reduceEqDiff]; omega))).trans (by first | exact bk_0 | exact bk_1 | exact bk_2 | exact bk_3 | exact bk_4 | exact bk_5 | exact bk_6 | exact bk_7 | exact bk_8 | exact bk_9 | exact bk_10 | exact bk_11 | exact bk_12 | exact bk_13 | exact bk_14 | exact bk_15 | exact bk_16 | exact cr_5 | exact cr_23 | exact cr_24 | exact cr_25 | exact cr_26 | exact cr_27 | exact cr_28 | exact cr_29 | exact cr_30 | assumption)) (by decide) (by first | omega | (simp only [bset, reduceIte, Nat.reduceEqDiff]; omega)) (by first | omega | (simp only [bset, reduceIte, Nat.reduceEqDiff]; omega)) rfl ?_
    rw [mwu_S]
    refine zr_goto (tgt := 86) dX7_claims_37 (by decide) ?_
    refine zr_iload_n dX7_claims_86 (rfl : 86 + 1 = 87) rfl ?_
    refine zr_ireE dX7_claims_87 rfl rfl ?_
    exact ⟨rfl, _, ⟨(jagb_up (by omega)).trans (jagb_up (by omega)), mr_sc2 h hc ok (by omega)⟩, rfl⟩
/-! looks of cards, numbers, calls, games -/
theorem m_fullRows (c : Int) (hc : 0 ≤ c ∧ c < 6) (h : mr S 0 B) (ok : jok B) (lk : jlk B) : zFn Γ md_X7_fullRows (d + 2) [.ref 167, .int (jI c)] (mw S st ik th tx ty w) (some (.int (jI (jln (B 0) (B 7) c)))) (mw S st ik th tx ty w) := by
  refine zFn.of_run (lv := [some (.ref 167), some (.int (jI c)), none, none]) (by decide) rfl (Nat.le_of_ble_eq_true rfl) rfl (fun n9 g9 => ?_)
  refine zr_iconst dX7_fullRows_0 (rfl : 0 + 1 = 1) ?_
  refine zr_istore_n (lv' := [_, _, _, _]) dX7_fullRows_1 (rfl : 1 + 1 = 2) (Nat.le_of_ble_eq_true rfl) rfl ?_
  refine zr_iconst dX7_fullRows_2 (rfl : 2 + 1 = 3) ?_
  refine zr_istore_n (lv' := [_, _, _, _]) dX7_fullRows_3 (rfl : 3 + 1 = 4) (Nat.le_of_ble_eq_true rfl) rfl ?_
  unfold jln
  generalize hq : (fun k => decide (jisl (B 0) (B 7) (c * 3 + k))) = q
  refine zfor1 0 3 (fun r x => x = jcnt r.toNat q) (fun r x => [some (.ref 167), some (.int (jI c)), some (.int (jI x)), some (.int (jI r))]) (fun _ _ => (mw S st ik th tx ty w)) 0 rfl ?_ ?_
  · intro r x r0 r1 hx hk
    have hn := jcnt_next (q := q) r0
    have h5 := lk.r5 (c * 3 + r) (by omega) (by omega)
    have hjo := jorw_r B (c * 3 + r) 1
    have hu := jur_r (B 0) (B 7) (c * 3 + r)
    have e : jorw B (c * 3 + r) 1 = jrs (B 0) (c * 3 + r) - jur (B 0) (B 7) (c * 3 + r) := by
      unfold jorw
      rw [if_neg (by decide), if_pos rfl]
    have hb : (jorw B (c * 3 + r) 1 = 5 ∧ jb (q r = true) = 1) ∨ (jorw B (c * 3 + r) 1 ≠ 5 ∧ jb (q r = true) = 0) := by
      have e2 : (q r = true) ↔ jorw B (c * 3 + r) 1 = 5 := by
        rw [← hq, decide_eq_true_eq]
        unfold jisl
        omega
      by_cases hh : jorw B (c * 3 + r) 1 = 5
      · exact Or.inl ⟨hh, jb_pos (e2.mpr hh)⟩
      · exact Or.inr ⟨hh, jb_neg (fun z => hh (e2.mp z))⟩
    rw [← hx] at hn
    generalize jb (q r = true) = jq at hn hb
    generalize jcnt (r + 1).toNat q = c2 at hn hk
    refine zr_iload_n dX7_fullRows_4 (rfl : 4 + 1 = 5) rfl ?_
    refine zr_iconst dX7_fullRows_5 (rfl : 5 + 1 = 6) ?_
    refine zr_icmp_ge (tgt := 34) dX7_fullRows_6 (by decide) (rfl : 6 + 3 = 9) (jI_le (by first | omega | (simp only [bset, reduceIte, Nat.reduceEqDiff]; omega)) (by first | omega | (simp only [bset, reduceIte, Nat.reduceEqDiff]; omega)) (by first | omega | (simp only [bset, reduceIte, Nat.reduceEqDiff]; omega)) (by first | omega | (simp only [bset, reduceIte, Nat.reduceEqDiff]; omega))) (fun h6 => ?_) (fun h6 => ?_)
    · first
      | (exfalso; omega)
      | (
        refine zr_iload_n dX7_fullRows_34 (rfl : 34 + 1 = 35) rfl ?_
        refine zr_iret dX7_fullRows_35 rfl (by first | exact jb_nar | rfl) ?_ rfl rfl rfl
        first | rfl | rw [jb_pos (by first | assumption | omega)] | rw [jb_neg (by first | assumption | omega)] | rw [if_pos (by first | assumption | omega)] | rw [if_neg (by first | assumption | omega)])
    · first
      | (exfalso; omega)
      | (
        refine zr_iload_n dX7_fullRows_9 (rfl : 9 + 1 = 10) rfl ?_
        refine zr_aload_n dX7_fullRows_10 (rfl : 10 + 1 = 11) rfl ?_
        refine zr_iload_n dX7_fullRows_11 (rfl : 11 + 1 = 12) rfl ?_
        refine zr_iload_n dX7_fullRows_12 (rfl : 12 + 1 = 13) rfl ?_
        refine zr_iconst dX7_fullRows_13 (rfl : 13 + 1 = 14) ?_
        refine zr_fnV dX7_fullRows_14 (rfl : 14 + 3 = 17) l_X7_40 (m_ofRow c r 1 hc (by first | omega | (simp only [bset, reduceIte, Nat.reduceEqDiff]; omega)) (by decide) h ok lk) (by first | assumption | exact mw_167 | exact mw_168 | exact mw_169 | exact mw_170 | exact bk_0 | exact bk_1 | exact bk_2 | exact bk_3 | exact bk_4 | exact bk_5 | exact bk_6 | exact bk_7 | exact bk_8 | exact bk_9 | exact bk_10 | exact bk_11 | exact bk_12 | exact bk_13 | exact bk_14 | exact bk_15 | exact bk_16 | exact zup_self | exact (zup_ne (by first | assumption | omega)).trans (by first | assumption | exact zup_self) | exact (zup_ne (by first | assumption | omega)).trans ((zup_ne (by first | assumption | omega)).trans (by first | assumption | exact zup_self)) | exact (bk_out (by first | omega | (simp only [bset, reduceIte, Nat.reduceEqDiff]; omega))).trans (by first | exact bk_0 | exact bk_1 | exact bk_2 | exact bk_3 | exact bk_4 | exact bk_5 | exact bk_6 | exact bk_7 | exact bk_8 | exact bk_9 | exact bk_10 | exact bk_11 | exact bk_12 | exact bk_13 | exact bk_14 | exact bk_15 | exact bk_16 | exact cr_5 | exact cr_23 | exact cr_24 | exact cr_25 | exact cr_26 | exact cr_27 | exact cr_28 | exact cr_29 | exact cr_30 | assumption)) rfl rfl rfl (Nat.le_of_ble_eq_true rfl) ?_
        refine zr_iconst dX7_fullRows_17 (rfl : 17 + 1 = 18) ?_
        refine zr_icmp_ne (tgt := 25) dX7_fullRows_18 (by decide) (rfl : 18 + 3 = 21) (jI_eq (by first | omega | (simp only [bset, reduceIte, Nat.reduceEqDiff]; omega)) (by first | omega | (simp only [bset, reduceIte, Nat.reduceEqDiff]; omega)) (by first | omega | (simp only [bset, reduceIte, Nat.reduceEqDiff]; omega)) (by first | omega | (simp only [bset, reduceIte, Nat.reduceEqDiff]; omega))) (fun h18 => ?_) (fun h18 => ?_)
        · first
          | (exfalso; omega)
          | (
            refine zr_iconst dX7_fullRows_25 (rfl : 25 + 1 = 26) ?_
            refine zr_iadd dX7_fullRows_26 (rfl : 26 + 1 = 27) (by first | exact jI_add _ _ | rfl) ?_
            refine zr_istore_n (lv' := [_, _, _, _]) dX7_fullRows_27 (rfl : 27 + 1 = 28) (Nat.le_of_ble_eq_true rfl) rfl ?_
            refine zr_iinc (lv' := [_, _, _, _]) dX7_fullRows_28 (rfl : 28 + 3 = 31) (Nat.le_of_ble_eq_true rfl) rfl (by first | exact jI_add _ _ | rfl) rfl ?_
            refine zr_goto (tgt := 4) dX7_fullRows_31 (by decide) ?_
            exact hk _ (by omega))
        · first
          | (exfalso; omega)
          | (
            refine zr_iconst dX7_fullRows_21 (rfl : 21 + 1 = 22) ?_
            refine zr_goto (tgt := 26) dX7_fullRows_22 (by decide) ?_
            refine zr_iadd dX7_fullRows_26 (rfl : 26 + 1 = 27) (by first | exact jI_add _ _ | rfl) ?_
            refine zr_istore_n (lv' := [_, _, _, _]) dX7_fullRows_27 (rfl : 27 + 1 = 28) (Nat.le_of_ble_eq_true rfl) rfl ?_
            refine zr_iinc (lv' := [_, _, _, _]) dX7_fullRows_28 (rfl : 28 + 3 = 31) (Nat.le_of_ble_eq_true rfl) rfl (by first | exact jI_add _ _ | rfl) rfl ?_
            refine zr_goto (tgt := 4) dX7_fullRows_31 (by decide) ?_
            exact hk _ (by omega)))
  · intro x hx
    rw [show x = jcnt 3 q from hx]
    refine zr_iload_n dX7_fullRows_4 (rfl : 4 + 1 = 5) rfl ?_
    refine zr_iconst dX7_fullRows_5 (rfl : 5 + 1 = 6) ?_
    refine zr_icmp_ge (tgt := 34) dX7_fullRows_6 (by decide) (rfl : 6 + 3 = 9) (jI_le (by first | omega | (simp only [bset, reduceIte, Nat.reduceEqDiff]; omega)) (by first | omega | (simp only [bset, reduceIte, Nat.reduceEqDiff]; omega)) (by first | omega | (simp only [bset, reduceIte, Nat.reduceEqDiff]; omega)) (by first | omega | (simp only [bset, reduceIte, Nat.reduceEqDiff]; omega))) (fun h6 => ?_) (fun h6 => ?_)
    · first
      | (exfalso; omega)
      | (
        refine zr_iload_n dX7_fullRows_34 (rfl : 34 + 1 = 35) rfl ?_
        refine zr_iret dX7_fullRows_35 rfl (by first | exact jb_nar | rfl) ?_ rfl rfl rfl
        first | rfl | rw [jb_pos (by first | assumption | omega)] | rw [jb_neg (by first | assumption | omega)] | rw [if_pos (by first | assumption | omega)] | rw [if_neg (by first | assumption | omega)])
    · first
      | (exfalso; omega)
      | (
        exfalso
        omega)
theorem m_cards (c k : Int) (hc : 0 ≤ c ∧ c < 6) (hk : 0 ≤ k ∧ k < 9) (h : mr S 0 B) (ok : jok B) (lk : jlk B) : zFn Γ md_X7_cards (d + 3) [.ref 167, .int (jI c), .int (jI k)] (mw S st ik th tx ty w) (some (.int (jI (jcd B c k)))) (mw S st ik th tx ty w) := by
  have hbo := h.bo0 c hc.1 hc.2
  have hwo := h.wo0 c hc.1 hc.2
  have hco := h.co0 c hc.1 hc.2
  have hdn := h.dn0 c hc.1 hc.2
  have hbr := jbit_r (B 11 0) c
  have o0 : jorw B (c * 3 + 0) 0 + jorw B (c * 3 + 1) 0 + jorw B (c * 3 + 2) 0 = jcs (B 0) c := by
    unfold jcs
    rw [show c * 3 + 0 = c * 3 by omega, show c * 3 + 1 + 1 = c * 3 + 2 by omega]
    rfl
  have o1 : jorw B (c * 3 + 0) 1 + jorw B (c * 3 + 1) 1 + jorw B (c * 3 + 2) 1 = jmc (B 0) (B 7) c := by
    unfold jmc jorw
    rw [show c * 3 + 0 = c * 3 by omega, show c * 3 + 1 + 1 = c * 3 + 2 by omega]
    rfl
  have o2 : jorw B (c * 3 + 0) 2 + jorw B (c * 3 + 1) 2 + jorw B (c * 3 + 2) 2 = jmc (B 0) (B 8) c := by
    unfold jmc jorw
    rw [show c * 3 + 0 = c * 3 by omega, show c * 3 + 1 + 1 = c * 3 + 2 by omega]
    rfl
  have c0 := m_ofCard (Γ := Γ) (d := d) (st := st) (ik := ik) (th := th) (tx := tx) (ty := ty) (w := w) c 0 hc (by decide) h ok lk
  have c1 := m_ofCard (Γ := Γ) (d := d) (st := st) (ik := ik) (th := th) (tx := tx) (ty := ty) (w := w) c 1 hc (by decide) h ok lk
  have c2 := m_ofCard (Γ := Γ) (d := d) (st := st) (ik := ik) (th := th) (tx := tx) (ty := ty) (w := w) c 2 hc (by decide) h ok lk
  rw [o0] at c0
  rw [o1] at c1
  rw [o2] at c2
  refine zFn.of_run (lv := [some (.ref 167), some (.int (jI c)), some (.int (jI k))]) (by decide) rfl (Nat.le_of_ble_eq_true rfl) rfl (fun n9 g9 => ?_)
  refine zr_iload_n dX7_cards_0 (rfl : 0 + 1 = 1) rfl ?_
  by_cases hs0 : k = 0
  · first
    | (exfalso; omega)
    | (
      refine zr_tableIn (off := 47) (tgt := 48) dX7_cards_1 ⟨by omega, by omega⟩ (by first | omega | (simp only [bset, reduceIte, Nat.reduceEqDiff]; omega)) (by first | omega | (simp only [bset, reduceIte, Nat.reduceEqDiff]; omega)) (by rw [hs0]; rfl) (by decide) ?_
      refine zr_aload_n dX7_cards_48 (rfl : 48 + 1 = 49) rfl ?_
      refine zr_iload_n dX7_cards_49 (rfl : 49 + 1 = 50) rfl ?_
      refine zr_iconst dX7_cards_50 (rfl : 50 + 1 = 51) ?_
      refine zr_fnV dX7_cards_51 (rfl : 51 + 3 = 54) l_X7_143 (c0) (by first | assumption | exact mw_167 | exact mw_168 | exact mw_169 | exact mw_170 | exact bk_0 | exact bk_1 | exact bk_2 | exact bk_3 | exact bk_4 | exact bk_5 | exact bk_6 | exact bk_7 | exact bk_8 | exact bk_9 | exact bk_10 | exact bk_11 | exact bk_12 | exact bk_13 | exact bk_14 | exact bk_15 | exact bk_16 | exact zup_self | exact (zup_ne (by first | assumption | omega)).trans (by first | assumption | exact zup_self) | exact (zup_ne (by first | assumption | omega)).trans ((zup_ne (by first | assumption | omega)).trans (by first | assumption | exact zup_self)) | exact (bk_out (by first | omega | (simp only [bset, reduceIte, Nat.reduceEqDiff]; omega))).trans (by first | exact bk_0 | exact bk_1 | exact bk_2 | exact bk_3 | exact bk_4 | exact bk_5 | exact bk_6 | exact bk_7 | exact bk_8 | exact bk_9 | exact bk_10 | exact bk_11 | exact bk_12 | exact bk_13 | exact bk_14 | exact bk_15 | exact bk_16 | exact cr_5 | exact cr_23 | exact cr_24 | exact cr_25 | exact cr_26 | exact cr_27 | exact cr_28 | exact cr_29 | exact cr_30 | assumption)) rfl rfl rfl (Nat.le_of_ble_eq_true rfl) ?_
      refine zr_iret dX7_cards_54 rfl (by first | exact jb_nar | rfl) ?_ rfl rfl rfl
      (unfold jcd; repeat (first | rw [if_pos (by omega)] | rw [if_neg (by omega)])); try (first | rfl | rw [jb_pos (by omega)] | rw [jb_neg (by omega)]))
  by_cases hs1 : k = 1
  · first
    | (exfalso; omega)
    | (
      refine zr_tableIn (off := 54) (tgt := 55) dX7_cards_1 ⟨by omega, by omega⟩ (by first | omega | (simp only [bset, reduceIte, Nat.reduceEqDiff]; omega)) (by first | omega | (simp only [bset, reduceIte, Nat.reduceEqDiff]; omega)) (by rw [hs1]; rfl) (by decide) ?_
      refine zr_aload_n dX7_cards_55 (rfl : 55 + 1 = 56) rfl ?_
      refine zr_iload_n dX7_cards_56 (rfl : 56 + 1 = 57) rfl ?_
      refine zr_fnV dX7_cards_57 (rfl : 57 + 3 = 60) l_X7_81 (m_isWhole c hc h ok lk) (by first | assumption | exact mw_167 | exact mw_168 | exact mw_169 | exact mw_170 | exact bk_0 | exact bk_1 | exact bk_2 | exact bk_3 | exact bk_4 | exact bk_5 | exact bk_6 | exact bk_7 | exact bk_8 | exact bk_9 | exact bk_10 | exact bk_11 | exact bk_12 | exact bk_13 | exact bk_14 | exact bk_15 | exact bk_16 | exact zup_self | exact (zup_ne (by first | assumption | omega)).trans (by first | assumption | exact zup_self) | exact (zup_ne (by first | assumption | omega)).trans ((zup_ne (by first | assumption | omega)).trans (by first | assumption | exact zup_self)) | exact (bk_out (by first | omega | (simp only [bset, reduceIte, Nat.reduceEqDiff]; omega))).trans (by first | exact bk_0 | exact bk_1 | exact bk_2 | exact bk_3 | exact bk_4 | exact bk_5 | exact bk_6 | exact bk_7 | exact bk_8 | exact bk_9 | exact bk_10 | exact bk_11 | exact bk_12 | exact bk_13 | exact bk_14 | exact bk_15 | exact bk_16 | exact cr_5 | exact cr_23 | exact cr_24 | exact cr_25 | exact cr_26 | exact cr_27 | exact cr_28 | exact cr_29 | exact cr_30 | assumption)) rfl rfl rfl (Nat.le_of_ble_eq_true rfl) ?_
      refine zr_if_eq (tgt := 67) dX7_cards_60 (by decide) (rfl : 60 + 3 = 63) (by first | exact jb_iff | exact jI_z (by first | omega | (simp only [bset, reduceIte, Nat.reduceEqDiff]; omega)) (by first | omega | (simp only [bset, reduceIte, Nat.reduceEqDiff]; omega))) (fun h60 => ?_) (fun h60 => ?_)
      · first
        | (exfalso; omega)
        | (
          refine zr_iconst dX7_cards_67 (rfl : 67 + 1 = 68) ?_
          refine zr_iret dX7_cards_68 rfl (by first | exact jb_nar | rfl) ?_ rfl rfl rfl
          (unfold jcd; repeat (first | rw [if_pos (by omega)] | rw [if_neg (by omega)])); try (first | rfl | rw [jb_pos (by omega)] | rw [jb_neg (by omega)]))
      · first
        | (exfalso; omega)
        | (
          refine zr_iconst dX7_cards_63 (rfl : 63 + 1 = 64) ?_
          refine zr_goto (tgt := 68) dX7_cards_64 (by decide) ?_
          refine zr_iret dX7_cards_68 rfl (by first | exact jb_nar | rfl) ?_ rfl rfl rfl
          (unfold jcd; repeat (first | rw [if_pos (by omega)] | rw [if_neg (by omega)])); try (first | rfl | rw [jb_pos (by omega)] | rw [jb_neg (by omega)])))
  by_cases hs2 : k = 2
  · first
    | (exfalso; omega)
    | (
      refine zr_tableIn (off := 68) (tgt := 69) dX7_cards_1 ⟨by omega, by omega⟩ (by first | omega | (simp only [bset, reduceIte, Nat.reduceEqDiff]; omega)) (by first | omega | (simp only [bset, reduceIte, Nat.reduceEqDiff]; omega)) (by rw [hs2]; rfl) (by decide) ?_
      refine zr_aload_n dX7_cards_69 (rfl : 69 + 1 = 70) rfl ?_
      refine zr_getf dX7_cards_70 (rfl : 70 + 3 = 73) f_X7_7 (by first | assumption | exact mw_167 | exact mw_168 | exact mw_169 | exact mw_170 | exact bk_0 | exact bk_1 | exact bk_2 | exact bk_3 | exact bk_4 | exact bk_5 | exact bk_6 | exact bk_7 | exact bk_8 | exact bk_9 | exact bk_10 | exact bk_11 | exact bk_12 | exact bk_13 | exact bk_14 | exact bk_15 | exact bk_16 | exact zup_self | exact (zup_ne (by first | assumption | omega)).trans (by first | assumption | exact zup_self) | exact (zup_ne (by first | assumption | omega)).trans ((zup_ne (by first | assumption | omega)).trans (by first | assumption | exact zup_self)) | exact (bk_out (by first | omega | (simp only [bset, reduceIte, Nat.reduceEqDiff]; omega))).trans (by first | exact bk_0 | exact bk_1 | exact bk_2 | exact bk_3 | exact bk_4 | exact bk_5 | exact bk_6 | exact bk_7 | exact bk_8 | exact bk_9 | exact bk_10 | exact bk_11 | exact bk_12 | exact bk_13 | exact bk_14 | exact bk_15 | exact bk_16 | exact cr_5 | exact cr_23 | exact cr_24 | exact cr_25 | exact cr_26 | exact cr_27 | exact cr_28 | exact cr_29 | exact cr_30 | assumption)) rfl ?_
      refine zr_sipush dX7_cards_73 (rfl : 73 + 3 = 76) (by decide) ?_
      refine zr_iload_n dX7_cards_76 (rfl : 76 + 1 = 77) rfl ?_
      refine zr_iadd dX7_cards_77 (rfl : 77 + 1 = 78) (by first | exact jI_add _ _ | rfl) ?_
      refine zr_iald dX7_cards_78 (rfl : 78 + 1 = 79) (by first | assumption | exact mw_167 | exact mw_168 | exact mw_169 | exact mw_170 | exact bk_0 | exact bk_1 | exact bk_2 | exact bk_3 | exact bk_4 | exact bk_5 | exact bk_6 | exact bk_7 | exact bk_8 | exact bk_9 | exact bk_10 | exact bk_11 | exact bk_12 | exact bk_13 | exact bk_14 | exact bk_15 | exact bk_16 | exact zup_self | exact (zup_ne (by first | assumption | omega)).trans (by first | assumption | exact zup_self) | exact (zup_ne (by first | assumption | omega)).trans ((zup_ne (by first | assumption | omega)).trans (by first | assumption | exact zup_self)) | exact (bk_out (by first | omega | (simp only [bset, reduceIte, Nat.reduceEqDiff]; omega))).trans (by first | exact bk_0 | exact bk_1 | exact bk_2 | exact bk_3 | exact bk_4 | exact bk_5 | exact bk_6 | exact bk_7 | exact bk_8 | exact bk_9 | exact bk_10 | exact bk_11 | exact bk_12 | exact bk_13 | exact bk_14 | exact bk_15 | exact bk_16 | exact cr_5 | exact cr_23 | exact cr_24 | exact cr_25 | exact cr_26 | exact cr_27 | exact cr_28 | exact cr_29 | exact cr_30 | assumption)) (by decide) (by first | omega | (simp only [bset, reduceIte, Nat.reduceEqDiff]; omega)) (by first | omega | (simp only [bset, reduceIte, Nat.reduceEqDiff]; omega)) ?_
      rw [hbo]
      refine zr_iret dX7_cards_79 rfl (by first | exact jb_nar | rfl) ?_ rfl rfl rfl
      (unfold jcd; repeat (first | rw [if_pos (by omega)] | rw [if_neg (by omega)])); rcases (by omega : jbit (B 11 0) c = 0 ∨ jbit (B 11 0) c = 1) with e | e <;> rw [e] <;> rfl)
  by_cases hs3 : k = 3
  · first
    | (exfalso; omega)
    | (
      refine zr_tableIn (off := 79) (tgt := 80) dX7_cards_1 ⟨by omega, by omega⟩ (by first | omega | (simp only [bset, reduceIte, Nat.reduceEqDiff]; omega)) (by first | omega | (simp only [bset, reduceIte, Nat.reduceEqDiff]; omega)) (by rw [hs3]; rfl) (by decide) ?_
      refine zr_aload_n dX7_cards_80 (rfl : 80 + 1 = 81) rfl ?_
      refine zr_iload_n dX7_cards_81 (rfl : 81 + 1 = 82) rfl ?_
      refine zr_iconst dX7_cards_82 (rfl : 82 + 1 = 83) ?_
      refine zr_fnV dX7_cards_83 (rfl : 83 + 3 = 86) l_X7_143 (c1) (by first | assumption | exact mw_167 | exact mw_168 | exact mw_169 | exact mw_170 | exact bk_0 | exact bk_1 | exact bk_2 | exact bk_3 | exact bk_4 | exact bk_5 | exact bk_6 | exact bk_7 | exact bk_8 | exact bk_9 | exact bk_10 | exact bk_11 | exact bk_12 | exact bk_13 | exact bk_14 | exact bk_15 | exact bk_16 | exact zup_self | exact (zup_ne (by first | assumption | omega)).trans (by first | assumption | exact zup_self) | exact (zup_ne (by first | assumption | omega)).trans ((zup_ne (by first | assumption | omega)).trans (by first | assumption | exact zup_self)) | exact (bk_out (by first | omega | (simp only [bset, reduceIte, Nat.reduceEqDiff]; omega))).trans (by first | exact bk_0 | exact bk_1 | exact bk_2 | exact bk_3 | exact bk_4 | exact bk_5 | exact bk_6 | exact bk_7 | exact bk_8 | exact bk_9 | exact bk_10 | exact bk_11 | exact bk_12 | exact bk_13 | exact bk_14 | exact bk_15 | exact bk_16 | exact cr_5 | exact cr_23 | exact cr_24 | exact cr_25 | exact cr_26 | exact cr_27 | exact cr_28 | exact cr_29 | exact cr_30 | assumption)) rfl rfl rfl (Nat.le_of_ble_eq_true rfl) ?_
      refine zr_iret dX7_cards_86 rfl (by first | exact jb_nar | rfl) ?_ rfl rfl rfl
      (unfold jcd; repeat (first | rw [if_pos (by omega)] | rw [if_neg (by omega)])); try (first | rfl | rw [jb_pos (by omega)] | rw [jb_neg (by omega)]))
  by_cases hs4 : k = 4
  · first
    | (exfalso; omega)
    | (
      refine zr_tableIn (off := 86) (tgt := 87) dX7_cards_1 ⟨by omega, by omega⟩ (by first | omega | (simp only [bset, reduceIte, Nat.reduceEqDiff]; omega)) (by first | omega | (simp only [bset, reduceIte, Nat.reduceEqDiff]; omega)) (by rw [hs4]; rfl) (by decide) ?_
      refine zr_aload_n dX7_cards_87 (rfl : 87 + 1 = 88) rfl ?_
      refine zr_iload_n dX7_cards_88 (rfl : 88 + 1 = 89) rfl ?_
      refine zr_iconst dX7_cards_89 (rfl : 89 + 1 = 90) ?_
      refine zr_fnV dX7_cards_90 (rfl : 90 + 3 = 93) l_X7_143 (c2) (by first | assumption | exact mw_167 | exact mw_168 | exact mw_169 | exact mw_170 | exact bk_0 | exact bk_1 | exact bk_2 | exact bk_3 | exact bk_4 | exact bk_5 | exact bk_6 | exact bk_7 | exact bk_8 | exact bk_9 | exact bk_10 | exact bk_11 | exact bk_12 | exact bk_13 | exact bk_14 | exact bk_15 | exact bk_16 | exact zup_self | exact (zup_ne (by first | assumption | omega)).trans (by first | assumption | exact zup_self) | exact (zup_ne (by first | assumption | omega)).trans ((zup_ne (by first | assumption | omega)).trans (by first | assumption | exact zup_self)) | exact (bk_out (by first | omega | (simp only [bset, reduceIte, Nat.reduceEqDiff]; omega))).trans (by first | exact bk_0 | exact bk_1 | exact bk_2 | exact bk_3 | exact bk_4 | exact bk_5 | exact bk_6 | exact bk_7 | exact bk_8 | exact bk_9 | exact bk_10 | exact bk_11 | exact bk_12 | exact bk_13 | exact bk_14 | exact bk_15 | exact bk_16 | exact cr_5 | exact cr_23 | exact cr_24 | exact cr_25 | exact cr_26 | exact cr_27 | exact cr_28 | exact cr_29 | exact cr_30 | assumption)) rfl rfl rfl (Nat.le_of_ble_eq_true rfl) ?_
      refine zr_iret dX7_cards_93 rfl (by first | exact jb_nar | rfl) ?_ rfl rfl rfl
      (unfold jcd; repeat (first | rw [if_pos (by omega)] | rw [if_neg (by omega)])); try (first | rfl | rw [jb_pos (by omega)] | rw [jb_neg (by omega)]))
  by_cases hs5 : k = 5
  · first
    | (exfalso; omega)
    | (
      refine zr_tableIn (off := 93) (tgt := 94) dX7_cards_1 ⟨by omega, by omega⟩ (by first | omega | (simp only [bset, reduceIte, Nat.reduceEqDiff]; omega)) (by first | omega | (simp only [bset, reduceIte, Nat.reduceEqDiff]; omega)) (by rw [hs5]; rfl) (by decide) ?_
      refine zr_aload_n dX7_cards_94 (rfl : 94 + 1 = 95) rfl ?_
      refine zr_iload_n dX7_cards_95 (rfl : 95 + 1 = 96) rfl ?_
      refine zr_fnV dX7_cards_96 (rfl : 96 + 3 = 99) l_X7_146 (m_fullRows c hc h ok lk) (by first | assumption | exact mw_167 | exact mw_168 | exact mw_169 | exact mw_170 | exact bk_0 | exact bk_1 | exact bk_2 | exact bk_3 | exact bk_4 | exact bk_5 | exact bk_6 | exact bk_7 | exact bk_8 | exact bk_9 | exact bk_10 | exact bk_11 | exact bk_12 | exact bk_13 | exact bk_14 | exact bk_15 | exact bk_16 | exact zup_self | exact (zup_ne (by first | assumption | omega)).trans (by first | assumption | exact zup_self) | exact (zup_ne (by first | assumption | omega)).trans ((zup_ne (by first | assumption | omega)).trans (by first | assumption | exact zup_self)) | exact (bk_out (by first | omega | (simp only [bset, reduceIte, Nat.reduceEqDiff]; omega))).trans (by first | exact bk_0 | exact bk_1 | exact bk_2 | exact bk_3 | exact bk_4 | exact bk_5 | exact bk_6 | exact bk_7 | exact bk_8 | exact bk_9 | exact bk_10 | exact bk_11 | exact bk_12 | exact bk_13 | exact bk_14 | exact bk_15 | exact bk_16 | exact cr_5 | exact cr_23 | exact cr_24 | exact cr_25 | exact cr_26 | exact cr_27 | exact cr_28 | exact cr_29 | exact cr_30 | assumption)) rfl rfl rfl (Nat.le_of_ble_eq_true rfl) ?_
      refine zr_iret dX7_cards_99 rfl (by first | exact jb_nar | rfl) ?_ rfl rfl rfl
      (unfold jcd; repeat (first | rw [if_pos (by omega)] | rw [if_neg (by omega)])); try (first | rfl | rw [jb_pos (by omega)] | rw [jb_neg (by omega)]))
  by_cases hs6 : k = 6
  · first
    | (exfalso; omega)
    | (
      refine zr_tableIn (off := 99) (tgt := 100) dX7_cards_1 ⟨by omega, by omega⟩ (by first | omega | (simp only [bset, reduceIte, Nat.reduceEqDiff]; omega)) (by first | omega | (simp only [bset, reduceIte, Nat.reduceEqDiff]; omega)) (by rw [hs6]; rfl) (by decide) ?_
      refine zr_aload_n dX7_cards_100 (rfl : 100 + 1 = 101) rfl ?_
      refine zr_getf dX7_cards_101 (rfl : 101 + 3 = 104) f_X7_7 (by first | assumption | exact mw_167 | exact mw_168 | exact mw_169 | exact mw_170 | exact bk_0 | exact bk_1 | exact bk_2 | exact bk_3 | exact bk_4 | exact bk_5 | exact bk_6 | exact bk_7 | exact bk_8 | exact bk_9 | exact bk_10 | exact bk_11 | exact bk_12 | exact bk_13 | exact bk_14 | exact bk_15 | exact bk_16 | exact zup_self | exact (zup_ne (by first | assumption | omega)).trans (by first | assumption | exact zup_self) | exact (zup_ne (by first | assumption | omega)).trans ((zup_ne (by first | assumption | omega)).trans (by first | assumption | exact zup_self)) | exact (bk_out (by first | omega | (simp only [bset, reduceIte, Nat.reduceEqDiff]; omega))).trans (by first | exact bk_0 | exact bk_1 | exact bk_2 | exact bk_3 | exact bk_4 | exact bk_5 | exact bk_6 | exact bk_7 | exact bk_8 | exact bk_9 | exact bk_10 | exact bk_11 | exact bk_12 | exact bk_13 | exact bk_14 | exact bk_15 | exact bk_16 | exact cr_5 | exact cr_23 | exact cr_24 | exact cr_25 | exact cr_26 | exact cr_27 | exact cr_28 | exact cr_29 | exact cr_30 | assumption)) rfl ?_
      refine zr_sipush dX7_cards_104 (rfl : 104 + 3 = 107) (by decide) ?_
      refine zr_iload_n dX7_cards_107 (rfl : 107 + 1 = 108) rfl ?_
      refine zr_iadd dX7_cards_108 (rfl : 108 + 1 = 109) (by first | exact jI_add _ _ | rfl) ?_
      refine zr_iald dX7_cards_109 (rfl : 109 + 1 = 110) (by first | assumption | exact mw_167 | exact mw_168 | exact mw_169 | exact mw_170 | exact bk_0 | exact bk_1 | exact bk_2 | exact bk_3 | exact bk_4 | exact bk_5 | exact bk_6 | exact bk_7 | exact bk_8 | exact bk_9 | exact bk_10 | exact bk_11 | exact bk_12 | exact bk_13 | exact bk_14 | exact bk_15 | exact bk_16 | exact zup_self | exact (zup_ne (by first | assumption | omega)).trans (by first | assumption | exact zup_self) | exact (zup_ne (by first | assumption | omega)).trans ((zup_ne (by first | assumption | omega)).trans (by first | assumption | exact zup_self)) | exact (bk_out (by first | omega | (simp only [bset, reduceIte, Nat.reduceEqDiff]; omega))).trans (by first | exact bk_0 | exact bk_1 | exact bk_2 | exact bk_3 | exact bk_4 | exact bk_5 | exact bk_6 | exact bk_7 | exact bk_8 | exact bk_9 | exact bk_10 | exact bk_11 | exact bk_12 | exact bk_13 | exact bk_14 | exact bk_15 | exact bk_16 | exact cr_5 | exact cr_23 | exact cr_24 | exact cr_25 | exact cr_26 | exact cr_27 | exact cr_28 | exact cr_29 | exact cr_30 | assumption)) (by decide) (by first | omega | (simp only [bset, reduceIte, Nat.reduceEqDiff]; omega)) (by first | omega | (simp only [bset, reduceIte, Nat.reduceEqDiff]; omega)) ?_
      rw [hwo]
      refine zr_iret dX7_cards_110 rfl (by first | exact jb_nar | rfl) ?_ rfl rfl rfl
      (unfold jcd; repeat (first | rw [if_pos (by omega)] | rw [if_neg (by omega)])); try (first | rfl | rw [jb_pos (by omega)] | rw [jb_neg (by omega)]))
  by_cases hs7 : k = 7
  · first
    | (exfalso; omega)
    | (
      refine zr_tableIn (off := 110) (tgt := 111) dX7_cards_1 ⟨by omega, by omega⟩ (by first | omega | (simp only [bset, reduceIte, Nat.reduceEqDiff]; omega)) (by first | omega | (simp only [bset, reduceIte, Nat.reduceEqDiff]; omega)) (by rw [hs7]; rfl) (by decide) ?_
      refine zr_aload_n dX7_cards_111 (rfl : 111 + 1 = 112) rfl ?_
      refine zr_getf dX7_cards_112 (rfl : 112 + 3 = 115) f_X7_7 (by first | assumption | exact mw_167 | exact mw_168 | exact mw_169 | exact mw_170 | exact bk_0 | exact bk_1 | exact bk_2 | exact bk_3 | exact bk_4 | exact bk_5 | exact bk_6 | exact bk_7 | exact bk_8 | exact bk_9 | exact bk_10 | exact bk_11 | exact bk_12 | exact bk_13 | exact bk_14 | exact bk_15 | exact bk_16 | exact zup_self | exact (zup_ne (by first | assumption | omega)).trans (by first | assumption | exact zup_self) | exact (zup_ne (by first | assumption | omega)).trans ((zup_ne (by first | assumption | omega)).trans (by first | assumption | exact zup_self)) | exact (bk_out (by first | omega | (simp only [bset, reduceIte, Nat.reduceEqDiff]; omega))).trans (by first | exact bk_0 | exact bk_1 | exact bk_2 | exact bk_3 | exact bk_4 | exact bk_5 | exact bk_6 | exact bk_7 | exact bk_8 | exact bk_9 | exact bk_10 | exact bk_11 | exact bk_12 | exact bk_13 | exact bk_14 | exact bk_15 | exact bk_16 | exact cr_5 | exact cr_23 | exact cr_24 | exact cr_25 | exact cr_26 | exact cr_27 | exact cr_28 | exact cr_29 | exact cr_30 | assumption)) rfl ?_
      refine zr_sipush dX7_cards_115 (rfl : 115 + 3 = 118) (by decide) ?_
      refine zr_iload_n dX7_cards_118 (rfl : 118 + 1 = 119) rfl ?_
      refine zr_iadd dX7_cards_119 (rfl : 119 + 1 = 120) (by first | exact jI_add _ _ | rfl) ?_
      refine zr_iald dX7_cards_120 (rfl : 120 + 1 = 121) (by first | assumption | exact mw_167 | exact mw_168 | exact mw_169 | exact mw_170 | exact bk_0 | exact bk_1 | exact bk_2 | exact bk_3 | exact bk_4 | exact bk_5 | exact bk_6 | exact bk_7 | exact bk_8 | exact bk_9 | exact bk_10 | exact bk_11 | exact bk_12 | exact bk_13 | exact bk_14 | exact bk_15 | exact bk_16 | exact zup_self | exact (zup_ne (by first | assumption | omega)).trans (by first | assumption | exact zup_self) | exact (zup_ne (by first | assumption | omega)).trans ((zup_ne (by first | assumption | omega)).trans (by first | assumption | exact zup_self)) | exact (bk_out (by first | omega | (simp only [bset, reduceIte, Nat.reduceEqDiff]; omega))).trans (by first | exact bk_0 | exact bk_1 | exact bk_2 | exact bk_3 | exact bk_4 | exact bk_5 | exact bk_6 | exact bk_7 | exact bk_8 | exact bk_9 | exact bk_10 | exact bk_11 | exact bk_12 | exact bk_13 | exact bk_14 | exact bk_15 | exact bk_16 | exact cr_5 | exact cr_23 | exact cr_24 | exact cr_25 | exact cr_26 | exact cr_27 | exact cr_28 | exact cr_29 | exact cr_30 | assumption)) (by decide) (by first | omega | (simp only [bset, reduceIte, Nat.reduceEqDiff]; omega)) (by first | omega | (simp only [bset, reduceIte, Nat.reduceEqDiff]; omega)) ?_
      rw [hco]
      refine zr_iret dX7_cards_121 rfl (by first | exact jb_nar | rfl) ?_ rfl rfl rfl
      (unfold jcd; repeat (first | rw [if_pos (by omega)] | rw [if_neg (by omega)])); try (first | rfl | rw [jb_pos (by omega)] | rw [jb_neg (by omega)]))
  refine zr_tableOut (tgt := 122) dX7_cards_1 ⟨by omega, by omega⟩ (by first | omega | (simp only [bset, reduceIte, Nat.reduceEqDiff]; omega)) (by decide) ?_
  refine zr_aload_n dX7_cards_122 (rfl : 122 + 1 = 123) rfl ?_
  refine zr_getf dX7_cards_123 (rfl : 123 + 3 = 126) f_X7_7 (by first | assumption | exact mw_167 | exact mw_168 | exact mw_169 | exact mw_170 | exact bk_0 | exact bk_1 | exact bk_2 | exact bk_3 | exact bk_4 | exact bk_5 | exact bk_6 | exact bk_7 | exact bk_8 | exact bk_9 | exact bk_10 | exact bk_11 | exact bk_12 | exact bk_13 | exact bk_14 | exact bk_15 | exact bk_16 | exact zup_self | exact (zup_ne (by first | assumption | omega)).trans (by first | assumption | exact zup_self) | exact (zup_ne (by first | assumption | omega)).trans ((zup_ne (by first | assumption | omega)).trans (by first | assumption | exact zup_self)) | exact (bk_out (by first | omega | (simp only [bset, reduceIte, Nat.reduceEqDiff]; omega))).trans (by first | exact bk_0 | exact bk_1 | exact bk_2 | exact bk_3 | exact bk_4 | exact bk_5 | exact bk_6 | exact bk_7 | exact bk_8 | exact bk_9 | exact bk_10 | exact bk_11 | exact bk_12 | exact bk_13 | exact bk_14 | exact bk_15 | exact bk_16 | exact cr_5 | exact cr_23 | exact cr_24 | exact cr_25 | exact cr_26 | exact cr_27 | exact cr_28 | exact cr_29 | exact cr_30 | assumption)) rfl ?_
  refine zr_sipush dX7_cards_126 (rfl : 126 + 3 = 129) (by decide) ?_
  refine zr_iload_n dX7_cards_129 (rfl : 129 + 1 = 130) rfl ?_
  refine zr_iadd dX7_cards_130 (rfl : 130 + 1 = 131) (by first | exact jI_add _ _ | rfl) ?_
  refine zr_iald dX7_cards_131 (rfl : 131 + 1 = 132) (by first | assumption | exact mw_167 | exact mw_168 | exact mw_169 | exact mw_170 | exact bk_0 | exact bk_1 | exact bk_2 | exact bk_3 | exact bk_4 | exact bk_5 | exact bk_6 | exact bk_7 | exact bk_8 | exact bk_9 | exact bk_10 | exact bk_11 | exact bk_12 | exact bk_13 | exact bk_14 | exact bk_15 | exact bk_16 | exact zup_self | exact (zup_ne (by first | assumption | omega)).trans (by first | assumption | exact zup_self) | exact (zup_ne (by first | assumption | omega)).trans ((zup_ne (by first | assumption | omega)).trans (by first | assumption | exact zup_self)) | exact (bk_out (by first | omega | (simp only [bset, reduceIte, Nat.reduceEqDiff]; omega))).trans (by first | exact bk_0 | exact bk_1 | exact bk_2 | exact bk_3 | exact bk_4 | exact bk_5 | exact bk_6 | exact bk_7 | exact bk_8 | exact bk_9 | exact bk_10 | exact bk_11 | exact bk_12 | exact bk_13 | exact bk_14 | exact bk_15 | exact bk_16 | exact cr_5 | exact cr_23 | exact cr_24 | exact cr_25 | exact cr_26 | exact cr_27 | exact cr_28 | exact cr_29 | exact cr_30 | assumption)) (by decide) (by first | omega | (simp only [bset, reduceIte, Nat.reduceEqDiff]; omega)) (by first | omega | (simp only [bset, reduceIte, Nat.reduceEqDiff]; omega)) ?_
  rw [hdn]
  refine zr_iret dX7_cards_132 rfl (by first | exact jb_nar | rfl) ?_ rfl rfl rfl
  (unfold jcd; repeat (first | rw [if_pos (by omega)] | rw [if_neg (by omega)])); try (first | rfl | rw [jb_pos (by omega)] | rw [jb_neg (by omega)])
theorem m_numbers (n k : Int) (hn : 1 ≤ n ∧ n ≤ 90) (hk : 0 ≤ k ∧ k < 4) (h : mr S 0 B) (ok : jok B) : zFn Γ md_X7_numbers d [.ref 167, .int (jI n), .int (jI k)] (mw S st ik th tx ty w) (some (.int (jI (jno B n k)))) (mw S st ik th tx ty w) := by
  have hp := h.pl0 n hn.1 hn.2
  have hd := h.da0 n hn.1 hn.2
  have hs := h.sa0 n hn.1 hn.2
  have hR := ok.R n
  refine zFn.of_run (lv := [some (.ref 167), some (.int (jI n)), some (.int (jI k)), none]) (by decide) rfl (Nat.le_of_ble_eq_true rfl) rfl (fun n9 g9 => ?_)
  refine zr_aload_n dX7_numbers_0 (rfl : 0 + 1 = 1) rfl ?_
  refine zr_getf dX7_numbers_1 (rfl : 1 + 3 = 4) f_X7_7 (by first | assumption | exact mw_167 | exact mw_168 | exact mw_169 | exact mw_170 | exact bk_0 | exact bk_1 | exact bk_2 | exact bk_3 | exact bk_4 | exact bk_5 | exact bk_6 | exact bk_7 | exact bk_8 | exact bk_9 | exact bk_10 | exact bk_11 | exact bk_12 | exact bk_13 | exact bk_14 | exact bk_15 | exact bk_16 | exact zup_self | exact (zup_ne (by first | assumption | omega)).trans (by first | assumption | exact zup_self) | exact (zup_ne (by first | assumption | omega)).trans ((zup_ne (by first | assumption | omega)).trans (by first | assumption | exact zup_self)) | exact (bk_out (by first | omega | (simp only [bset, reduceIte, Nat.reduceEqDiff]; omega))).trans (by first | exact bk_0 | exact bk_1 | exact bk_2 | exact bk_3 | exact bk_4 | exact bk_5 | exact bk_6 | exact bk_7 | exact bk_8 | exact bk_9 | exact bk_10 | exact bk_11 | exact bk_12 | exact bk_13 | exact bk_14 | exact bk_15 | exact bk_16 | exact cr_5 | exact cr_23 | exact cr_24 | exact cr_25 | exact cr_26 | exact cr_27 | exact cr_28 | exact cr_29 | exact cr_30 | assumption)) rfl ?_
  refine zr_iconst dX7_numbers_4 (rfl : 4 + 1 = 5) ?_
  refine zr_iload_n dX7_numbers_5 (rfl : 5 + 1 = 6) rfl ?_
  refine zr_iadd dX7_numbers_6 (rfl : 6 + 1 = 7) (by first | exact jI_add _ _ | rfl) ?_
  refine zr_iald dX7_numbers_7 (rfl : 7 + 1 = 8) (by first | assumption | exact mw_167 | exact mw_168 | exact mw_169 | exact mw_170 | exact bk_0 | exact bk_1 | exact bk_2 | exact bk_3 | exact bk_4 | exact bk_5 | exact bk_6 | exact bk_7 | exact bk_8 | exact bk_9 | exact bk_10 | exact bk_11 | exact bk_12 | exact bk_13 | exact bk_14 | exact bk_15 | exact bk_16 | exact zup_self | exact (zup_ne (by first | assumption | omega)).trans (by first | assumption | exact zup_self) | exact (zup_ne (by first | assumption | omega)).trans ((zup_ne (by first | assumption | omega)).trans (by first | assumption | exact zup_self)) | exact (bk_out (by first | omega | (simp only [bset, reduceIte, Nat.reduceEqDiff]; omega))).trans (by first | exact bk_0 | exact bk_1 | exact bk_2 | exact bk_3 | exact bk_4 | exact bk_5 | exact bk_6 | exact bk_7 | exact bk_8 | exact bk_9 | exact bk_10 | exact bk_11 | exact bk_12 | exact bk_13 | exact bk_14 | exact bk_15 | exact bk_16 | exact cr_5 | exact cr_23 | exact cr_24 | exact cr_25 | exact cr_26 | exact cr_27 | exact cr_28 | exact cr_29 | exact cr_30 | assumption)) (by decide) (by first | omega | (simp only [bset, reduceIte, Nat.reduceEqDiff]; omega)) (by first | omega | (simp only [bset, reduceIte, Nat.reduceEqDiff]; omega)) ?_
  rw [hp]
  refine zr_iconst dX7_numbers_8 (rfl : 8 + 1 = 9) ?_
  refine zr_isub dX7_numbers_9 (rfl : 9 + 1 = 10) (by first | exact jI_sub _ _ | rfl) ?_
  rw [show B 1 n + 1 - 1 = B 1 n by omega]
  refine zr_istore_n (lv' := [_, _, _, _]) dX7_numbers_10 (rfl : 10 + 1 = 11) (Nat.le_of_ble_eq_true rfl) rfl ?_
  refine zr_iload_n dX7_numbers_11 (rfl : 11 + 1 = 12) rfl ?_
  refine zr_iconst dX7_numbers_12 (rfl : 12 + 1 = 13) ?_
  refine zr_icmp_ne (tgt := 28) dX7_numbers_13 (by decide) (rfl : 13 + 3 = 16) (jI_eq (by first | omega | (simp only [bset, reduceIte, Nat.reduceEqDiff]; omega)) (by first | omega | (simp only [bset, reduceIte, Nat.reduceEqDiff]; omega)) (by first | omega | (simp only [bset, reduceIte, Nat.reduceEqDiff]; omega)) (by first | omega | (simp only [bset, reduceIte, Nat.reduceEqDiff]; omega))) (fun h13 => ?_) (fun h13 => ?_)
  · first
    | (exfalso; omega)
    | (
      refine zr_iload_n dX7_numbers_28 (rfl : 28 + 1 = 29) rfl ?_
      refine zr_iconst dX7_numbers_29 (rfl : 29 + 1 = 30) ?_
      refine zr_icmp_ne (tgt := 46) dX7_numbers_30 (by decide) (rfl : 30 + 3 = 33) (jI_eq (by first | omega | (simp only [bset, reduceIte, Nat.reduceEqDiff]; omega)) (by first | omega | (simp only [bset, reduceIte, Nat.reduceEqDiff]; omega)) (by first | omega | (simp only [bset, reduceIte, Nat.reduceEqDiff]; omega)) (by first | omega | (simp only [bset, reduceIte, Nat.reduceEqDiff]; omega))) (fun h30 => ?_) (fun h30 => ?_)
      · first
        | (exfalso; omega)
        | (
          refine zr_iload_n dX7_numbers_46 (rfl : 46 + 1 = 47) rfl ?_
          refine zr_if_ge (tgt := 54) dX7_numbers_47 (by decide) (rfl : 47 + 3 = 50) (jI_gez (by first | omega | (simp only [bset, reduceIte, Nat.reduceEqDiff]; omega)) (by first | omega | (simp only [bset, reduceIte, Nat.reduceEqDiff]; omega))) (fun h47 => ?_) (fun h47 => ?_)
          · first
            | (exfalso; omega)
            | (
              refine zr_iload_n dX7_numbers_54 (rfl : 54 + 1 = 55) rfl ?_
              refine zr_if_ne (tgt := 64) dX7_numbers_55 (by decide) (rfl : 55 + 3 = 58) (by first | exact jb_iff | exact jI_z (by first | omega | (simp only [bset, reduceIte, Nat.reduceEqDiff]; omega)) (by first | omega | (simp only [bset, reduceIte, Nat.reduceEqDiff]; omega))) (fun h55 => ?_) (fun h55 => ?_)
              · first
                | (exfalso; omega)
                | (
                  refine zr_iload_n dX7_numbers_64 (rfl : 64 + 1 = 65) rfl ?_
                  refine zr_iconst dX7_numbers_65 (rfl : 65 + 1 = 66) ?_
                  refine zr_irem dX7_numbers_66 (rfl : 66 + 1 = 67) (fun q => absurd ((jI_z (by first | omega | (simp only [bset, reduceIte, Nat.reduceEqDiff]; omega)) (by first | omega | (simp only [bset, reduceIte, Nat.reduceEqDiff]; omega))).mp q) (by first | omega | (simp only [bset, reduceIte, Nat.reduceEqDiff]; omega))) (jI_rem (by first | omega | (simp only [bset, reduceIte, Nat.reduceEqDiff]; omega)) (by first | omega | (simp only [bset, reduceIte, Nat.reduceEqDiff]; omega)) (by first | omega | (simp only [bset, reduceIte, Nat.reduceEqDiff]; omega)) (by first | omega | (simp only [bset, reduceIte, Nat.reduceEqDiff]; omega))) ?_
                  refine zr_iret dX7_numbers_67 rfl (by first | exact jb_nar | rfl) ?_ rfl rfl rfl
                  (unfold jno; repeat (first | rw [if_pos (by omega)] | rw [if_neg (by omega)])))
              · first
                | (exfalso; omega)
                | (
                  refine zr_iload_n dX7_numbers_58 (rfl : 58 + 1 = 59) rfl ?_
                  refine zr_iconst dX7_numbers_59 (rfl : 59 + 1 = 60) ?_
                  refine zr_idiv dX7_numbers_60 (rfl : 60 + 1 = 61) (fun q => absurd ((jI_z (by first | omega | (simp only [bset, reduceIte, Nat.reduceEqDiff]; omega)) (by first | omega | (simp only [bset, reduceIte, Nat.reduceEqDiff]; omega))).mp q) (by first | omega | (simp only [bset, reduceIte, Nat.reduceEqDiff]; omega))) (jI_div (by first | omega | (simp only [bset, reduceIte, Nat.reduceEqDiff]; omega)) (by first | omega | (simp only [bset, reduceIte, Nat.reduceEqDiff]; omega)) (by first | omega | (simp only [bset, reduceIte, Nat.reduceEqDiff]; omega)) (by first | omega | (simp only [bset, reduceIte, Nat.reduceEqDiff]; omega))) ?_
                  refine zr_goto (tgt := 67) dX7_numbers_61 (by decide) ?_
                  refine zr_iret dX7_numbers_67 rfl (by first | exact jb_nar | rfl) ?_ rfl rfl rfl
                  (unfold jno; repeat (first | rw [if_pos (by omega)] | rw [if_neg (by omega)]))))
          · first
            | (exfalso; omega)
            | (
              refine zr_iconst dX7_numbers_50 (rfl : 50 + 1 = 51) ?_
              refine zr_goto (tgt := 67) dX7_numbers_51 (by decide) ?_
              refine zr_iret dX7_numbers_67 rfl (by first | exact jb_nar | rfl) ?_ rfl rfl rfl
              (unfold jno; repeat (first | rw [if_pos (by omega)] | rw [if_neg (by omega)]))))
      · first
        | (exfalso; omega)
        | (
          refine zr_aload_n dX7_numbers_33 (rfl : 33 + 1 = 34) rfl ?_
          refine zr_getf dX7_numbers_34 (rfl : 34 + 3 = 37) f_X7_7 (by first | assumption | exact mw_167 | exact mw_168 | exact mw_169 | exact mw_170 | exact bk_0 | exact bk_1 | exact bk_2 | exact bk_3 | exact bk_4 | exact bk_5 | exact bk_6 | exact bk_7 | exact bk_8 | exact bk_9 | exact bk_10 | exact bk_11 | exact bk_12 | exact bk_13 | exact bk_14 | exact bk_15 | exact bk_16 | exact zup_self | exact (zup_ne (by first | assumption | omega)).trans (by first | assumption | exact zup_self) | exact (zup_ne (by first | assumption | omega)).trans ((zup_ne (by first | assumption | omega)).trans (by first | assumption | exact zup_self)) | exact (bk_out (by first | omega | (simp only [bset, reduceIte, Nat.reduceEqDiff]; omega))).trans (by first | exact bk_0 | exact bk_1 | exact bk_2 | exact bk_3 | exact bk_4 | exact bk_5 | exact bk_6 | exact bk_7 | exact bk_8 | exact bk_9 | exact bk_10 | exact bk_11 | exact bk_12 | exact bk_13 | exact bk_14 | exact bk_15 | exact bk_16 | exact cr_5 | exact cr_23 | exact cr_24 | exact cr_25 | exact cr_26 | exact cr_27 | exact cr_28 | exact cr_29 | exact cr_30 | assumption)) rfl ?_
          refine zr_sipush dX7_numbers_37 (rfl : 37 + 3 = 40) (by decide) ?_
          refine zr_iload_n dX7_numbers_40 (rfl : 40 + 1 = 41) rfl ?_
          refine zr_iadd dX7_numbers_41 (rfl : 41 + 1 = 42) (by first | exact jI_add _ _ | rfl) ?_
          refine zr_iald dX7_numbers_42 (rfl : 42 + 1 = 43) (by first | assumption | exact mw_167 | exact mw_168 | exact mw_169 | exact mw_170 | exact bk_0 | exact bk_1 | exact bk_2 | exact bk_3 | exact bk_4 | exact bk_5 | exact bk_6 | exact bk_7 | exact bk_8 | exact bk_9 | exact bk_10 | exact bk_11 | exact bk_12 | exact bk_13 | exact bk_14 | exact bk_15 | exact bk_16 | exact zup_self | exact (zup_ne (by first | assumption | omega)).trans (by first | assumption | exact zup_self) | exact (zup_ne (by first | assumption | omega)).trans ((zup_ne (by first | assumption | omega)).trans (by first | assumption | exact zup_self)) | exact (bk_out (by first | omega | (simp only [bset, reduceIte, Nat.reduceEqDiff]; omega))).trans (by first | exact bk_0 | exact bk_1 | exact bk_2 | exact bk_3 | exact bk_4 | exact bk_5 | exact bk_6 | exact bk_7 | exact bk_8 | exact bk_9 | exact bk_10 | exact bk_11 | exact bk_12 | exact bk_13 | exact bk_14 | exact bk_15 | exact bk_16 | exact cr_5 | exact cr_23 | exact cr_24 | exact cr_25 | exact cr_26 | exact cr_27 | exact cr_28 | exact cr_29 | exact cr_30 | assumption)) (by decide) (by first | omega | (simp only [bset, reduceIte, Nat.reduceEqDiff]; omega)) (by first | omega | (simp only [bset, reduceIte, Nat.reduceEqDiff]; omega)) ?_
          rw [hs]
          refine zr_goto (tgt := 67) dX7_numbers_43 (by decide) ?_
          refine zr_iret dX7_numbers_67 rfl (by first | exact jb_nar | rfl) ?_ rfl rfl rfl
          (unfold jno; repeat (first | rw [if_pos (by omega)] | rw [if_neg (by omega)]))))
  · first
    | (exfalso; omega)
    | (
      refine zr_aload_n dX7_numbers_16 (rfl : 16 + 1 = 17) rfl ?_
      refine zr_getf dX7_numbers_17 (rfl : 17 + 3 = 20) f_X7_7 (by first | assumption | exact mw_167 | exact mw_168 | exact mw_169 | exact mw_170 | exact bk_0 | exact bk_1 | exact bk_2 | exact bk_3 | exact bk_4 | exact bk_5 | exact bk_6 | exact bk_7 | exact bk_8 | exact bk_9 | exact bk_10 | exact bk_11 | exact bk_12 | exact bk_13 | exact bk_14 | exact bk_15 | exact bk_16 | exact zup_self | exact (zup_ne (by first | assumption | omega)).trans (by first | assumption | exact zup_self) | exact (zup_ne (by first | assumption | omega)).trans ((zup_ne (by first | assumption | omega)).trans (by first | assumption | exact zup_self)) | exact (bk_out (by first | omega | (simp only [bset, reduceIte, Nat.reduceEqDiff]; omega))).trans (by first | exact bk_0 | exact bk_1 | exact bk_2 | exact bk_3 | exact bk_4 | exact bk_5 | exact bk_6 | exact bk_7 | exact bk_8 | exact bk_9 | exact bk_10 | exact bk_11 | exact bk_12 | exact bk_13 | exact bk_14 | exact bk_15 | exact bk_16 | exact cr_5 | exact cr_23 | exact cr_24 | exact cr_25 | exact cr_26 | exact cr_27 | exact cr_28 | exact cr_29 | exact cr_30 | assumption)) rfl ?_
      refine zr_bipush dX7_numbers_20 (rfl : 20 + 2 = 22) (by decide) ?_
      refine zr_iload_n dX7_numbers_22 (rfl : 22 + 1 = 23) rfl ?_
      refine zr_iadd dX7_numbers_23 (rfl : 23 + 1 = 24) (by first | exact jI_add _ _ | rfl) ?_
      refine zr_iald dX7_numbers_24 (rfl : 24 + 1 = 25) (by first | assumption | exact mw_167 | exact mw_168 | exact mw_169 | exact mw_170 | exact bk_0 | exact bk_1 | exact bk_2 | exact bk_3 | exact bk_4 | exact bk_5 | exact bk_6 | exact bk_7 | exact bk_8 | exact bk_9 | exact bk_10 | exact bk_11 | exact bk_12 | exact bk_13 | exact bk_14 | exact bk_15 | exact bk_16 | exact zup_self | exact (zup_ne (by first | assumption | omega)).trans (by first | assumption | exact zup_self) | exact (zup_ne (by first | assumption | omega)).trans ((zup_ne (by first | assumption | omega)).trans (by first | assumption | exact zup_self)) | exact (bk_out (by first | omega | (simp only [bset, reduceIte, Nat.reduceEqDiff]; omega))).trans (by first | exact bk_0 | exact bk_1 | exact bk_2 | exact bk_3 | exact bk_4 | exact bk_5 | exact bk_6 | exact bk_7 | exact bk_8 | exact bk_9 | exact bk_10 | exact bk_11 | exact bk_12 | exact bk_13 | exact bk_14 | exact bk_15 | exact bk_16 | exact cr_5 | exact cr_23 | exact cr_24 | exact cr_25 | exact cr_26 | exact cr_27 | exact cr_28 | exact cr_29 | exact cr_30 | assumption)) (by decide) (by first | omega | (simp only [bset, reduceIte, Nat.reduceEqDiff]; omega)) (by first | omega | (simp only [bset, reduceIte, Nat.reduceEqDiff]; omega)) ?_
      rw [hd]
      refine zr_goto (tgt := 67) dX7_numbers_25 (by decide) ?_
      refine zr_iret dX7_numbers_67 rfl (by first | exact jb_nar | rfl) ?_ rfl rfl rfl
      (unfold jno; repeat (first | rw [if_pos (by omega)] | rw [if_neg (by omega)])))
theorem m_calls (a k : Int) (ha : 0 ≤ a ∧ a < 2147483648) (hk : 0 ≤ k ∧ k < 2) (h : mr S 0 B) (ok : jok B) : zFn Γ md_X7_calls d [.ref 167, .int (jI a), .int (jI k)] (mw S st ik th tx ty w) (some (.int (jI (jcl B a k)))) (mw S st ik th tx ty w) := by
  have hc0 := h.ca0
  have hco := ok.ca
  unfold jcl
  by_cases hA : B 12 0 ≤ a
  · rw [if_pos hA]
    refine zFn.of_run (lv := [some (.ref 167), some (.int (jI a)), some (.int (jI k))]) (by decide) rfl (Nat.le_of_ble_eq_true rfl) rfl (fun n9 g9 => ?_)
    refine zr_iload_n dX7_calls_0 (rfl : 0 + 1 = 1) rfl ?_
    refine zr_aload_n dX7_calls_1 (rfl : 1 + 1 = 2) rfl ?_
    refine zr_getf dX7_calls_2 (rfl : 2 + 3 = 5) f_X7_7 (by first | assumption | exact mw_167 | exact mw_168 | exact mw_169 | exact mw_170 | exact bk_0 | exact bk_1 | exact bk_2 | exact bk_3 | exact bk_4 | exact bk_5 | exact bk_6 | exact bk_7 | exact bk_8 | exact bk_9 | exact bk_10 | exact bk_11 | exact bk_12 | exact bk_13 | exact bk_14 | exact bk_15 | exact bk_16 | exact zup_self | exact (zup_ne (by first | assumption | omega)).trans (by first | assumption | exact zup_self) | exact (zup_ne (by first | assumption | omega)).trans ((zup_ne (by first | assumption | omega)).trans (by first | assumption | exact zup_self)) | exact (bk_out (by first | omega | (simp only [bset, reduceIte, Nat.reduceEqDiff]; omega))).trans (by first | exact bk_0 | exact bk_1 | exact bk_2 | exact bk_3 | exact bk_4 | exact bk_5 | exact bk_6 | exact bk_7 | exact bk_8 | exact bk_9 | exact bk_10 | exact bk_11 | exact bk_12 | exact bk_13 | exact bk_14 | exact bk_15 | exact bk_16 | exact cr_5 | exact cr_23 | exact cr_24 | exact cr_25 | exact cr_26 | exact cr_27 | exact cr_28 | exact cr_29 | exact cr_30 | assumption)) rfl ?_
    refine zr_sipush dX7_calls_5 (rfl : 5 + 3 = 8) (by decide) ?_
    refine zr_iald dX7_calls_8 (rfl : 8 + 1 = 9) (by first | assumption | exact mw_167 | exact mw_168 | exact mw_169 | exact mw_170 | exact bk_0 | exact bk_1 | exact bk_2 | exact bk_3 | exact bk_4 | exact bk_5 | exact bk_6 | exact bk_7 | exact bk_8 | exact bk_9 | exact bk_10 | exact bk_11 | exact bk_12 | exact bk_13 | exact bk_14 | exact bk_15 | exact bk_16 | exact zup_self | exact (zup_ne (by first | assumption | omega)).trans (by first | assumption | exact zup_self) | exact (zup_ne (by first | assumption | omega)).trans ((zup_ne (by first | assumption | omega)).trans (by first | assumption | exact zup_self)) | exact (bk_out (by first | omega | (simp only [bset, reduceIte, Nat.reduceEqDiff]; omega))).trans (by first | exact bk_0 | exact bk_1 | exact bk_2 | exact bk_3 | exact bk_4 | exact bk_5 | exact bk_6 | exact bk_7 | exact bk_8 | exact bk_9 | exact bk_10 | exact bk_11 | exact bk_12 | exact bk_13 | exact bk_14 | exact bk_15 | exact bk_16 | exact cr_5 | exact cr_23 | exact cr_24 | exact cr_25 | exact cr_26 | exact cr_27 | exact cr_28 | exact cr_29 | exact cr_30 | assumption)) (by decide) (by first | omega | (simp only [bset, reduceIte, Nat.reduceEqDiff]; omega)) (by first | omega | (simp only [bset, reduceIte, Nat.reduceEqDiff]; omega)) ?_
    refine zr_icmp_lt (tgt := 16) dX7_calls_9 (by decide) (rfl : 9 + 3 = 12) (jI_lt (by first | omega | (simp only [bset, reduceIte, Nat.reduceEqDiff]; omega)) (by first | omega | (simp only [bset, reduceIte, Nat.reduceEqDiff]; omega)) (by first | omega | (simp only [bset, reduceIte, Nat.reduceEqDiff]; omega)) (by first | omega | (simp only [bset, reduceIte, Nat.reduceEqDiff]; omega))) (fun h9 => ?_) (fun h9 => ?_)
    · first
      | (exfalso; omega)
      | (
        exfalso
        omega)
    · first
      | (exfalso; omega)
      | (
        refine zr_iconst dX7_calls_12 (rfl : 12 + 1 = 13) ?_
        refine zr_goto (tgt := 47) dX7_calls_13 (by decide) ?_
        refine zr_iret dX7_calls_47 rfl (by first | exact jb_nar | rfl) ?_ rfl rfl rfl
        first | rfl | rw [jb_pos (by first | assumption | omega)] | rw [jb_neg (by first | assumption | omega)] | rw [if_pos (by first | assumption | omega)] | rw [if_neg (by first | assumption | omega)])
  · rw [if_neg hA]
    have h1 : S (277 + B 12 0 - 1 - a) = B 5 (B 12 0 - 1 - a) := by
      rw [← h.dr0 (B 12 0 - 1 - a) (by omega) (by omega)]
      congr 1
      omega
    have h2 : S (367 + B 12 0 - 1 - a) = B 6 (B 12 0 - 1 - a) := by
      rw [← h.sd0 (B 12 0 - 1 - a) (by omega) (by omega)]
      congr 1
      omega
    refine zFn.of_run (lv := [some (.ref 167), some (.int (jI a)), some (.int (jI k))]) (by decide) rfl (Nat.le_of_ble_eq_true rfl) rfl (fun n9 g9 => ?_)
    refine zr_iload_n dX7_calls_0 (rfl : 0 + 1 = 1) rfl ?_
    refine zr_aload_n dX7_calls_1 (rfl : 1 + 1 = 2) rfl ?_
    refine zr_getf dX7_calls_2 (rfl : 2 + 3 = 5) f_X7_7 (by first | assumption | exact mw_167 | exact mw_168 | exact mw_169 | exact mw_170 | exact bk_0 | exact bk_1 | exact bk_2 | exact bk_3 | exact bk_4 | exact bk_5 | exact bk_6 | exact bk_7 | exact bk_8 | exact bk_9 | exact bk_10 | exact bk_11 | exact bk_12 | exact bk_13 | exact bk_14 | exact bk_15 | exact bk_16 | exact zup_self | exact (zup_ne (by first | assumption | omega)).trans (by first | assumption | exact zup_self) | exact (zup_ne (by first | assumption | omega)).trans ((zup_ne (by first | assumption | omega)).trans (by first | assumption | exact zup_self)) | exact (bk_out (by first | omega | (simp only [bset, reduceIte, Nat.reduceEqDiff]; omega))).trans (by first | exact bk_0 | exact bk_1 | exact bk_2 | exact bk_3 | exact bk_4 | exact bk_5 | exact bk_6 | exact bk_7 | exact bk_8 | exact bk_9 | exact bk_10 | exact bk_11 | exact bk_12 | exact bk_13 | exact bk_14 | exact bk_15 | exact bk_16 | exact cr_5 | exact cr_23 | exact cr_24 | exact cr_25 | exact cr_26 | exact cr_27 | exact cr_28 | exact cr_29 | exact cr_30 | assumption)) rfl ?_
    refine zr_sipush dX7_calls_5 (rfl : 5 + 3 = 8) (by decide) ?_
    refine zr_iald dX7_calls_8 (rfl : 8 + 1 = 9) (by first | assumption | exact mw_167 | exact mw_168 | exact mw_169 | exact mw_170 | exact bk_0 | exact bk_1 | exact bk_2 | exact bk_3 | exact bk_4 | exact bk_5 | exact bk_6 | exact bk_7 | exact bk_8 | exact bk_9 | exact bk_10 | exact bk_11 | exact bk_12 | exact bk_13 | exact bk_14 | exact bk_15 | exact bk_16 | exact zup_self | exact (zup_ne (by first | assumption | omega)).trans (by first | assumption | exact zup_self) | exact (zup_ne (by first | assumption | omega)).trans ((zup_ne (by first | assumption | omega)).trans (by first | assumption | exact zup_self)) | exact (bk_out (by first | omega | (simp only [bset, reduceIte, Nat.reduceEqDiff]; omega))).trans (by first | exact bk_0 | exact bk_1 | exact bk_2 | exact bk_3 | exact bk_4 | exact bk_5 | exact bk_6 | exact bk_7 | exact bk_8 | exact bk_9 | exact bk_10 | exact bk_11 | exact bk_12 | exact bk_13 | exact bk_14 | exact bk_15 | exact bk_16 | exact cr_5 | exact cr_23 | exact cr_24 | exact cr_25 | exact cr_26 | exact cr_27 | exact cr_28 | exact cr_29 | exact cr_30 | assumption)) (by decide) (by first | omega | (simp only [bset, reduceIte, Nat.reduceEqDiff]; omega)) (by first | omega | (simp only [bset, reduceIte, Nat.reduceEqDiff]; omega)) ?_
    refine zr_icmp_lt (tgt := 16) dX7_calls_9 (by decide) (rfl : 9 + 3 = 12) (jI_lt (by first | omega | (simp only [bset, reduceIte, Nat.reduceEqDiff]; omega)) (by first | omega | (simp only [bset, reduceIte, Nat.reduceEqDiff]; omega)) (by first | omega | (simp only [bset, reduceIte, Nat.reduceEqDiff]; omega)) (by first | omega | (simp only [bset, reduceIte, Nat.reduceEqDiff]; omega))) (fun h9 => ?_) (fun h9 => ?_)
    · first
      | (exfalso; omega)
      | (
        refine zr_aload_n dX7_calls_16 (rfl : 16 + 1 = 17) rfl ?_
        refine zr_getf dX7_calls_17 (rfl : 17 + 3 = 20) f_X7_7 (by first | assumption | exact mw_167 | exact mw_168 | exact mw_169 | exact mw_170 | exact bk_0 | exact bk_1 | exact bk_2 | exact bk_3 | exact bk_4 | exact bk_5 | exact bk_6 | exact bk_7 | exact bk_8 | exact bk_9 | exact bk_10 | exact bk_11 | exact bk_12 | exact bk_13 | exact bk_14 | exact bk_15 | exact bk_16 | exact zup_self | exact (zup_ne (by first | assumption | omega)).trans (by first | assumption | exact zup_self) | exact (zup_ne (by first | assumption | omega)).trans ((zup_ne (by first | assumption | omega)).trans (by first | assumption | exact zup_self)) | exact (bk_out (by first | omega | (simp only [bset, reduceIte, Nat.reduceEqDiff]; omega))).trans (by first | exact bk_0 | exact bk_1 | exact bk_2 | exact bk_3 | exact bk_4 | exact bk_5 | exact bk_6 | exact bk_7 | exact bk_8 | exact bk_9 | exact bk_10 | exact bk_11 | exact bk_12 | exact bk_13 | exact bk_14 | exact bk_15 | exact bk_16 | exact cr_5 | exact cr_23 | exact cr_24 | exact cr_25 | exact cr_26 | exact cr_27 | exact cr_28 | exact cr_29 | exact cr_30 | assumption)) rfl ?_
        refine zr_iload_n dX7_calls_20 (rfl : 20 + 1 = 21) rfl ?_
        refine zr_if_ne (tgt := 30) dX7_calls_21 (by decide) (rfl : 21 + 3 = 24) (by first | exact jb_iff | exact jI_z (by first | omega | (simp only [bset, reduceIte, Nat.reduceEqDiff]; omega)) (by first | omega | (simp only [bset, reduceIte, Nat.reduceEqDiff]; omega))) (fun h21 => ?_) (fun h21 => ?_)
        · first
          | (exfalso; omega)
          | (
            refine zr_sipush dX7_calls_30 (rfl : 30 + 3 = 33) (by decide) ?_
            refine zr_aload_n dX7_calls_33 (rfl : 33 + 1 = 34) rfl ?_
            refine zr_getf dX7_calls_34 (rfl : 34 + 3 = 37) f_X7_7 (by first | assumption | exact mw_167 | exact mw_168 | exact mw_169 | exact mw_170 | exact bk_0 | exact bk_1 | exact bk_2 | exact bk_3 | exact bk_4 | exact bk_5 | exact bk_6 | exact bk_7 | exact bk_8 | exact bk_9 | exact bk_10 | exact bk_11 | exact bk_12 | exact bk_13 | exact bk_14 | exact bk_15 | exact bk_16 | exact zup_self | exact (zup_ne (by first | assumption | omega)).trans (by first | assumption | exact zup_self) | exact (zup_ne (by first | assumption | omega)).trans ((zup_ne (by first | assumption | omega)).trans (by first | assumption | exact zup_self)) | exact (bk_out (by first | omega | (simp only [bset, reduceIte, Nat.reduceEqDiff]; omega))).trans (by first | exact bk_0 | exact bk_1 | exact bk_2 | exact bk_3 | exact bk_4 | exact bk_5 | exact bk_6 | exact bk_7 | exact bk_8 | exact bk_9 | exact bk_10 | exact bk_11 | exact bk_12 | exact bk_13 | exact bk_14 | exact bk_15 | exact bk_16 | exact cr_5 | exact cr_23 | exact cr_24 | exact cr_25 | exact cr_26 | exact cr_27 | exact cr_28 | exact cr_29 | exact cr_30 | assumption)) rfl ?_
            refine zr_sipush dX7_calls_37 (rfl : 37 + 3 = 40) (by decide) ?_
            refine zr_iald dX7_calls_40 (rfl : 40 + 1 = 41) (by first | assumption | exact mw_167 | exact mw_168 | exact mw_169 | exact mw_170 | exact bk_0 | exact bk_1 | exact bk_2 | exact bk_3 | exact bk_4 | exact bk_5 | exact bk_6 | exact bk_7 | exact bk_8 | exact bk_9 | exact bk_10 | exact bk_11 | exact bk_12 | exact bk_13 | exact bk_14 | exact bk_15 | exact bk_16 | exact zup_self | exact (zup_ne (by first | assumption | omega)).trans (by first | assumption | exact zup_self) | exact (zup_ne (by first | assumption | omega)).trans ((zup_ne (by first | assumption | omega)).trans (by first | assumption | exact zup_self)) | exact (bk_out (by first | omega | (simp only [bset, reduceIte, Nat.reduceEqDiff]; omega))).trans (by first | exact bk_0 | exact bk_1 | exact bk_2 | exact bk_3 | exact bk_4 | exact bk_5 | exact bk_6 | exact bk_7 | exact bk_8 | exact bk_9 | exact bk_10 | exact bk_11 | exact bk_12 | exact bk_13 | exact bk_14 | exact bk_15 | exact bk_16 | exact cr_5 | exact cr_23 | exact cr_24 | exact cr_25 | exact cr_26 | exact cr_27 | exact cr_28 | exact cr_29 | exact cr_30 | assumption)) (by decide) (by first | omega | (simp only [bset, reduceIte, Nat.reduceEqDiff]; omega)) (by first | omega | (simp only [bset, reduceIte, Nat.reduceEqDiff]; omega)) ?_
            rw [hc0]
            refine zr_iadd dX7_calls_41 (rfl : 41 + 1 = 42) (by first | exact jI_add _ _ | rfl) ?_
            refine zr_iconst dX7_calls_42 (rfl : 42 + 1 = 43) ?_
            refine zr_isub dX7_calls_43 (rfl : 43 + 1 = 44) (by first | exact jI_sub _ _ | rfl) ?_
            refine zr_iload_n dX7_calls_44 (rfl : 44 + 1 = 45) rfl ?_
            refine zr_isub dX7_calls_45 (rfl : 45 + 1 = 46) (by first | exact jI_sub _ _ | rfl) ?_
            refine zr_iald dX7_calls_46 (rfl : 46 + 1 = 47) (by first | assumption | exact mw_167 | exact mw_168 | exact mw_169 | exact mw_170 | exact bk_0 | exact bk_1 | exact bk_2 | exact bk_3 | exact bk_4 | exact bk_5 | exact bk_6 | exact bk_7 | exact bk_8 | exact bk_9 | exact bk_10 | exact bk_11 | exact bk_12 | exact bk_13 | exact bk_14 | exact bk_15 | exact bk_16 | exact zup_self | exact (zup_ne (by first | assumption | omega)).trans (by first | assumption | exact zup_self) | exact (zup_ne (by first | assumption | omega)).trans ((zup_ne (by first | assumption | omega)).trans (by first | assumption | exact zup_self)) | exact (bk_out (by first | omega | (simp only [bset, reduceIte, Nat.reduceEqDiff]; omega))).trans (by first | exact bk_0 | exact bk_1 | exact bk_2 | exact bk_3 | exact bk_4 | exact bk_5 | exact bk_6 | exact bk_7 | exact bk_8 | exact bk_9 | exact bk_10 | exact bk_11 | exact bk_12 | exact bk_13 | exact bk_14 | exact bk_15 | exact bk_16 | exact cr_5 | exact cr_23 | exact cr_24 | exact cr_25 | exact cr_26 | exact cr_27 | exact cr_28 | exact cr_29 | exact cr_30 | assumption)) (by decide) (by first | omega | (simp only [bset, reduceIte, Nat.reduceEqDiff]; omega)) (by first | omega | (simp only [bset, reduceIte, Nat.reduceEqDiff]; omega)) ?_
            refine zr_iret dX7_calls_47 rfl (by first | exact jb_nar | rfl) ?_ rfl rfl rfl
            first | rw [if_pos (by omega), h1] | rw [if_neg (by omega), h2])
        · first
          | (exfalso; omega)
          | (
            refine zr_sipush dX7_calls_24 (rfl : 24 + 3 = 27) (by decide) ?_
            refine zr_goto (tgt := 33) dX7_calls_27 (by decide) ?_
            refine zr_aload_n dX7_calls_33 (rfl : 33 + 1 = 34) rfl ?_
            refine zr_getf dX7_calls_34 (rfl : 34 + 3 = 37) f_X7_7 (by first | assumption | exact mw_167 | exact mw_168 | exact mw_169 | exact mw_170 | exact bk_0 | exact bk_1 | exact bk_2 | exact bk_3 | exact bk_4 | exact bk_5 | exact bk_6 | exact bk_7 | exact bk_8 | exact bk_9 | exact bk_10 | exact bk_11 | exact bk_12 | exact bk_13 | exact bk_14 | exact bk_15 | exact bk_16 | exact zup_self | exact (zup_ne (by first | assumption | omega)).trans (by first | assumption | exact zup_self) | exact (zup_ne (by first | assumption | omega)).trans ((zup_ne (by first | assumption | omega)).trans (by first | assumption | exact zup_self)) | exact (bk_out (by first | omega | (simp only [bset, reduceIte, Nat.reduceEqDiff]; omega))).trans (by first | exact bk_0 | exact bk_1 | exact bk_2 | exact bk_3 | exact bk_4 | exact bk_5 | exact bk_6 | exact bk_7 | exact bk_8 | exact bk_9 | exact bk_10 | exact bk_11 | exact bk_12 | exact bk_13 | exact bk_14 | exact bk_15 | exact bk_16 | exact cr_5 | exact cr_23 | exact cr_24 | exact cr_25 | exact cr_26 | exact cr_27 | exact cr_28 | exact cr_29 | exact cr_30 | assumption)) rfl ?_
            refine zr_sipush dX7_calls_37 (rfl : 37 + 3 = 40) (by decide) ?_
            refine zr_iald dX7_calls_40 (rfl : 40 + 1 = 41) (by first | assumption | exact mw_167 | exact mw_168 | exact mw_169 | exact mw_170 | exact bk_0 | exact bk_1 | exact bk_2 | exact bk_3 | exact bk_4 | exact bk_5 | exact bk_6 | exact bk_7 | exact bk_8 | exact bk_9 | exact bk_10 | exact bk_11 | exact bk_12 | exact bk_13 | exact bk_14 | exact bk_15 | exact bk_16 | exact zup_self | exact (zup_ne (by first | assumption | omega)).trans (by first | assumption | exact zup_self) | exact (zup_ne (by first | assumption | omega)).trans ((zup_ne (by first | assumption | omega)).trans (by first | assumption | exact zup_self)) | exact (bk_out (by first | omega | (simp only [bset, reduceIte, Nat.reduceEqDiff]; omega))).trans (by first | exact bk_0 | exact bk_1 | exact bk_2 | exact bk_3 | exact bk_4 | exact bk_5 | exact bk_6 | exact bk_7 | exact bk_8 | exact bk_9 | exact bk_10 | exact bk_11 | exact bk_12 | exact bk_13 | exact bk_14 | exact bk_15 | exact bk_16 | exact cr_5 | exact cr_23 | exact cr_24 | exact cr_25 | exact cr_26 | exact cr_27 | exact cr_28 | exact cr_29 | exact cr_30 | assumption)) (by decide) (by first | omega | (simp only [bset, reduceIte, Nat.reduceEqDiff]; omega)) (by first | omega | (simp only [bset, reduceIte, Nat.reduceEqDiff]; omega)) ?_
            rw [hc0]
            refine zr_iadd dX7_calls_41 (rfl : 41 + 1 = 42) (by first | exact jI_add _ _ | rfl) ?_
            refine zr_iconst dX7_calls_42 (rfl : 42 + 1 = 43) ?_
            refine zr_isub dX7_calls_43 (rfl : 43 + 1 = 44) (by first | exact jI_sub _ _ | rfl) ?_
            refine zr_iload_n dX7_calls_44 (rfl : 44 + 1 = 45) rfl ?_
            refine zr_isub dX7_calls_45 (rfl : 45 + 1 = 46) (by first | exact jI_sub _ _ | rfl) ?_
            refine zr_iald dX7_calls_46 (rfl : 46 + 1 = 47) (by first | assumption | exact mw_167 | exact mw_168 | exact mw_169 | exact mw_170 | exact bk_0 | exact bk_1 | exact bk_2 | exact bk_3 | exact bk_4 | exact bk_5 | exact bk_6 | exact bk_7 | exact bk_8 | exact bk_9 | exact bk_10 | exact bk_11 | exact bk_12 | exact bk_13 | exact bk_14 | exact bk_15 | exact bk_16 | exact zup_self | exact (zup_ne (by first | assumption | omega)).trans (by first | assumption | exact zup_self) | exact (zup_ne (by first | assumption | omega)).trans ((zup_ne (by first | assumption | omega)).trans (by first | assumption | exact zup_self)) | exact (bk_out (by first | omega | (simp only [bset, reduceIte, Nat.reduceEqDiff]; omega))).trans (by first | exact bk_0 | exact bk_1 | exact bk_2 | exact bk_3 | exact bk_4 | exact bk_5 | exact bk_6 | exact bk_7 | exact bk_8 | exact bk_9 | exact bk_10 | exact bk_11 | exact bk_12 | exact bk_13 | exact bk_14 | exact bk_15 | exact bk_16 | exact cr_5 | exact cr_23 | exact cr_24 | exact cr_25 | exact cr_26 | exact cr_27 | exact cr_28 | exact cr_29 | exact cr_30 | assumption)) (by decide) (by first | omega | (simp only [bset, reduceIte, Nat.reduceEqDiff]; omega)) (by first | omega | (simp only [bset, reduceIte, Nat.reduceEqDiff]; omega)) ?_
            refine zr_iret dX7_calls_47 rfl (by first | exact jb_nar | rfl) ?_ rfl rfl rfl
            first | rw [if_pos (by omega), h1] | rw [if_neg (by omega), h2]))
    · first
      | (exfalso; omega)
      | (
        exfalso
        omega)
theorem m_games (g k : Int) (hg : 0 ≤ g ∧ g < 4) (hk : 0 ≤ k ∧ k < 4) (h : mr S 0 B) (ok : jok B) : zFn Γ md_X7_games (d + 2) [.ref 167, .int (jI g), .int (jI k)] (mw S st ik th tx ty w) (some (.int (jI (jga B g k)))) (mw S st ik th tx ty w) := by
  have hga := h.ga0 g hg.1 hg.2
  have hp := jpz_r ok.po2 g
  have hb := jbc_r (B 9 g)
  refine zFn.of_run (lv := [some (.ref 167), some (.int (jI g)), some (.int (jI k))]) (by decide) rfl (Nat.le_of_ble_eq_true rfl) rfl (fun n9 g9 => ?_)
  refine zr_iload_n dX7_games_0 (rfl : 0 + 1 = 1) rfl ?_
  refine zr_if_ne (tgt := 12) dX7_games_1 (by decide) (rfl : 1 + 3 = 4) (by first | exact jb_iff | exact jI_z (by first | omega | (simp only [bset, reduceIte, Nat.reduceEqDiff]; omega)) (by first | omega | (simp only [bset, reduceIte, Nat.reduceEqDiff]; omega))) (fun h1 => ?_) (fun h1 => ?_)
  · first
    | (exfalso; omega)
    | (
      refine zr_iload_n dX7_games_12 (rfl : 12 + 1 = 13) rfl ?_
      refine zr_iconst dX7_games_13 (rfl : 13 + 1 = 14) ?_
      refine zr_icmp_ne (tgt := 30) dX7_games_14 (by decide) (rfl : 14 + 3 = 17) (jI_eq (by first | omega | (simp only [bset, reduceIte, Nat.reduceEqDiff]; omega)) (by first | omega | (simp only [bset, reduceIte, Nat.reduceEqDiff]; omega)) (by first | omega | (simp only [bset, reduceIte, Nat.reduceEqDiff]; omega)) (by first | omega | (simp only [bset, reduceIte, Nat.reduceEqDiff]; omega))) (fun h14 => ?_) (fun h14 => ?_)
      · first
        | (exfalso; omega)
        | (
          refine zr_iload_n dX7_games_30 (rfl : 30 + 1 = 31) rfl ?_
          refine zr_iconst dX7_games_31 (rfl : 31 + 1 = 32) ?_
          refine zr_icmp_ne (tgt := 52) dX7_games_32 (by decide) (rfl : 32 + 3 = 35) (jI_eq (by first | omega | (simp only [bset, reduceIte, Nat.reduceEqDiff]; omega)) (by first | omega | (simp only [bset, reduceIte, Nat.reduceEqDiff]; omega)) (by first | omega | (simp only [bset, reduceIte, Nat.reduceEqDiff]; omega)) (by first | omega | (simp only [bset, reduceIte, Nat.reduceEqDiff]; omega))) (fun h32 => ?_) (fun h32 => ?_)
          · first
            | (exfalso; omega)
            | (
              refine zr_aload_n dX7_games_52 (rfl : 52 + 1 = 53) rfl ?_
              refine zr_iload_n dX7_games_53 (rfl : 53 + 1 = 54) rfl ?_
              refine zr_fnV dX7_games_54 (rfl : 54 + 3 = 57) l_X7_118 (m_each g hg h ok.W ok.po2) (by first | assumption | exact mw_167 | exact mw_168 | exact mw_169 | exact mw_170 | exact bk_0 | exact bk_1 | exact bk_2 | exact bk_3 | exact bk_4 | exact bk_5 | exact bk_6 | exact bk_7 | exact bk_8 | exact bk_9 | exact bk_10 | exact bk_11 | exact bk_12 | exact bk_13 | exact bk_14 | exact bk_15 | exact bk_16 | exact zup_self | exact (zup_ne (by first | assumption | omega)).trans (by first | assumption | exact zup_self) | exact (zup_ne (by first | assumption | omega)).trans ((zup_ne (by first | assumption | omega)).trans (by first | assumption | exact zup_self)) | exact (bk_out (by first | omega | (simp only [bset, reduceIte, Nat.reduceEqDiff]; omega))).trans (by first | exact bk_0 | exact bk_1 | exact bk_2 | exact bk_3 | exact bk_4 | exact bk_5 | exact bk_6 | exact bk_7 | exact bk_8 | exact bk_9 | exact bk_10 | exact bk_11 | exact bk_12 | exact bk_13 | exact bk_14 | exact bk_15 | exact bk_16 | exact cr_5 | exact cr_23 | exact cr_24 | exact cr_25 | exact cr_26 | exact cr_27 | exact cr_28 | exact cr_29 | exact cr_30 | assumption)) rfl rfl rfl (Nat.le_of_ble_eq_true rfl) ?_
              refine zr_iret dX7_games_57 rfl (by first | exact jb_nar | rfl) ?_ rfl rfl rfl
              (unfold jga; repeat (first | rw [if_pos (by omega)] | rw [if_neg (by omega)])))
          · first
            | (exfalso; omega)
            | (
              refine zr_aload_n dX7_games_35 (rfl : 35 + 1 = 36) rfl ?_
              refine zr_iload_n dX7_games_36 (rfl : 36 + 1 = 37) rfl ?_
              refine zr_fnV dX7_games_37 (rfl : 37 + 3 = 40) l_X7_118 (m_each g hg h ok.W ok.po2) (by first | assumption | exact mw_167 | exact mw_168 | exact mw_169 | exact mw_170 | exact bk_0 | exact bk_1 | exact bk_2 | exact bk_3 | exact bk_4 | exact bk_5 | exact bk_6 | exact bk_7 | exact bk_8 | exact bk_9 | exact bk_10 | exact bk_11 | exact bk_12 | exact bk_13 | exact bk_14 | exact bk_15 | exact bk_16 | exact zup_self | exact (zup_ne (by first | assumption | omega)).trans (by first | assumption | exact zup_self) | exact (zup_ne (by first | assumption | omega)).trans ((zup_ne (by first | assumption | omega)).trans (by first | assumption | exact zup_self)) | exact (bk_out (by first | omega | (simp only [bset, reduceIte, Nat.reduceEqDiff]; omega))).trans (by first | exact bk_0 | exact bk_1 | exact bk_2 | exact bk_3 | exact bk_4 | exact bk_5 | exact bk_6 | exact bk_7 | exact bk_8 | exact bk_9 | exact bk_10 | exact bk_11 | exact bk_12 | exact bk_13 | exact bk_14 | exact bk_15 | exact bk_16 | exact cr_5 | exact cr_23 | exact cr_24 | exact cr_25 | exact cr_26 | exact cr_27 | exact cr_28 | exact cr_29 | exact cr_30 | assumption)) rfl rfl rfl (Nat.le_of_ble_eq_true rfl) ?_
              refine zr_aload_n dX7_games_40 (rfl : 40 + 1 = 41) rfl ?_
              refine zr_iload_n dX7_games_41 (rfl : 41 + 1 = 42) rfl ?_
              refine zr_fnV dX7_games_42 (rfl : 42 + 3 = 45) l_X7_112 (m_winners g hg h ok.W) (by first | assumption | exact mw_167 | exact mw_168 | exact mw_169 | exact mw_170 | exact bk_0 | exact bk_1 | exact bk_2 | exact bk_3 | exact bk_4 | exact bk_5 | exact bk_6 | exact bk_7 | exact bk_8 | exact bk_9 | exact bk_10 | exact bk_11 | exact bk_12 | exact bk_13 | exact bk_14 | exact bk_15 | exact bk_16 | exact zup_self | exact (zup_ne (by first | assumption | omega)).trans (by first | assumption | exact zup_self) | exact (zup_ne (by first | assumption | omega)).trans ((zup_ne (by first | assumption | omega)).trans (by first | assumption | exact zup_self)) | exact (bk_out (by first | omega | (simp only [bset, reduceIte, Nat.reduceEqDiff]; omega))).trans (by first | exact bk_0 | exact bk_1 | exact bk_2 | exact bk_3 | exact bk_4 | exact bk_5 | exact bk_6 | exact bk_7 | exact bk_8 | exact bk_9 | exact bk_10 | exact bk_11 | exact bk_12 | exact bk_13 | exact bk_14 | exact bk_15 | exact bk_16 | exact cr_5 | exact cr_23 | exact cr_24 | exact cr_25 | exact cr_26 | exact cr_27 | exact cr_28 | exact cr_29 | exact cr_30 | assumption)) rfl rfl rfl (Nat.le_of_ble_eq_true rfl) ?_
              refine zr_fnS dX7_games_45 (rfl : 45 + 3 = 48) l_X7_115 (m_bits _ (ok.W g)) rfl rfl (Nat.le_of_ble_eq_true rfl) ?_
              refine zr_imul dX7_games_48 (rfl : 48 + 1 = 49) (by first | exact jI_mul _ _ | rfl) ?_
              refine zr_goto (tgt := 57) dX7_games_49 (by decide) ?_
              refine zr_iret dX7_games_57 rfl (by first | exact jb_nar | rfl) ?_ rfl rfl rfl
              (unfold jga; repeat (first | rw [if_pos (by omega)] | rw [if_neg (by omega)]))))
      · first
        | (exfalso; omega)
        | (
          refine zr_aload_n dX7_games_17 (rfl : 17 + 1 = 18) rfl ?_
          refine zr_getf dX7_games_18 (rfl : 18 + 3 = 21) f_X7_7 (by first | assumption | exact mw_167 | exact mw_168 | exact mw_169 | exact mw_170 | exact bk_0 | exact bk_1 | exact bk_2 | exact bk_3 | exact bk_4 | exact bk_5 | exact bk_6 | exact bk_7 | exact bk_8 | exact bk_9 | exact bk_10 | exact bk_11 | exact bk_12 | exact bk_13 | exact bk_14 | exact bk_15 | exact bk_16 | exact zup_self | exact (zup_ne (by first | assumption | omega)).trans (by first | assumption | exact zup_self) | exact (zup_ne (by first | assumption | omega)).trans ((zup_ne (by first | assumption | omega)).trans (by first | assumption | exact zup_self)) | exact (bk_out (by first | omega | (simp only [bset, reduceIte, Nat.reduceEqDiff]; omega))).trans (by first | exact bk_0 | exact bk_1 | exact bk_2 | exact bk_3 | exact bk_4 | exact bk_5 | exact bk_6 | exact bk_7 | exact bk_8 | exact bk_9 | exact bk_10 | exact bk_11 | exact bk_12 | exact bk_13 | exact bk_14 | exact bk_15 | exact bk_16 | exact cr_5 | exact cr_23 | exact cr_24 | exact cr_25 | exact cr_26 | exact cr_27 | exact cr_28 | exact cr_29 | exact cr_30 | assumption)) rfl ?_
          refine zr_sipush dX7_games_21 (rfl : 21 + 3 = 24) (by decide) ?_
          refine zr_iload_n dX7_games_24 (rfl : 24 + 1 = 25) rfl ?_
          refine zr_iadd dX7_games_25 (rfl : 25 + 1 = 26) (by first | exact jI_add _ _ | rfl) ?_
          refine zr_iald dX7_games_26 (rfl : 26 + 1 = 27) (by first | assumption | exact mw_167 | exact mw_168 | exact mw_169 | exact mw_170 | exact bk_0 | exact bk_1 | exact bk_2 | exact bk_3 | exact bk_4 | exact bk_5 | exact bk_6 | exact bk_7 | exact bk_8 | exact bk_9 | exact bk_10 | exact bk_11 | exact bk_12 | exact bk_13 | exact bk_14 | exact bk_15 | exact bk_16 | exact zup_self | exact (zup_ne (by first | assumption | omega)).trans (by first | assumption | exact zup_self) | exact (zup_ne (by first | assumption | omega)).trans ((zup_ne (by first | assumption | omega)).trans (by first | assumption | exact zup_self)) | exact (bk_out (by first | omega | (simp only [bset, reduceIte, Nat.reduceEqDiff]; omega))).trans (by first | exact bk_0 | exact bk_1 | exact bk_2 | exact bk_3 | exact bk_4 | exact bk_5 | exact bk_6 | exact bk_7 | exact bk_8 | exact bk_9 | exact bk_10 | exact bk_11 | exact bk_12 | exact bk_13 | exact bk_14 | exact bk_15 | exact bk_16 | exact cr_5 | exact cr_23 | exact cr_24 | exact cr_25 | exact cr_26 | exact cr_27 | exact cr_28 | exact cr_29 | exact cr_30 | assumption)) (by decide) (by first | omega | (simp only [bset, reduceIte, Nat.reduceEqDiff]; omega)) (by first | omega | (simp only [bset, reduceIte, Nat.reduceEqDiff]; omega)) ?_
          rw [hga]
          refine zr_goto (tgt := 57) dX7_games_27 (by decide) ?_
          refine zr_iret dX7_games_57 rfl (by first | exact jb_nar | rfl) ?_ rfl rfl rfl
          (unfold jga; repeat (first | rw [if_pos (by omega)] | rw [if_neg (by omega)]))))
  · first
    | (exfalso; omega)
    | (
      refine zr_aload_n dX7_games_4 (rfl : 4 + 1 = 5) rfl ?_
      refine zr_iload_n dX7_games_5 (rfl : 5 + 1 = 6) rfl ?_
      refine zr_fnV dX7_games_6 (rfl : 6 + 3 = 9) l_X7_112 (m_winners g hg h ok.W) (by first | assumption | exact mw_167 | exact mw_168 | exact mw_169 | exact mw_170 | exact bk_0 | exact bk_1 | exact bk_2 | exact bk_3 | exact bk_4 | exact bk_5 | exact bk_6 | exact bk_7 | exact bk_8 | exact bk_9 | exact bk_10 | exact bk_11 | exact bk_12 | exact bk_13 | exact bk_14 | exact bk_15 | exact bk_16 | exact zup_self | exact (zup_ne (by first | assumption | omega)).trans (by first | assumption | exact zup_self) | exact (zup_ne (by first | assumption | omega)).trans ((zup_ne (by first | assumption | omega)).trans (by first | assumption | exact zup_self)) | exact (bk_out (by first | omega | (simp only [bset, reduceIte, Nat.reduceEqDiff]; omega))).trans (by first | exact bk_0 | exact bk_1 | exact bk_2 | exact bk_3 | exact bk_4 | exact bk_5 | exact bk_6 | exact bk_7 | exact bk_8 | exact bk_9 | exact bk_10 | exact bk_11 | exact bk_12 | exact bk_13 | exact bk_14 | exact bk_15 | exact bk_16 | exact cr_5 | exact cr_23 | exact cr_24 | exact cr_25 | exact cr_26 | exact cr_27 | exact cr_28 | exact cr_29 | exact cr_30 | assumption)) rfl rfl rfl (Nat.le_of_ble_eq_true rfl) ?_
      refine zr_goto (tgt := 57) dX7_games_9 (by decide) ?_
      refine zr_iret dX7_games_57 rfl (by first | exact jb_nar | rfl) ?_ rfl rfl rfl
      (unfold jga; repeat (first | rw [if_pos (by omega)] | rw [if_neg (by omega)])))
theorem jcd2_eq (m : Int) : jbp6 m 6 = jbc m := by
  show 0 + jbit m 0 + jbit m 1 + jbit m 2 + jbit m 3 + jbit m 4 + jbit m 5 = _
  unfold jbc
  omega
theorem m_cardsThat1 (h : mr S 0 B) (ok : jok B) (lk : jlk B) : zFn Γ md_X7_cardsThat (d + 3) [.ref 167, .int (jI 1)] (mw S st ik th tx ty w) (some (.int (jI (jcnt 6 (fun c => decide (jcs (B 0) c = 15)))))) (mw S st ik th tx ty w) := by
  refine zFn.of_run (lv := [some (.ref 167), some (.int (jI 1)), none, none]) (by decide) rfl (Nat.le_of_ble_eq_true rfl) rfl (fun n9 g9 => ?_)
  refine zr_iconst dX7_cardsThat_0 (rfl : 0 + 1 = 1) ?_
  refine zr_istore_n (lv' := [_, _, _, _]) dX7_cardsThat_1 (rfl : 1 + 1 = 2) (Nat.le_of_ble_eq_true rfl) rfl ?_
  refine zr_iconst dX7_cardsThat_2 (rfl : 2 + 1 = 3) ?_
  refine zr_istore_n (lv' := [_, _, _, _]) dX7_cardsThat_3 (rfl : 3 + 1 = 4) (Nat.le_of_ble_eq_true rfl) rfl ?_
  generalize hq : (fun c => decide (jcs (B 0) c = 15)) = q
  refine zfor1 0 6 (fun c x => x = jcnt c.toNat q) (fun c x => [some (.ref 167), some (.int (jI 1)), some (.int (jI x)), some (.int (jI c))]) (fun _ _ => (mw S st ik th tx ty w)) 0 rfl ?_ ?_
  · intro c x c0 c1 hx hk
    have hn := jcnt_next (q := q) c0
    have hb : (jcs (B 0) c = 15 ∧ jb (q c = true) = 1) ∨ (jcs (B 0) c ≠ 15 ∧ jb (q c = true) = 0) := by
      have e2 : (q c = true) ↔ jcs (B 0) c = 15 := by
        rw [← hq, decide_eq_true_eq]
      by_cases hh : jcs (B 0) c = 15
      · exact Or.inl ⟨hh, jb_pos (e2.mpr hh)⟩
      · exact Or.inr ⟨hh, jb_neg (fun z => hh (e2.mp z))⟩
    rw [← hx] at hn
    generalize jb (q c = true) = jq at hn hb
    generalize jcnt (c + 1).toNat q = c2 at hn hk
    refine zr_iload_n dX7_cardsThat_4 (rfl : 4 + 1 = 5) rfl ?_
    refine zr_bipush dX7_cardsThat_5 (rfl : 5 + 2 = 7) (by decide) ?_
    refine zr_icmp_ge (tgt := 49) dX7_cardsThat_7 (by decide) (rfl : 7 + 3 = 10) (jI_le (by first | omega | (simp only [bset, reduceIte, Nat.reduceEqDiff]; omega)) (by first | omega | (simp only [bset, reduceIte, Nat.reduceEqDiff]; omega)) (by first | omega | (simp only [bset, reduceIte, Nat.reduceEqDiff]; omega)) (by first | omega | (simp only [bset, reduceIte, Nat.reduceEqDiff]; omega))) (fun h7 => ?_) (fun h7 => ?_)
    · first
      | (exfalso; omega)
      | (
        refine zr_iload_n dX7_cardsThat_49 (rfl : 49 + 1 = 50) rfl ?_
        refine zr_iret dX7_cardsThat_50 rfl (by first | exact jb_nar | rfl) ?_ rfl rfl rfl
        first | rfl | rw [jb_pos (by first | assumption | omega)] | rw [jb_neg (by first | assumption | omega)] | rw [if_pos (by first | assumption | omega)] | rw [if_neg (by first | assumption | omega)])
    · first
      | (exfalso; omega)
      | (
        refine zr_iload_n dX7_cardsThat_10 (rfl : 10 + 1 = 11) rfl ?_
        refine zr_iload_n dX7_cardsThat_11 (rfl : 11 + 1 = 12) rfl ?_
        refine zr_if_eq (tgt := 31) dX7_cardsThat_12 (by decide) (rfl : 12 + 3 = 15) (by first | exact jb_iff | exact jI_z (by first | omega | (simp only [bset, reduceIte, Nat.reduceEqDiff]; omega)) (by first | omega | (simp only [bset, reduceIte, Nat.reduceEqDiff]; omega))) (fun h12 => ?_) (fun h12 => ?_)
        · first
          | (exfalso; omega)
          | (
            exfalso
            omega)
        · first
          | (exfalso; omega)
          | (
            refine zr_aload_n dX7_cardsThat_15 (rfl : 15 + 1 = 16) rfl ?_
            refine zr_iload_n dX7_cardsThat_16 (rfl : 16 + 1 = 17) rfl ?_
            refine zr_fnV dX7_cardsThat_17 (rfl : 17 + 3 = 20) l_X7_81 (m_isWhole c ⟨c0, by omega⟩ h ok lk) (by first | assumption | exact mw_167 | exact mw_168 | exact mw_169 | exact mw_170 | exact bk_0 | exact bk_1 | exact bk_2 | exact bk_3 | exact bk_4 | exact bk_5 | exact bk_6 | exact bk_7 | exact bk_8 | exact bk_9 | exact bk_10 | exact bk_11 | exact bk_12 | exact bk_13 | exact bk_14 | exact bk_15 | exact bk_16 | exact zup_self | exact (zup_ne (by first | assumption | omega)).trans (by first | assumption | exact zup_self) | exact (zup_ne (by first | assumption | omega)).trans ((zup_ne (by first | assumption | omega)).trans (by first | assumption | exact zup_self)) | exact (bk_out (by first | omega | (simp only [bset, reduceIte, Nat.reduceEqDiff]; omega))).trans (by first | exact bk_0 | exact bk_1 | exact bk_2 | exact bk_3 | exact bk_4 | exact bk_5 | exact bk_6 | exact bk_7 | exact bk_8 | exact bk_9 | exact bk_10 | exact bk_11 | exact bk_12 | exact bk_13 | exact bk_14 | exact bk_15 | exact bk_16 | exact cr_5 | exact cr_23 | exact cr_24 | exact cr_25 | exact cr_26 | exact cr_27 | exact cr_28 | exact cr_29 | exact cr_30 | assumption)) rfl rfl rfl (Nat.le_of_ble_eq_true rfl) ?_
            refine zr_if_eq (tgt := 27) dX7_cardsThat_20 (by decide) (rfl : 20 + 3 = 23) (by first | exact jb_iff | exact jI_z (by first | omega | (simp only [bset, reduceIte, Nat.reduceEqDiff]; omega)) (by first | omega | (simp only [bset, reduceIte, Nat.reduceEqDiff]; omega))) (fun h20 => ?_) (fun h20 => ?_)
            · first
              | (exfalso; omega)
              | (
                refine zr_iconst dX7_cardsThat_27 (rfl : 27 + 1 = 28) ?_
                refine zr_goto (tgt := 41) dX7_cardsThat_28 (by decide) ?_
                refine zr_iadd dX7_cardsThat_41 (rfl : 41 + 1 = 42) (by first | exact jI_add _ _ | rfl) ?_
                refine zr_istore_n (lv' := [_, _, _, _]) dX7_cardsThat_42 (rfl : 42 + 1 = 43) (Nat.le_of_ble_eq_true rfl) rfl ?_
                refine zr_iinc (lv' := [_, _, _, _]) dX7_cardsThat_43 (rfl : 43 + 3 = 46) (Nat.le_of_ble_eq_true rfl) rfl (by first | exact jI_add _ _ | rfl) rfl ?_
                refine zr_goto (tgt := 4) dX7_cardsThat_46 (by decide) ?_
                exact hk _ (by omega))
            · first
              | (exfalso; omega)
              | (
                refine zr_iconst dX7_cardsThat_23 (rfl : 23 + 1 = 24) ?_
                refine zr_goto (tgt := 41) dX7_cardsThat_24 (by decide) ?_
                refine zr_iadd dX7_cardsThat_41 (rfl : 41 + 1 = 42) (by first | exact jI_add _ _ | rfl) ?_
                refine zr_istore_n (lv' := [_, _, _, _]) dX7_cardsThat_42 (rfl : 42 + 1 = 43) (Nat.le_of_ble_eq_true rfl) rfl ?_
                refine zr_iinc (lv' := [_, _, _, _]) dX7_cardsThat_43 (rfl : 43 + 3 = 46) (Nat.le_of_ble_eq_true rfl) rfl (by first | exact jI_add _ _ | rfl) rfl ?_
                refine zr_goto (tgt := 4) dX7_cardsThat_46 (by decide) ?_
                exact hk _ (by omega))))
  · intro x hx
    rw [show x = jcnt 6 q from hx]
    refine zr_iload_n dX7_cardsThat_4 (rfl : 4 + 1 = 5) rfl ?_
    refine zr_bipush dX7_cardsThat_5 (rfl : 5 + 2 = 7) (by decide) ?_
    refine zr_icmp_ge (tgt := 49) dX7_cardsThat_7 (by decide) (rfl : 7 + 3 = 10) (jI_le (by first | omega | (simp only [bset, reduceIte, Nat.reduceEqDiff]; omega)) (by first | omega | (simp only [bset, reduceIte, Nat.reduceEqDiff]; omega)) (by first | omega | (simp only [bset, reduceIte, Nat.reduceEqDiff]; omega)) (by first | omega | (simp only [bset, reduceIte, Nat.reduceEqDiff]; omega))) (fun h7 => ?_) (fun h7 => ?_)
    · first
      | (exfalso; omega)
      | (
        refine zr_iload_n dX7_cardsThat_49 (rfl : 49 + 1 = 50) rfl ?_
        refine zr_iret dX7_cardsThat_50 rfl (by first | exact jb_nar | rfl) ?_ rfl rfl rfl
        first | rfl | rw [jb_pos (by first | assumption | omega)] | rw [jb_neg (by first | assumption | omega)] | rw [if_pos (by first | assumption | omega)] | rw [if_neg (by first | assumption | omega)])
    · first
      | (exfalso; omega)
      | (
        exfalso
        omega)
theorem m_cardsThat0 (h : mr S 0 B) (ok : jok B) : zFn Γ md_X7_cardsThat (d + 3) [.ref 167, .int (jI 0)] (mw S st ik th tx ty w) (some (.int (jI (jbc (B 11 0))))) (mw S st ik th tx ty w) := by
  refine zFn.of_run (lv := [some (.ref 167), some (.int (jI 0)), none, none]) (by decide) rfl (Nat.le_of_ble_eq_true rfl) rfl (fun n9 g9 => ?_)
  refine zr_iconst dX7_cardsThat_0 (rfl : 0 + 1 = 1) ?_
  refine zr_istore_n (lv' := [_, _, _, _]) dX7_cardsThat_1 (rfl : 1 + 1 = 2) (Nat.le_of_ble_eq_true rfl) rfl ?_
  refine zr_iconst dX7_cardsThat_2 (rfl : 2 + 1 = 3) ?_
  refine zr_istore_n (lv' := [_, _, _, _]) dX7_cardsThat_3 (rfl : 3 + 1 = 4) (Nat.le_of_ble_eq_true rfl) rfl ?_
  refine zfor1 0 6 (fun c x => x = jbp6 (B 11 0) c.toNat) (fun c x => [some (.ref 167), some (.int (jI 0)), some (.int (jI x)), some (.int (jI c))]) (fun _ _ => (mw S st ik th tx ty w)) 0 rfl ?_ ?_
  · intro c x c0 c1 hx hk
    have hbo := h.bo0 c c0 (by omega)
    have hn : jbp6 (B 11 0) (c + 1).toNat = x + jbit (B 11 0) c := by
      rw [show (c + 1).toNat = c.toNat + 1 by omega, hx]
      show jbp6 (B 11 0) c.toNat + jbit (B 11 0) (c.toNat : Int) = _
      rw [show (c.toNat : Int) = c by omega]
    refine zr_iload_n dX7_cardsThat_4 (rfl : 4 + 1 = 5) rfl ?_
    refine zr_bipush dX7_cardsThat_5 (rfl : 5 + 2 = 7) (by decide) ?_
    refine zr_icmp_ge (tgt := 49) dX7_cardsThat_7 (by decide) (rfl : 7 + 3 = 10) (jI_le (by first | omega | (simp only [bset, reduceIte, Nat.reduceEqDiff]; omega)) (by first | omega | (simp only [bset, reduceIte, Nat.reduceEqDiff]; omega)) (by first | omega | (simp only [bset, reduceIte, Nat.reduceEqDiff]; omega)) (by first | omega | (simp only [bset, reduceIte, Nat.reduceEqDiff]; omega))) (fun h7 => ?_) (fun h7 => ?_)
    · first
      | (exfalso; omega)
      | (
        refine zr_iload_n dX7_cardsThat_49 (rfl : 49 + 1 = 50) rfl ?_
        refine zr_iret dX7_cardsThat_50 rfl (by first | exact jb_nar | rfl) ?_ rfl rfl rfl
        first | rfl | rw [jb_pos (by first | assumption | omega)] | rw [jb_neg (by first | assumption | omega)] | rw [if_pos (by first | assumption | omega)] | rw [if_neg (by first | assumption | omega)])
    · first
      | (exfalso; omega)
      | (
        refine zr_iload_n dX7_cardsThat_10 (rfl : 10 + 1 = 11) rfl ?_
        refine zr_iload_n dX7_cardsThat_11 (rfl : 11 + 1 = 12) rfl ?_
        refine zr_if_eq (tgt := 31) dX7_cardsThat_12 (by decide) (rfl : 12 + 3 = 15) (by first | exact jb_iff | exact jI_z (by first | omega | (simp only [bset, reduceIte, Nat.reduceEqDiff]; omega)) (by first | omega | (simp only [bset, reduceIte, Nat.reduceEqDiff]; omega))) (fun h12 => ?_) (fun h12 => ?_)
        · first
          | (exfalso; omega)
          | (
            refine zr_aload_n dX7_cardsThat_31 (rfl : 31 + 1 = 32) rfl ?_
            refine zr_getf dX7_cardsThat_32 (rfl : 32 + 3 = 35) f_X7_7 (by first | assumption | exact mw_167 | exact mw_168 | exact mw_169 | exact mw_170 | exact bk_0 | exact bk_1 | exact bk_2 | exact bk_3 | exact bk_4 | exact bk_5 | exact bk_6 | exact bk_7 | exact bk_8 | exact bk_9 | exact bk_10 | exact bk_11 | exact bk_12 | exact bk_13 | exact bk_14 | exact bk_15 | exact bk_16 | exact zup_self | exact (zup_ne (by first | assumption | omega)).trans (by first | assumption | exact zup_self) | exact (zup_ne (by first | assumption | omega)).trans ((zup_ne (by first | assumption | omega)).trans (by first | assumption | exact zup_self)) | exact (bk_out (by first | omega | (simp only [bset, reduceIte, Nat.reduceEqDiff]; omega))).trans (by first | exact bk_0 | exact bk_1 | exact bk_2 | exact bk_3 | exact bk_4 | exact bk_5 | exact bk_6 | exact bk_7 | exact bk_8 | exact bk_9 | exact bk_10 | exact bk_11 | exact bk_12 | exact bk_13 | exact bk_14 | exact bk_15 | exact bk_16 | exact cr_5 | exact cr_23 | exact cr_24 | exact cr_25 | exact cr_26 | exact cr_27 | exact cr_28 | exact cr_29 | exact cr_30 | assumption)) rfl ?_
            refine zr_sipush dX7_cardsThat_35 (rfl : 35 + 3 = 38) (by decide) ?_
            refine zr_iload_n dX7_cardsThat_38 (rfl : 38 + 1 = 39) rfl ?_
            refine zr_iadd dX7_cardsThat_39 (rfl : 39 + 1 = 40) (by first | exact jI_add _ _ | rfl) ?_
            refine zr_iald dX7_cardsThat_40 (rfl : 40 + 1 = 41) (by first | assumption | exact mw_167 | exact mw_168 | exact mw_169 | exact mw_170 | exact bk_0 | exact bk_1 | exact bk_2 | exact bk_3 | exact bk_4 | exact bk_5 | exact bk_6 | exact bk_7 | exact bk_8 | exact bk_9 | exact bk_10 | exact bk_11 | exact bk_12 | exact bk_13 | exact bk_14 | exact bk_15 | exact bk_16 | exact zup_self | exact (zup_ne (by first | assumption | omega)).trans (by first | assumption | exact zup_self) | exact (zup_ne (by first | assumption | omega)).trans ((zup_ne (by first | assumption | omega)).trans (by first | assumption | exact zup_self)) | exact (bk_out (by first | omega | (simp only [bset, reduceIte, Nat.reduceEqDiff]; omega))).trans (by first | exact bk_0 | exact bk_1 | exact bk_2 | exact bk_3 | exact bk_4 | exact bk_5 | exact bk_6 | exact bk_7 | exact bk_8 | exact bk_9 | exact bk_10 | exact bk_11 | exact bk_12 | exact bk_13 | exact bk_14 | exact bk_15 | exact bk_16 | exact cr_5 | exact cr_23 | exact cr_24 | exact cr_25 | exact cr_26 | exact cr_27 | exact cr_28 | exact cr_29 | exact cr_30 | assumption)) (by decide) (by first | omega | (simp only [bset, reduceIte, Nat.reduceEqDiff]; omega)) (by first | omega | (simp only [bset, reduceIte, Nat.reduceEqDiff]; omega)) ?_
            rw [hbo]
            refine zr_iadd dX7_cardsThat_41 (rfl : 41 + 1 = 42) (by first | exact jI_add _ _ | rfl) ?_
            refine zr_istore_n (lv' := [_, _, _, _]) dX7_cardsThat_42 (rfl : 42 + 1 = 43) (Nat.le_of_ble_eq_true rfl) rfl ?_
            refine zr_iinc (lv' := [_, _, _, _]) dX7_cardsThat_43 (rfl : 43 + 3 = 46) (Nat.le_of_ble_eq_true rfl) rfl (by first | exact jI_add _ _ | rfl) rfl ?_
            refine zr_goto (tgt := 4) dX7_cardsThat_46 (by decide) ?_
            exact hk _ hn.symm)
        · first
          | (exfalso; omega)
          | (
            exfalso
            omega))
  · intro x hx
    rw [show x = jbc (B 11 0) by rw [hx]; exact jcd2_eq _]
    refine zr_iload_n dX7_cardsThat_4 (rfl : 4 + 1 = 5) rfl ?_
    refine zr_bipush dX7_cardsThat_5 (rfl : 5 + 2 = 7) (by decide) ?_
    refine zr_icmp_ge (tgt := 49) dX7_cardsThat_7 (by decide) (rfl : 7 + 3 = 10) (jI_le (by first | omega | (simp only [bset, reduceIte, Nat.reduceEqDiff]; omega)) (by first | omega | (simp only [bset, reduceIte, Nat.reduceEqDiff]; omega)) (by first | omega | (simp only [bset, reduceIte, Nat.reduceEqDiff]; omega)) (by first | omega | (simp only [bset, reduceIte, Nat.reduceEqDiff]; omega))) (fun h7 => ?_) (fun h7 => ?_)
    · first
      | (exfalso; omega)
      | (
        refine zr_iload_n dX7_cardsThat_49 (rfl : 49 + 1 = 50) rfl ?_
        refine zr_iret dX7_cardsThat_50 rfl (by first | exact jb_nar | rfl) ?_ rfl rfl rfl
        first | rfl | rw [jb_pos (by first | assumption | omega)] | rw [jb_neg (by first | assumption | omega)] | rw [if_pos (by first | assumption | omega)] | rw [if_neg (by first | assumption | omega)])
    · first
      | (exfalso; omega)
      | (
        exfalso
        omega)
theorem m_counted (k : Int) (hk : 0 ≤ k ∧ k < 15) (h : mr S 0 B) (ok : jok B) (lk : jlk B) : zFn Γ md_X7_counted (d + 4) [.ref 167, .int (jI k)] (mw S st ik th tx ty w) (some (.int (jI (jct B st k)))) (mw S st ik th tx ty w) := by
  have hc0 := h.ca0
  have hco := ok.ca
  have hds := ok.ds
  have hsl := h.sl0
  have hlo := h.lo0
  have h3 : k = 3 → S (486 + k - 3) = jtold B k := fun e => by rw [e]; exact h.po0
  have h4 : k = 4 → S (486 + k - 3) = jtold B k := fun e => by rw [e]; exact h.ci0
  have h5 : k = 5 → S (486 + k - 3) = jtold B k := fun e => by rw [e]; exact h.pa0
  have h6 : k = 6 → S (486 + k - 3) = jtold B k := fun e => by rw [e]; exact h.ho0
  have h10 : k = 10 → S (490 + k - 10) = jtold B k := fun e => by rw [e]; exact h.wi0
  have h11 : k = 11 → S (490 + k - 10) = jtold B k := fun e => by rw [e]; exact h.tu0
  have h12 : k = 12 → S (490 + k - 10) = jtold B k := fun e => by rw [e]; exact h.ev0
  refine zFn.of_run (lv := [some (.ref 167), some (.int (jI k))]) (by decide) rfl (Nat.le_of_ble_eq_true rfl) rfl (fun n9 g9 => ?_)
  refine zr_iload_n dX7_counted_0 (rfl : 0 + 1 = 1) rfl ?_
  by_cases hs0 : k = 0
  · first
    | (exfalso; omega)
    | (
      refine zr_tableIn (off := 71) (tgt := 72) dX7_counted_1 ⟨by omega, by omega⟩ (by first | omega | (simp only [bset, reduceIte, Nat.reduceEqDiff]; omega)) (by first | omega | (simp only [bset, reduceIte, Nat.reduceEqDiff]; omega)) (by rw [hs0]; rfl) (by decide) ?_
      refine zr_aload_n dX7_counted_72 (rfl : 72 + 1 = 73) rfl ?_
      refine zr_fnV dX7_counted_73 (rfl : 73 + 3 = 76) l_X7_70 (m_inBook h ok lk) (by first | assumption | exact mw_167 | exact mw_168 | exact mw_169 | exact mw_170 | exact bk_0 | exact bk_1 | exact bk_2 | exact bk_3 | exact bk_4 | exact bk_5 | exact bk_6 | exact bk_7 | exact bk_8 | exact bk_9 | exact bk_10 | exact bk_11 | exact bk_12 | exact bk_13 | exact bk_14 | exact bk_15 | exact bk_16 | exact zup_self | exact (zup_ne (by first | assumption | omega)).trans (by first | assumption | exact zup_self) | exact (zup_ne (by first | assumption | omega)).trans ((zup_ne (by first | assumption | omega)).trans (by first | assumption | exact zup_self)) | exact (bk_out (by first | omega | (simp only [bset, reduceIte, Nat.reduceEqDiff]; omega))).trans (by first | exact bk_0 | exact bk_1 | exact bk_2 | exact bk_3 | exact bk_4 | exact bk_5 | exact bk_6 | exact bk_7 | exact bk_8 | exact bk_9 | exact bk_10 | exact bk_11 | exact bk_12 | exact bk_13 | exact bk_14 | exact bk_15 | exact bk_16 | exact cr_5 | exact cr_23 | exact cr_24 | exact cr_25 | exact cr_26 | exact cr_27 | exact cr_28 | exact cr_29 | exact cr_30 | assumption)) rfl rfl rfl (Nat.le_of_ble_eq_true rfl) ?_
      refine zr_iret dX7_counted_76 rfl (by first | exact jb_nar | rfl) ?_ rfl rfl rfl
      first
      | (exfalso; omega)
      | ((unfold jct; repeat (first | rw [if_pos (by omega)] | rw [if_neg (by omega)])); done)
      | ((unfold jct; repeat (first | rw [if_pos (by omega)] | rw [if_neg (by omega)])); first | rw [h3 (by omega)] | rw [h4 (by omega)] | rw [h5 (by omega)] | rw [h6 (by omega)] | rw [h10 (by omega)] | rw [h11 (by omega)] | rw [h12 (by omega)] | rw [hsl] | rw [hlo] | (rw [hc0, hds]; done) | rw [hc0]))
  by_cases hs1 : k = 1
  · first
    | (exfalso; omega)
    | (
      refine zr_tableIn (off := 76) (tgt := 77) dX7_counted_1 ⟨by omega, by omega⟩ (by first | omega | (simp only [bset, reduceIte, Nat.reduceEqDiff]; omega)) (by first | omega | (simp only [bset, reduceIte, Nat.reduceEqDiff]; omega)) (by rw [hs1]; rfl) (by decide) ?_
      refine zr_aload_n dX7_counted_77 (rfl : 77 + 1 = 78) rfl ?_
      refine zr_iconst dX7_counted_78 (rfl : 78 + 1 = 79) ?_
      refine zr_fnV dX7_counted_79 (rfl : 79 + 3 = 82) l_X7_161 (m_cardsThat1 h ok lk) (by first | assumption | exact mw_167 | exact mw_168 | exact mw_169 | exact mw_170 | exact bk_0 | exact bk_1 | exact bk_2 | exact bk_3 | exact bk_4 | exact bk_5 | exact bk_6 | exact bk_7 | exact bk_8 | exact bk_9 | exact bk_10 | exact bk_11 | exact bk_12 | exact bk_13 | exact bk_14 | exact bk_15 | exact bk_16 | exact zup_self | exact (zup_ne (by first | assumption | omega)).trans (by first | assumption | exact zup_self) | exact (zup_ne (by first | assumption | omega)).trans ((zup_ne (by first | assumption | omega)).trans (by first | assumption | exact zup_self)) | exact (bk_out (by first | omega | (simp only [bset, reduceIte, Nat.reduceEqDiff]; omega))).trans (by first | exact bk_0 | exact bk_1 | exact bk_2 | exact bk_3 | exact bk_4 | exact bk_5 | exact bk_6 | exact bk_7 | exact bk_8 | exact bk_9 | exact bk_10 | exact bk_11 | exact bk_12 | exact bk_13 | exact bk_14 | exact bk_15 | exact bk_16 | exact cr_5 | exact cr_23 | exact cr_24 | exact cr_25 | exact cr_26 | exact cr_27 | exact cr_28 | exact cr_29 | exact cr_30 | assumption)) rfl rfl rfl (Nat.le_of_ble_eq_true rfl) ?_
      refine zr_iret dX7_counted_82 rfl (by first | exact jb_nar | rfl) ?_ rfl rfl rfl
      first
      | (exfalso; omega)
      | ((unfold jct; repeat (first | rw [if_pos (by omega)] | rw [if_neg (by omega)])); done)
      | ((unfold jct; repeat (first | rw [if_pos (by omega)] | rw [if_neg (by omega)])); first | rw [h3 (by omega)] | rw [h4 (by omega)] | rw [h5 (by omega)] | rw [h6 (by omega)] | rw [h10 (by omega)] | rw [h11 (by omega)] | rw [h12 (by omega)] | rw [hsl] | rw [hlo] | (rw [hc0, hds]; done) | rw [hc0]))
  by_cases hs2 : k = 2
  · first
    | (exfalso; omega)
    | (
      refine zr_tableIn (off := 82) (tgt := 83) dX7_counted_1 ⟨by omega, by omega⟩ (by first | omega | (simp only [bset, reduceIte, Nat.reduceEqDiff]; omega)) (by first | omega | (simp only [bset, reduceIte, Nat.reduceEqDiff]; omega)) (by rw [hs2]; rfl) (by decide) ?_
      refine zr_aload_n dX7_counted_83 (rfl : 83 + 1 = 84) rfl ?_
      refine zr_iconst dX7_counted_84 (rfl : 84 + 1 = 85) ?_
      refine zr_fnV dX7_counted_85 (rfl : 85 + 3 = 88) l_X7_161 (m_cardsThat0 h ok) (by first | assumption | exact mw_167 | exact mw_168 | exact mw_169 | exact mw_170 | exact bk_0 | exact bk_1 | exact bk_2 | exact bk_3 | exact bk_4 | exact bk_5 | exact bk_6 | exact bk_7 | exact bk_8 | exact bk_9 | exact bk_10 | exact bk_11 | exact bk_12 | exact bk_13 | exact bk_14 | exact bk_15 | exact bk_16 | exact zup_self | exact (zup_ne (by first | assumption | omega)).trans (by first | assumption | exact zup_self) | exact (zup_ne (by first | assumption | omega)).trans ((zup_ne (by first | assumption | omega)).trans (by first | assumption | exact zup_self)) | exact (bk_out (by first | omega | (simp only [bset, reduceIte, Nat.reduceEqDiff]; omega))).trans (by first | exact bk_0 | exact bk_1 | exact bk_2 | exact bk_3 | exact bk_4 | exact bk_5 | exact bk_6 | exact bk_7 | exact bk_8 | exact bk_9 | exact bk_10 | exact bk_11 | exact bk_12 | exact bk_13 | exact bk_14 | exact bk_15 | exact bk_16 | exact cr_5 | exact cr_23 | exact cr_24 | exact cr_25 | exact cr_26 | exact cr_27 | exact cr_28 | exact cr_29 | exact cr_30 | assumption)) rfl rfl rfl (Nat.le_of_ble_eq_true rfl) ?_
      refine zr_iret dX7_counted_88 rfl (by first | exact jb_nar | rfl) ?_ rfl rfl rfl
      first
      | (exfalso; omega)
      | ((unfold jct; repeat (first | rw [if_pos (by omega)] | rw [if_neg (by omega)])); done)
      | ((unfold jct; repeat (first | rw [if_pos (by omega)] | rw [if_neg (by omega)])); first | rw [h3 (by omega)] | rw [h4 (by omega)] | rw [h5 (by omega)] | rw [h6 (by omega)] | rw [h10 (by omega)] | rw [h11 (by omega)] | rw [h12 (by omega)] | rw [hsl] | rw [hlo] | (rw [hc0, hds]; done) | rw [hc0]))
  by_cases hs3 : k = 3
  · first
    | (exfalso; omega)
    | (
      refine zr_tableIn (off := 88) (tgt := 89) dX7_counted_1 ⟨by omega, by omega⟩ (by first | omega | (simp only [bset, reduceIte, Nat.reduceEqDiff]; omega)) (by first | omega | (simp only [bset, reduceIte, Nat.reduceEqDiff]; omega)) (by rw [hs3]; rfl) (by decide) ?_
      refine zr_aload_n dX7_counted_89 (rfl : 89 + 1 = 90) rfl ?_
      refine zr_getf dX7_counted_90 (rfl : 90 + 3 = 93) f_X7_7 (by first | assumption | exact mw_167 | exact mw_168 | exact mw_169 | exact mw_170 | exact bk_0 | exact bk_1 | exact bk_2 | exact bk_3 | exact bk_4 | exact bk_5 | exact bk_6 | exact bk_7 | exact bk_8 | exact bk_9 | exact bk_10 | exact bk_11 | exact bk_12 | exact bk_13 | exact bk_14 | exact bk_15 | exact bk_16 | exact zup_self | exact (zup_ne (by first | assumption | omega)).trans (by first | assumption | exact zup_self) | exact (zup_ne (by first | assumption | omega)).trans ((zup_ne (by first | assumption | omega)).trans (by first | assumption | exact zup_self)) | exact (bk_out (by first | omega | (simp only [bset, reduceIte, Nat.reduceEqDiff]; omega))).trans (by first | exact bk_0 | exact bk_1 | exact bk_2 | exact bk_3 | exact bk_4 | exact bk_5 | exact bk_6 | exact bk_7 | exact bk_8 | exact bk_9 | exact bk_10 | exact bk_11 | exact bk_12 | exact bk_13 | exact bk_14 | exact bk_15 | exact bk_16 | exact cr_5 | exact cr_23 | exact cr_24 | exact cr_25 | exact cr_26 | exact cr_27 | exact cr_28 | exact cr_29 | exact cr_30 | assumption)) rfl ?_
      refine zr_sipush dX7_counted_93 (rfl : 93 + 3 = 96) (by decide) ?_
      refine zr_iload_n dX7_counted_96 (rfl : 96 + 1 = 97) rfl ?_
      refine zr_iadd dX7_counted_97 (rfl : 97 + 1 = 98) (by first | exact jI_add _ _ | rfl) ?_
      refine zr_iconst dX7_counted_98 (rfl : 98 + 1 = 99) ?_
      refine zr_isub dX7_counted_99 (rfl : 99 + 1 = 100) (by first | exact jI_sub _ _ | rfl) ?_
      refine zr_iald dX7_counted_100 (rfl : 100 + 1 = 101) (by first | assumption | exact mw_167 | exact mw_168 | exact mw_169 | exact mw_170 | exact bk_0 | exact bk_1 | exact bk_2 | exact bk_3 | exact bk_4 | exact bk_5 | exact bk_6 | exact bk_7 | exact bk_8 | exact bk_9 | exact bk_10 | exact bk_11 | exact bk_12 | exact bk_13 | exact bk_14 | exact bk_15 | exact bk_16 | exact zup_self | exact (zup_ne (by first | assumption | omega)).trans (by first | assumption | exact zup_self) | exact (zup_ne (by first | assumption | omega)).trans ((zup_ne (by first | assumption | omega)).trans (by first | assumption | exact zup_self)) | exact (bk_out (by first | omega | (simp only [bset, reduceIte, Nat.reduceEqDiff]; omega))).trans (by first | exact bk_0 | exact bk_1 | exact bk_2 | exact bk_3 | exact bk_4 | exact bk_5 | exact bk_6 | exact bk_7 | exact bk_8 | exact bk_9 | exact bk_10 | exact bk_11 | exact bk_12 | exact bk_13 | exact bk_14 | exact bk_15 | exact bk_16 | exact cr_5 | exact cr_23 | exact cr_24 | exact cr_25 | exact cr_26 | exact cr_27 | exact cr_28 | exact cr_29 | exact cr_30 | assumption)) (by decide) (by first | omega | (simp only [bset, reduceIte, Nat.reduceEqDiff]; omega)) (by first | omega | (simp only [bset, reduceIte, Nat.reduceEqDiff]; omega)) ?_
      refine zr_iret dX7_counted_101 rfl (by first | exact jb_nar | rfl) ?_ rfl rfl rfl
      first
      | (exfalso; omega)
      | ((unfold jct; repeat (first | rw [if_pos (by omega)] | rw [if_neg (by omega)])); done)
      | ((unfold jct; repeat (first | rw [if_pos (by omega)] | rw [if_neg (by omega)])); first | rw [h3 (by omega)] | rw [h4 (by omega)] | rw [h5 (by omega)] | rw [h6 (by omega)] | rw [h10 (by omega)] | rw [h11 (by omega)] | rw [h12 (by omega)] | rw [hsl] | rw [hlo] | (rw [hc0, hds]; done) | rw [hc0]))
  by_cases hs4 : k = 4
  · first
    | (exfalso; omega)
    | (
      refine zr_tableIn (off := 88) (tgt := 89) dX7_counted_1 ⟨by omega, by omega⟩ (by first | omega | (simp only [bset, reduceIte, Nat.reduceEqDiff]; omega)) (by first | omega | (simp only [bset, reduceIte, Nat.reduceEqDiff]; omega)) (by rw [hs4]; rfl) (by decide) ?_
      refine zr_aload_n dX7_counted_89 (rfl : 89 + 1 = 90) rfl ?_
      refine zr_getf dX7_counted_90 (rfl : 90 + 3 = 93) f_X7_7 (by first | assumption | exact mw_167 | exact mw_168 | exact mw_169 | exact mw_170 | exact bk_0 | exact bk_1 | exact bk_2 | exact bk_3 | exact bk_4 | exact bk_5 | exact bk_6 | exact bk_7 | exact bk_8 | exact bk_9 | exact bk_10 | exact bk_11 | exact bk_12 | exact bk_13 | exact bk_14 | exact bk_15 | exact bk_16 | exact zup_self | exact (zup_ne (by first | assumption | omega)).trans (by first | assumption | exact zup_self) | exact (zup_ne (by first | assumption | omega)).trans ((zup_ne (by first | assumption | omega)).trans (by first | assumption | exact zup_self)) | exact (bk_out (by first | omega | (simp only [bset, reduceIte, Nat.reduceEqDiff]; omega))).trans (by first | exact bk_0 | exact bk_1 | exact bk_2 | exact bk_3 | exact bk_4 | exact bk_5 | exact bk_6 | exact bk_7 | exact bk_8 | exact bk_9 | exact bk_10 | exact bk_11 | exact bk_12 | exact bk_13 | exact bk_14 | exact bk_15 | exact bk_16 | exact cr_5 | exact cr_23 | exact cr_24 | exact cr_25 | exact cr_26 | exact cr_27 | exact cr_28 | exact cr_29 | exact cr_30 | assumption)) rfl ?_
      refine zr_sipush dX7_counted_93 (rfl : 93 + 3 = 96) (by decide) ?_
      refine zr_iload_n dX7_counted_96 (rfl : 96 + 1 = 97) rfl ?_
      refine zr_iadd dX7_counted_97 (rfl : 97 + 1 = 98) (by first | exact jI_add _ _ | rfl) ?_
      refine zr_iconst dX7_counted_98 (rfl : 98 + 1 = 99) ?_
      refine zr_isub dX7_counted_99 (rfl : 99 + 1 = 100) (by first | exact jI_sub _ _ | rfl) ?_
      refine zr_iald dX7_counted_100 (rfl : 100 + 1 = 101) (by first | assumption | exact mw_167 | exact mw_168 | exact mw_169 | exact mw_170 | exact bk_0 | exact bk_1 | exact bk_2 | exact bk_3 | exact bk_4 | exact bk_5 | exact bk_6 | exact bk_7 | exact bk_8 | exact bk_9 | exact bk_10 | exact bk_11 | exact bk_12 | exact bk_13 | exact bk_14 | exact bk_15 | exact bk_16 | exact zup_self | exact (zup_ne (by first | assumption | omega)).trans (by first | assumption | exact zup_self) | exact (zup_ne (by first | assumption | omega)).trans ((zup_ne (by first | assumption | omega)).trans (by first | assumption | exact zup_self)) | exact (bk_out (by first | omega | (simp only [bset, reduceIte, Nat.reduceEqDiff]; omega))).trans (by first | exact bk_0 | exact bk_1 | exact bk_2 | exact bk_3 | exact bk_4 | exact bk_5 | exact bk_6 | exact bk_7 | exact bk_8 | exact bk_9 | exact bk_10 | exact bk_11 | exact bk_12 | exact bk_13 | exact bk_14 | exact bk_15 | exact bk_16 | exact cr_5 | exact cr_23 | exact cr_24 | exact cr_25 | exact cr_26 | exact cr_27 | exact cr_28 | exact cr_29 | exact cr_30 | assumption)) (by decide) (by first | omega | (simp only [bset, reduceIte, Nat.reduceEqDiff]; omega)) (by first | omega | (simp only [bset, reduceIte, Nat.reduceEqDiff]; omega)) ?_
      refine zr_iret dX7_counted_101 rfl (by first | exact jb_nar | rfl) ?_ rfl rfl rfl
      first
      | (exfalso; omega)
      | ((unfold jct; repeat (first | rw [if_pos (by omega)] | rw [if_neg (by omega)])); done)
      | ((unfold jct; repeat (first | rw [if_pos (by omega)] | rw [if_neg (by omega)])); first | rw [h3 (by omega)] | rw [h4 (by omega)] | rw [h5 (by omega)] | rw [h6 (by omega)] | rw [h10 (by omega)] | rw [h11 (by omega)] | rw [h12 (by omega)] | rw [hsl] | rw [hlo] | (rw [hc0, hds]; done) | rw [hc0]))
  by_cases hs5 : k = 5
  · first
    | (exfalso; omega)
    | (
      refine zr_tableIn (off := 88) (tgt := 89) dX7_counted_1 ⟨by omega, by omega⟩ (by first | omega | (simp only [bset, reduceIte, Nat.reduceEqDiff]; omega)) (by first | omega | (simp only [bset, reduceIte, Nat.reduceEqDiff]; omega)) (by rw [hs5]; rfl) (by decide) ?_
      refine zr_aload_n dX7_counted_89 (rfl : 89 + 1 = 90) rfl ?_
      refine zr_getf dX7_counted_90 (rfl : 90 + 3 = 93) f_X7_7 (by first | assumption | exact mw_167 | exact mw_168 | exact mw_169 | exact mw_170 | exact bk_0 | exact bk_1 | exact bk_2 | exact bk_3 | exact bk_4 | exact bk_5 | exact bk_6 | exact bk_7 | exact bk_8 | exact bk_9 | exact bk_10 | exact bk_11 | exact bk_12 | exact bk_13 | exact bk_14 | exact bk_15 | exact bk_16 | exact zup_self | exact (zup_ne (by first | assumption | omega)).trans (by first | assumption | exact zup_self) | exact (zup_ne (by first | assumption | omega)).trans ((zup_ne (by first | assumption | omega)).trans (by first | assumption | exact zup_self)) | exact (bk_out (by first | omega | (simp only [bset, reduceIte, Nat.reduceEqDiff]; omega))).trans (by first | exact bk_0 | exact bk_1 | exact bk_2 | exact bk_3 | exact bk_4 | exact bk_5 | exact bk_6 | exact bk_7 | exact bk_8 | exact bk_9 | exact bk_10 | exact bk_11 | exact bk_12 | exact bk_13 | exact bk_14 | exact bk_15 | exact bk_16 | exact cr_5 | exact cr_23 | exact cr_24 | exact cr_25 | exact cr_26 | exact cr_27 | exact cr_28 | exact cr_29 | exact cr_30 | assumption)) rfl ?_
      refine zr_sipush dX7_counted_93 (rfl : 93 + 3 = 96) (by decide) ?_
      refine zr_iload_n dX7_counted_96 (rfl : 96 + 1 = 97) rfl ?_
      refine zr_iadd dX7_counted_97 (rfl : 97 + 1 = 98) (by first | exact jI_add _ _ | rfl) ?_
      refine zr_iconst dX7_counted_98 (rfl : 98 + 1 = 99) ?_
      refine zr_isub dX7_counted_99 (rfl : 99 + 1 = 100) (by first | exact jI_sub _ _ | rfl) ?_
      refine zr_iald dX7_counted_100 (rfl : 100 + 1 = 101) (by first | assumption | exact mw_167 | exact mw_168 | exact mw_169 | exact mw_170 | exact bk_0 | exact bk_1 | exact bk_2 | exact bk_3 | exact bk_4 | exact bk_5 | exact bk_6 | exact bk_7 | exact bk_8 | exact bk_9 | exact bk_10 | exact bk_11 | exact bk_12 | exact bk_13 | exact bk_14 | exact bk_15 | exact bk_16 | exact zup_self | exact (zup_ne (by first | assumption | omega)).trans (by first | assumption | exact zup_self) | exact (zup_ne (by first | assumption | omega)).trans ((zup_ne (by first | assumption | omega)).trans (by first | assumption | exact zup_self)) | exact (bk_out (by first | omega | (simp only [bset, reduceIte, Nat.reduceEqDiff]; omega))).trans (by first | exact bk_0 | exact bk_1 | exact bk_2 | exact bk_3 | exact bk_4 | exact bk_5 | exact bk_6 | exact bk_7 | exact bk_8 | exact bk_9 | exact bk_10 | exact bk_11 | exact bk_12 | exact bk_13 | exact bk_14 | exact bk_15 | exact bk_16 | exact cr_5 | exact cr_23 | exact cr_24 | exact cr_25 | exact cr_26 | exact cr_27 | exact cr_28 | exact cr_29 | exact cr_30 | assumption)) (by decide) (by first | omega | (simp only [bset, reduceIte, Nat.reduceEqDiff]; omega)) (by first | omega | (simp only [bset, reduceIte, Nat.reduceEqDiff]; omega)) ?_
      refine zr_iret dX7_counted_101 rfl (by first | exact jb_nar | rfl) ?_ rfl rfl rfl
      first
      | (exfalso; omega)
      | ((unfold jct; repeat (first | rw [if_pos (by omega)] | rw [if_neg (by omega)])); done)
      | ((unfold jct; repeat (first | rw [if_pos (by omega)] | rw [if_neg (by omega)])); first | rw [h3 (by omega)] | rw [h4 (by omega)] | rw [h5 (by omega)] | rw [h6 (by omega)] | rw [h10 (by omega)] | rw [h11 (by omega)] | rw [h12 (by omega)] | rw [hsl] | rw [hlo] | (rw [hc0, hds]; done) | rw [hc0]))
  by_cases hs6 : k = 6
  · first
    | (exfalso; omega)
    | (
      refine zr_tableIn (off := 88) (tgt := 89) dX7_counted_1 ⟨by omega, by omega⟩ (by first | omega | (simp only [bset, reduceIte, Nat.reduceEqDiff]; omega)) (by first | omega | (simp only [bset, reduceIte, Nat.reduceEqDiff]; omega)) (by rw [hs6]; rfl) (by decide) ?_
      refine zr_aload_n dX7_counted_89 (rfl : 89 + 1 = 90) rfl ?_
      refine zr_getf dX7_counted_90 (rfl : 90 + 3 = 93) f_X7_7 (by first | assumption | exact mw_167 | exact mw_168 | exact mw_169 | exact mw_170 | exact bk_0 | exact bk_1 | exact bk_2 | exact bk_3 | exact bk_4 | exact bk_5 | exact bk_6 | exact bk_7 | exact bk_8 | exact bk_9 | exact bk_10 | exact bk_11 | exact bk_12 | exact bk_13 | exact bk_14 | exact bk_15 | exact bk_16 | exact zup_self | exact (zup_ne (by first | assumption | omega)).trans (by first | assumption | exact zup_self) | exact (zup_ne (by first | assumption | omega)).trans ((zup_ne (by first | assumption | omega)).trans (by first | assumption | exact zup_self)) | exact (bk_out (by first | omega | (simp only [bset, reduceIte, Nat.reduceEqDiff]; omega))).trans (by first | exact bk_0 | exact bk_1 | exact bk_2 | exact bk_3 | exact bk_4 | exact bk_5 | exact bk_6 | exact bk_7 | exact bk_8 | exact bk_9 | exact bk_10 | exact bk_11 | exact bk_12 | exact bk_13 | exact bk_14 | exact bk_15 | exact bk_16 | exact cr_5 | exact cr_23 | exact cr_24 | exact cr_25 | exact cr_26 | exact cr_27 | exact cr_28 | exact cr_29 | exact cr_30 | assumption)) rfl ?_
      refine zr_sipush dX7_counted_93 (rfl : 93 + 3 = 96) (by decide) ?_
      refine zr_iload_n dX7_counted_96 (rfl : 96 + 1 = 97) rfl ?_
      refine zr_iadd dX7_counted_97 (rfl : 97 + 1 = 98) (by first | exact jI_add _ _ | rfl) ?_
      refine zr_iconst dX7_counted_98 (rfl : 98 + 1 = 99) ?_
      refine zr_isub dX7_counted_99 (rfl : 99 + 1 = 100) (by first | exact jI_sub _ _ | rfl) ?_
      refine zr_iald dX7_counted_100 (rfl : 100 + 1 = 101) (by first | assumption | exact mw_167 | exact mw_168 | exact mw_169 | exact mw_170 | exact bk_0 | exact bk_1 | exact bk_2 | exact bk_3 | exact bk_4 | exact bk_5 | exact bk_6 | exact bk_7 | exact bk_8 | exact bk_9 | exact bk_10 | exact bk_11 | exact bk_12 | exact bk_13 | exact bk_14 | exact bk_15 | exact bk_16 | exact zup_self | exact (zup_ne (by first | assumption | omega)).trans (by first | assumption | exact zup_self) | exact (zup_ne (by first | assumption | omega)).trans ((zup_ne (by first | assumption | omega)).trans (by first | assumption | exact zup_self)) | exact (bk_out (by first | omega | (simp only [bset, reduceIte, Nat.reduceEqDiff]; omega))).trans (by first | exact bk_0 | exact bk_1 | exact bk_2 | exact bk_3 | exact bk_4 | exact bk_5 | exact bk_6 | exact bk_7 | exact bk_8 | exact bk_9 | exact bk_10 | exact bk_11 | exact bk_12 | exact bk_13 | exact bk_14 | exact bk_15 | exact bk_16 | exact cr_5 | exact cr_23 | exact cr_24 | exact cr_25 | exact cr_26 | exact cr_27 | exact cr_28 | exact cr_29 | exact cr_30 | assumption)) (by decide) (by first | omega | (simp only [bset, reduceIte, Nat.reduceEqDiff]; omega)) (by first | omega | (simp only [bset, reduceIte, Nat.reduceEqDiff]; omega)) ?_
      refine zr_iret dX7_counted_101 rfl (by first | exact jb_nar | rfl) ?_ rfl rfl rfl
      first
      | (exfalso; omega)
      | ((unfold jct; repeat (first | rw [if_pos (by omega)] | rw [if_neg (by omega)])); done)
      | ((unfold jct; repeat (first | rw [if_pos (by omega)] | rw [if_neg (by omega)])); first | rw [h3 (by omega)] | rw [h4 (by omega)] | rw [h5 (by omega)] | rw [h6 (by omega)] | rw [h10 (by omega)] | rw [h11 (by omega)] | rw [h12 (by omega)] | rw [hsl] | rw [hlo] | (rw [hc0, hds]; done) | rw [hc0]))
  by_cases hs7 : k = 7
  · first
    | (exfalso; omega)
    | (
      refine zr_tableIn (off := 101) (tgt := 102) dX7_counted_1 ⟨by omega, by omega⟩ (by first | omega | (simp only [bset, reduceIte, Nat.reduceEqDiff]; omega)) (by first | omega | (simp only [bset, reduceIte, Nat.reduceEqDiff]; omega)) (by rw [hs7]; rfl) (by decide) ?_
      refine zr_bipush dX7_counted_102 (rfl : 102 + 2 = 104) (by decide) ?_
      refine zr_aload_n dX7_counted_104 (rfl : 104 + 1 = 105) rfl ?_
      refine zr_getf dX7_counted_105 (rfl : 105 + 3 = 108) f_X7_7 (by first | assumption | exact mw_167 | exact mw_168 | exact mw_169 | exact mw_170 | exact bk_0 | exact bk_1 | exact bk_2 | exact bk_3 | exact bk_4 | exact bk_5 | exact bk_6 | exact bk_7 | exact bk_8 | exact bk_9 | exact bk_10 | exact bk_11 | exact bk_12 | exact bk_13 | exact bk_14 | exact bk_15 | exact bk_16 | exact zup_self | exact (zup_ne (by first | assumption | omega)).trans (by first | assumption | exact zup_self) | exact (zup_ne (by first | assumption | omega)).trans ((zup_ne (by first | assumption | omega)).trans (by first | assumption | exact zup_self)) | exact (bk_out (by first | omega | (simp only [bset, reduceIte, Nat.reduceEqDiff]; omega))).trans (by first | exact bk_0 | exact bk_1 | exact bk_2 | exact bk_3 | exact bk_4 | exact bk_5 | exact bk_6 | exact bk_7 | exact bk_8 | exact bk_9 | exact bk_10 | exact bk_11 | exact bk_12 | exact bk_13 | exact bk_14 | exact bk_15 | exact bk_16 | exact cr_5 | exact cr_23 | exact cr_24 | exact cr_25 | exact cr_26 | exact cr_27 | exact cr_28 | exact cr_29 | exact cr_30 | assumption)) rfl ?_
      refine zr_sipush dX7_counted_108 (rfl : 108 + 3 = 111) (by decide) ?_
      refine zr_iald dX7_counted_111 (rfl : 111 + 1 = 112) (by first | assumption | exact mw_167 | exact mw_168 | exact mw_169 | exact mw_170 | exact bk_0 | exact bk_1 | exact bk_2 | exact bk_3 | exact bk_4 | exact bk_5 | exact bk_6 | exact bk_7 | exact bk_8 | exact bk_9 | exact bk_10 | exact bk_11 | exact bk_12 | exact bk_13 | exact bk_14 | exact bk_15 | exact bk_16 | exact zup_self | exact (zup_ne (by first | assumption | omega)).trans (by first | assumption | exact zup_self) | exact (zup_ne (by first | assumption | omega)).trans ((zup_ne (by first | assumption | omega)).trans (by first | assumption | exact zup_self)) | exact (bk_out (by first | omega | (simp only [bset, reduceIte, Nat.reduceEqDiff]; omega))).trans (by first | exact bk_0 | exact bk_1 | exact bk_2 | exact bk_3 | exact bk_4 | exact bk_5 | exact bk_6 | exact bk_7 | exact bk_8 | exact bk_9 | exact bk_10 | exact bk_11 | exact bk_12 | exact bk_13 | exact bk_14 | exact bk_15 | exact bk_16 | exact cr_5 | exact cr_23 | exact cr_24 | exact cr_25 | exact cr_26 | exact cr_27 | exact cr_28 | exact cr_29 | exact cr_30 | assumption)) (by decide) (by first | omega | (simp only [bset, reduceIte, Nat.reduceEqDiff]; omega)) (by first | omega | (simp only [bset, reduceIte, Nat.reduceEqDiff]; omega)) ?_
      refine zr_isub dX7_counted_112 (rfl : 112 + 1 = 113) (by first | exact jI_sub _ _ | rfl) ?_
      refine zr_iret dX7_counted_113 rfl (by first | exact jb_nar | rfl) ?_ rfl rfl rfl
      first
      | (exfalso; omega)
      | ((unfold jct; repeat (first | rw [if_pos (by omega)] | rw [if_neg (by omega)])); done)
      | ((unfold jct; repeat (first | rw [if_pos (by omega)] | rw [if_neg (by omega)])); first | rw [h3 (by omega)] | rw [h4 (by omega)] | rw [h5 (by omega)] | rw [h6 (by omega)] | rw [h10 (by omega)] | rw [h11 (by omega)] | rw [h12 (by omega)] | rw [hsl] | rw [hlo] | (rw [hc0, hds]; done) | rw [hc0]))
  by_cases hs8 : k = 8
  · first
    | (exfalso; omega)
    | (
      refine zr_tableIn (off := 113) (tgt := 114) dX7_counted_1 ⟨by omega, by omega⟩ (by first | omega | (simp only [bset, reduceIte, Nat.reduceEqDiff]; omega)) (by first | omega | (simp only [bset, reduceIte, Nat.reduceEqDiff]; omega)) (by rw [hs8]; rfl) (by decide) ?_
      refine zr_aload_n dX7_counted_114 (rfl : 114 + 1 = 115) rfl ?_
      refine zr_getf dX7_counted_115 (rfl : 115 + 3 = 118) f_X7_7 (by first | assumption | exact mw_167 | exact mw_168 | exact mw_169 | exact mw_170 | exact bk_0 | exact bk_1 | exact bk_2 | exact bk_3 | exact bk_4 | exact bk_5 | exact bk_6 | exact bk_7 | exact bk_8 | exact bk_9 | exact bk_10 | exact bk_11 | exact bk_12 | exact bk_13 | exact bk_14 | exact bk_15 | exact bk_16 | exact zup_self | exact (zup_ne (by first | assumption | omega)).trans (by first | assumption | exact zup_self) | exact (zup_ne (by first | assumption | omega)).trans ((zup_ne (by first | assumption | omega)).trans (by first | assumption | exact zup_self)) | exact (bk_out (by first | omega | (simp only [bset, reduceIte, Nat.reduceEqDiff]; omega))).trans (by first | exact bk_0 | exact bk_1 | exact bk_2 | exact bk_3 | exact bk_4 | exact bk_5 | exact bk_6 | exact bk_7 | exact bk_8 | exact bk_9 | exact bk_10 | exact bk_11 | exact bk_12 | exact bk_13 | exact bk_14 | exact bk_15 | exact bk_16 | exact cr_5 | exact cr_23 | exact cr_24 | exact cr_25 | exact cr_26 | exact cr_27 | exact cr_28 | exact cr_29 | exact cr_30 | assumption)) rfl ?_
      refine zr_sipush dX7_counted_118 (rfl : 118 + 3 = 121) (by decide) ?_
      refine zr_iald dX7_counted_121 (rfl : 121 + 1 = 122) (by first | assumption | exact mw_167 | exact mw_168 | exact mw_169 | exact mw_170 | exact bk_0 | exact bk_1 | exact bk_2 | exact bk_3 | exact bk_4 | exact bk_5 | exact bk_6 | exact bk_7 | exact bk_8 | exact bk_9 | exact bk_10 | exact bk_11 | exact bk_12 | exact bk_13 | exact bk_14 | exact bk_15 | exact bk_16 | exact zup_self | exact (zup_ne (by first | assumption | omega)).trans (by first | assumption | exact zup_self) | exact (zup_ne (by first | assumption | omega)).trans ((zup_ne (by first | assumption | omega)).trans (by first | assumption | exact zup_self)) | exact (bk_out (by first | omega | (simp only [bset, reduceIte, Nat.reduceEqDiff]; omega))).trans (by first | exact bk_0 | exact bk_1 | exact bk_2 | exact bk_3 | exact bk_4 | exact bk_5 | exact bk_6 | exact bk_7 | exact bk_8 | exact bk_9 | exact bk_10 | exact bk_11 | exact bk_12 | exact bk_13 | exact bk_14 | exact bk_15 | exact bk_16 | exact cr_5 | exact cr_23 | exact cr_24 | exact cr_25 | exact cr_26 | exact cr_27 | exact cr_28 | exact cr_29 | exact cr_30 | assumption)) (by decide) (by first | omega | (simp only [bset, reduceIte, Nat.reduceEqDiff]; omega)) (by first | omega | (simp only [bset, reduceIte, Nat.reduceEqDiff]; omega)) ?_
      refine zr_iret dX7_counted_122 rfl (by first | exact jb_nar | rfl) ?_ rfl rfl rfl
      first
      | (exfalso; omega)
      | ((unfold jct; repeat (first | rw [if_pos (by omega)] | rw [if_neg (by omega)])); done)
      | ((unfold jct; repeat (first | rw [if_pos (by omega)] | rw [if_neg (by omega)])); first | rw [h3 (by omega)] | rw [h4 (by omega)] | rw [h5 (by omega)] | rw [h6 (by omega)] | rw [h10 (by omega)] | rw [h11 (by omega)] | rw [h12 (by omega)] | rw [hsl] | rw [hlo] | (rw [hc0, hds]; done) | rw [hc0]))
  by_cases hs9 : k = 9
  · first
    | (exfalso; omega)
    | (
      refine zr_tableIn (off := 122) (tgt := 123) dX7_counted_1 ⟨by omega, by omega⟩ (by first | omega | (simp only [bset, reduceIte, Nat.reduceEqDiff]; omega)) (by first | omega | (simp only [bset, reduceIte, Nat.reduceEqDiff]; omega)) (by rw [hs9]; rfl) (by decide) ?_
      refine zr_aload_n dX7_counted_123 (rfl : 123 + 1 = 124) rfl ?_
      refine zr_getf dX7_counted_124 (rfl : 124 + 3 = 127) f_X7_7 (by first | assumption | exact mw_167 | exact mw_168 | exact mw_169 | exact mw_170 | exact bk_0 | exact bk_1 | exact bk_2 | exact bk_3 | exact bk_4 | exact bk_5 | exact bk_6 | exact bk_7 | exact bk_8 | exact bk_9 | exact bk_10 | exact bk_11 | exact bk_12 | exact bk_13 | exact bk_14 | exact bk_15 | exact bk_16 | exact zup_self | exact (zup_ne (by first | assumption | omega)).trans (by first | assumption | exact zup_self) | exact (zup_ne (by first | assumption | omega)).trans ((zup_ne (by first | assumption | omega)).trans (by first | assumption | exact zup_self)) | exact (bk_out (by first | omega | (simp only [bset, reduceIte, Nat.reduceEqDiff]; omega))).trans (by first | exact bk_0 | exact bk_1 | exact bk_2 | exact bk_3 | exact bk_4 | exact bk_5 | exact bk_6 | exact bk_7 | exact bk_8 | exact bk_9 | exact bk_10 | exact bk_11 | exact bk_12 | exact bk_13 | exact bk_14 | exact bk_15 | exact bk_16 | exact cr_5 | exact cr_23 | exact cr_24 | exact cr_25 | exact cr_26 | exact cr_27 | exact cr_28 | exact cr_29 | exact cr_30 | assumption)) rfl ?_
      refine zr_sipush dX7_counted_127 (rfl : 127 + 3 = 130) (by decide) ?_
      refine zr_iald dX7_counted_130 (rfl : 130 + 1 = 131) (by first | assumption | exact mw_167 | exact mw_168 | exact mw_169 | exact mw_170 | exact bk_0 | exact bk_1 | exact bk_2 | exact bk_3 | exact bk_4 | exact bk_5 | exact bk_6 | exact bk_7 | exact bk_8 | exact bk_9 | exact bk_10 | exact bk_11 | exact bk_12 | exact bk_13 | exact bk_14 | exact bk_15 | exact bk_16 | exact zup_self | exact (zup_ne (by first | assumption | omega)).trans (by first | assumption | exact zup_self) | exact (zup_ne (by first | assumption | omega)).trans ((zup_ne (by first | assumption | omega)).trans (by first | assumption | exact zup_self)) | exact (bk_out (by first | omega | (simp only [bset, reduceIte, Nat.reduceEqDiff]; omega))).trans (by first | exact bk_0 | exact bk_1 | exact bk_2 | exact bk_3 | exact bk_4 | exact bk_5 | exact bk_6 | exact bk_7 | exact bk_8 | exact bk_9 | exact bk_10 | exact bk_11 | exact bk_12 | exact bk_13 | exact bk_14 | exact bk_15 | exact bk_16 | exact cr_5 | exact cr_23 | exact cr_24 | exact cr_25 | exact cr_26 | exact cr_27 | exact cr_28 | exact cr_29 | exact cr_30 | assumption)) (by decide) (by first | omega | (simp only [bset, reduceIte, Nat.reduceEqDiff]; omega)) (by first | omega | (simp only [bset, reduceIte, Nat.reduceEqDiff]; omega)) ?_
      refine zr_iret dX7_counted_131 rfl (by first | exact jb_nar | rfl) ?_ rfl rfl rfl
      first
      | (exfalso; omega)
      | ((unfold jct; repeat (first | rw [if_pos (by omega)] | rw [if_neg (by omega)])); done)
      | ((unfold jct; repeat (first | rw [if_pos (by omega)] | rw [if_neg (by omega)])); first | rw [h3 (by omega)] | rw [h4 (by omega)] | rw [h5 (by omega)] | rw [h6 (by omega)] | rw [h10 (by omega)] | rw [h11 (by omega)] | rw [h12 (by omega)] | rw [hsl] | rw [hlo] | (rw [hc0, hds]; done) | rw [hc0]))
  by_cases hs10 : k = 10
  · first
    | (exfalso; omega)
    | (
      refine zr_tableIn (off := 131) (tgt := 132) dX7_counted_1 ⟨by omega, by omega⟩ (by first | omega | (simp only [bset, reduceIte, Nat.reduceEqDiff]; omega)) (by first | omega | (simp only [bset, reduceIte, Nat.reduceEqDiff]; omega)) (by rw [hs10]; rfl) (by decide) ?_
      refine zr_aload_n dX7_counted_132 (rfl : 132 + 1 = 133) rfl ?_
      refine zr_getf dX7_counted_133 (rfl : 133 + 3 = 136) f_X7_7 (by first | assumption | exact mw_167 | exact mw_168 | exact mw_169 | exact mw_170 | exact bk_0 | exact bk_1 | exact bk_2 | exact bk_3 | exact bk_4 | exact bk_5 | exact bk_6 | exact bk_7 | exact bk_8 | exact bk_9 | exact bk_10 | exact bk_11 | exact bk_12 | exact bk_13 | exact bk_14 | exact bk_15 | exact bk_16 | exact zup_self | exact (zup_ne (by first | assumption | omega)).trans (by first | assumption | exact zup_self) | exact (zup_ne (by first | assumption | omega)).trans ((zup_ne (by first | assumption | omega)).trans (by first | assumption | exact zup_self)) | exact (bk_out (by first | omega | (simp only [bset, reduceIte, Nat.reduceEqDiff]; omega))).trans (by first | exact bk_0 | exact bk_1 | exact bk_2 | exact bk_3 | exact bk_4 | exact bk_5 | exact bk_6 | exact bk_7 | exact bk_8 | exact bk_9 | exact bk_10 | exact bk_11 | exact bk_12 | exact bk_13 | exact bk_14 | exact bk_15 | exact bk_16 | exact cr_5 | exact cr_23 | exact cr_24 | exact cr_25 | exact cr_26 | exact cr_27 | exact cr_28 | exact cr_29 | exact cr_30 | assumption)) rfl ?_
      refine zr_sipush dX7_counted_136 (rfl : 136 + 3 = 139) (by decide) ?_
      refine zr_iload_n dX7_counted_139 (rfl : 139 + 1 = 140) rfl ?_
      refine zr_iadd dX7_counted_140 (rfl : 140 + 1 = 141) (by first | exact jI_add _ _ | rfl) ?_
      refine zr_bipush dX7_counted_141 (rfl : 141 + 2 = 143) (by decide) ?_
      refine zr_isub dX7_counted_143 (rfl : 143 + 1 = 144) (by first | exact jI_sub _ _ | rfl) ?_
      refine zr_iald dX7_counted_144 (rfl : 144 + 1 = 145) (by first | assumption | exact mw_167 | exact mw_168 | exact mw_169 | exact mw_170 | exact bk_0 | exact bk_1 | exact bk_2 | exact bk_3 | exact bk_4 | exact bk_5 | exact bk_6 | exact bk_7 | exact bk_8 | exact bk_9 | exact bk_10 | exact bk_11 | exact bk_12 | exact bk_13 | exact bk_14 | exact bk_15 | exact bk_16 | exact zup_self | exact (zup_ne (by first | assumption | omega)).trans (by first | assumption | exact zup_self) | exact (zup_ne (by first | assumption | omega)).trans ((zup_ne (by first | assumption | omega)).trans (by first | assumption | exact zup_self)) | exact (bk_out (by first | omega | (simp only [bset, reduceIte, Nat.reduceEqDiff]; omega))).trans (by first | exact bk_0 | exact bk_1 | exact bk_2 | exact bk_3 | exact bk_4 | exact bk_5 | exact bk_6 | exact bk_7 | exact bk_8 | exact bk_9 | exact bk_10 | exact bk_11 | exact bk_12 | exact bk_13 | exact bk_14 | exact bk_15 | exact bk_16 | exact cr_5 | exact cr_23 | exact cr_24 | exact cr_25 | exact cr_26 | exact cr_27 | exact cr_28 | exact cr_29 | exact cr_30 | assumption)) (by decide) (by first | omega | (simp only [bset, reduceIte, Nat.reduceEqDiff]; omega)) (by first | omega | (simp only [bset, reduceIte, Nat.reduceEqDiff]; omega)) ?_
      refine zr_iret dX7_counted_145 rfl (by first | exact jb_nar | rfl) ?_ rfl rfl rfl
      first
      | (exfalso; omega)
      | ((unfold jct; repeat (first | rw [if_pos (by omega)] | rw [if_neg (by omega)])); done)
      | ((unfold jct; repeat (first | rw [if_pos (by omega)] | rw [if_neg (by omega)])); first | rw [h3 (by omega)] | rw [h4 (by omega)] | rw [h5 (by omega)] | rw [h6 (by omega)] | rw [h10 (by omega)] | rw [h11 (by omega)] | rw [h12 (by omega)] | rw [hsl] | rw [hlo] | (rw [hc0, hds]; done) | rw [hc0]))
  by_cases hs11 : k = 11
  · first
    | (exfalso; omega)
    | (
      refine zr_tableIn (off := 131) (tgt := 132) dX7_counted_1 ⟨by omega, by omega⟩ (by first | omega | (simp only [bset, reduceIte, Nat.reduceEqDiff]; omega)) (by first | omega | (simp only [bset, reduceIte, Nat.reduceEqDiff]; omega)) (by rw [hs11]; rfl) (by decide) ?_
      refine zr_aload_n dX7_counted_132 (rfl : 132 + 1 = 133) rfl ?_
      refine zr_getf dX7_counted_133 (rfl : 133 + 3 = 136) f_X7_7 (by first | assumption | exact mw_167 | exact mw_168 | exact mw_169 | exact mw_170 | exact bk_0 | exact bk_1 | exact bk_2 | exact bk_3 | exact bk_4 | exact bk_5 | exact bk_6 | exact bk_7 | exact bk_8 | exact bk_9 | exact bk_10 | exact bk_11 | exact bk_12 | exact bk_13 | exact bk_14 | exact bk_15 | exact bk_16 | exact zup_self | exact (zup_ne (by first | assumption | omega)).trans (by first | assumption | exact zup_self) | exact (zup_ne (by first | assumption | omega)).trans ((zup_ne (by first | assumption | omega)).trans (by first | assumption | exact zup_self)) | exact (bk_out (by first | omega | (simp only [bset, reduceIte, Nat.reduceEqDiff]; omega))).trans (by first | exact bk_0 | exact bk_1 | exact bk_2 | exact bk_3 | exact bk_4 | exact bk_5 | exact bk_6 | exact bk_7 | exact bk_8 | exact bk_9 | exact bk_10 | exact bk_11 | exact bk_12 | exact bk_13 | exact bk_14 | exact bk_15 | exact bk_16 | exact cr_5 | exact cr_23 | exact cr_24 | exact cr_25 | exact cr_26 | exact cr_27 | exact cr_28 | exact cr_29 | exact cr_30 | assumption)) rfl ?_
      refine zr_sipush dX7_counted_136 (rfl : 136 + 3 = 139) (by decide) ?_
      refine zr_iload_n dX7_counted_139 (rfl : 139 + 1 = 140) rfl ?_
      refine zr_iadd dX7_counted_140 (rfl : 140 + 1 = 141) (by first | exact jI_add _ _ | rfl) ?_
      refine zr_bipush dX7_counted_141 (rfl : 141 + 2 = 143) (by decide) ?_
      refine zr_isub dX7_counted_143 (rfl : 143 + 1 = 144) (by first | exact jI_sub _ _ | rfl) ?_
      refine zr_iald dX7_counted_144 (rfl : 144 + 1 = 145) (by first | assumption | exact mw_167 | exact mw_168 | exact mw_169 | exact mw_170 | exact bk_0 | exact bk_1 | exact bk_2 | exact bk_3 | exact bk_4 | exact bk_5 | exact bk_6 | exact bk_7 | exact bk_8 | exact bk_9 | exact bk_10 | exact bk_11 | exact bk_12 | exact bk_13 | exact bk_14 | exact bk_15 | exact bk_16 | exact zup_self | exact (zup_ne (by first | assumption | omega)).trans (by first | assumption | exact zup_self) | exact (zup_ne (by first | assumption | omega)).trans ((zup_ne (by first | assumption | omega)).trans (by first | assumption | exact zup_self)) | exact (bk_out (by first | omega | (simp only [bset, reduceIte, Nat.reduceEqDiff]; omega))).trans (by first | exact bk_0 | exact bk_1 | exact bk_2 | exact bk_3 | exact bk_4 | exact bk_5 | exact bk_6 | exact bk_7 | exact bk_8 | exact bk_9 | exact bk_10 | exact bk_11 | exact bk_12 | exact bk_13 | exact bk_14 | exact bk_15 | exact bk_16 | exact cr_5 | exact cr_23 | exact cr_24 | exact cr_25 | exact cr_26 | exact cr_27 | exact cr_28 | exact cr_29 | exact cr_30 | assumption)) (by decide) (by first | omega | (simp only [bset, reduceIte, Nat.reduceEqDiff]; omega)) (by first | omega | (simp only [bset, reduceIte, Nat.reduceEqDiff]; omega)) ?_
      refine zr_iret dX7_counted_145 rfl (by first | exact jb_nar | rfl) ?_ rfl rfl rfl
      first
      | (exfalso; omega)
      | ((unfold jct; repeat (first | rw [if_pos (by omega)] | rw [if_neg (by omega)])); done)
      | ((unfold jct; repeat (first | rw [if_pos (by omega)] | rw [if_neg (by omega)])); first | rw [h3 (by omega)] | rw [h4 (by omega)] | rw [h5 (by omega)] | rw [h6 (by omega)] | rw [h10 (by omega)] | rw [h11 (by omega)] | rw [h12 (by omega)] | rw [hsl] | rw [hlo] | (rw [hc0, hds]; done) | rw [hc0]))
  by_cases hs12 : k = 12
  · first
    | (exfalso; omega)
    | (
      refine zr_tableIn (off := 131) (tgt := 132) dX7_counted_1 ⟨by omega, by omega⟩ (by first | omega | (simp only [bset, reduceIte, Nat.reduceEqDiff]; omega)) (by first | omega | (simp only [bset, reduceIte, Nat.reduceEqDiff]; omega)) (by rw [hs12]; rfl) (by decide) ?_
      refine zr_aload_n dX7_counted_132 (rfl : 132 + 1 = 133) rfl ?_
      refine zr_getf dX7_counted_133 (rfl : 133 + 3 = 136) f_X7_7 (by first | assumption | exact mw_167 | exact mw_168 | exact mw_169 | exact mw_170 | exact bk_0 | exact bk_1 | exact bk_2 | exact bk_3 | exact bk_4 | exact bk_5 | exact bk_6 | exact bk_7 | exact bk_8 | exact bk_9 | exact bk_10 | exact bk_11 | exact bk_12 | exact bk_13 | exact bk_14 | exact bk_15 | exact bk_16 | exact zup_self | exact (zup_ne (by first | assumption | omega)).trans (by first | assumption | exact zup_self) | exact (zup_ne (by first | assumption | omega)).trans ((zup_ne (by first | assumption | omega)).trans (by first | assumption | exact zup_self)) | exact (bk_out (by first | omega | (simp only [bset, reduceIte, Nat.reduceEqDiff]; omega))).trans (by first | exact bk_0 | exact bk_1 | exact bk_2 | exact bk_3 | exact bk_4 | exact bk_5 | exact bk_6 | exact bk_7 | exact bk_8 | exact bk_9 | exact bk_10 | exact bk_11 | exact bk_12 | exact bk_13 | exact bk_14 | exact bk_15 | exact bk_16 | exact cr_5 | exact cr_23 | exact cr_24 | exact cr_25 | exact cr_26 | exact cr_27 | exact cr_28 | exact cr_29 | exact cr_30 | assumption)) rfl ?_
      refine zr_sipush dX7_counted_136 (rfl : 136 + 3 = 139) (by decide) ?_
      refine zr_iload_n dX7_counted_139 (rfl : 139 + 1 = 140) rfl ?_
      refine zr_iadd dX7_counted_140 (rfl : 140 + 1 = 141) (by first | exact jI_add _ _ | rfl) ?_
      refine zr_bipush dX7_counted_141 (rfl : 141 + 2 = 143) (by decide) ?_
      refine zr_isub dX7_counted_143 (rfl : 143 + 1 = 144) (by first | exact jI_sub _ _ | rfl) ?_
      refine zr_iald dX7_counted_144 (rfl : 144 + 1 = 145) (by first | assumption | exact mw_167 | exact mw_168 | exact mw_169 | exact mw_170 | exact bk_0 | exact bk_1 | exact bk_2 | exact bk_3 | exact bk_4 | exact bk_5 | exact bk_6 | exact bk_7 | exact bk_8 | exact bk_9 | exact bk_10 | exact bk_11 | exact bk_12 | exact bk_13 | exact bk_14 | exact bk_15 | exact bk_16 | exact zup_self | exact (zup_ne (by first | assumption | omega)).trans (by first | assumption | exact zup_self) | exact (zup_ne (by first | assumption | omega)).trans ((zup_ne (by first | assumption | omega)).trans (by first | assumption | exact zup_self)) | exact (bk_out (by first | omega | (simp only [bset, reduceIte, Nat.reduceEqDiff]; omega))).trans (by first | exact bk_0 | exact bk_1 | exact bk_2 | exact bk_3 | exact bk_4 | exact bk_5 | exact bk_6 | exact bk_7 | exact bk_8 | exact bk_9 | exact bk_10 | exact bk_11 | exact bk_12 | exact bk_13 | exact bk_14 | exact bk_15 | exact bk_16 | exact cr_5 | exact cr_23 | exact cr_24 | exact cr_25 | exact cr_26 | exact cr_27 | exact cr_28 | exact cr_29 | exact cr_30 | assumption)) (by decide) (by first | omega | (simp only [bset, reduceIte, Nat.reduceEqDiff]; omega)) (by first | omega | (simp only [bset, reduceIte, Nat.reduceEqDiff]; omega)) ?_
      refine zr_iret dX7_counted_145 rfl (by first | exact jb_nar | rfl) ?_ rfl rfl rfl
      first
      | (exfalso; omega)
      | ((unfold jct; repeat (first | rw [if_pos (by omega)] | rw [if_neg (by omega)])); done)
      | ((unfold jct; repeat (first | rw [if_pos (by omega)] | rw [if_neg (by omega)])); first | rw [h3 (by omega)] | rw [h4 (by omega)] | rw [h5 (by omega)] | rw [h6 (by omega)] | rw [h10 (by omega)] | rw [h11 (by omega)] | rw [h12 (by omega)] | rw [hsl] | rw [hlo] | (rw [hc0, hds]; done) | rw [hc0]))
  by_cases hs13 : k = 13
  · first
    | (exfalso; omega)
    | (
      refine zr_tableIn (off := 145) (tgt := 146) dX7_counted_1 ⟨by omega, by omega⟩ (by first | omega | (simp only [bset, reduceIte, Nat.reduceEqDiff]; omega)) (by first | omega | (simp only [bset, reduceIte, Nat.reduceEqDiff]; omega)) (by rw [hs13]; rfl) (by decide) ?_
      refine zr_aload_n dX7_counted_146 (rfl : 146 + 1 = 147) rfl ?_
      refine zr_getf dX7_counted_147 (rfl : 147 + 3 = 150) f_X7_7 (by first | assumption | exact mw_167 | exact mw_168 | exact mw_169 | exact mw_170 | exact bk_0 | exact bk_1 | exact bk_2 | exact bk_3 | exact bk_4 | exact bk_5 | exact bk_6 | exact bk_7 | exact bk_8 | exact bk_9 | exact bk_10 | exact bk_11 | exact bk_12 | exact bk_13 | exact bk_14 | exact bk_15 | exact bk_16 | exact zup_self | exact (zup_ne (by first | assumption | omega)).trans (by first | assumption | exact zup_self) | exact (zup_ne (by first | assumption | omega)).trans ((zup_ne (by first | assumption | omega)).trans (by first | assumption | exact zup_self)) | exact (bk_out (by first | omega | (simp only [bset, reduceIte, Nat.reduceEqDiff]; omega))).trans (by first | exact bk_0 | exact bk_1 | exact bk_2 | exact bk_3 | exact bk_4 | exact bk_5 | exact bk_6 | exact bk_7 | exact bk_8 | exact bk_9 | exact bk_10 | exact bk_11 | exact bk_12 | exact bk_13 | exact bk_14 | exact bk_15 | exact bk_16 | exact cr_5 | exact cr_23 | exact cr_24 | exact cr_25 | exact cr_26 | exact cr_27 | exact cr_28 | exact cr_29 | exact cr_30 | assumption)) rfl ?_
      refine zr_iconst dX7_counted_150 (rfl : 150 + 1 = 151) ?_
      refine zr_iald dX7_counted_151 (rfl : 151 + 1 = 152) (by first | assumption | exact mw_167 | exact mw_168 | exact mw_169 | exact mw_170 | exact bk_0 | exact bk_1 | exact bk_2 | exact bk_3 | exact bk_4 | exact bk_5 | exact bk_6 | exact bk_7 | exact bk_8 | exact bk_9 | exact bk_10 | exact bk_11 | exact bk_12 | exact bk_13 | exact bk_14 | exact bk_15 | exact bk_16 | exact zup_self | exact (zup_ne (by first | assumption | omega)).trans (by first | assumption | exact zup_self) | exact (zup_ne (by first | assumption | omega)).trans ((zup_ne (by first | assumption | omega)).trans (by first | assumption | exact zup_self)) | exact (bk_out (by first | omega | (simp only [bset, reduceIte, Nat.reduceEqDiff]; omega))).trans (by first | exact bk_0 | exact bk_1 | exact bk_2 | exact bk_3 | exact bk_4 | exact bk_5 | exact bk_6 | exact bk_7 | exact bk_8 | exact bk_9 | exact bk_10 | exact bk_11 | exact bk_12 | exact bk_13 | exact bk_14 | exact bk_15 | exact bk_16 | exact cr_5 | exact cr_23 | exact cr_24 | exact cr_25 | exact cr_26 | exact cr_27 | exact cr_28 | exact cr_29 | exact cr_30 | assumption)) (by decide) (by first | omega | (simp only [bset, reduceIte, Nat.reduceEqDiff]; omega)) (by first | omega | (simp only [bset, reduceIte, Nat.reduceEqDiff]; omega)) ?_
      refine zr_iret dX7_counted_152 rfl (by first | exact jb_nar | rfl) ?_ rfl rfl rfl
      first
      | (exfalso; omega)
      | ((unfold jct; repeat (first | rw [if_pos (by omega)] | rw [if_neg (by omega)])); done)
      | ((unfold jct; repeat (first | rw [if_pos (by omega)] | rw [if_neg (by omega)])); first | rw [h3 (by omega)] | rw [h4 (by omega)] | rw [h5 (by omega)] | rw [h6 (by omega)] | rw [h10 (by omega)] | rw [h11 (by omega)] | rw [h12 (by omega)] | rw [hsl] | rw [hlo] | (rw [hc0, hds]; done) | rw [hc0]))
  refine zr_tableOut (tgt := 153) dX7_counted_1 ⟨by omega, by omega⟩ (by first | omega | (simp only [bset, reduceIte, Nat.reduceEqDiff]; omega)) (by decide) ?_
  refine zr_aload_n dX7_counted_153 (rfl : 153 + 1 = 154) rfl ?_
  refine zr_getf dX7_counted_154 (rfl : 154 + 3 = 157) f_X7_25 (by first | assumption | exact mw_167 | exact mw_168 | exact mw_169 | exact mw_170 | exact bk_0 | exact bk_1 | exact bk_2 | exact bk_3 | exact bk_4 | exact bk_5 | exact bk_6 | exact bk_7 | exact bk_8 | exact bk_9 | exact bk_10 | exact bk_11 | exact bk_12 | exact bk_13 | exact bk_14 | exact bk_15 | exact bk_16 | exact zup_self | exact (zup_ne (by first | assumption | omega)).trans (by first | assumption | exact zup_self) | exact (zup_ne (by first | assumption | omega)).trans ((zup_ne (by first | assumption | omega)).trans (by first | assumption | exact zup_self)) | exact (bk_out (by first | omega | (simp only [bset, reduceIte, Nat.reduceEqDiff]; omega))).trans (by first | exact bk_0 | exact bk_1 | exact bk_2 | exact bk_3 | exact bk_4 | exact bk_5 | exact bk_6 | exact bk_7 | exact bk_8 | exact bk_9 | exact bk_10 | exact bk_11 | exact bk_12 | exact bk_13 | exact bk_14 | exact bk_15 | exact bk_16 | exact cr_5 | exact cr_23 | exact cr_24 | exact cr_25 | exact cr_26 | exact cr_27 | exact cr_28 | exact cr_29 | exact cr_30 | assumption)) rfl ?_
  refine zr_iret dX7_counted_157 rfl (by first | exact jb_nar | rfl) ?_ rfl rfl rfl
  first
  | (exfalso; omega)
  | ((unfold jct; repeat (first | rw [if_pos (by omega)] | rw [if_neg (by omega)])); done)
  | ((unfold jct; repeat (first | rw [if_pos (by omega)] | rw [if_neg (by omega)])); first | rw [h3 (by omega)] | rw [h4 (by omega)] | rw [h5 (by omega)] | rw [h6 (by omega)] | rw [h10 (by omega)] | rw [h11 (by omega)] | rw [h12 (by omega)] | rw [hsl] | rw [hlo] | (rw [hc0, hds]; done) | rw [hc0])
theorem m_claimed (c g : Int) (hc : 0 ≤ c ∧ c < 6) (hg : 0 ≤ g ∧ g < 4) (h : mr S 0 B) (ok : jok B) (lk : jlk B) : zFn Γ md_X7_claimed (d + 4) [.ref 167, .int (jI c), .int (jI g)] (mw S st ik th tx ty w) (some (.int (jI (jic B c g)))) (mw S st ik th tx ty w) := by
  have hbo := h.bo0 c hc.1 hc.2
  have hbr := jbit_r (B 11 0) c
  unfold jic
  by_cases hb : jbit (B 11 0) c = 1
  · rw [if_pos hb]
    have hw := lk.bw c hc.1 hc.2 hb
    refine zFn.of_run (lv := [some (.ref 167), some (.int (jI c)), some (.int (jI g))]) (by decide) rfl (Nat.le_of_ble_eq_true rfl) rfl (fun n9 g9 => ?_)
    refine zr_aload_n dX7_claimed_0 (rfl : 0 + 1 = 1) rfl ?_
    refine zr_getf dX7_claimed_1 (rfl : 1 + 3 = 4) f_X7_7 (by first | assumption | exact mw_167 | exact mw_168 | exact mw_169 | exact mw_170 | exact bk_0 | exact bk_1 | exact bk_2 | exact bk_3 | exact bk_4 | exact bk_5 | exact bk_6 | exact bk_7 | exact bk_8 | exact bk_9 | exact bk_10 | exact bk_11 | exact bk_12 | exact bk_13 | exact bk_14 | exact bk_15 | exact bk_16 | exact zup_self | exact (zup_ne (by first | assumption | omega)).trans (by first | assumption | exact zup_self) | exact (zup_ne (by first | assumption | omega)).trans ((zup_ne (by first | assumption | omega)).trans (by first | assumption | exact zup_self)) | exact (bk_out (by first | omega | (simp only [bset, reduceIte, Nat.reduceEqDiff]; omega))).trans (by first | exact bk_0 | exact bk_1 | exact bk_2 | exact bk_3 | exact bk_4 | exact bk_5 | exact bk_6 | exact bk_7 | exact bk_8 | exact bk_9 | exact bk_10 | exact bk_11 | exact bk_12 | exact bk_13 | exact bk_14 | exact bk_15 | exact bk_16 | exact cr_5 | exact cr_23 | exact cr_24 | exact cr_25 | exact cr_26 | exact cr_27 | exact cr_28 | exact cr_29 | exact cr_30 | assumption)) rfl ?_
    refine zr_sipush dX7_claimed_4 (rfl : 4 + 3 = 7) (by decide) ?_
    refine zr_iload_n dX7_claimed_7 (rfl : 7 + 1 = 8) rfl ?_
    refine zr_iadd dX7_claimed_8 (rfl : 8 + 1 = 9) (by first | exact jI_add _ _ | rfl) ?_
    refine zr_iald dX7_claimed_9 (rfl : 9 + 1 = 10) (by first | assumption | exact mw_167 | exact mw_168 | exact mw_169 | exact mw_170 | exact bk_0 | exact bk_1 | exact bk_2 | exact bk_3 | exact bk_4 | exact bk_5 | exact bk_6 | exact bk_7 | exact bk_8 | exact bk_9 | exact bk_10 | exact bk_11 | exact bk_12 | exact bk_13 | exact bk_14 | exact bk_15 | exact bk_16 | exact zup_self | exact (zup_ne (by first | assumption | omega)).trans (by first | assumption | exact zup_self) | exact (zup_ne (by first | assumption | omega)).trans ((zup_ne (by first | assumption | omega)).trans (by first | assumption | exact zup_self)) | exact (bk_out (by first | omega | (simp only [bset, reduceIte, Nat.reduceEqDiff]; omega))).trans (by first | exact bk_0 | exact bk_1 | exact bk_2 | exact bk_3 | exact bk_4 | exact bk_5 | exact bk_6 | exact bk_7 | exact bk_8 | exact bk_9 | exact bk_10 | exact bk_11 | exact bk_12 | exact bk_13 | exact bk_14 | exact bk_15 | exact bk_16 | exact cr_5 | exact cr_23 | exact cr_24 | exact cr_25 | exact cr_26 | exact cr_27 | exact cr_28 | exact cr_29 | exact cr_30 | assumption)) (by decide) (by first | omega | (simp only [bset, reduceIte, Nat.reduceEqDiff]; omega)) (by first | omega | (simp only [bset, reduceIte, Nat.reduceEqDiff]; omega)) ?_
    refine zr_if_ne (tgt := 17) dX7_claimed_10 (by decide) (rfl : 10 + 3 = 13) (by first | exact jb_iff | exact jI_z (by first | omega | (simp only [bset, reduceIte, Nat.reduceEqDiff]; omega)) (by first | omega | (simp only [bset, reduceIte, Nat.reduceEqDiff]; omega))) (fun h10 => ?_) (fun h10 => ?_)
    · first
      | (exfalso; omega)
      | (
        refine zr_aload_n dX7_claimed_17 (rfl : 17 + 1 = 18) rfl ?_
        refine zr_iload_n dX7_claimed_18 (rfl : 18 + 1 = 19) rfl ?_
        refine zr_iload_n dX7_claimed_19 (rfl : 19 + 1 = 20) rfl ?_
        refine zr_fnV dX7_claimed_20 (rfl : 20 + 3 = 23) l_X7_106 (m_why c g hc hg hw h ok lk) (by first | assumption | exact mw_167 | exact mw_168 | exact mw_169 | exact mw_170 | exact bk_0 | exact bk_1 | exact bk_2 | exact bk_3 | exact bk_4 | exact bk_5 | exact bk_6 | exact bk_7 | exact bk_8 | exact bk_9 | exact bk_10 | exact bk_11 | exact bk_12 | exact bk_13 | exact bk_14 | exact bk_15 | exact bk_16 | exact zup_self | exact (zup_ne (by first | assumption | omega)).trans (by first | assumption | exact zup_self) | exact (zup_ne (by first | assumption | omega)).trans ((zup_ne (by first | assumption | omega)).trans (by first | assumption | exact zup_self)) | exact (bk_out (by first | omega | (simp only [bset, reduceIte, Nat.reduceEqDiff]; omega))).trans (by first | exact bk_0 | exact bk_1 | exact bk_2 | exact bk_3 | exact bk_4 | exact bk_5 | exact bk_6 | exact bk_7 | exact bk_8 | exact bk_9 | exact bk_10 | exact bk_11 | exact bk_12 | exact bk_13 | exact bk_14 | exact bk_15 | exact bk_16 | exact cr_5 | exact cr_23 | exact cr_24 | exact cr_25 | exact cr_26 | exact cr_27 | exact cr_28 | exact cr_29 | exact cr_30 | assumption)) rfl rfl rfl (Nat.le_of_ble_eq_true rfl) ?_
        refine zr_iret dX7_claimed_23 rfl (by first | exact jb_nar | rfl) ?_ rfl rfl rfl
        first | rfl | rw [jb_pos (by first | assumption | omega)] | rw [jb_neg (by first | assumption | omega)] | rw [if_pos (by first | assumption | omega)] | rw [if_neg (by first | assumption | omega)])
    · first
      | (exfalso; omega)
      | (
        exfalso
        omega)
  · rw [if_neg hb]
    refine zFn.of_run (lv := [some (.ref 167), some (.int (jI c)), some (.int (jI g))]) (by decide) rfl (Nat.le_of_ble_eq_true rfl) rfl (fun n9 g9 => ?_)
    refine zr_aload_n dX7_claimed_0 (rfl : 0 + 1 = 1) rfl ?_
    refine zr_getf dX7_claimed_1 (rfl : 1 + 3 = 4) f_X7_7 (by first | assumption | exact mw_167 | exact mw_168 | exact mw_169 | exact mw_170 | exact bk_0 | exact bk_1 | exact bk_2 | exact bk_3 | exact bk_4 | exact bk_5 | exact bk_6 | exact bk_7 | exact bk_8 | exact bk_9 | exact bk_10 | exact bk_11 | exact bk_12 | exact bk_13 | exact bk_14 | exact bk_15 | exact bk_16 | exact zup_self | exact (zup_ne (by first | assumption | omega)).trans (by first | assumption | exact zup_self) | exact (zup_ne (by first | assumption | omega)).trans ((zup_ne (by first | assumption | omega)).trans (by first | assumption | exact zup_self)) | exact (bk_out (by first | omega | (simp only [bset, reduceIte, Nat.reduceEqDiff]; omega))).trans (by first | exact bk_0 | exact bk_1 | exact bk_2 | exact bk_3 | exact bk_4 | exact bk_5 | exact bk_6 | exact bk_7 | exact bk_8 | exact bk_9 | exact bk_10 | exact bk_11 | exact bk_12 | exact bk_13 | exact bk_14 | exact bk_15 | exact bk_16 | exact cr_5 | exact cr_23 | exact cr_24 | exact cr_25 | exact cr_26 | exact cr_27 | exact cr_28 | exact cr_29 | exact cr_30 | assumption)) rfl ?_
    refine zr_sipush dX7_claimed_4 (rfl : 4 + 3 = 7) (by decide) ?_
    refine zr_iload_n dX7_claimed_7 (rfl : 7 + 1 = 8) rfl ?_
    refine zr_iadd dX7_claimed_8 (rfl : 8 + 1 = 9) (by first | exact jI_add _ _ | rfl) ?_
    refine zr_iald dX7_claimed_9 (rfl : 9 + 1 = 10) (by first | assumption | exact mw_167 | exact mw_168 | exact mw_169 | exact mw_170 | exact bk_0 | exact bk_1 | exact bk_2 | exact bk_3 | exact bk_4 | exact bk_5 | exact bk_6 | exact bk_7 | exact bk_8 | exact bk_9 | exact bk_10 | exact bk_11 | exact bk_12 | exact bk_13 | exact bk_14 | exact bk_15 | exact bk_16 | exact zup_self | exact (zup_ne (by first | assumption | omega)).trans (by first | assumption | exact zup_self) | exact (zup_ne (by first | assumption | omega)).trans ((zup_ne (by first | assumption | omega)).trans (by first | assumption | exact zup_self)) | exact (bk_out (by first | omega | (simp only [bset, reduceIte, Nat.reduceEqDiff]; omega))).trans (by first | exact bk_0 | exact bk_1 | exact bk_2 | exact bk_3 | exact bk_4 | exact bk_5 | exact bk_6 | exact bk_7 | exact bk_8 | exact bk_9 | exact bk_10 | exact bk_11 | exact bk_12 | exact bk_13 | exact bk_14 | exact bk_15 | exact bk_16 | exact cr_5 | exact cr_23 | exact cr_24 | exact cr_25 | exact cr_26 | exact cr_27 | exact cr_28 | exact cr_29 | exact cr_30 | assumption)) (by decide) (by first | omega | (simp only [bset, reduceIte, Nat.reduceEqDiff]; omega)) (by first | omega | (simp only [bset, reduceIte, Nat.reduceEqDiff]; omega)) ?_
    refine zr_if_ne (tgt := 17) dX7_claimed_10 (by decide) (rfl : 10 + 3 = 13) (by first | exact jb_iff | exact jI_z (by first | omega | (simp only [bset, reduceIte, Nat.reduceEqDiff]; omega)) (by first | omega | (simp only [bset, reduceIte, Nat.reduceEqDiff]; omega))) (fun h10 => ?_) (fun h10 => ?_)
    · first
      | (exfalso; omega)
      | (
        exfalso
        omega)
    · first
      | (exfalso; omega)
      | (
        refine zr_iconst dX7_claimed_13 (rfl : 13 + 1 = 14) ?_
        refine zr_goto (tgt := 23) dX7_claimed_14 (by decide) ?_
        refine zr_iret dX7_claimed_23 rfl (by first | exact jb_nar | rfl) ?_ rfl rfl rfl
        first | rfl | rw [jb_pos (by first | assumption | omega)] | rw [jb_neg (by first | assumption | omega)] | rw [if_pos (by first | assumption | omega)] | rw [if_neg (by first | assumption | omega)])
end PZ

