/-! the reference writes -/
theorem jup_same (p : Int → Int) (z : Int) : jup p z (p z) = p := by
  funext k
  unfold jup
  split
  · rename_i h
    rw [h]
  · rfl
/-- all but the slot at b -/
def jagb (b : Int) (S' S : Int → Int) : Prop := ∀ z, z < b ∨ b + 494 ≤ z → S' z = S z
theorem jagb.trans {b : Int} {S1 S2 S3 : Int → Int} (h1 : jagb b S1 S2) (h2 : jagb b S2 S3) : jagb b S1 S3 := fun z hz => (h1 z hz).trans (h2 z hz)
theorem jagb.refl {b : Int} {S : Int → Int} : jagb b S S := fun _ _ => rfl
theorem jagb_up {b : Int} {S : Int → Int} {z v : Int} (h : b ≤ z ∧ z < b + 494) : jagb b (jup S z v) S := fun k hk => jup_ne (by omega)
section WR
variable {Γ : zΓ} {d : Nat} {S : Int → Int} {st : Int} {ik : Int → Int} {th : Int} {tx : Int → Int} {ty : Int} {w : zW} {B : zB}
theorem mr_st {n r : Int} (h : mr S 0 B) (hn : 1 ≤ n ∧ n ≤ 90) : mr (jup S (4 + n) (1 + r)) 0 (jst B r n) := by
  refine ⟨?_, ?_, ?_, ?_, ?_, ?_, ?_, ?_, ?_, ?_, ?_, ?_, ?_, ?_, ?_, ?_, ?_, ?_, ?_, ?_, ?_⟩
  · intro k h0 h1
    rw [jup_ne (by omega)]
    exact h.se k h0 h1
  · rw [jup_ne (by omega)]
    exact h.lo
  · intro m h0 h1
    show _ = jup (B 1) n r m + 1
    by_cases e : m = n
    · rw [jup_at (by omega), jup_at e]
      omega
    · rw [jup_ne (by omega), jup_ne e]
      exact h.pl m h0 h1
  · intro n h0 h1
    rw [jup_ne (by omega)]
    exact h.da n h0 h1
  · intro n h0 h1
    rw [jup_ne (by omega)]
    exact h.sa n h0 h1
  · intro k h0 h1
    have h1 : k < B 12 0 := h1
    rw [jup_ne (by omega)]
    exact h.dr k h0 h1
  · intro k h0 h1
    have h1 : k < B 12 0 := h1
    rw [jup_ne (by omega)]
    exact h.sd k h0 h1
  · rw [jup_ne (by omega)]
    exact h.ca
  · intro c h0 h1
    rw [jup_ne (by omega)]
    exact h.bo c h0 h1
  · intro c h0 h1
    rw [jup_ne (by omega)]
    exact h.wo c h0 h1
  · intro c h0 h1
    rw [jup_ne (by omega)]
    exact h.co c h0 h1
  · intro c h0 h1
    rw [jup_ne (by omega)]
    exact h.dn c h0 h1
  · intro g h0 h1
    rw [jup_ne (by omega)]
    exact h.ga g h0 h1
  · rw [jup_ne (by omega)]
    exact h.po
  · rw [jup_ne (by omega)]
    exact h.ci
  · rw [jup_ne (by omega)]
    exact h.pa
  · rw [jup_ne (by omega)]
    exact h.ho
  · rw [jup_ne (by omega)]
    exact h.wi
  · rw [jup_ne (by omega)]
    exact h.tu
  · rw [jup_ne (by omega)]
    exact h.ev
  · rw [jup_ne (by omega)]
    exact h.sl
theorem m_puts (c r n : Int) (hc : 0 ≤ c ∧ c < 6) (hr : 0 ≤ r ∧ r < 3) (hn : 1 ≤ n ∧ n ≤ 90) (h : mr S 0 B) (ok : jok B) (lk : jlk B) : zFe Γ md_X7_puts (d + 3) [.ref 167, .int (jI c), .int (jI r), .int (jI n)] (mw S st ik th tx ty w) (zMP (some (.int (jI (jrap B (c * 3 + r) n)))) (fun S' => jagb 0 S' S ∧ mr S' 0 (jpl B (c * 3 + r) n)) st ik th tx ty w) := by
  have hj := jrap_r B (c * 3 + r) n
  refine zFe.of_run (lv := [some (.ref 167), some (.int (jI c)), some (.int (jI r)), some (.int (jI n)), none]) (by decide) rfl (Nat.le_of_ble_eq_true rfl) rfl (fun n9 g9 => ?_)
  unfold jpl
  refine zr_aload_n dX7_puts_0 (rfl : 0 + 1 = 1) rfl ?_
  refine zr_iload_n dX7_puts_1 (rfl : 1 + 1 = 2) rfl ?_
  refine zr_iload_n dX7_puts_2 (rfl : 2 + 1 = 3) rfl ?_
  refine zr_iload_n dX7_puts_3 (rfl : 3 + 1 = 4) rfl ?_
  refine zr_fnV dX7_puts_4 (rfl : 4 + 3 = 7) l_X7_47 (m_wrong c r n hc hr hn h ok lk) (by first | assumption | exact mw_167 | exact mw_168 | exact mw_169 | exact mw_170 | exact bk_0 | exact bk_1 | exact bk_2 | exact bk_3 | exact bk_4 | exact bk_5 | exact bk_6 | exact bk_7 | exact bk_8 | exact bk_9 | exact bk_10 | exact bk_11 | exact bk_12 | exact bk_13 | exact bk_14 | exact bk_15 | exact bk_16 | exact zup_self | exact (zup_ne (by first | assumption | omega)).trans (by first | assumption | exact zup_self) | exact (zup_ne (by first | assumption | omega)).trans ((zup_ne (by first | assumption | omega)).trans (by first | assumption | exact zup_self)) | exact (bk_out (by first | omega | (simp only [bset, reduceIte, Nat.reduceEqDiff]; omega))).trans (by first | exact bk_0 | exact bk_1 | exact bk_2 | exact bk_3 | exact bk_4 | exact bk_5 | exact bk_6 | exact bk_7 | exact bk_8 | exact bk_9 | exact bk_10 | exact bk_11 | exact bk_12 | exact bk_13 | exact bk_14 | exact bk_15 | exact bk_16 | exact cr_5 | exact cr_23 | exact cr_24 | exact cr_25 | exact cr_26 | exact cr_27 | exact cr_28 | exact cr_29 | exact cr_30 | assumption)) rfl rfl rfl (Nat.le_of_ble_eq_true rfl) ?_
  refine zr_istore (lv' := [_, _, _, _, _]) dX7_puts_7 (rfl : 7 + 2 = 9) (Nat.le_of_ble_eq_true rfl) rfl ?_
  refine zr_aload_n dX7_puts_9 (rfl : 9 + 1 = 10) rfl ?_
  refine zr_getf dX7_puts_10 (rfl : 10 + 3 = 13) f_X7_7 (by first | assumption | exact mw_167 | exact mw_168 | exact mw_169 | exact mw_170 | exact bk_0 | exact bk_1 | exact bk_2 | exact bk_3 | exact bk_4 | exact bk_5 | exact bk_6 | exact bk_7 | exact bk_8 | exact bk_9 | exact bk_10 | exact bk_11 | exact bk_12 | exact bk_13 | exact bk_14 | exact bk_15 | exact bk_16 | exact zup_self | exact (zup_ne (by first | assumption | omega)).trans (by first | assumption | exact zup_self) | exact (zup_ne (by first | assumption | omega)).trans ((zup_ne (by first | assumption | omega)).trans (by first | assumption | exact zup_self)) | exact (bk_out (by first | omega | (simp only [bset, reduceIte, Nat.reduceEqDiff]; omega))).trans (by first | exact bk_0 | exact bk_1 | exact bk_2 | exact bk_3 | exact bk_4 | exact bk_5 | exact bk_6 | exact bk_7 | exact bk_8 | exact bk_9 | exact bk_10 | exact bk_11 | exact bk_12 | exact bk_13 | exact bk_14 | exact bk_15 | exact bk_16 | exact cr_5 | exact cr_23 | exact cr_24 | exact cr_25 | exact cr_26 | exact cr_27 | exact cr_28 | exact cr_29 | exact cr_30 | assumption)) rfl ?_
  refine zr_iconst dX7_puts_13 (rfl : 13 + 1 = 14) ?_
  refine zr_iload_n dX7_puts_14 (rfl : 14 + 1 = 15) rfl ?_
  refine zr_iadd dX7_puts_15 (rfl : 15 + 1 = 16) (by first | exact jI_add _ _ | rfl) ?_
  refine zr_iload dX7_puts_16 (rfl : 16 + 2 = 18) rfl ?_
  refine zr_if_ne (tgt := 31) dX7_puts_18 (by decide) (rfl : 18 + 3 = 21) (by first | exact jb_iff | exact jI_z (by first | omega | (simp only [bset, reduceIte, Nat.reduceEqDiff]; omega)) (by first | omega | (simp only [bset, reduceIte, Nat.reduceEqDiff]; omega))) (fun h18 => ?_) (fun h18 => ?_)
  · first
    | (exfalso; omega)
    | (
      refine zr_aload_n dX7_puts_31 (rfl : 31 + 1 = 32) rfl ?_
      refine zr_getf dX7_puts_32 (rfl : 32 + 3 = 35) f_X7_7 (by first | assumption | exact mw_167 | exact mw_168 | exact mw_169 | exact mw_170 | exact bk_0 | exact bk_1 | exact bk_2 | exact bk_3 | exact bk_4 | exact bk_5 | exact bk_6 | exact bk_7 | exact bk_8 | exact bk_9 | exact bk_10 | exact bk_11 | exact bk_12 | exact bk_13 | exact bk_14 | exact bk_15 | exact bk_16 | exact zup_self | exact (zup_ne (by first | assumption | omega)).trans (by first | assumption | exact zup_self) | exact (zup_ne (by first | assumption | omega)).trans ((zup_ne (by first | assumption | omega)).trans (by first | assumption | exact zup_self)) | exact (bk_out (by first | omega | (simp only [bset, reduceIte, Nat.reduceEqDiff]; omega))).trans (by first | exact bk_0 | exact bk_1 | exact bk_2 | exact bk_3 | exact bk_4 | exact bk_5 | exact bk_6 | exact bk_7 | exact bk_8 | exact bk_9 | exact bk_10 | exact bk_11 | exact bk_12 | exact bk_13 | exact bk_14 | exact bk_15 | exact bk_16 | exact cr_5 | exact cr_23 | exact cr_24 | exact cr_25 | exact cr_26 | exact cr_27 | exact cr_28 | exact cr_29 | exact cr_30 | assumption)) rfl ?_
      refine zr_iconst dX7_puts_35 (rfl : 35 + 1 = 36) ?_
      refine zr_iload_n dX7_puts_36 (rfl : 36 + 1 = 37) rfl ?_
      refine zr_iadd dX7_puts_37 (rfl : 37 + 1 = 38) (by first | exact jI_add _ _ | rfl) ?_
      refine zr_iald dX7_puts_38 (rfl : 38 + 1 = 39) (by first | assumption | exact mw_167 | exact mw_168 | exact mw_169 | exact mw_170 | exact bk_0 | exact bk_1 | exact bk_2 | exact bk_3 | exact bk_4 | exact bk_5 | exact bk_6 | exact bk_7 | exact bk_8 | exact bk_9 | exact bk_10 | exact bk_11 | exact bk_12 | exact bk_13 | exact bk_14 | exact bk_15 | exact bk_16 | exact zup_self | exact (zup_ne (by first | assumption | omega)).trans (by first | assumption | exact zup_self) | exact (zup_ne (by first | assumption | omega)).trans ((zup_ne (by first | assumption | omega)).trans (by first | assumption | exact zup_self)) | exact (bk_out (by first | omega | (simp only [bset, reduceIte, Nat.reduceEqDiff]; omega))).trans (by first | exact bk_0 | exact bk_1 | exact bk_2 | exact bk_3 | exact bk_4 | exact bk_5 | exact bk_6 | exact bk_7 | exact bk_8 | exact bk_9 | exact bk_10 | exact bk_11 | exact bk_12 | exact bk_13 | exact bk_14 | exact bk_15 | exact bk_16 | exact cr_5 | exact cr_23 | exact cr_24 | exact cr_25 | exact cr_26 | exact cr_27 | exact cr_28 | exact cr_29 | exact cr_30 | assumption)) (by decide) (by first | omega | (simp only [bset, reduceIte, Nat.reduceEqDiff]; omega)) (by first | omega | (simp only [bset, reduceIte, Nat.reduceEqDiff]; omega)) ?_
      refine zr_iast dX7_puts_39 (rfl : 39 + 1 = 40) (by first | assumption | exact mw_167 | exact mw_168 | exact mw_169 | exact mw_170 | exact bk_0 | exact bk_1 | exact bk_2 | exact bk_3 | exact bk_4 | exact bk_5 | exact bk_6 | exact bk_7 | exact bk_8 | exact bk_9 | exact bk_10 | exact bk_11 | exact bk_12 | exact bk_13 | exact bk_14 | exact bk_15 | exact bk_16 | exact zup_self | exact (zup_ne (by first | assumption | omega)).trans (by first | assumption | exact zup_self) | exact (zup_ne (by first | assumption | omega)).trans ((zup_ne (by first | assumption | omega)).trans (by first | assumption | exact zup_self)) | exact (bk_out (by first | omega | (simp only [bset, reduceIte, Nat.reduceEqDiff]; omega))).trans (by first | exact bk_0 | exact bk_1 | exact bk_2 | exact bk_3 | exact bk_4 | exact bk_5 | exact bk_6 | exact bk_7 | exact bk_8 | exact bk_9 | exact bk_10 | exact bk_11 | exact bk_12 | exact bk_13 | exact bk_14 | exact bk_15 | exact bk_16 | exact cr_5 | exact cr_23 | exact cr_24 | exact cr_25 | exact cr_26 | exact cr_27 | exact cr_28 | exact cr_29 | exact cr_30 | assumption)) (by decide) (by first | omega | (simp only [bset, reduceIte, Nat.reduceEqDiff]; omega)) (by first | omega | (simp only [bset, reduceIte, Nat.reduceEqDiff]; omega)) rfl ?_
      rw [mwu_S]
      refine zr_iload dX7_puts_40 (rfl : 40 + 2 = 42) rfl ?_
      refine zr_ireE dX7_puts_42 rfl (by first | rfl | exact jb_nar) ?_
      refine ⟨rfl, _, ⟨jagb_up (by omega), ?_⟩, rfl⟩
      first
      | (rw [if_neg (by assumption), jup_same]; exact h)
      | (rw [if_pos (by omega), show (1 : Int) + 3 * c + r = 1 + (c * 3 + r) by omega]; exact mr_st h hn))
  · first
    | (exfalso; omega)
    | (
      refine zr_iconst dX7_puts_21 (rfl : 21 + 1 = 22) ?_
      refine zr_iconst dX7_puts_22 (rfl : 22 + 1 = 23) ?_
      refine zr_iload_n dX7_puts_23 (rfl : 23 + 1 = 24) rfl ?_
      refine zr_imul dX7_puts_24 (rfl : 24 + 1 = 25) (by first | exact jI_mul _ _ | rfl) ?_
      refine zr_iadd dX7_puts_25 (rfl : 25 + 1 = 26) (by first | exact jI_add _ _ | rfl) ?_
      refine zr_iload_n dX7_puts_26 (rfl : 26 + 1 = 27) rfl ?_
      refine zr_iadd dX7_puts_27 (rfl : 27 + 1 = 28) (by first | exact jI_add _ _ | rfl) ?_
      refine zr_goto (tgt := 39) dX7_puts_28 (by decide) ?_
      refine zr_iast dX7_puts_39 (rfl : 39 + 1 = 40) (by first | assumption | exact mw_167 | exact mw_168 | exact mw_169 | exact mw_170 | exact bk_0 | exact bk_1 | exact bk_2 | exact bk_3 | exact bk_4 | exact bk_5 | exact bk_6 | exact bk_7 | exact bk_8 | exact bk_9 | exact bk_10 | exact bk_11 | exact bk_12 | exact bk_13 | exact bk_14 | exact bk_15 | exact bk_16 | exact zup_self | exact (zup_ne (by first | assumption | omega)).trans (by first | assumption | exact zup_self) | exact (zup_ne (by first | assumption | omega)).trans ((zup_ne (by first | assumption | omega)).trans (by first | assumption | exact zup_self)) | exact (bk_out (by first | omega | (simp only [bset, reduceIte, Nat.reduceEqDiff]; omega))).trans (by first | exact bk_0 | exact bk_1 | exact bk_2 | exact bk_3 | exact bk_4 | exact bk_5 | exact bk_6 | exact bk_7 | exact bk_8 | exact bk_9 | exact bk_10 | exact bk_11 | exact bk_12 | exact bk_13 | exact bk_14 | exact bk_15 | exact bk_16 | exact cr_5 | exact cr_23 | exact cr_24 | exact cr_25 | exact cr_26 | exact cr_27 | exact cr_28 | exact cr_29 | exact cr_30 | assumption)) (by decide) (by first | omega | (simp only [bset, reduceIte, Nat.reduceEqDiff]; omega)) (by first | omega | (simp only [bset, reduceIte, Nat.reduceEqDiff]; omega)) rfl ?_
      rw [mwu_S]
      refine zr_iload dX7_puts_40 (rfl : 40 + 2 = 42) rfl ?_
      refine zr_ireE dX7_puts_42 rfl (by first | rfl | exact jb_nar) ?_
      refine ⟨rfl, _, ⟨jagb_up (by omega), ?_⟩, rfl⟩
      first
      | (rw [if_neg (by assumption), jup_same]; exact h)
      | (rw [if_pos (by omega), show (1 : Int) + 3 * c + r = 1 + (c * 3 + r) by omega]; exact mr_st h hn))
theorem m_lot (b t : Int) (hb : 0 ≤ b ∧ b ≤ 4446) (ht : 1 ≤ t ∧ t ≤ 90) (h : mr S b B) (ok : jok B) : zFe Γ md_X7_lot d [.ref 167, .int (jI b), .int (jI t)] (mw S st ik th tx ty w) (zMP (some (.int (jI (jlot (B 24 0) % t)))) (fun S' => jagb b S' S ∧ mr S' b (bset B 24 (fun _ => jlot (B 24 0)))) st ik th tx ty w) := by
  have hlo := h.lo
  have hl := ok.lo
  have hl2 := jlot_r hl
  refine zFe.of_run (lv := [some (.ref 167), some (.int (jI b)), some (.int (jI t))]) (by decide) rfl (Nat.le_of_ble_eq_true rfl) rfl (fun n9 g9 => ?_)
  refine zr_aload_n dX7_lot_0 (rfl : 0 + 1 = 1) rfl ?_
  refine zr_getf dX7_lot_1 (rfl : 1 + 3 = 4) f_X7_7 (by first | assumption | exact mw_167 | exact mw_168 | exact mw_169 | exact mw_170 | exact bk_0 | exact bk_1 | exact bk_2 | exact bk_3 | exact bk_4 | exact bk_5 | exact bk_6 | exact bk_7 | exact bk_8 | exact bk_9 | exact bk_10 | exact bk_11 | exact bk_12 | exact bk_13 | exact bk_14 | exact bk_15 | exact bk_16 | exact zup_self | exact (zup_ne (by first | assumption | omega)).trans (by first | assumption | exact zup_self) | exact (zup_ne (by first | assumption | omega)).trans ((zup_ne (by first | assumption | omega)).trans (by first | assumption | exact zup_self)) | exact (bk_out (by first | omega | (simp only [bset, reduceIte, Nat.reduceEqDiff]; omega))).trans (by first | exact bk_0 | exact bk_1 | exact bk_2 | exact bk_3 | exact bk_4 | exact bk_5 | exact bk_6 | exact bk_7 | exact bk_8 | exact bk_9 | exact bk_10 | exact bk_11 | exact bk_12 | exact bk_13 | exact bk_14 | exact bk_15 | exact bk_16 | exact cr_5 | exact cr_23 | exact cr_24 | exact cr_25 | exact cr_26 | exact cr_27 | exact cr_28 | exact cr_29 | exact cr_30 | assumption)) rfl ?_
  refine zr_iload_n dX7_lot_4 (rfl : 4 + 1 = 5) rfl ?_
  refine zr_iconst dX7_lot_5 (rfl : 5 + 1 = 6) ?_
  refine zr_iadd dX7_lot_6 (rfl : 6 + 1 = 7) (by first | exact jI_add _ _ | rfl) ?_
  refine zr_aload_n dX7_lot_7 (rfl : 7 + 1 = 8) rfl ?_
  refine zr_getf dX7_lot_8 (rfl : 8 + 3 = 11) f_X7_7 (by first | assumption | exact mw_167 | exact mw_168 | exact mw_169 | exact mw_170 | exact bk_0 | exact bk_1 | exact bk_2 | exact bk_3 | exact bk_4 | exact bk_5 | exact bk_6 | exact bk_7 | exact bk_8 | exact bk_9 | exact bk_10 | exact bk_11 | exact bk_12 | exact bk_13 | exact bk_14 | exact bk_15 | exact bk_16 | exact zup_self | exact (zup_ne (by first | assumption | omega)).trans (by first | assumption | exact zup_self) | exact (zup_ne (by first | assumption | omega)).trans ((zup_ne (by first | assumption | omega)).trans (by first | assumption | exact zup_self)) | exact (bk_out (by first | omega | (simp only [bset, reduceIte, Nat.reduceEqDiff]; omega))).trans (by first | exact bk_0 | exact bk_1 | exact bk_2 | exact bk_3 | exact bk_4 | exact bk_5 | exact bk_6 | exact bk_7 | exact bk_8 | exact bk_9 | exact bk_10 | exact bk_11 | exact bk_12 | exact bk_13 | exact bk_14 | exact bk_15 | exact bk_16 | exact cr_5 | exact cr_23 | exact cr_24 | exact cr_25 | exact cr_26 | exact cr_27 | exact cr_28 | exact cr_29 | exact cr_30 | assumption)) rfl ?_
  refine zr_iload_n dX7_lot_11 (rfl : 11 + 1 = 12) rfl ?_
  refine zr_iconst dX7_lot_12 (rfl : 12 + 1 = 13) ?_
  refine zr_iadd dX7_lot_13 (rfl : 13 + 1 = 14) (by first | exact jI_add _ _ | rfl) ?_
  refine zr_iald dX7_lot_14 (rfl : 14 + 1 = 15) (by first | assumption | exact mw_167 | exact mw_168 | exact mw_169 | exact mw_170 | exact bk_0 | exact bk_1 | exact bk_2 | exact bk_3 | exact bk_4 | exact bk_5 | exact bk_6 | exact bk_7 | exact bk_8 | exact bk_9 | exact bk_10 | exact bk_11 | exact bk_12 | exact bk_13 | exact bk_14 | exact bk_15 | exact bk_16 | exact zup_self | exact (zup_ne (by first | assumption | omega)).trans (by first | assumption | exact zup_self) | exact (zup_ne (by first | assumption | omega)).trans ((zup_ne (by first | assumption | omega)).trans (by first | assumption | exact zup_self)) | exact (bk_out (by first | omega | (simp only [bset, reduceIte, Nat.reduceEqDiff]; omega))).trans (by first | exact bk_0 | exact bk_1 | exact bk_2 | exact bk_3 | exact bk_4 | exact bk_5 | exact bk_6 | exact bk_7 | exact bk_8 | exact bk_9 | exact bk_10 | exact bk_11 | exact bk_12 | exact bk_13 | exact bk_14 | exact bk_15 | exact bk_16 | exact cr_5 | exact cr_23 | exact cr_24 | exact cr_25 | exact cr_26 | exact cr_27 | exact cr_28 | exact cr_29 | exact cr_30 | assumption)) (by decide) (by first | omega | (simp only [bset, reduceIte, Nat.reduceEqDiff]; omega)) (by first | omega | (simp only [bset, reduceIte, Nat.reduceEqDiff]; omega)) ?_
  rw [hlo]
  refine zr_sipush dX7_lot_15 (rfl : 15 + 3 = 18) (by decide) ?_
  refine zr_imul dX7_lot_18 (rfl : 18 + 1 = 19) (by first | exact jI_mul _ _ | rfl) ?_
  refine zr_sipush dX7_lot_19 (rfl : 19 + 3 = 22) (by decide) ?_
  refine zr_iadd dX7_lot_22 (rfl : 22 + 1 = 23) (by first | exact jI_add _ _ | rfl) ?_
  refine zr_sipush dX7_lot_23 (rfl : 23 + 3 = 26) (by decide) ?_
  refine zr_irem dX7_lot_26 (rfl : 26 + 1 = 27) (fun q => absurd ((jI_z (by first | omega | (simp only [bset, reduceIte, Nat.reduceEqDiff]; omega)) (by first | omega | (simp only [bset, reduceIte, Nat.reduceEqDiff]; omega))).mp q) (by first | omega | (simp only [bset, reduceIte, Nat.reduceEqDiff]; omega))) (jI_rem (by first | omega | (simp only [bset, reduceIte, Nat.reduceEqDiff]; omega)) (by first | omega | (simp only [bset, reduceIte, Nat.reduceEqDiff]; omega)) (by first | omega | (simp only [bset, reduceIte, Nat.reduceEqDiff]; omega)) (by first | omega | (simp only [bset, reduceIte, Nat.reduceEqDiff]; omega))) ?_
  refine zr_iast dX7_lot_27 (rfl : 27 + 1 = 28) (by first | assumption | exact mw_167 | exact mw_168 | exact mw_169 | exact mw_170 | exact bk_0 | exact bk_1 | exact bk_2 | exact bk_3 | exact bk_4 | exact bk_5 | exact bk_6 | exact bk_7 | exact bk_8 | exact bk_9 | exact bk_10 | exact bk_11 | exact bk_12 | exact bk_13 | exact bk_14 | exact bk_15 | exact bk_16 | exact zup_self | exact (zup_ne (by first | assumption | omega)).trans (by first | assumption | exact zup_self) | exact (zup_ne (by first | assumption | omega)).trans ((zup_ne (by first | assumption | omega)).trans (by first | assumption | exact zup_self)) | exact (bk_out (by first | omega | (simp only [bset, reduceIte, Nat.reduceEqDiff]; omega))).trans (by first | exact bk_0 | exact bk_1 | exact bk_2 | exact bk_3 | exact bk_4 | exact bk_5 | exact bk_6 | exact bk_7 | exact bk_8 | exact bk_9 | exact bk_10 | exact bk_11 | exact bk_12 | exact bk_13 | exact bk_14 | exact bk_15 | exact bk_16 | exact cr_5 | exact cr_23 | exact cr_24 | exact cr_25 | exact cr_26 | exact cr_27 | exact cr_28 | exact cr_29 | exact cr_30 | assumption)) (by decide) (by first | omega | (simp only [bset, reduceIte, Nat.reduceEqDiff]; omega)) (by first | omega | (simp only [bset, reduceIte, Nat.reduceEqDiff]; omega)) rfl ?_
  rw [mwu_S, show (B 24 0 * 421 + 1663) % 10000 = jlot (B 24 0) from rfl]
  refine zr_aload_n dX7_lot_28 (rfl : 28 + 1 = 29) rfl ?_
  refine zr_getf dX7_lot_29 (rfl : 29 + 3 = 32) f_X7_7 (by first | assumption | exact mw_167 | exact mw_168 | exact mw_169 | exact mw_170 | exact bk_0 | exact bk_1 | exact bk_2 | exact bk_3 | exact bk_4 | exact bk_5 | exact bk_6 | exact bk_7 | exact bk_8 | exact bk_9 | exact bk_10 | exact bk_11 | exact bk_12 | exact bk_13 | exact bk_14 | exact bk_15 | exact bk_16 | exact zup_self | exact (zup_ne (by first | assumption | omega)).trans (by first | assumption | exact zup_self) | exact (zup_ne (by first | assumption | omega)).trans ((zup_ne (by first | assumption | omega)).trans (by first | assumption | exact zup_self)) | exact (bk_out (by first | omega | (simp only [bset, reduceIte, Nat.reduceEqDiff]; omega))).trans (by first | exact bk_0 | exact bk_1 | exact bk_2 | exact bk_3 | exact bk_4 | exact bk_5 | exact bk_6 | exact bk_7 | exact bk_8 | exact bk_9 | exact bk_10 | exact bk_11 | exact bk_12 | exact bk_13 | exact bk_14 | exact bk_15 | exact bk_16 | exact cr_5 | exact cr_23 | exact cr_24 | exact cr_25 | exact cr_26 | exact cr_27 | exact cr_28 | exact cr_29 | exact cr_30 | assumption)) rfl ?_
  refine zr_iload_n dX7_lot_32 (rfl : 32 + 1 = 33) rfl ?_
  refine zr_iconst dX7_lot_33 (rfl : 33 + 1 = 34) ?_
  refine zr_iadd dX7_lot_34 (rfl : 34 + 1 = 35) (by first | exact jI_add _ _ | rfl) ?_
  refine zr_iald dX7_lot_35 (rfl : 35 + 1 = 36) (by first | assumption | exact mw_167 | exact mw_168 | exact mw_169 | exact mw_170 | exact bk_0 | exact bk_1 | exact bk_2 | exact bk_3 | exact bk_4 | exact bk_5 | exact bk_6 | exact bk_7 | exact bk_8 | exact bk_9 | exact bk_10 | exact bk_11 | exact bk_12 | exact bk_13 | exact bk_14 | exact bk_15 | exact bk_16 | exact zup_self | exact (zup_ne (by first | assumption | omega)).trans (by first | assumption | exact zup_self) | exact (zup_ne (by first | assumption | omega)).trans ((zup_ne (by first | assumption | omega)).trans (by first | assumption | exact zup_self)) | exact (bk_out (by first | omega | (simp only [bset, reduceIte, Nat.reduceEqDiff]; omega))).trans (by first | exact bk_0 | exact bk_1 | exact bk_2 | exact bk_3 | exact bk_4 | exact bk_5 | exact bk_6 | exact bk_7 | exact bk_8 | exact bk_9 | exact bk_10 | exact bk_11 | exact bk_12 | exact bk_13 | exact bk_14 | exact bk_15 | exact bk_16 | exact cr_5 | exact cr_23 | exact cr_24 | exact cr_25 | exact cr_26 | exact cr_27 | exact cr_28 | exact cr_29 | exact cr_30 | assumption)) (by decide) (by first | omega | (simp only [bset, reduceIte, Nat.reduceEqDiff]; omega)) (by first | omega | (simp only [bset, reduceIte, Nat.reduceEqDiff]; omega)) ?_
  rw [jup_at rfl]
  refine zr_iload_n dX7_lot_36 (rfl : 36 + 1 = 37) rfl ?_
  refine zr_irem dX7_lot_37 (rfl : 37 + 1 = 38) (fun q => absurd ((jI_z (by first | omega | (simp only [bset, reduceIte, Nat.reduceEqDiff]; omega)) (by first | omega | (simp only [bset, reduceIte, Nat.reduceEqDiff]; omega))).mp q) (by first | omega | (simp only [bset, reduceIte, Nat.reduceEqDiff]; omega))) (jI_rem (by first | omega | (simp only [bset, reduceIte, Nat.reduceEqDiff]; omega)) (by first | omega | (simp only [bset, reduceIte, Nat.reduceEqDiff]; omega)) (by first | omega | (simp only [bset, reduceIte, Nat.reduceEqDiff]; omega)) (by first | omega | (simp only [bset, reduceIte, Nat.reduceEqDiff]; omega))) ?_
  refine zr_ireE dX7_lot_38 rfl rfl ?_
  refine ⟨rfl, _, ⟨jagb_up (by omega), ?_⟩, rfl⟩
  refine ⟨?_, ?_, ?_, ?_, ?_, ?_, ?_, ?_, ?_, ?_, ?_, ?_, ?_, ?_, ?_, ?_, ?_, ?_, ?_, ?_, ?_⟩
  · intro k h0 h1
    rw [jup_ne (by omega)]
    exact h.se k h0 h1
  · rw [jup_at rfl]
    rfl
  · intro n h0 h1
    rw [jup_ne (by omega)]
    exact h.pl n h0 h1
  · intro n h0 h1
    rw [jup_ne (by omega)]
    exact h.da n h0 h1
  · intro n h0 h1
    rw [jup_ne (by omega)]
    exact h.sa n h0 h1
  · intro k h0 h1
    have h1 : k < B 12 0 := h1
    rw [jup_ne (by omega)]
    exact h.dr k h0 h1
  · intro k h0 h1
    have h1 : k < B 12 0 := h1
    rw [jup_ne (by omega)]
    exact h.sd k h0 h1
  · rw [jup_ne (by omega)]
    exact h.ca
  · intro c h0 h1
    rw [jup_ne (by omega)]
    exact h.bo c h0 h1
  · intro c h0 h1
    rw [jup_ne (by omega)]
    exact h.wo c h0 h1
  · intro c h0 h1
    rw [jup_ne (by omega)]
    exact h.co c h0 h1
  · intro c h0 h1
    rw [jup_ne (by omega)]
    exact h.dn c h0 h1
  · intro g h0 h1
    rw [jup_ne (by omega)]
    exact h.ga g h0 h1
  · rw [jup_ne (by omega)]
    exact h.po
  · rw [jup_ne (by omega)]
    exact h.ci
  · rw [jup_ne (by omega)]
    exact h.pa
  · rw [jup_ne (by omega)]
    exact h.ho
  · rw [jup_ne (by omega)]
    exact h.wi
  · rw [jup_ne (by omega)]
    exact h.tu
  · rw [jup_ne (by omega)]
    exact h.ev
  · rw [jup_ne (by omega)]
    exact h.sl
theorem m_free (k : Int) (hk : 0 ≤ k ∧ k < jall (jfree B)) (h : mr S 0 B) (ok : jok B) : zFn Γ md_X7_free d [.ref 167, .int (jI k)] (mw S st ik th tx ty w) (some (.int (jI (jnth (jfree B) k)))) (mw S st ik th tx ty w) := by
  have hall := jall_r (jfree B)
  refine zFn.of_run (lv := [some (.ref 167), some (.int (jI k)), none, none]) (by decide) rfl (Nat.le_of_ble_eq_true rfl) rfl (fun n9 g9 => ?_)
  refine zr_iload_n dX7_free_0 (rfl : 0 + 1 = 1) rfl ?_
  refine zr_istore_n (lv' := [_, _, _, _]) dX7_free_1 (rfl : 1 + 1 = 2) (Nat.le_of_ble_eq_true rfl) rfl ?_
  refine zr_iconst dX7_free_2 (rfl : 2 + 1 = 3) ?_
  refine zr_istore_n (lv' := [_, _, _, _]) dX7_free_3 (rfl : 3 + 1 = 4) (Nat.le_of_ble_eq_true rfl) rfl ?_
  refine zfor1 1 90 (fun n x => x = k - jrk (jfree B) n ∧ 0 ≤ x) (fun n x => [some (.ref 167), some (.int (jI k)), some (.int (jI x)), some (.int (jI n))]) (fun _ _ => (mw S st ik th tx ty w)) k ⟨by rw [jrk_1]; omega, hk.1⟩ ?_ ?_
  · intro n x n0 n1 hx hk2
    have hp := h.pl0 n n0 (by omega)
    have hR := ok.R n
    have hs := jrk_succ (q := jfree B) n0
    have hnn := jrk_nn (jfree B) n
    have hb : (B 1 n = -1 ∧ jb (jfree B n = true) = 1) ∨ (B 1 n ≠ -1 ∧ jb (jfree B n = true) = 0) := by
      by_cases hh : B 1 n = -1
      · exact Or.inl ⟨hh, jb_pos (decide_eq_true hh)⟩
      · exact Or.inr ⟨hh, jb_neg (fun z => hh (of_decide_eq_true z))⟩
    refine zr_iload_n dX7_free_4 (rfl : 4 + 1 = 5) rfl ?_
    refine zr_bipush dX7_free_5 (rfl : 5 + 2 = 7) (by decide) ?_
    refine zr_icmp_gt (tgt := 36) dX7_free_7 (by decide) (rfl : 7 + 3 = 10) (jI_lt (by first | omega | (simp only [bset, reduceIte, Nat.reduceEqDiff]; omega)) (by first | omega | (simp only [bset, reduceIte, Nat.reduceEqDiff]; omega)) (by first | omega | (simp only [bset, reduceIte, Nat.reduceEqDiff]; omega)) (by first | omega | (simp only [bset, reduceIte, Nat.reduceEqDiff]; omega))) (fun h7 => ?_) (fun h7 => ?_)
    · first
      | (exfalso; omega)
      | (
        refine zr_iconst dX7_free_36 (rfl : 36 + 1 = 37) ?_
        refine zr_iret dX7_free_37 rfl (by first | rfl | exact jb_nar) ?_ rfl rfl rfl
        rw [← jnth_of (q := jfree B) (n := n) (k := k) n0 (by omega) (decide_eq_true (by omega)) (by omega)])
    · first
      | (exfalso; omega)
      | (
        refine zr_aload_n dX7_free_10 (rfl : 10 + 1 = 11) rfl ?_
        refine zr_getf dX7_free_11 (rfl : 11 + 3 = 14) f_X7_7 (by first | assumption | exact mw_167 | exact mw_168 | exact mw_169 | exact mw_170 | exact bk_0 | exact bk_1 | exact bk_2 | exact bk_3 | exact bk_4 | exact bk_5 | exact bk_6 | exact bk_7 | exact bk_8 | exact bk_9 | exact bk_10 | exact bk_11 | exact bk_12 | exact bk_13 | exact bk_14 | exact bk_15 | exact bk_16 | exact zup_self | exact (zup_ne (by first | assumption | omega)).trans (by first | assumption | exact zup_self) | exact (zup_ne (by first | assumption | omega)).trans ((zup_ne (by first | assumption | omega)).trans (by first | assumption | exact zup_self)) | exact (bk_out (by first | omega | (simp only [bset, reduceIte, Nat.reduceEqDiff]; omega))).trans (by first | exact bk_0 | exact bk_1 | exact bk_2 | exact bk_3 | exact bk_4 | exact bk_5 | exact bk_6 | exact bk_7 | exact bk_8 | exact bk_9 | exact bk_10 | exact bk_11 | exact bk_12 | exact bk_13 | exact bk_14 | exact bk_15 | exact bk_16 | exact cr_5 | exact cr_23 | exact cr_24 | exact cr_25 | exact cr_26 | exact cr_27 | exact cr_28 | exact cr_29 | exact cr_30 | assumption)) rfl ?_
        refine zr_iconst dX7_free_14 (rfl : 14 + 1 = 15) ?_
        refine zr_iload_n dX7_free_15 (rfl : 15 + 1 = 16) rfl ?_
        refine zr_iadd dX7_free_16 (rfl : 16 + 1 = 17) (by first | exact jI_add _ _ | rfl) ?_
        refine zr_iald dX7_free_17 (rfl : 17 + 1 = 18) (by first | assumption | exact mw_167 | exact mw_168 | exact mw_169 | exact mw_170 | exact bk_0 | exact bk_1 | exact bk_2 | exact bk_3 | exact bk_4 | exact bk_5 | exact bk_6 | exact bk_7 | exact bk_8 | exact bk_9 | exact bk_10 | exact bk_11 | exact bk_12 | exact bk_13 | exact bk_14 | exact bk_15 | exact bk_16 | exact zup_self | exact (zup_ne (by first | assumption | omega)).trans (by first | assumption | exact zup_self) | exact (zup_ne (by first | assumption | omega)).trans ((zup_ne (by first | assumption | omega)).trans (by first | assumption | exact zup_self)) | exact (bk_out (by first | omega | (simp only [bset, reduceIte, Nat.reduceEqDiff]; omega))).trans (by first | exact bk_0 | exact bk_1 | exact bk_2 | exact bk_3 | exact bk_4 | exact bk_5 | exact bk_6 | exact bk_7 | exact bk_8 | exact bk_9 | exact bk_10 | exact bk_11 | exact bk_12 | exact bk_13 | exact bk_14 | exact bk_15 | exact bk_16 | exact cr_5 | exact cr_23 | exact cr_24 | exact cr_25 | exact cr_26 | exact cr_27 | exact cr_28 | exact cr_29 | exact cr_30 | assumption)) (by decide) (by first | omega | (simp only [bset, reduceIte, Nat.reduceEqDiff]; omega)) (by first | omega | (simp only [bset, reduceIte, Nat.reduceEqDiff]; omega)) ?_
        refine zr_if_ne (tgt := 30) dX7_free_18 (by decide) (rfl : 18 + 3 = 21) (by first | exact jb_iff | exact jI_z (by first | omega | (simp only [bset, reduceIte, Nat.reduceEqDiff]; omega)) (by first | omega | (simp only [bset, reduceIte, Nat.reduceEqDiff]; omega))) (fun h18 => ?_) (fun h18 => ?_)
        · first
          | (exfalso; omega)
          | (
            refine zr_iinc (lv' := [_, _, _, _]) dX7_free_30 (rfl : 30 + 3 = 33) (Nat.le_of_ble_eq_true rfl) rfl (by first | exact jI_add _ _ | rfl) rfl ?_
            refine zr_goto (tgt := 4) dX7_free_33 (by decide) ?_
            exact hk2 _ ⟨by omega, by omega⟩)
        · first
          | (exfalso; omega)
          | (
            refine zr_iload_n dX7_free_21 (rfl : 21 + 1 = 22) rfl ?_
            refine zr_if_ne (tgt := 27) dX7_free_22 (by decide) (rfl : 22 + 3 = 25) (by first | exact jb_iff | exact jI_z (by first | omega | (simp only [bset, reduceIte, Nat.reduceEqDiff]; omega)) (by first | omega | (simp only [bset, reduceIte, Nat.reduceEqDiff]; omega))) (fun h22 => ?_) (fun h22 => ?_)
            · first
              | (exfalso; omega)
              | (
                refine zr_iinc (lv' := [_, _, _, _]) dX7_free_27 (rfl : 27 + 3 = 30) (Nat.le_of_ble_eq_true rfl) rfl (by first | exact jI_add _ _ | rfl) rfl ?_
                refine zr_iinc (lv' := [_, _, _, _]) dX7_free_30 (rfl : 30 + 3 = 33) (Nat.le_of_ble_eq_true rfl) rfl (by first | exact jI_add _ _ | rfl) rfl ?_
                refine zr_goto (tgt := 4) dX7_free_33 (by decide) ?_
                exact hk2 _ ⟨by omega, by omega⟩)
            · first
              | (exfalso; omega)
              | (
                refine zr_iload_n dX7_free_25 (rfl : 25 + 1 = 26) rfl ?_
                refine zr_iret dX7_free_26 rfl (by first | rfl | exact jb_nar) ?_ rfl rfl rfl
                rw [← jnth_of (q := jfree B) (n := n) (k := k) n0 (by omega) (decide_eq_true (by omega)) (by omega)])))
  · intro x hx
    have e : jrk (jfree B) ((1 : Int) + ((90 : Nat) : Int)) = jall (jfree B) := rfl
    rw [e] at hx
    exfalso
    omega
theorem m_canBuy (c : Int) (hc : 0 ≤ c ∧ c < 6) (h : mr S 0 B) (ok : jok B) (lk : jlk B) : zFn Γ md_X7_canBuy (d + 3) [.ref 167, .int (jI c)] (mw S st ik th tx ty w) (some (.int (jI (jb (jfs B c))))) (mw S st ik th tx ty w) := by
  have hbo := h.bo0 c hc.1 hc.2
  have hbr := jbit_r (B 11 0) c
  have hca := h.ca0
  have hco := ok.ca
  refine zFn.of_run (lv := [some (.ref 167), some (.int (jI c))]) (by decide) rfl (Nat.le_of_ble_eq_true rfl) rfl (fun n9 g9 => ?_)
  refine zr_aload_n dX7_canBuy_0 (rfl : 0 + 1 = 1) rfl ?_
  refine zr_getf dX7_canBuy_1 (rfl : 1 + 3 = 4) f_X7_7 (by first | assumption | exact mw_167 | exact mw_168 | exact mw_169 | exact mw_170 | exact bk_0 | exact bk_1 | exact bk_2 | exact bk_3 | exact bk_4 | exact bk_5 | exact bk_6 | exact bk_7 | exact bk_8 | exact bk_9 | exact bk_10 | exact bk_11 | exact bk_12 | exact bk_13 | exact bk_14 | exact bk_15 | exact bk_16 | exact zup_self | exact (zup_ne (by first | assumption | omega)).trans (by first | assumption | exact zup_self) | exact (zup_ne (by first | assumption | omega)).trans ((zup_ne (by first | assumption | omega)).trans (by first | assumption | exact zup_self)) | exact (bk_out (by first | omega | (simp only [bset, reduceIte, Nat.reduceEqDiff]; omega))).trans (by first | exact bk_0 | exact bk_1 | exact bk_2 | exact bk_3 | exact bk_4 | exact bk_5 | exact bk_6 | exact bk_7 | exact bk_8 | exact bk_9 | exact bk_10 | exact bk_11 | exact bk_12 | exact bk_13 | exact bk_14 | exact bk_15 | exact bk_16 | exact cr_5 | exact cr_23 | exact cr_24 | exact cr_25 | exact cr_26 | exact cr_27 | exact cr_28 | exact cr_29 | exact cr_30 | assumption)) rfl ?_
  refine zr_sipush dX7_canBuy_4 (rfl : 4 + 3 = 7) (by decide) ?_
  refine zr_iload_n dX7_canBuy_7 (rfl : 7 + 1 = 8) rfl ?_
  refine zr_iadd dX7_canBuy_8 (rfl : 8 + 1 = 9) (by first | exact jI_add _ _ | rfl) ?_
  refine zr_iald dX7_canBuy_9 (rfl : 9 + 1 = 10) (by first | assumption | exact mw_167 | exact mw_168 | exact mw_169 | exact mw_170 | exact bk_0 | exact bk_1 | exact bk_2 | exact bk_3 | exact bk_4 | exact bk_5 | exact bk_6 | exact bk_7 | exact bk_8 | exact bk_9 | exact bk_10 | exact bk_11 | exact bk_12 | exact bk_13 | exact bk_14 | exact bk_15 | exact bk_16 | exact zup_self | exact (zup_ne (by first | assumption | omega)).trans (by first | assumption | exact zup_self) | exact (zup_ne (by first | assumption | omega)).trans ((zup_ne (by first | assumption | omega)).trans (by first | assumption | exact zup_self)) | exact (bk_out (by first | omega | (simp only [bset, reduceIte, Nat.reduceEqDiff]; omega))).trans (by first | exact bk_0 | exact bk_1 | exact bk_2 | exact bk_3 | exact bk_4 | exact bk_5 | exact bk_6 | exact bk_7 | exact bk_8 | exact bk_9 | exact bk_10 | exact bk_11 | exact bk_12 | exact bk_13 | exact bk_14 | exact bk_15 | exact bk_16 | exact cr_5 | exact cr_23 | exact cr_24 | exact cr_25 | exact cr_26 | exact cr_27 | exact cr_28 | exact cr_29 | exact cr_30 | assumption)) (by decide) (by first | omega | (simp only [bset, reduceIte, Nat.reduceEqDiff]; omega)) (by first | omega | (simp only [bset, reduceIte, Nat.reduceEqDiff]; omega)) ?_
  refine zr_if_ne (tgt := 36) dX7_canBuy_10 (by decide) (rfl : 10 + 3 = 13) (by first | exact jb_iff | exact jI_z (by first | omega | (simp only [bset, reduceIte, Nat.reduceEqDiff]; omega)) (by first | omega | (simp only [bset, reduceIte, Nat.reduceEqDiff]; omega))) (fun h10 => ?_) (fun h10 => ?_)
  · first
    | (exfalso; omega)
    | (
      refine zr_iconst dX7_canBuy_36 (rfl : 36 + 1 = 37) ?_
      refine zr_iret dX7_canBuy_37 rfl (by first | rfl | exact jb_nar) ?_ rfl rfl rfl
      first | rw [jb_pos (show jfs B c from ⟨by omega, by omega, by omega⟩)] | rw [jb_neg (fun q : jfs B c => by have q1 := q.1; have q2 := q.2.1; have q3 := q.2.2; omega)])
  · first
    | (exfalso; omega)
    | (
      refine zr_aload_n dX7_canBuy_13 (rfl : 13 + 1 = 14) rfl ?_
      refine zr_iload_n dX7_canBuy_14 (rfl : 14 + 1 = 15) rfl ?_
      refine zr_fnV dX7_canBuy_15 (rfl : 15 + 3 = 18) l_X7_81 (m_isWhole c hc h ok lk) (by first | assumption | exact mw_167 | exact mw_168 | exact mw_169 | exact mw_170 | exact bk_0 | exact bk_1 | exact bk_2 | exact bk_3 | exact bk_4 | exact bk_5 | exact bk_6 | exact bk_7 | exact bk_8 | exact bk_9 | exact bk_10 | exact bk_11 | exact bk_12 | exact bk_13 | exact bk_14 | exact bk_15 | exact bk_16 | exact zup_self | exact (zup_ne (by first | assumption | omega)).trans (by first | assumption | exact zup_self) | exact (zup_ne (by first | assumption | omega)).trans ((zup_ne (by first | assumption | omega)).trans (by first | assumption | exact zup_self)) | exact (bk_out (by first | omega | (simp only [bset, reduceIte, Nat.reduceEqDiff]; omega))).trans (by first | exact bk_0 | exact bk_1 | exact bk_2 | exact bk_3 | exact bk_4 | exact bk_5 | exact bk_6 | exact bk_7 | exact bk_8 | exact bk_9 | exact bk_10 | exact bk_11 | exact bk_12 | exact bk_13 | exact bk_14 | exact bk_15 | exact bk_16 | exact cr_5 | exact cr_23 | exact cr_24 | exact cr_25 | exact cr_26 | exact cr_27 | exact cr_28 | exact cr_29 | exact cr_30 | assumption)) rfl rfl rfl (Nat.le_of_ble_eq_true rfl) ?_
      refine zr_if_eq (tgt := 36) dX7_canBuy_18 (by decide) (rfl : 18 + 3 = 21) (by first | exact jb_iff | exact jI_z (by first | omega | (simp only [bset, reduceIte, Nat.reduceEqDiff]; omega)) (by first | omega | (simp only [bset, reduceIte, Nat.reduceEqDiff]; omega))) (fun h18 => ?_) (fun h18 => ?_)
      · first
        | (exfalso; omega)
        | (
          refine zr_iconst dX7_canBuy_36 (rfl : 36 + 1 = 37) ?_
          refine zr_iret dX7_canBuy_37 rfl (by first | rfl | exact jb_nar) ?_ rfl rfl rfl
          first | rw [jb_pos (show jfs B c from ⟨by omega, by omega, by omega⟩)] | rw [jb_neg (fun q : jfs B c => by have q1 := q.1; have q2 := q.2.1; have q3 := q.2.2; omega)])
      · first
        | (exfalso; omega)
        | (
          refine zr_aload_n dX7_canBuy_21 (rfl : 21 + 1 = 22) rfl ?_
          refine zr_getf dX7_canBuy_22 (rfl : 22 + 3 = 25) f_X7_7 (by first | assumption | exact mw_167 | exact mw_168 | exact mw_169 | exact mw_170 | exact bk_0 | exact bk_1 | exact bk_2 | exact bk_3 | exact bk_4 | exact bk_5 | exact bk_6 | exact bk_7 | exact bk_8 | exact bk_9 | exact bk_10 | exact bk_11 | exact bk_12 | exact bk_13 | exact bk_14 | exact bk_15 | exact bk_16 | exact zup_self | exact (zup_ne (by first | assumption | omega)).trans (by first | assumption | exact zup_self) | exact (zup_ne (by first | assumption | omega)).trans ((zup_ne (by first | assumption | omega)).trans (by first | assumption | exact zup_self)) | exact (bk_out (by first | omega | (simp only [bset, reduceIte, Nat.reduceEqDiff]; omega))).trans (by first | exact bk_0 | exact bk_1 | exact bk_2 | exact bk_3 | exact bk_4 | exact bk_5 | exact bk_6 | exact bk_7 | exact bk_8 | exact bk_9 | exact bk_10 | exact bk_11 | exact bk_12 | exact bk_13 | exact bk_14 | exact bk_15 | exact bk_16 | exact cr_5 | exact cr_23 | exact cr_24 | exact cr_25 | exact cr_26 | exact cr_27 | exact cr_28 | exact cr_29 | exact cr_30 | assumption)) rfl ?_
          refine zr_sipush dX7_canBuy_25 (rfl : 25 + 3 = 28) (by decide) ?_
          refine zr_iald dX7_canBuy_28 (rfl : 28 + 1 = 29) (by first | assumption | exact mw_167 | exact mw_168 | exact mw_169 | exact mw_170 | exact bk_0 | exact bk_1 | exact bk_2 | exact bk_3 | exact bk_4 | exact bk_5 | exact bk_6 | exact bk_7 | exact bk_8 | exact bk_9 | exact bk_10 | exact bk_11 | exact bk_12 | exact bk_13 | exact bk_14 | exact bk_15 | exact bk_16 | exact zup_self | exact (zup_ne (by first | assumption | omega)).trans (by first | assumption | exact zup_self) | exact (zup_ne (by first | assumption | omega)).trans ((zup_ne (by first | assumption | omega)).trans (by first | assumption | exact zup_self)) | exact (bk_out (by first | omega | (simp only [bset, reduceIte, Nat.reduceEqDiff]; omega))).trans (by first | exact bk_0 | exact bk_1 | exact bk_2 | exact bk_3 | exact bk_4 | exact bk_5 | exact bk_6 | exact bk_7 | exact bk_8 | exact bk_9 | exact bk_10 | exact bk_11 | exact bk_12 | exact bk_13 | exact bk_14 | exact bk_15 | exact bk_16 | exact cr_5 | exact cr_23 | exact cr_24 | exact cr_25 | exact cr_26 | exact cr_27 | exact cr_28 | exact cr_29 | exact cr_30 | assumption)) (by decide) (by first | omega | (simp only [bset, reduceIte, Nat.reduceEqDiff]; omega)) (by first | omega | (simp only [bset, reduceIte, Nat.reduceEqDiff]; omega)) ?_
          refine zr_if_ne (tgt := 36) dX7_canBuy_29 (by decide) (rfl : 29 + 3 = 32) (by first | exact jb_iff | exact jI_z (by first | omega | (simp only [bset, reduceIte, Nat.reduceEqDiff]; omega)) (by first | omega | (simp only [bset, reduceIte, Nat.reduceEqDiff]; omega))) (fun h29 => ?_) (fun h29 => ?_)
          · first
            | (exfalso; omega)
            | (
              refine zr_iconst dX7_canBuy_36 (rfl : 36 + 1 = 37) ?_
              refine zr_iret dX7_canBuy_37 rfl (by first | rfl | exact jb_nar) ?_ rfl rfl rfl
              first | rw [jb_pos (show jfs B c from ⟨by omega, by omega, by omega⟩)] | rw [jb_neg (fun q : jfs B c => by have q1 := q.1; have q2 := q.2.1; have q3 := q.2.2; omega)])
          · first
            | (exfalso; omega)
            | (
              refine zr_iconst dX7_canBuy_32 (rfl : 32 + 1 = 33) ?_
              refine zr_goto (tgt := 37) dX7_canBuy_33 (by decide) ?_
              refine zr_iret dX7_canBuy_37 rfl (by first | rfl | exact jb_nar) ?_ rfl rfl rfl
              first | rw [jb_pos (show jfs B c from ⟨by omega, by omega, by omega⟩)] | rw [jb_neg (fun q : jfs B c => by have q1 := q.1; have q2 := q.2.1; have q3 := q.2.2; omega)])))
theorem mr_sell {c : Int} (h : mr S 0 B) (hc : 0 ≤ c ∧ c < 6) (ok : jok B) : mr (jup (jup (jup S (458 + c) 1) 486 (B 16 0 + B 23 0)) 487 (B 17 0 + B 23 0)) 0 (jsell B c) := by
  have hcx := ok.ca
  refine ⟨?_, ?_, ?_, ?_, ?_, ?_, ?_, ?_, ?_, ?_, ?_, ?_, ?_, ?_, ?_, ?_, ?_, ?_, ?_, ?_, ?_⟩
  · intro k h0 h1
    rw [jup_ne (by omega), jup_ne (by omega), jup_ne (by omega)]
    exact h.se k h0 h1
  · rw [jup_ne (by omega), jup_ne (by omega), jup_ne (by omega)]
    exact h.lo
  · intro n h0 h1
    rw [jup_ne (by omega), jup_ne (by omega), jup_ne (by omega)]
    exact h.pl n h0 h1
  · intro n h0 h1
    rw [jup_ne (by omega), jup_ne (by omega), jup_ne (by omega)]
    exact h.da n h0 h1
  · intro n h0 h1
    rw [jup_ne (by omega), jup_ne (by omega), jup_ne (by omega)]
    exact h.sa n h0 h1
  · intro k h0 h1
    have h1 : k < B 12 0 := h1
    rw [jup_ne (by omega), jup_ne (by omega), jup_ne (by omega)]
    exact h.dr k h0 h1
  · intro k h0 h1
    have h1 : k < B 12 0 := h1
    rw [jup_ne (by omega), jup_ne (by omega), jup_ne (by omega)]
    exact h.sd k h0 h1
  · rw [jup_ne (by omega), jup_ne (by omega), jup_ne (by omega)]
    exact h.ca
  · intro m h0 h1
    show _ = jbit (jset (B 11 0) c) m
    rw [jup_ne (by omega), jup_ne (by omega), jbit_jset ok.bo hc ⟨h0, h1⟩]
    by_cases e : m = c
    · rw [jup_at (by omega), if_pos e]
    · rw [jup_ne (by omega), if_neg e]
      exact h.bo m h0 h1
  · intro c h0 h1
    rw [jup_ne (by omega), jup_ne (by omega), jup_ne (by omega)]
    exact h.wo c h0 h1
  · intro c h0 h1
    rw [jup_ne (by omega), jup_ne (by omega), jup_ne (by omega)]
    exact h.co c h0 h1
  · intro c h0 h1
    rw [jup_ne (by omega), jup_ne (by omega), jup_ne (by omega)]
    exact h.dn c h0 h1
  · intro g h0 h1
    rw [jup_ne (by omega), jup_ne (by omega), jup_ne (by omega)]
    exact h.ga g h0 h1
  · rw [jup_ne (by omega), jup_at (by omega)]
    rfl
  · rw [jup_at (by omega)]
    rfl
  · rw [jup_ne (by omega), jup_ne (by omega), jup_ne (by omega)]
    exact h.pa
  · rw [jup_ne (by omega), jup_ne (by omega), jup_ne (by omega)]
    exact h.ho
  · rw [jup_ne (by omega), jup_ne (by omega), jup_ne (by omega)]
    exact h.wi
  · rw [jup_ne (by omega), jup_ne (by omega), jup_ne (by omega)]
    exact h.tu
  · rw [jup_ne (by omega), jup_ne (by omega), jup_ne (by omega)]
    exact h.ev
  · rw [jup_ne (by omega), jup_ne (by omega), jup_ne (by omega)]
    exact h.sl
theorem m_buys (c : Int) (hc : 0 ≤ c ∧ c < 6) (h : mr S 0 B) (ok : jok B) : zFe Γ md_X7_buys d [.ref 167, .int (jI c)] (mw S st ik th tx ty w) (zMP (some (.int (jI (B 16 0 + B 23 0)))) (fun S' => jagb 0 S' S ∧ mr S' 0 (jsell B c)) st ik th tx ty w) := by
  have hpo := h.po0
  have hse := h.se0 0 (by decide) (by decide)
  have hci := h.ci0
  refine zFe.of_run (lv := [some (.ref 167), some (.int (jI c))]) (by decide) rfl (Nat.le_of_ble_eq_true rfl) rfl (fun n9 g9 => ?_)
  refine zr_aload_n dX7_buys_0 (rfl : 0 + 1 = 1) rfl ?_
  refine zr_getf dX7_buys_1 (rfl : 1 + 3 = 4) f_X7_7 (by first | assumption | exact mw_167 | exact mw_168 | exact mw_169 | exact mw_170 | exact bk_0 | exact bk_1 | exact bk_2 | exact bk_3 | exact bk_4 | exact bk_5 | exact bk_6 | exact bk_7 | exact bk_8 | exact bk_9 | exact bk_10 | exact bk_11 | exact bk_12 | exact bk_13 | exact bk_14 | exact bk_15 | exact bk_16 | exact zup_self | exact (zup_ne (by first | assumption | omega)).trans (by first | assumption | exact zup_self) | exact (zup_ne (by first | assumption | omega)).trans ((zup_ne (by first | assumption | omega)).trans (by first | assumption | exact zup_self)) | exact (bk_out (by first | omega | (simp only [bset, reduceIte, Nat.reduceEqDiff]; omega))).trans (by first | exact bk_0 | exact bk_1 | exact bk_2 | exact bk_3 | exact bk_4 | exact bk_5 | exact bk_6 | exact bk_7 | exact bk_8 | exact bk_9 | exact bk_10 | exact bk_11 | exact bk_12 | exact bk_13 | exact bk_14 | exact bk_15 | exact bk_16 | exact cr_5 | exact cr_23 | exact cr_24 | exact cr_25 | exact cr_26 | exact cr_27 | exact cr_28 | exact cr_29 | exact cr_30 | assumption)) rfl ?_
  refine zr_sipush dX7_buys_4 (rfl : 4 + 3 = 7) (by decide) ?_
  refine zr_iload_n dX7_buys_7 (rfl : 7 + 1 = 8) rfl ?_
  refine zr_iadd dX7_buys_8 (rfl : 8 + 1 = 9) (by first | exact jI_add _ _ | rfl) ?_
  refine zr_iconst dX7_buys_9 (rfl : 9 + 1 = 10) ?_
  refine zr_iast dX7_buys_10 (rfl : 10 + 1 = 11) (by first | assumption | exact mw_167 | exact mw_168 | exact mw_169 | exact mw_170 | exact bk_0 | exact bk_1 | exact bk_2 | exact bk_3 | exact bk_4 | exact bk_5 | exact bk_6 | exact bk_7 | exact bk_8 | exact bk_9 | exact bk_10 | exact bk_11 | exact bk_12 | exact bk_13 | exact bk_14 | exact bk_15 | exact bk_16 | exact zup_self | exact (zup_ne (by first | assumption | omega)).trans (by first | assumption | exact zup_self) | exact (zup_ne (by first | assumption | omega)).trans ((zup_ne (by first | assumption | omega)).trans (by first | assumption | exact zup_self)) | exact (bk_out (by first | omega | (simp only [bset, reduceIte, Nat.reduceEqDiff]; omega))).trans (by first | exact bk_0 | exact bk_1 | exact bk_2 | exact bk_3 | exact bk_4 | exact bk_5 | exact bk_6 | exact bk_7 | exact bk_8 | exact bk_9 | exact bk_10 | exact bk_11 | exact bk_12 | exact bk_13 | exact bk_14 | exact bk_15 | exact bk_16 | exact cr_5 | exact cr_23 | exact cr_24 | exact cr_25 | exact cr_26 | exact cr_27 | exact cr_28 | exact cr_29 | exact cr_30 | assumption)) (by decide) (by first | omega | (simp only [bset, reduceIte, Nat.reduceEqDiff]; omega)) (by first | omega | (simp only [bset, reduceIte, Nat.reduceEqDiff]; omega)) rfl ?_
  rw [mwu_S]
  refine zr_aload_n dX7_buys_11 (rfl : 11 + 1 = 12) rfl ?_
  refine zr_getf dX7_buys_12 (rfl : 12 + 3 = 15) f_X7_7 (by first | assumption | exact mw_167 | exact mw_168 | exact mw_169 | exact mw_170 | exact bk_0 | exact bk_1 | exact bk_2 | exact bk_3 | exact bk_4 | exact bk_5 | exact bk_6 | exact bk_7 | exact bk_8 | exact bk_9 | exact bk_10 | exact bk_11 | exact bk_12 | exact bk_13 | exact bk_14 | exact bk_15 | exact bk_16 | exact zup_self | exact (zup_ne (by first | assumption | omega)).trans (by first | assumption | exact zup_self) | exact (zup_ne (by first | assumption | omega)).trans ((zup_ne (by first | assumption | omega)).trans (by first | assumption | exact zup_self)) | exact (bk_out (by first | omega | (simp only [bset, reduceIte, Nat.reduceEqDiff]; omega))).trans (by first | exact bk_0 | exact bk_1 | exact bk_2 | exact bk_3 | exact bk_4 | exact bk_5 | exact bk_6 | exact bk_7 | exact bk_8 | exact bk_9 | exact bk_10 | exact bk_11 | exact bk_12 | exact bk_13 | exact bk_14 | exact bk_15 | exact bk_16 | exact cr_5 | exact cr_23 | exact cr_24 | exact cr_25 | exact cr_26 | exact cr_27 | exact cr_28 | exact cr_29 | exact cr_30 | assumption)) rfl ?_
  refine zr_sipush dX7_buys_15 (rfl : 15 + 3 = 18) (by decide) ?_
  refine zr_dup2 dX7_buys_18 (rfl : 18 + 1 = 19) rfl rfl ?_
  refine zr_iald dX7_buys_19 (rfl : 19 + 1 = 20) (by first | assumption | exact mw_167 | exact mw_168 | exact mw_169 | exact mw_170 | exact bk_0 | exact bk_1 | exact bk_2 | exact bk_3 | exact bk_4 | exact bk_5 | exact bk_6 | exact bk_7 | exact bk_8 | exact bk_9 | exact bk_10 | exact bk_11 | exact bk_12 | exact bk_13 | exact bk_14 | exact bk_15 | exact bk_16 | exact zup_self | exact (zup_ne (by first | assumption | omega)).trans (by first | assumption | exact zup_self) | exact (zup_ne (by first | assumption | omega)).trans ((zup_ne (by first | assumption | omega)).trans (by first | assumption | exact zup_self)) | exact (bk_out (by first | omega | (simp only [bset, reduceIte, Nat.reduceEqDiff]; omega))).trans (by first | exact bk_0 | exact bk_1 | exact bk_2 | exact bk_3 | exact bk_4 | exact bk_5 | exact bk_6 | exact bk_7 | exact bk_8 | exact bk_9 | exact bk_10 | exact bk_11 | exact bk_12 | exact bk_13 | exact bk_14 | exact bk_15 | exact bk_16 | exact cr_5 | exact cr_23 | exact cr_24 | exact cr_25 | exact cr_26 | exact cr_27 | exact cr_28 | exact cr_29 | exact cr_30 | assumption)) (by decide) (by first | omega | (simp only [bset, reduceIte, Nat.reduceEqDiff]; omega)) (by first | omega | (simp only [bset, reduceIte, Nat.reduceEqDiff]; omega)) ?_
  rw [jup_ne (by omega), hpo]
  refine zr_aload_n dX7_buys_20 (rfl : 20 + 1 = 21) rfl ?_
  refine zr_getf dX7_buys_21 (rfl : 21 + 3 = 24) f_X7_7 (by first | assumption | exact mw_167 | exact mw_168 | exact mw_169 | exact mw_170 | exact bk_0 | exact bk_1 | exact bk_2 | exact bk_3 | exact bk_4 | exact bk_5 | exact bk_6 | exact bk_7 | exact bk_8 | exact bk_9 | exact bk_10 | exact bk_11 | exact bk_12 | exact bk_13 | exact bk_14 | exact bk_15 | exact bk_16 | exact zup_self | exact (zup_ne (by first | assumption | omega)).trans (by first | assumption | exact zup_self) | exact (zup_ne (by first | assumption | omega)).trans ((zup_ne (by first | assumption | omega)).trans (by first | assumption | exact zup_self)) | exact (bk_out (by first | omega | (simp only [bset, reduceIte, Nat.reduceEqDiff]; omega))).trans (by first | exact bk_0 | exact bk_1 | exact bk_2 | exact bk_3 | exact bk_4 | exact bk_5 | exact bk_6 | exact bk_7 | exact bk_8 | exact bk_9 | exact bk_10 | exact bk_11 | exact bk_12 | exact bk_13 | exact bk_14 | exact bk_15 | exact bk_16 | exact cr_5 | exact cr_23 | exact cr_24 | exact cr_25 | exact cr_26 | exact cr_27 | exact cr_28 | exact cr_29 | exact cr_30 | assumption)) rfl ?_
  refine zr_iconst dX7_buys_24 (rfl : 24 + 1 = 25) ?_
  refine zr_iald dX7_buys_25 (rfl : 25 + 1 = 26) (by first | assumption | exact mw_167 | exact mw_168 | exact mw_169 | exact mw_170 | exact bk_0 | exact bk_1 | exact bk_2 | exact bk_3 | exact bk_4 | exact bk_5 | exact bk_6 | exact bk_7 | exact bk_8 | exact bk_9 | exact bk_10 | exact bk_11 | exact bk_12 | exact bk_13 | exact bk_14 | exact bk_15 | exact bk_16 | exact zup_self | exact (zup_ne (by first | assumption | omega)).trans (by first | assumption | exact zup_self) | exact (zup_ne (by first | assumption | omega)).trans ((zup_ne (by first | assumption | omega)).trans (by first | assumption | exact zup_self)) | exact (bk_out (by first | omega | (simp only [bset, reduceIte, Nat.reduceEqDiff]; omega))).trans (by first | exact bk_0 | exact bk_1 | exact bk_2 | exact bk_3 | exact bk_4 | exact bk_5 | exact bk_6 | exact bk_7 | exact bk_8 | exact bk_9 | exact bk_10 | exact bk_11 | exact bk_12 | exact bk_13 | exact bk_14 | exact bk_15 | exact bk_16 | exact cr_5 | exact cr_23 | exact cr_24 | exact cr_25 | exact cr_26 | exact cr_27 | exact cr_28 | exact cr_29 | exact cr_30 | assumption)) (by decide) (by first | omega | (simp only [bset, reduceIte, Nat.reduceEqDiff]; omega)) (by first | omega | (simp only [bset, reduceIte, Nat.reduceEqDiff]; omega)) ?_
  rw [jup_ne (by omega), hse]
  refine zr_iadd dX7_buys_26 (rfl : 26 + 1 = 27) (by first | exact jI_add _ _ | rfl) ?_
  refine zr_iast dX7_buys_27 (rfl : 27 + 1 = 28) (by first | assumption | exact mw_167 | exact mw_168 | exact mw_169 | exact mw_170 | exact bk_0 | exact bk_1 | exact bk_2 | exact bk_3 | exact bk_4 | exact bk_5 | exact bk_6 | exact bk_7 | exact bk_8 | exact bk_9 | exact bk_10 | exact bk_11 | exact bk_12 | exact bk_13 | exact bk_14 | exact bk_15 | exact bk_16 | exact zup_self | exact (zup_ne (by first | assumption | omega)).trans (by first | assumption | exact zup_self) | exact (zup_ne (by first | assumption | omega)).trans ((zup_ne (by first | assumption | omega)).trans (by first | assumption | exact zup_self)) | exact (bk_out (by first | omega | (simp only [bset, reduceIte, Nat.reduceEqDiff]; omega))).trans (by first | exact bk_0 | exact bk_1 | exact bk_2 | exact bk_3 | exact bk_4 | exact bk_5 | exact bk_6 | exact bk_7 | exact bk_8 | exact bk_9 | exact bk_10 | exact bk_11 | exact bk_12 | exact bk_13 | exact bk_14 | exact bk_15 | exact bk_16 | exact cr_5 | exact cr_23 | exact cr_24 | exact cr_25 | exact cr_26 | exact cr_27 | exact cr_28 | exact cr_29 | exact cr_30 | assumption)) (by decide) (by first | omega | (simp only [bset, reduceIte, Nat.reduceEqDiff]; omega)) (by first | omega | (simp only [bset, reduceIte, Nat.reduceEqDiff]; omega)) rfl ?_
  rw [mwu_S]
  refine zr_aload_n dX7_buys_28 (rfl : 28 + 1 = 29) rfl ?_
  refine zr_getf dX7_buys_29 (rfl : 29 + 3 = 32) f_X7_7 (by first | assumption | exact mw_167 | exact mw_168 | exact mw_169 | exact mw_170 | exact bk_0 | exact bk_1 | exact bk_2 | exact bk_3 | exact bk_4 | exact bk_5 | exact bk_6 | exact bk_7 | exact bk_8 | exact bk_9 | exact bk_10 | exact bk_11 | exact bk_12 | exact bk_13 | exact bk_14 | exact bk_15 | exact bk_16 | exact zup_self | exact (zup_ne (by first | assumption | omega)).trans (by first | assumption | exact zup_self) | exact (zup_ne (by first | assumption | omega)).trans ((zup_ne (by first | assumption | omega)).trans (by first | assumption | exact zup_self)) | exact (bk_out (by first | omega | (simp only [bset, reduceIte, Nat.reduceEqDiff]; omega))).trans (by first | exact bk_0 | exact bk_1 | exact bk_2 | exact bk_3 | exact bk_4 | exact bk_5 | exact bk_6 | exact bk_7 | exact bk_8 | exact bk_9 | exact bk_10 | exact bk_11 | exact bk_12 | exact bk_13 | exact bk_14 | exact bk_15 | exact bk_16 | exact cr_5 | exact cr_23 | exact cr_24 | exact cr_25 | exact cr_26 | exact cr_27 | exact cr_28 | exact cr_29 | exact cr_30 | assumption)) rfl ?_
  refine zr_sipush dX7_buys_32 (rfl : 32 + 3 = 35) (by decide) ?_
  refine zr_dup2 dX7_buys_35 (rfl : 35 + 1 = 36) rfl rfl ?_
  refine zr_iald dX7_buys_36 (rfl : 36 + 1 = 37) (by first | assumption | exact mw_167 | exact mw_168 | exact mw_169 | exact mw_170 | exact bk_0 | exact bk_1 | exact bk_2 | exact bk_3 | exact bk_4 | exact bk_5 | exact bk_6 | exact bk_7 | exact bk_8 | exact bk_9 | exact bk_10 | exact bk_11 | exact bk_12 | exact bk_13 | exact bk_14 | exact bk_15 | exact bk_16 | exact zup_self | exact (zup_ne (by first | assumption | omega)).trans (by first | assumption | exact zup_self) | exact (zup_ne (by first | assumption | omega)).trans ((zup_ne (by first | assumption | omega)).trans (by first | assumption | exact zup_self)) | exact (bk_out (by first | omega | (simp only [bset, reduceIte, Nat.reduceEqDiff]; omega))).trans (by first | exact bk_0 | exact bk_1 | exact bk_2 | exact bk_3 | exact bk_4 | exact bk_5 | exact bk_6 | exact bk_7 | exact bk_8 | exact bk_9 | exact bk_10 | exact bk_11 | exact bk_12 | exact bk_13 | exact bk_14 | exact bk_15 | exact bk_16 | exact cr_5 | exact cr_23 | exact cr_24 | exact cr_25 | exact cr_26 | exact cr_27 | exact cr_28 | exact cr_29 | exact cr_30 | assumption)) (by decide) (by first | omega | (simp only [bset, reduceIte, Nat.reduceEqDiff]; omega)) (by first | omega | (simp only [bset, reduceIte, Nat.reduceEqDiff]; omega)) ?_
  rw [jup_ne (by omega), jup_ne (by omega), hci]
  refine zr_aload_n dX7_buys_37 (rfl : 37 + 1 = 38) rfl ?_
  refine zr_getf dX7_buys_38 (rfl : 38 + 3 = 41) f_X7_7 (by first | assumption | exact mw_167 | exact mw_168 | exact mw_169 | exact mw_170 | exact bk_0 | exact bk_1 | exact bk_2 | exact bk_3 | exact bk_4 | exact bk_5 | exact bk_6 | exact bk_7 | exact bk_8 | exact bk_9 | exact bk_10 | exact bk_11 | exact bk_12 | exact bk_13 | exact bk_14 | exact bk_15 | exact bk_16 | exact zup_self | exact (zup_ne (by first | assumption | omega)).trans (by first | assumption | exact zup_self) | exact (zup_ne (by first | assumption | omega)).trans ((zup_ne (by first | assumption | omega)).trans (by first | assumption | exact zup_self)) | exact (bk_out (by first | omega | (simp only [bset, reduceIte, Nat.reduceEqDiff]; omega))).trans (by first | exact bk_0 | exact bk_1 | exact bk_2 | exact bk_3 | exact bk_4 | exact bk_5 | exact bk_6 | exact bk_7 | exact bk_8 | exact bk_9 | exact bk_10 | exact bk_11 | exact bk_12 | exact bk_13 | exact bk_14 | exact bk_15 | exact bk_16 | exact cr_5 | exact cr_23 | exact cr_24 | exact cr_25 | exact cr_26 | exact cr_27 | exact cr_28 | exact cr_29 | exact cr_30 | assumption)) rfl ?_
  refine zr_iconst dX7_buys_41 (rfl : 41 + 1 = 42) ?_
  refine zr_iald dX7_buys_42 (rfl : 42 + 1 = 43) (by first | assumption | exact mw_167 | exact mw_168 | exact mw_169 | exact mw_170 | exact bk_0 | exact bk_1 | exact bk_2 | exact bk_3 | exact bk_4 | exact bk_5 | exact bk_6 | exact bk_7 | exact bk_8 | exact bk_9 | exact bk_10 | exact bk_11 | exact bk_12 | exact bk_13 | exact bk_14 | exact bk_15 | exact bk_16 | exact zup_self | exact (zup_ne (by first | assumption | omega)).trans (by first | assumption | exact zup_self) | exact (zup_ne (by first | assumption | omega)).trans ((zup_ne (by first | assumption | omega)).trans (by first | assumption | exact zup_self)) | exact (bk_out (by first | omega | (simp only [bset, reduceIte, Nat.reduceEqDiff]; omega))).trans (by first | exact bk_0 | exact bk_1 | exact bk_2 | exact bk_3 | exact bk_4 | exact bk_5 | exact bk_6 | exact bk_7 | exact bk_8 | exact bk_9 | exact bk_10 | exact bk_11 | exact bk_12 | exact bk_13 | exact bk_14 | exact bk_15 | exact bk_16 | exact cr_5 | exact cr_23 | exact cr_24 | exact cr_25 | exact cr_26 | exact cr_27 | exact cr_28 | exact cr_29 | exact cr_30 | assumption)) (by decide) (by first | omega | (simp only [bset, reduceIte, Nat.reduceEqDiff]; omega)) (by first | omega | (simp only [bset, reduceIte, Nat.reduceEqDiff]; omega)) ?_
  rw [jup_ne (by omega), jup_ne (by omega), hse]
  refine zr_iadd dX7_buys_43 (rfl : 43 + 1 = 44) (by first | exact jI_add _ _ | rfl) ?_
  refine zr_iast dX7_buys_44 (rfl : 44 + 1 = 45) (by first | assumption | exact mw_167 | exact mw_168 | exact mw_169 | exact mw_170 | exact bk_0 | exact bk_1 | exact bk_2 | exact bk_3 | exact bk_4 | exact bk_5 | exact bk_6 | exact bk_7 | exact bk_8 | exact bk_9 | exact bk_10 | exact bk_11 | exact bk_12 | exact bk_13 | exact bk_14 | exact bk_15 | exact bk_16 | exact zup_self | exact (zup_ne (by first | assumption | omega)).trans (by first | assumption | exact zup_self) | exact (zup_ne (by first | assumption | omega)).trans ((zup_ne (by first | assumption | omega)).trans (by first | assumption | exact zup_self)) | exact (bk_out (by first | omega | (simp only [bset, reduceIte, Nat.reduceEqDiff]; omega))).trans (by first | exact bk_0 | exact bk_1 | exact bk_2 | exact bk_3 | exact bk_4 | exact bk_5 | exact bk_6 | exact bk_7 | exact bk_8 | exact bk_9 | exact bk_10 | exact bk_11 | exact bk_12 | exact bk_13 | exact bk_14 | exact bk_15 | exact bk_16 | exact cr_5 | exact cr_23 | exact cr_24 | exact cr_25 | exact cr_26 | exact cr_27 | exact cr_28 | exact cr_29 | exact cr_30 | assumption)) (by decide) (by first | omega | (simp only [bset, reduceIte, Nat.reduceEqDiff]; omega)) (by first | omega | (simp only [bset, reduceIte, Nat.reduceEqDiff]; omega)) rfl ?_
  rw [mwu_S]
  refine zr_aload_n dX7_buys_45 (rfl : 45 + 1 = 46) rfl ?_
  refine zr_getf dX7_buys_46 (rfl : 46 + 3 = 49) f_X7_7 (by first | assumption | exact mw_167 | exact mw_168 | exact mw_169 | exact mw_170 | exact bk_0 | exact bk_1 | exact bk_2 | exact bk_3 | exact bk_4 | exact bk_5 | exact bk_6 | exact bk_7 | exact bk_8 | exact bk_9 | exact bk_10 | exact bk_11 | exact bk_12 | exact bk_13 | exact bk_14 | exact bk_15 | exact bk_16 | exact zup_self | exact (zup_ne (by first | assumption | omega)).trans (by first | assumption | exact zup_self) | exact (zup_ne (by first | assumption | omega)).trans ((zup_ne (by first | assumption | omega)).trans (by first | assumption | exact zup_self)) | exact (bk_out (by first | omega | (simp only [bset, reduceIte, Nat.reduceEqDiff]; omega))).trans (by first | exact bk_0 | exact bk_1 | exact bk_2 | exact bk_3 | exact bk_4 | exact bk_5 | exact bk_6 | exact bk_7 | exact bk_8 | exact bk_9 | exact bk_10 | exact bk_11 | exact bk_12 | exact bk_13 | exact bk_14 | exact bk_15 | exact bk_16 | exact cr_5 | exact cr_23 | exact cr_24 | exact cr_25 | exact cr_26 | exact cr_27 | exact cr_28 | exact cr_29 | exact cr_30 | assumption)) rfl ?_
  refine zr_sipush dX7_buys_49 (rfl : 49 + 3 = 52) (by decide) ?_
  refine zr_iald dX7_buys_52 (rfl : 52 + 1 = 53) (by first | assumption | exact mw_167 | exact mw_168 | exact mw_169 | exact mw_170 | exact bk_0 | exact bk_1 | exact bk_2 | exact bk_3 | exact bk_4 | exact bk_5 | exact bk_6 | exact bk_7 | exact bk_8 | exact bk_9 | exact bk_10 | exact bk_11 | exact bk_12 | exact bk_13 | exact bk_14 | exact bk_15 | exact bk_16 | exact zup_self | exact (zup_ne (by first | assumption | omega)).trans (by first | assumption | exact zup_self) | exact (zup_ne (by first | assumption | omega)).trans ((zup_ne (by first | assumption | omega)).trans (by first | assumption | exact zup_self)) | exact (bk_out (by first | omega | (simp only [bset, reduceIte, Nat.reduceEqDiff]; omega))).trans (by first | exact bk_0 | exact bk_1 | exact bk_2 | exact bk_3 | exact bk_4 | exact bk_5 | exact bk_6 | exact bk_7 | exact bk_8 | exact bk_9 | exact bk_10 | exact bk_11 | exact bk_12 | exact bk_13 | exact bk_14 | exact bk_15 | exact bk_16 | exact cr_5 | exact cr_23 | exact cr_24 | exact cr_25 | exact cr_26 | exact cr_27 | exact cr_28 | exact cr_29 | exact cr_30 | assumption)) (by decide) (by first | omega | (simp only [bset, reduceIte, Nat.reduceEqDiff]; omega)) (by first | omega | (simp only [bset, reduceIte, Nat.reduceEqDiff]; omega)) ?_
  rw [jup_ne (by omega), jup_at rfl]
  refine zr_ireE dX7_buys_53 rfl rfl ?_
  exact ⟨rfl, _, ⟨((jagb_up (by omega)).trans (jagb_up (by omega))).trans (jagb_up (by omega)), mr_sell h hc ok⟩, rfl⟩
/-! a ball -/
def jdrS (S : Int → Int) (b ca ball said cs sl x : Int) : Int → Int := jup (jup (jup (jup (jup (jup S (b + 457) (ca + 1)) (b + 95 + ball) (ca + 1)) (b + 186 + said) (cs + 1)) (b + 277 + ca) ball) (b + 367 + ca) said) (b + 493) (x + sl)
theorem mr_dr {b ball said sl : Int} {B0 : zB} (h : mr S b (bset B 24 (fun _ => jlot (B 24 0)))) (hc : 0 ≤ B 12 0 ∧ B 12 0 < 90) (hb : 1 ≤ ball ∧ ball ≤ 90) (hs : 1 ≤ said ∧ said ≤ 90) (hB0 : B0 = jdr0 B) : mr (jdrS S b (B 12 0) ball said (B 8 said) sl (B 13 0)) b (jtl B0 ball said sl) := by
  subst hB0
  unfold jdrS
  refine ⟨?_, ?_, ?_, ?_, ?_, ?_, ?_, ?_, ?_, ?_, ?_, ?_, ?_, ?_, ?_, ?_, ?_, ?_, ?_, ?_, ?_⟩
  · intro k h0 h1
    rw [jup_ne (by omega), jup_ne (by omega), jup_ne (by omega), jup_ne (by omega), jup_ne (by omega), jup_ne (by omega)]
    exact h.se k h0 h1
  · rw [jup_ne (by omega), jup_ne (by omega), jup_ne (by omega), jup_ne (by omega), jup_ne (by omega), jup_ne (by omega)]
    exact h.lo
  · intro n h0 h1
    rw [jup_ne (by omega), jup_ne (by omega), jup_ne (by omega), jup_ne (by omega), jup_ne (by omega), jup_ne (by omega)]
    exact h.pl n h0 h1
  · intro n h0 h1
    show _ = jup (B 7) ball (B 12 0 + 1) n
    rw [jup_ne (by omega), jup_ne (by omega), jup_ne (by omega), jup_ne (by omega)]
    by_cases e : n = ball
    · rw [jup_at (by omega), jup_at e]
    · rw [jup_ne (by omega), jup_ne (by omega), jup_ne e]
      exact h.da n h0 h1
  · intro n h0 h1
    show _ = jup (B 8) said (B 8 said + 1) n
    rw [jup_ne (by omega), jup_ne (by omega), jup_ne (by omega)]
    by_cases e : n = said
    · rw [jup_at (by omega), jup_at e]
    · rw [jup_ne (by omega), jup_ne (by omega), jup_ne (by omega), jup_ne e]
      exact h.sa n h0 h1
  · intro k h0 h1
    have h1 : k < B 12 0 + 1 := h1
    show _ = jup (B 5) (B 12 0) ball k
    rw [jup_ne (by omega), jup_ne (by omega)]
    by_cases e : k = B 12 0
    · rw [jup_at (by omega), jup_at e]
    · rw [jup_ne (by omega), jup_ne (by omega), jup_ne (by omega), jup_ne (by omega), jup_ne e]
      exact h.dr k h0 (show k < B 12 0 by omega)
  · intro k h0 h1
    have h1 : k < B 12 0 + 1 := h1
    show _ = jup (B 6) (B 12 0) said k
    rw [jup_ne (by omega)]
    by_cases e : k = B 12 0
    · rw [jup_at (by omega), jup_at e]
    · rw [jup_ne (by omega), jup_ne (by omega), jup_ne (by omega), jup_ne (by omega), jup_ne (by omega), jup_ne e]
      exact h.sd k h0 (show k < B 12 0 by omega)
  · rw [jup_ne (by omega), jup_ne (by omega), jup_ne (by omega), jup_ne (by omega), jup_ne (by omega), jup_at rfl]
    rfl
  · intro c h0 h1
    rw [jup_ne (by omega), jup_ne (by omega), jup_ne (by omega), jup_ne (by omega), jup_ne (by omega), jup_ne (by omega)]
    exact h.bo c h0 h1
  · intro c h0 h1
    rw [jup_ne (by omega), jup_ne (by omega), jup_ne (by omega), jup_ne (by omega), jup_ne (by omega), jup_ne (by omega)]
    exact h.wo c h0 h1
  · intro c h0 h1
    rw [jup_ne (by omega), jup_ne (by omega), jup_ne (by omega), jup_ne (by omega), jup_ne (by omega), jup_ne (by omega)]
    exact h.co c h0 h1
  · intro c h0 h1
    rw [jup_ne (by omega), jup_ne (by omega), jup_ne (by omega), jup_ne (by omega), jup_ne (by omega), jup_ne (by omega)]
    exact h.dn c h0 h1
  · intro g h0 h1
    rw [jup_ne (by omega), jup_ne (by omega), jup_ne (by omega), jup_ne (by omega), jup_ne (by omega), jup_ne (by omega)]
    exact h.ga g h0 h1
  · rw [jup_ne (by omega), jup_ne (by omega), jup_ne (by omega), jup_ne (by omega), jup_ne (by omega), jup_ne (by omega)]
    exact h.po
  · rw [jup_ne (by omega), jup_ne (by omega), jup_ne (by omega), jup_ne (by omega), jup_ne (by omega), jup_ne (by omega)]
    exact h.ci
  · rw [jup_ne (by omega), jup_ne (by omega), jup_ne (by omega), jup_ne (by omega), jup_ne (by omega), jup_ne (by omega)]
    exact h.pa
  · rw [jup_ne (by omega), jup_ne (by omega), jup_ne (by omega), jup_ne (by omega), jup_ne (by omega), jup_ne (by omega)]
    exact h.ho
  · rw [jup_ne (by omega), jup_ne (by omega), jup_ne (by omega), jup_ne (by omega), jup_ne (by omega), jup_ne (by omega)]
    exact h.wi
  · rw [jup_ne (by omega), jup_ne (by omega), jup_ne (by omega), jup_ne (by omega), jup_ne (by omega), jup_ne (by omega)]
    exact h.tu
  · rw [jup_ne (by omega), jup_ne (by omega), jup_ne (by omega), jup_ne (by omega), jup_ne (by omega), jup_ne (by omega)]
    exact h.ev
  · rw [jup_at rfl]
    rfl
theorem jag_drS {b ca ball said cs sl x : Int} (hc : 0 ≤ ca ∧ ca < 90) (hb : 1 ≤ ball ∧ ball ≤ 90) (hs : 1 ≤ said ∧ said ≤ 90) : jagb b (jdrS S b ca ball said cs sl x) S := by
  unfold jdrS
  exact (jagb_up (by omega)).trans ((jagb_up (by omega)).trans ((jagb_up (by omega)).trans ((jagb_up (by omega)).trans ((jagb_up (by omega)).trans (jagb_up (by omega))))))
theorem m_draws (b : Int) (hb : 0 ≤ b ∧ b ≤ 4446) (hca : B 12 0 < 90) (h : mr S b B) (ok : jok B) (lk : jlk B) : zFe Γ md_X7_draws (d + 1) [.ref 167, .int (jI b)] (mw S st ik th tx ty w) (zMP (some (.int (jI (jball B)))) (fun S' => jagb b S' S ∧ mr S' b (jdr1 B)) st ik th tx ty w) := by
  have hco := ok.ca
  have hds := ok.ds
  have hc0 := h.ca
  have hse := ok.se 1
  obtain ⟨b1, b2, k0, k1⟩ := jball_r ok hca
  obtain ⟨hu, hbn⟩ := jball_und ok lk hca
  have hall := lk.di.1
  rw [show B 4 0 = 90 - B 12 0 from hds] at hbn hall k0 k1
  generalize hK : jlot (B 24 0) % (90 - B 12 0) = K at hbn k0 k1
  refine zFe.of_run (lv := [some (.ref 167), some (.int (jI b)), none, none, none, none, none]) (by decide) rfl (Nat.le_of_ble_eq_true rfl) rfl (fun n9 g9 => ?_)
  refine zr_aload_n dX7_draws_0 (rfl : 0 + 1 = 1) rfl ?_
  refine zr_iload_n dX7_draws_1 (rfl : 1 + 1 = 2) rfl ?_
  refine zr_bipush dX7_draws_2 (rfl : 2 + 2 = 4) (by decide) ?_
  refine zr_aload_n dX7_draws_4 (rfl : 4 + 1 = 5) rfl ?_
  refine zr_getf dX7_draws_5 (rfl : 5 + 3 = 8) f_X7_7 (by first | assumption | exact mw_167 | exact mw_168 | exact mw_169 | exact mw_170 | exact bk_0 | exact bk_1 | exact bk_2 | exact bk_3 | exact bk_4 | exact bk_5 | exact bk_6 | exact bk_7 | exact bk_8 | exact bk_9 | exact bk_10 | exact bk_11 | exact bk_12 | exact bk_13 | exact bk_14 | exact bk_15 | exact bk_16 | exact zup_self | exact (zup_ne (by first | assumption | omega)).trans (by first | assumption | exact zup_self) | exact (zup_ne (by first | assumption | omega)).trans ((zup_ne (by first | assumption | omega)).trans (by first | assumption | exact zup_self)) | exact (bk_out (by first | omega | (simp only [bset, reduceIte, Nat.reduceEqDiff]; omega))).trans (by first | exact bk_0 | exact bk_1 | exact bk_2 | exact bk_3 | exact bk_4 | exact bk_5 | exact bk_6 | exact bk_7 | exact bk_8 | exact bk_9 | exact bk_10 | exact bk_11 | exact bk_12 | exact bk_13 | exact bk_14 | exact bk_15 | exact bk_16 | exact cr_5 | exact cr_23 | exact cr_24 | exact cr_25 | exact cr_26 | exact cr_27 | exact cr_28 | exact cr_29 | exact cr_30 | assumption)) rfl ?_
  refine zr_iload_n dX7_draws_8 (rfl : 8 + 1 = 9) rfl ?_
  refine zr_sipush dX7_draws_9 (rfl : 9 + 3 = 12) (by decide) ?_
  refine zr_iadd dX7_draws_12 (rfl : 12 + 1 = 13) (by first | exact jI_add _ _ | rfl) ?_
  refine zr_iald dX7_draws_13 (rfl : 13 + 1 = 14) (by first | assumption | exact mw_167 | exact mw_168 | exact mw_169 | exact mw_170 | exact bk_0 | exact bk_1 | exact bk_2 | exact bk_3 | exact bk_4 | exact bk_5 | exact bk_6 | exact bk_7 | exact bk_8 | exact bk_9 | exact bk_10 | exact bk_11 | exact bk_12 | exact bk_13 | exact bk_14 | exact bk_15 | exact bk_16 | exact zup_self | exact (zup_ne (by first | assumption | omega)).trans (by first | assumption | exact zup_self) | exact (zup_ne (by first | assumption | omega)).trans ((zup_ne (by first | assumption | omega)).trans (by first | assumption | exact zup_self)) | exact (bk_out (by first | omega | (simp only [bset, reduceIte, Nat.reduceEqDiff]; omega))).trans (by first | exact bk_0 | exact bk_1 | exact bk_2 | exact bk_3 | exact bk_4 | exact bk_5 | exact bk_6 | exact bk_7 | exact bk_8 | exact bk_9 | exact bk_10 | exact bk_11 | exact bk_12 | exact bk_13 | exact bk_14 | exact bk_15 | exact bk_16 | exact cr_5 | exact cr_23 | exact cr_24 | exact cr_25 | exact cr_26 | exact cr_27 | exact cr_28 | exact cr_29 | exact cr_30 | assumption)) (by decide) (by first | omega | (simp only [bset, reduceIte, Nat.reduceEqDiff]; omega)) (by first | omega | (simp only [bset, reduceIte, Nat.reduceEqDiff]; omega)) ?_
  rw [hc0]
  refine zr_isub dX7_draws_14 (rfl : 14 + 1 = 15) (by first | exact jI_sub _ _ | rfl) ?_
  refine zr_feV dX7_draws_15 (rfl : 15 + 3 = 18) l_X7_74 (m_lot b (90 - B 12 0) hb (by first | omega | (simp only [bset, reduceIte, Nat.reduceEqDiff]; omega)) h ok) (by first | assumption | exact mw_167 | exact mw_168 | exact mw_169 | exact mw_170 | exact bk_0 | exact bk_1 | exact bk_2 | exact bk_3 | exact bk_4 | exact bk_5 | exact bk_6 | exact bk_7 | exact bk_8 | exact bk_9 | exact bk_10 | exact bk_11 | exact bk_12 | exact bk_13 | exact bk_14 | exact bk_15 | exact bk_16 | exact zup_self | exact (zup_ne (by first | assumption | omega)).trans (by first | assumption | exact zup_self) | exact (zup_ne (by first | assumption | omega)).trans ((zup_ne (by first | assumption | omega)).trans (by first | assumption | exact zup_self)) | exact (bk_out (by first | omega | (simp only [bset, reduceIte, Nat.reduceEqDiff]; omega))).trans (by first | exact bk_0 | exact bk_1 | exact bk_2 | exact bk_3 | exact bk_4 | exact bk_5 | exact bk_6 | exact bk_7 | exact bk_8 | exact bk_9 | exact bk_10 | exact bk_11 | exact bk_12 | exact bk_13 | exact bk_14 | exact bk_15 | exact bk_16 | exact cr_5 | exact cr_23 | exact cr_24 | exact cr_25 | exact cr_26 | exact cr_27 | exact cr_28 | exact cr_29 | exact cr_30 | assumption)) rfl rfl rfl (Nat.le_of_ble_eq_true rfl) ?_
  rintro _ _ ⟨rfl, S15, hS15, rfl⟩
  refine zr_istore_n (lv' := [_, _, _, _, _, _, _]) dX7_draws_18 (rfl : 18 + 1 = 19) (Nat.le_of_ble_eq_true rfl) rfl ?_
  refine zr_iconst dX7_draws_19 (rfl : 19 + 1 = 20) ?_
  refine zr_istore_n (lv' := [_, _, _, _, _, _, _]) dX7_draws_20 (rfl : 20 + 1 = 21) (Nat.le_of_ble_eq_true rfl) rfl ?_
  refine zr_iconst dX7_draws_21 (rfl : 21 + 1 = 22) ?_
  refine zr_istore (lv' := [_, _, _, _, _, _, _]) dX7_draws_22 (rfl : 22 + 2 = 24) (Nat.le_of_ble_eq_true rfl) rfl ?_
  rw [hK]
  obtain ⟨ag, hm⟩ := hS15
  have hd : ∀ n, 1 ≤ n → n ≤ 90 → S15 (b + 95 + n) = B 7 n := hm.da
  have hsa : ∀ n, 1 ≤ n → n ≤ 90 → S15 (b + 186 + n) = B 8 n := hm.sa
  have hs1 : S15 (b + 1) = B 23 1 := hm.se 1 (by decide) (by decide)
  have hc1 : S15 (b + 457) = B 12 0 := hm.ca
  have hsl : S15 (b + 493) = B 13 0 := hm.sl
  refine zfor3 1 90 (fun n l x _ => l = K - jrk (jund B) n ∧ x = (if K < jrk (jund B) n then jball B else 0)) (fun n l x o5 => [some (.ref 167), some (.int (jI b)), some (.int (jI l)), some (.int (jI x)), some (.int (jI n)), o5, none]) (fun _ _ _ _ => mw S15 st ik th tx ty w) K 0 none ⟨by rw [jrk_1]; omega, by rw [jrk_1, if_neg (by omega)]⟩ ?_ ?_
  · intro n l x o5 n0 n1 hI hk
    obtain ⟨hl, hx⟩ := hI
    have hdn := hd n n0 (by omega)
    have hda := ok.da n
    have hs := jrk_succ (q := jund B) n0
    have hnn := jrk_nn (jund B) n
    have hle : jrk (jund B) n ≤ n - 1 := by have := (jcnt_nn (n - 1).toNat (fun z => jund B (z + 1))).2; unfold jrk; omega
    have hbb : (B 7 n = 0 ∧ jb (jund B n = true) = 1 ∧ (K ≠ jrk (jund B) n ∨ jball B = n)) ∨ (B 7 n ≠ 0 ∧ jb (jund B n = true) = 0) := by
      by_cases hh : B 7 n = 0
      · refine Or.inl ⟨hh, jb_pos (decide_eq_true hh), ?_⟩
        by_cases hk2 : K = jrk (jund B) n
        · right
          rw [hbn, hk2]
          exact jnth_at n0 (by omega) (decide_eq_true hh)
        · exact Or.inl hk2
      · exact Or.inr ⟨hh, jb_neg (fun z => hh (of_decide_eq_true z))⟩
    generalize jb (jund B n = true) = jq at hs hbb
    generalize jrk (jund B) (n + 1) = r1 at hs hk
    generalize jrk (jund B) n = r0 at hs hl hx hbb hnn hle
    refine zr_iload dX7_draws_24 (rfl : 24 + 2 = 26) rfl ?_
    refine zr_bipush dX7_draws_26 (rfl : 26 + 2 = 28) (by decide) ?_
    refine zr_icmp_gt (tgt := 88) dX7_draws_28 (by decide) (rfl : 28 + 3 = 31) (jI_lt (by first | omega | (simp only [bset, reduceIte, Nat.reduceEqDiff]; omega)) (by first | omega | (simp only [bset, reduceIte, Nat.reduceEqDiff]; omega)) (by first | omega | (simp only [bset, reduceIte, Nat.reduceEqDiff]; omega)) (by first | omega | (simp only [bset, reduceIte, Nat.reduceEqDiff]; omega))) (fun h28 => ?_) (fun h28 => ?_)
    · first
      | (exfalso; omega)
      | (
        refine zr_aload_n dX7_draws_88 (rfl : 88 + 1 = 89) rfl ?_
        refine zr_getf dX7_draws_89 (rfl : 89 + 3 = 92) f_X7_7 (by first | assumption | exact mw_167 | exact mw_168 | exact mw_169 | exact mw_170 | exact bk_0 | exact bk_1 | exact bk_2 | exact bk_3 | exact bk_4 | exact bk_5 | exact bk_6 | exact bk_7 | exact bk_8 | exact bk_9 | exact bk_10 | exact bk_11 | exact bk_12 | exact bk_13 | exact bk_14 | exact bk_15 | exact bk_16 | exact zup_self | exact (zup_ne (by first | assumption | omega)).trans (by first | assumption | exact zup_self) | exact (zup_ne (by first | assumption | omega)).trans ((zup_ne (by first | assumption | omega)).trans (by first | assumption | exact zup_self)) | exact (bk_out (by first | omega | (simp only [bset, reduceIte, Nat.reduceEqDiff]; omega))).trans (by first | exact bk_0 | exact bk_1 | exact bk_2 | exact bk_3 | exact bk_4 | exact bk_5 | exact bk_6 | exact bk_7 | exact bk_8 | exact bk_9 | exact bk_10 | exact bk_11 | exact bk_12 | exact bk_13 | exact bk_14 | exact bk_15 | exact bk_16 | exact cr_5 | exact cr_23 | exact cr_24 | exact cr_25 | exact cr_26 | exact cr_27 | exact cr_28 | exact cr_29 | exact cr_30 | assumption)) rfl ?_
        refine zr_iload_n dX7_draws_92 (rfl : 92 + 1 = 93) rfl ?_
        refine zr_sipush dX7_draws_93 (rfl : 93 + 3 = 96) (by decide) ?_
        refine zr_iadd dX7_draws_96 (rfl : 96 + 1 = 97) (by first | exact jI_add _ _ | rfl) ?_
        refine zr_iald dX7_draws_97 (rfl : 97 + 1 = 98) (by first | assumption | exact mw_167 | exact mw_168 | exact mw_169 | exact mw_170 | exact bk_0 | exact bk_1 | exact bk_2 | exact bk_3 | exact bk_4 | exact bk_5 | exact bk_6 | exact bk_7 | exact bk_8 | exact bk_9 | exact bk_10 | exact bk_11 | exact bk_12 | exact bk_13 | exact bk_14 | exact bk_15 | exact bk_16 | exact zup_self | exact (zup_ne (by first | assumption | omega)).trans (by first | assumption | exact zup_self) | exact (zup_ne (by first | assumption | omega)).trans ((zup_ne (by first | assumption | omega)).trans (by first | assumption | exact zup_self)) | exact (bk_out (by first | omega | (simp only [bset, reduceIte, Nat.reduceEqDiff]; omega))).trans (by first | exact bk_0 | exact bk_1 | exact bk_2 | exact bk_3 | exact bk_4 | exact bk_5 | exact bk_6 | exact bk_7 | exact bk_8 | exact bk_9 | exact bk_10 | exact bk_11 | exact bk_12 | exact bk_13 | exact bk_14 | exact bk_15 | exact bk_16 | exact cr_5 | exact cr_23 | exact cr_24 | exact cr_25 | exact cr_26 | exact cr_27 | exact cr_28 | exact cr_29 | exact cr_30 | assumption)) (by decide) (by first | omega | (simp only [bset, reduceIte, Nat.reduceEqDiff]; omega)) (by first | omega | (simp only [bset, reduceIte, Nat.reduceEqDiff]; omega)) ?_
        refine zr_istore (lv' := [_, _, _, _, _, _, _]) dX7_draws_98 (rfl : 98 + 2 = 100) (Nat.le_of_ble_eq_true rfl) rfl ?_
        refine zr_aload_n dX7_draws_100 (rfl : 100 + 1 = 101) rfl ?_
        refine zr_getf dX7_draws_101 (rfl : 101 + 3 = 104) f_X7_7 (by first | assumption | exact mw_167 | exact mw_168 | exact mw_169 | exact mw_170 | exact bk_0 | exact bk_1 | exact bk_2 | exact bk_3 | exact bk_4 | exact bk_5 | exact bk_6 | exact bk_7 | exact bk_8 | exact bk_9 | exact bk_10 | exact bk_11 | exact bk_12 | exact bk_13 | exact bk_14 | exact bk_15 | exact bk_16 | exact zup_self | exact (zup_ne (by first | assumption | omega)).trans (by first | assumption | exact zup_self) | exact (zup_ne (by first | assumption | omega)).trans ((zup_ne (by first | assumption | omega)).trans (by first | assumption | exact zup_self)) | exact (bk_out (by first | omega | (simp only [bset, reduceIte, Nat.reduceEqDiff]; omega))).trans (by first | exact bk_0 | exact bk_1 | exact bk_2 | exact bk_3 | exact bk_4 | exact bk_5 | exact bk_6 | exact bk_7 | exact bk_8 | exact bk_9 | exact bk_10 | exact bk_11 | exact bk_12 | exact bk_13 | exact bk_14 | exact bk_15 | exact bk_16 | exact cr_5 | exact cr_23 | exact cr_24 | exact cr_25 | exact cr_26 | exact cr_27 | exact cr_28 | exact cr_29 | exact cr_30 | assumption)) rfl ?_
        refine zr_iload_n dX7_draws_104 (rfl : 104 + 1 = 105) rfl ?_
        refine zr_sipush dX7_draws_105 (rfl : 105 + 3 = 108) (by decide) ?_
        refine zr_iadd dX7_draws_108 (rfl : 108 + 1 = 109) (by first | exact jI_add _ _ | rfl) ?_
        refine zr_dup2 dX7_draws_109 (rfl : 109 + 1 = 110) rfl rfl ?_
        refine zr_iald dX7_draws_110 (rfl : 110 + 1 = 111) (by first | assumption | exact mw_167 | exact mw_168 | exact mw_169 | exact mw_170 | exact bk_0 | exact bk_1 | exact bk_2 | exact bk_3 | exact bk_4 | exact bk_5 | exact bk_6 | exact bk_7 | exact bk_8 | exact bk_9 | exact bk_10 | exact bk_11 | exact bk_12 | exact bk_13 | exact bk_14 | exact bk_15 | exact bk_16 | exact zup_self | exact (zup_ne (by first | assumption | omega)).trans (by first | assumption | exact zup_self) | exact (zup_ne (by first | assumption | omega)).trans ((zup_ne (by first | assumption | omega)).trans (by first | assumption | exact zup_self)) | exact (bk_out (by first | omega | (simp only [bset, reduceIte, Nat.reduceEqDiff]; omega))).trans (by first | exact bk_0 | exact bk_1 | exact bk_2 | exact bk_3 | exact bk_4 | exact bk_5 | exact bk_6 | exact bk_7 | exact bk_8 | exact bk_9 | exact bk_10 | exact bk_11 | exact bk_12 | exact bk_13 | exact bk_14 | exact bk_15 | exact bk_16 | exact cr_5 | exact cr_23 | exact cr_24 | exact cr_25 | exact cr_26 | exact cr_27 | exact cr_28 | exact cr_29 | exact cr_30 | assumption)) (by decide) (by first | omega | (simp only [bset, reduceIte, Nat.reduceEqDiff]; omega)) (by first | omega | (simp only [bset, reduceIte, Nat.reduceEqDiff]; omega)) ?_
        refine zr_iconst dX7_draws_111 (rfl : 111 + 1 = 112) ?_
        refine zr_iadd dX7_draws_112 (rfl : 112 + 1 = 113) (by first | exact jI_add _ _ | rfl) ?_
        refine zr_iast dX7_draws_113 (rfl : 113 + 1 = 114) (by first | assumption | exact mw_167 | exact mw_168 | exact mw_169 | exact mw_170 | exact bk_0 | exact bk_1 | exact bk_2 | exact bk_3 | exact bk_4 | exact bk_5 | exact bk_6 | exact bk_7 | exact bk_8 | exact bk_9 | exact bk_10 | exact bk_11 | exact bk_12 | exact bk_13 | exact bk_14 | exact bk_15 | exact bk_16 | exact zup_self | exact (zup_ne (by first | assumption | omega)).trans (by first | assumption | exact zup_self) | exact (zup_ne (by first | assumption | omega)).trans ((zup_ne (by first | assumption | omega)).trans (by first | assumption | exact zup_self)) | exact (bk_out (by first | omega | (simp only [bset, reduceIte, Nat.reduceEqDiff]; omega))).trans (by first | exact bk_0 | exact bk_1 | exact bk_2 | exact bk_3 | exact bk_4 | exact bk_5 | exact bk_6 | exact bk_7 | exact bk_8 | exact bk_9 | exact bk_10 | exact bk_11 | exact bk_12 | exact bk_13 | exact bk_14 | exact bk_15 | exact bk_16 | exact cr_5 | exact cr_23 | exact cr_24 | exact cr_25 | exact cr_26 | exact cr_27 | exact cr_28 | exact cr_29 | exact cr_30 | assumption)) (by decide) (by first | omega | (simp only [bset, reduceIte, Nat.reduceEqDiff]; omega)) (by first | omega | (simp only [bset, reduceIte, Nat.reduceEqDiff]; omega)) rfl ?_
        refine zr_aload_n dX7_draws_114 (rfl : 114 + 1 = 115) rfl ?_
        refine zr_getf dX7_draws_115 (rfl : 115 + 3 = 118) f_X7_7 (by first | assumption | exact mw_167 | exact mw_168 | exact mw_169 | exact mw_170 | exact bk_0 | exact bk_1 | exact bk_2 | exact bk_3 | exact bk_4 | exact bk_5 | exact bk_6 | exact bk_7 | exact bk_8 | exact bk_9 | exact bk_10 | exact bk_11 | exact bk_12 | exact bk_13 | exact bk_14 | exact bk_15 | exact bk_16 | exact zup_self | exact (zup_ne (by first | assumption | omega)).trans (by first | assumption | exact zup_self) | exact (zup_ne (by first | assumption | omega)).trans ((zup_ne (by first | assumption | omega)).trans (by first | assumption | exact zup_self)) | exact (bk_out (by first | omega | (simp only [bset, reduceIte, Nat.reduceEqDiff]; omega))).trans (by first | exact bk_0 | exact bk_1 | exact bk_2 | exact bk_3 | exact bk_4 | exact bk_5 | exact bk_6 | exact bk_7 | exact bk_8 | exact bk_9 | exact bk_10 | exact bk_11 | exact bk_12 | exact bk_13 | exact bk_14 | exact bk_15 | exact bk_16 | exact cr_5 | exact cr_23 | exact cr_24 | exact cr_25 | exact cr_26 | exact cr_27 | exact cr_28 | exact cr_29 | exact cr_30 | assumption)) rfl ?_
        refine zr_iload_n dX7_draws_118 (rfl : 118 + 1 = 119) rfl ?_
        refine zr_iconst dX7_draws_119 (rfl : 119 + 1 = 120) ?_
        refine zr_iadd dX7_draws_120 (rfl : 120 + 1 = 121) (by first | exact jI_add _ _ | rfl) ?_
        refine zr_iald dX7_draws_121 (rfl : 121 + 1 = 122) (by first | assumption | exact mw_167 | exact mw_168 | exact mw_169 | exact mw_170 | exact bk_0 | exact bk_1 | exact bk_2 | exact bk_3 | exact bk_4 | exact bk_5 | exact bk_6 | exact bk_7 | exact bk_8 | exact bk_9 | exact bk_10 | exact bk_11 | exact bk_12 | exact bk_13 | exact bk_14 | exact bk_15 | exact bk_16 | exact zup_self | exact (zup_ne (by first | assumption | omega)).trans (by first | assumption | exact zup_self) | exact (zup_ne (by first | assumption | omega)).trans ((zup_ne (by first | assumption | omega)).trans (by first | assumption | exact zup_self)) | exact (bk_out (by first | omega | (simp only [bset, reduceIte, Nat.reduceEqDiff]; omega))).trans (by first | exact bk_0 | exact bk_1 | exact bk_2 | exact bk_3 | exact bk_4 | exact bk_5 | exact bk_6 | exact bk_7 | exact bk_8 | exact bk_9 | exact bk_10 | exact bk_11 | exact bk_12 | exact bk_13 | exact bk_14 | exact bk_15 | exact bk_16 | exact cr_5 | exact cr_23 | exact cr_24 | exact cr_25 | exact cr_26 | exact cr_27 | exact cr_28 | exact cr_29 | exact cr_30 | assumption)) (by decide) (by first | omega | (simp only [bset, reduceIte, Nat.reduceEqDiff]; omega)) (by first | omega | (simp only [bset, reduceIte, Nat.reduceEqDiff]; omega)) ?_
        refine zr_if_le (tgt := 145) dX7_draws_122 (by decide) (rfl : 122 + 3 = 125) (jI_lez (by first | omega | (simp only [bset, reduceIte, Nat.reduceEqDiff]; omega)) (by first | omega | (simp only [bset, reduceIte, Nat.reduceEqDiff]; omega))) (fun h122 => ?_) (fun h122 => ?_)
        · first
          | (exfalso; omega)
          | (
            refine zr_iconst dX7_draws_145 (rfl : 145 + 1 = 146) ?_
            refine zr_istore (lv' := [_, _, _, _, _, _, _]) dX7_draws_146 (rfl : 146 + 2 = 148) (Nat.le_of_ble_eq_true rfl) rfl ?_
            refine zr_iload dX7_draws_148 (rfl : 148 + 2 = 150) rfl ?_
            refine zr_if_ne (tgt := 157) dX7_draws_150 (by decide) (rfl : 150 + 3 = 153) (by first | exact jb_iff | exact jI_z (by first | omega | (simp only [bset, reduceIte, Nat.reduceEqDiff]; omega)) (by first | omega | (simp only [bset, reduceIte, Nat.reduceEqDiff]; omega))) (fun h150 => ?_) (fun h150 => ?_)
            · first
              | (exfalso; omega)
              | (
                refine zr_iload_n dX7_draws_157 (rfl : 157 + 1 = 158) rfl ?_
                refine zr_bipush dX7_draws_158 (rfl : 158 + 2 = 160) (by decide) ?_
                refine zr_icmp_ne (tgt := 167) dX7_draws_160 (by decide) (rfl : 160 + 3 = 163) (jI_eq (by first | omega | (simp only [bset, reduceIte, Nat.reduceEqDiff]; omega)) (by first | omega | (simp only [bset, reduceIte, Nat.reduceEqDiff]; omega)) (by first | omega | (simp only [bset, reduceIte, Nat.reduceEqDiff]; omega)) (by first | omega | (simp only [bset, reduceIte, Nat.reduceEqDiff]; omega))) (fun h160 => ?_) (fun h160 => ?_)
                · first
                  | (exfalso; omega)
                  | (
                    refine zr_iload_n dX7_draws_167 (rfl : 167 + 1 = 168) rfl ?_
                    refine zr_iconst dX7_draws_168 (rfl : 168 + 1 = 169) ?_
                    refine zr_iadd dX7_draws_169 (rfl : 169 + 1 = 170) (by first | exact jI_add _ _ | rfl) ?_
                    refine zr_istore (lv' := [_, _, _, _, _, _, _]) dX7_draws_170 (rfl : 170 + 2 = 172) (Nat.le_of_ble_eq_true rfl) rfl ?_
                    refine zr_aload_n dX7_draws_172 (rfl : 172 + 1 = 173) rfl ?_
                    refine zr_getf dX7_draws_173 (rfl : 173 + 3 = 176) f_X7_7 (by first | assumption | exact mw_167 | exact mw_168 | exact mw_169 | exact mw_170 | exact bk_0 | exact bk_1 | exact bk_2 | exact bk_3 | exact bk_4 | exact bk_5 | exact bk_6 | exact bk_7 | exact bk_8 | exact bk_9 | exact bk_10 | exact bk_11 | exact bk_12 | exact bk_13 | exact bk_14 | exact bk_15 | exact bk_16 | exact zup_self | exact (zup_ne (by first | assumption | omega)).trans (by first | assumption | exact zup_self) | exact (zup_ne (by first | assumption | omega)).trans ((zup_ne (by first | assumption | omega)).trans (by first | assumption | exact zup_self)) | exact (bk_out (by first | omega | (simp only [bset, reduceIte, Nat.reduceEqDiff]; omega))).trans (by first | exact bk_0 | exact bk_1 | exact bk_2 | exact bk_3 | exact bk_4 | exact bk_5 | exact bk_6 | exact bk_7 | exact bk_8 | exact bk_9 | exact bk_10 | exact bk_11 | exact bk_12 | exact bk_13 | exact bk_14 | exact bk_15 | exact bk_16 | exact cr_5 | exact cr_23 | exact cr_24 | exact cr_25 | exact cr_26 | exact cr_27 | exact cr_28 | exact cr_29 | exact cr_30 | assumption)) rfl ?_
                    refine zr_iload_n dX7_draws_176 (rfl : 176 + 1 = 177) rfl ?_
                    refine zr_bipush dX7_draws_177 (rfl : 177 + 2 = 179) (by decide) ?_
                    refine zr_iadd dX7_draws_179 (rfl : 179 + 1 = 180) (by first | exact jI_add _ _ | rfl) ?_
                    refine zr_iload_n dX7_draws_180 (rfl : 180 + 1 = 181) rfl ?_
                    refine zr_iadd dX7_draws_181 (rfl : 181 + 1 = 182) (by first | exact jI_add _ _ | rfl) ?_
                    refine zr_iload dX7_draws_182 (rfl : 182 + 2 = 184) rfl ?_
                    refine zr_iconst dX7_draws_184 (rfl : 184 + 1 = 185) ?_
                    refine zr_iadd dX7_draws_185 (rfl : 185 + 1 = 186) (by first | exact jI_add _ _ | rfl) ?_
                    refine zr_iast dX7_draws_186 (rfl : 186 + 1 = 187) (by first | assumption | exact mw_167 | exact mw_168 | exact mw_169 | exact mw_170 | exact bk_0 | exact bk_1 | exact bk_2 | exact bk_3 | exact bk_4 | exact bk_5 | exact bk_6 | exact bk_7 | exact bk_8 | exact bk_9 | exact bk_10 | exact bk_11 | exact bk_12 | exact bk_13 | exact bk_14 | exact bk_15 | exact bk_16 | exact zup_self | exact (zup_ne (by first | assumption | omega)).trans (by first | assumption | exact zup_self) | exact (zup_ne (by first | assumption | omega)).trans ((zup_ne (by first | assumption | omega)).trans (by first | assumption | exact zup_self)) | exact (bk_out (by first | omega | (simp only [bset, reduceIte, Nat.reduceEqDiff]; omega))).trans (by first | exact bk_0 | exact bk_1 | exact bk_2 | exact bk_3 | exact bk_4 | exact bk_5 | exact bk_6 | exact bk_7 | exact bk_8 | exact bk_9 | exact bk_10 | exact bk_11 | exact bk_12 | exact bk_13 | exact bk_14 | exact bk_15 | exact bk_16 | exact cr_5 | exact cr_23 | exact cr_24 | exact cr_25 | exact cr_26 | exact cr_27 | exact cr_28 | exact cr_29 | exact cr_30 | assumption)) (by decide) (by first | omega | (simp only [bset, reduceIte, Nat.reduceEqDiff]; omega)) (by first | omega | (simp only [bset, reduceIte, Nat.reduceEqDiff]; omega)) rfl ?_
                    refine zr_aload_n dX7_draws_187 (rfl : 187 + 1 = 188) rfl ?_
                    refine zr_getf dX7_draws_188 (rfl : 188 + 3 = 191) f_X7_7 (by first | assumption | exact mw_167 | exact mw_168 | exact mw_169 | exact mw_170 | exact bk_0 | exact bk_1 | exact bk_2 | exact bk_3 | exact bk_4 | exact bk_5 | exact bk_6 | exact bk_7 | exact bk_8 | exact bk_9 | exact bk_10 | exact bk_11 | exact bk_12 | exact bk_13 | exact bk_14 | exact bk_15 | exact bk_16 | exact zup_self | exact (zup_ne (by first | assumption | omega)).trans (by first | assumption | exact zup_self) | exact (zup_ne (by first | assumption | omega)).trans ((zup_ne (by first | assumption | omega)).trans (by first | assumption | exact zup_self)) | exact (bk_out (by first | omega | (simp only [bset, reduceIte, Nat.reduceEqDiff]; omega))).trans (by first | exact bk_0 | exact bk_1 | exact bk_2 | exact bk_3 | exact bk_4 | exact bk_5 | exact bk_6 | exact bk_7 | exact bk_8 | exact bk_9 | exact bk_10 | exact bk_11 | exact bk_12 | exact bk_13 | exact bk_14 | exact bk_15 | exact bk_16 | exact cr_5 | exact cr_23 | exact cr_24 | exact cr_25 | exact cr_26 | exact cr_27 | exact cr_28 | exact cr_29 | exact cr_30 | assumption)) rfl ?_
                    refine zr_iload_n dX7_draws_191 (rfl : 191 + 1 = 192) rfl ?_
                    refine zr_sipush dX7_draws_192 (rfl : 192 + 3 = 195) (by decide) ?_
                    refine zr_iadd dX7_draws_195 (rfl : 195 + 1 = 196) (by first | exact jI_add _ _ | rfl) ?_
                    refine zr_iload dX7_draws_196 (rfl : 196 + 2 = 198) rfl ?_
                    refine zr_iadd dX7_draws_198 (rfl : 198 + 1 = 199) (by first | exact jI_add _ _ | rfl) ?_
                    refine zr_dup2 dX7_draws_199 (rfl : 199 + 1 = 200) rfl rfl ?_
                    refine zr_iald dX7_draws_200 (rfl : 200 + 1 = 201) (by first | assumption | exact mw_167 | exact mw_168 | exact mw_169 | exact mw_170 | exact bk_0 | exact bk_1 | exact bk_2 | exact bk_3 | exact bk_4 | exact bk_5 | exact bk_6 | exact bk_7 | exact bk_8 | exact bk_9 | exact bk_10 | exact bk_11 | exact bk_12 | exact bk_13 | exact bk_14 | exact bk_15 | exact bk_16 | exact zup_self | exact (zup_ne (by first | assumption | omega)).trans (by first | assumption | exact zup_self) | exact (zup_ne (by first | assumption | omega)).trans ((zup_ne (by first | assumption | omega)).trans (by first | assumption | exact zup_self)) | exact (bk_out (by first | omega | (simp only [bset, reduceIte, Nat.reduceEqDiff]; omega))).trans (by first | exact bk_0 | exact bk_1 | exact bk_2 | exact bk_3 | exact bk_4 | exact bk_5 | exact bk_6 | exact bk_7 | exact bk_8 | exact bk_9 | exact bk_10 | exact bk_11 | exact bk_12 | exact bk_13 | exact bk_14 | exact bk_15 | exact bk_16 | exact cr_5 | exact cr_23 | exact cr_24 | exact cr_25 | exact cr_26 | exact cr_27 | exact cr_28 | exact cr_29 | exact cr_30 | assumption)) (by decide) (by first | omega | (simp only [bset, reduceIte, Nat.reduceEqDiff]; omega)) (by first | omega | (simp only [bset, reduceIte, Nat.reduceEqDiff]; omega)) ?_
                    refine zr_iconst dX7_draws_201 (rfl : 201 + 1 = 202) ?_
                    refine zr_iadd dX7_draws_202 (rfl : 202 + 1 = 203) (by first | exact jI_add _ _ | rfl) ?_
                    refine zr_iast dX7_draws_203 (rfl : 203 + 1 = 204) (by first | assumption | exact mw_167 | exact mw_168 | exact mw_169 | exact mw_170 | exact bk_0 | exact bk_1 | exact bk_2 | exact bk_3 | exact bk_4 | exact bk_5 | exact bk_6 | exact bk_7 | exact bk_8 | exact bk_9 | exact bk_10 | exact bk_11 | exact bk_12 | exact bk_13 | exact bk_14 | exact bk_15 | exact bk_16 | exact zup_self | exact (zup_ne (by first | assumption | omega)).trans (by first | assumption | exact zup_self) | exact (zup_ne (by first | assumption | omega)).trans ((zup_ne (by first | assumption | omega)).trans (by first | assumption | exact zup_self)) | exact (bk_out (by first | omega | (simp only [bset, reduceIte, Nat.reduceEqDiff]; omega))).trans (by first | exact bk_0 | exact bk_1 | exact bk_2 | exact bk_3 | exact bk_4 | exact bk_5 | exact bk_6 | exact bk_7 | exact bk_8 | exact bk_9 | exact bk_10 | exact bk_11 | exact bk_12 | exact bk_13 | exact bk_14 | exact bk_15 | exact bk_16 | exact cr_5 | exact cr_23 | exact cr_24 | exact cr_25 | exact cr_26 | exact cr_27 | exact cr_28 | exact cr_29 | exact cr_30 | assumption)) (by decide) (by first | omega | (simp only [bset, reduceIte, Nat.reduceEqDiff]; omega)) (by first | omega | (simp only [bset, reduceIte, Nat.reduceEqDiff]; omega)) rfl ?_
                    refine zr_aload_n dX7_draws_204 (rfl : 204 + 1 = 205) rfl ?_
                    refine zr_getf dX7_draws_205 (rfl : 205 + 3 = 208) f_X7_7 (by first | assumption | exact mw_167 | exact mw_168 | exact mw_169 | exact mw_170 | exact bk_0 | exact bk_1 | exact bk_2 | exact bk_3 | exact bk_4 | exact bk_5 | exact bk_6 | exact bk_7 | exact bk_8 | exact bk_9 | exact bk_10 | exact bk_11 | exact bk_12 | exact bk_13 | exact bk_14 | exact bk_15 | exact bk_16 | exact zup_self | exact (zup_ne (by first | assumption | omega)).trans (by first | assumption | exact zup_self) | exact (zup_ne (by first | assumption | omega)).trans ((zup_ne (by first | assumption | omega)).trans (by first | assumption | exact zup_self)) | exact (bk_out (by first | omega | (simp only [bset, reduceIte, Nat.reduceEqDiff]; omega))).trans (by first | exact bk_0 | exact bk_1 | exact bk_2 | exact bk_3 | exact bk_4 | exact bk_5 | exact bk_6 | exact bk_7 | exact bk_8 | exact bk_9 | exact bk_10 | exact bk_11 | exact bk_12 | exact bk_13 | exact bk_14 | exact bk_15 | exact bk_16 | exact cr_5 | exact cr_23 | exact cr_24 | exact cr_25 | exact cr_26 | exact cr_27 | exact cr_28 | exact cr_29 | exact cr_30 | assumption)) rfl ?_
                    refine zr_iload_n dX7_draws_208 (rfl : 208 + 1 = 209) rfl ?_
                    refine zr_sipush dX7_draws_209 (rfl : 209 + 3 = 212) (by decide) ?_
                    refine zr_iadd dX7_draws_212 (rfl : 212 + 1 = 213) (by first | exact jI_add _ _ | rfl) ?_
                    refine zr_iload dX7_draws_213 (rfl : 213 + 2 = 215) rfl ?_
                    refine zr_iadd dX7_draws_215 (rfl : 215 + 1 = 216) (by first | exact jI_add _ _ | rfl) ?_
                    refine zr_iload_n dX7_draws_216 (rfl : 216 + 1 = 217) rfl ?_
                    refine zr_iast dX7_draws_217 (rfl : 217 + 1 = 218) (by first | assumption | exact mw_167 | exact mw_168 | exact mw_169 | exact mw_170 | exact bk_0 | exact bk_1 | exact bk_2 | exact bk_3 | exact bk_4 | exact bk_5 | exact bk_6 | exact bk_7 | exact bk_8 | exact bk_9 | exact bk_10 | exact bk_11 | exact bk_12 | exact bk_13 | exact bk_14 | exact bk_15 | exact bk_16 | exact zup_self | exact (zup_ne (by first | assumption | omega)).trans (by first | assumption | exact zup_self) | exact (zup_ne (by first | assumption | omega)).trans ((zup_ne (by first | assumption | omega)).trans (by first | assumption | exact zup_self)) | exact (bk_out (by first | omega | (simp only [bset, reduceIte, Nat.reduceEqDiff]; omega))).trans (by first | exact bk_0 | exact bk_1 | exact bk_2 | exact bk_3 | exact bk_4 | exact bk_5 | exact bk_6 | exact bk_7 | exact bk_8 | exact bk_9 | exact bk_10 | exact bk_11 | exact bk_12 | exact bk_13 | exact bk_14 | exact bk_15 | exact bk_16 | exact cr_5 | exact cr_23 | exact cr_24 | exact cr_25 | exact cr_26 | exact cr_27 | exact cr_28 | exact cr_29 | exact cr_30 | assumption)) (by decide) (by first | omega | (simp only [bset, reduceIte, Nat.reduceEqDiff]; omega)) (by first | omega | (simp only [bset, reduceIte, Nat.reduceEqDiff]; omega)) rfl ?_
                    refine zr_aload_n dX7_draws_218 (rfl : 218 + 1 = 219) rfl ?_
                    refine zr_getf dX7_draws_219 (rfl : 219 + 3 = 222) f_X7_7 (by first | assumption | exact mw_167 | exact mw_168 | exact mw_169 | exact mw_170 | exact bk_0 | exact bk_1 | exact bk_2 | exact bk_3 | exact bk_4 | exact bk_5 | exact bk_6 | exact bk_7 | exact bk_8 | exact bk_9 | exact bk_10 | exact bk_11 | exact bk_12 | exact bk_13 | exact bk_14 | exact bk_15 | exact bk_16 | exact zup_self | exact (zup_ne (by first | assumption | omega)).trans (by first | assumption | exact zup_self) | exact (zup_ne (by first | assumption | omega)).trans ((zup_ne (by first | assumption | omega)).trans (by first | assumption | exact zup_self)) | exact (bk_out (by first | omega | (simp only [bset, reduceIte, Nat.reduceEqDiff]; omega))).trans (by first | exact bk_0 | exact bk_1 | exact bk_2 | exact bk_3 | exact bk_4 | exact bk_5 | exact bk_6 | exact bk_7 | exact bk_8 | exact bk_9 | exact bk_10 | exact bk_11 | exact bk_12 | exact bk_13 | exact bk_14 | exact bk_15 | exact bk_16 | exact cr_5 | exact cr_23 | exact cr_24 | exact cr_25 | exact cr_26 | exact cr_27 | exact cr_28 | exact cr_29 | exact cr_30 | assumption)) rfl ?_
                    refine zr_iload_n dX7_draws_222 (rfl : 222 + 1 = 223) rfl ?_
                    refine zr_sipush dX7_draws_223 (rfl : 223 + 3 = 226) (by decide) ?_
                    refine zr_iadd dX7_draws_226 (rfl : 226 + 1 = 227) (by first | exact jI_add _ _ | rfl) ?_
                    refine zr_iload dX7_draws_227 (rfl : 227 + 2 = 229) rfl ?_
                    refine zr_iadd dX7_draws_229 (rfl : 229 + 1 = 230) (by first | exact jI_add _ _ | rfl) ?_
                    refine zr_iload dX7_draws_230 (rfl : 230 + 2 = 232) rfl ?_
                    refine zr_iast dX7_draws_232 (rfl : 232 + 1 = 233) (by first | assumption | exact mw_167 | exact mw_168 | exact mw_169 | exact mw_170 | exact bk_0 | exact bk_1 | exact bk_2 | exact bk_3 | exact bk_4 | exact bk_5 | exact bk_6 | exact bk_7 | exact bk_8 | exact bk_9 | exact bk_10 | exact bk_11 | exact bk_12 | exact bk_13 | exact bk_14 | exact bk_15 | exact bk_16 | exact zup_self | exact (zup_ne (by first | assumption | omega)).trans (by first | assumption | exact zup_self) | exact (zup_ne (by first | assumption | omega)).trans ((zup_ne (by first | assumption | omega)).trans (by first | assumption | exact zup_self)) | exact (bk_out (by first | omega | (simp only [bset, reduceIte, Nat.reduceEqDiff]; omega))).trans (by first | exact bk_0 | exact bk_1 | exact bk_2 | exact bk_3 | exact bk_4 | exact bk_5 | exact bk_6 | exact bk_7 | exact bk_8 | exact bk_9 | exact bk_10 | exact bk_11 | exact bk_12 | exact bk_13 | exact bk_14 | exact bk_15 | exact bk_16 | exact cr_5 | exact cr_23 | exact cr_24 | exact cr_25 | exact cr_26 | exact cr_27 | exact cr_28 | exact cr_29 | exact cr_30 | assumption)) (by decide) (by first | omega | (simp only [bset, reduceIte, Nat.reduceEqDiff]; omega)) (by first | omega | (simp only [bset, reduceIte, Nat.reduceEqDiff]; omega)) rfl ?_
                    refine zr_aload_n dX7_draws_233 (rfl : 233 + 1 = 234) rfl ?_
                    refine zr_getf dX7_draws_234 (rfl : 234 + 3 = 237) f_X7_7 (by first | assumption | exact mw_167 | exact mw_168 | exact mw_169 | exact mw_170 | exact bk_0 | exact bk_1 | exact bk_2 | exact bk_3 | exact bk_4 | exact bk_5 | exact bk_6 | exact bk_7 | exact bk_8 | exact bk_9 | exact bk_10 | exact bk_11 | exact bk_12 | exact bk_13 | exact bk_14 | exact bk_15 | exact bk_16 | exact zup_self | exact (zup_ne (by first | assumption | omega)).trans (by first | assumption | exact zup_self) | exact (zup_ne (by first | assumption | omega)).trans ((zup_ne (by first | assumption | omega)).trans (by first | assumption | exact zup_self)) | exact (bk_out (by first | omega | (simp only [bset, reduceIte, Nat.reduceEqDiff]; omega))).trans (by first | exact bk_0 | exact bk_1 | exact bk_2 | exact bk_3 | exact bk_4 | exact bk_5 | exact bk_6 | exact bk_7 | exact bk_8 | exact bk_9 | exact bk_10 | exact bk_11 | exact bk_12 | exact bk_13 | exact bk_14 | exact bk_15 | exact bk_16 | exact cr_5 | exact cr_23 | exact cr_24 | exact cr_25 | exact cr_26 | exact cr_27 | exact cr_28 | exact cr_29 | exact cr_30 | assumption)) rfl ?_
                    refine zr_iload_n dX7_draws_237 (rfl : 237 + 1 = 238) rfl ?_
                    refine zr_sipush dX7_draws_238 (rfl : 238 + 3 = 241) (by decide) ?_
                    refine zr_iadd dX7_draws_241 (rfl : 241 + 1 = 242) (by first | exact jI_add _ _ | rfl) ?_
                    refine zr_dup2 dX7_draws_242 (rfl : 242 + 1 = 243) rfl rfl ?_
                    refine zr_iald dX7_draws_243 (rfl : 243 + 1 = 244) (by first | assumption | exact mw_167 | exact mw_168 | exact mw_169 | exact mw_170 | exact bk_0 | exact bk_1 | exact bk_2 | exact bk_3 | exact bk_4 | exact bk_5 | exact bk_6 | exact bk_7 | exact bk_8 | exact bk_9 | exact bk_10 | exact bk_11 | exact bk_12 | exact bk_13 | exact bk_14 | exact bk_15 | exact bk_16 | exact zup_self | exact (zup_ne (by first | assumption | omega)).trans (by first | assumption | exact zup_self) | exact (zup_ne (by first | assumption | omega)).trans ((zup_ne (by first | assumption | omega)).trans (by first | assumption | exact zup_self)) | exact (bk_out (by first | omega | (simp only [bset, reduceIte, Nat.reduceEqDiff]; omega))).trans (by first | exact bk_0 | exact bk_1 | exact bk_2 | exact bk_3 | exact bk_4 | exact bk_5 | exact bk_6 | exact bk_7 | exact bk_8 | exact bk_9 | exact bk_10 | exact bk_11 | exact bk_12 | exact bk_13 | exact bk_14 | exact bk_15 | exact bk_16 | exact cr_5 | exact cr_23 | exact cr_24 | exact cr_25 | exact cr_26 | exact cr_27 | exact cr_28 | exact cr_29 | exact cr_30 | assumption)) (by decide) (by first | omega | (simp only [bset, reduceIte, Nat.reduceEqDiff]; omega)) (by first | omega | (simp only [bset, reduceIte, Nat.reduceEqDiff]; omega)) ?_
                    refine zr_iload dX7_draws_244 (rfl : 244 + 2 = 246) rfl ?_
                    refine zr_if_eq (tgt := 253) dX7_draws_246 (by decide) (rfl : 246 + 3 = 249) (by first | exact jb_iff | exact jI_z (by first | omega | (simp only [bset, reduceIte, Nat.reduceEqDiff]; omega)) (by first | omega | (simp only [bset, reduceIte, Nat.reduceEqDiff]; omega))) (fun h246 => ?_) (fun h246 => ?_)
                    · first
                      | (exfalso; omega)
                      | (
                        refine zr_iconst dX7_draws_253 (rfl : 253 + 1 = 254) ?_
                        refine zr_iadd dX7_draws_254 (rfl : 254 + 1 = 255) (by first | exact jI_add _ _ | rfl) ?_
                        refine zr_iast dX7_draws_255 (rfl : 255 + 1 = 256) (by first | assumption | exact mw_167 | exact mw_168 | exact mw_169 | exact mw_170 | exact bk_0 | exact bk_1 | exact bk_2 | exact bk_3 | exact bk_4 | exact bk_5 | exact bk_6 | exact bk_7 | exact bk_8 | exact bk_9 | exact bk_10 | exact bk_11 | exact bk_12 | exact bk_13 | exact bk_14 | exact bk_15 | exact bk_16 | exact zup_self | exact (zup_ne (by first | assumption | omega)).trans (by first | assumption | exact zup_self) | exact (zup_ne (by first | assumption | omega)).trans ((zup_ne (by first | assumption | omega)).trans (by first | assumption | exact zup_self)) | exact (bk_out (by first | omega | (simp only [bset, reduceIte, Nat.reduceEqDiff]; omega))).trans (by first | exact bk_0 | exact bk_1 | exact bk_2 | exact bk_3 | exact bk_4 | exact bk_5 | exact bk_6 | exact bk_7 | exact bk_8 | exact bk_9 | exact bk_10 | exact bk_11 | exact bk_12 | exact bk_13 | exact bk_14 | exact bk_15 | exact bk_16 | exact cr_5 | exact cr_23 | exact cr_24 | exact cr_25 | exact cr_26 | exact cr_27 | exact cr_28 | exact cr_29 | exact cr_30 | assumption)) (by decide) (by first | omega | (simp only [bset, reduceIte, Nat.reduceEqDiff]; omega)) (by first | omega | (simp only [bset, reduceIte, Nat.reduceEqDiff]; omega)) rfl ?_
                        refine zr_iload_n dX7_draws_256 (rfl : 256 + 1 = 257) rfl ?_
                        refine zr_iret dX7_draws_257 rfl (by first | rfl | exact jb_nar) ?_ rfl rfl rfl
                        first | rfl | rw [jb_pos (by first | assumption | omega)] | rw [jb_neg (by first | assumption | omega)] | rw [if_pos (by first | assumption | omega)] | rw [if_neg (by first | assumption | omega)])
                    · first
                      | (exfalso; omega)
                      | (
                        refine zr_iconst dX7_draws_249 (rfl : 249 + 1 = 250) ?_
                        refine zr_goto (tgt := 254) dX7_draws_250 (by decide) ?_
                        refine zr_iadd dX7_draws_254 (rfl : 254 + 1 = 255) (by first | exact jI_add _ _ | rfl) ?_
                        refine zr_iast dX7_draws_255 (rfl : 255 + 1 = 256) (by first | assumption | exact mw_167 | exact mw_168 | exact mw_169 | exact mw_170 | exact bk_0 | exact bk_1 | exact bk_2 | exact bk_3 | exact bk_4 | exact bk_5 | exact bk_6 | exact bk_7 | exact bk_8 | exact bk_9 | exact bk_10 | exact bk_11 | exact bk_12 | exact bk_13 | exact bk_14 | exact bk_15 | exact bk_16 | exact zup_self | exact (zup_ne (by first | assumption | omega)).trans (by first | assumption | exact zup_self) | exact (zup_ne (by first | assumption | omega)).trans ((zup_ne (by first | assumption | omega)).trans (by first | assumption | exact zup_self)) | exact (bk_out (by first | omega | (simp only [bset, reduceIte, Nat.reduceEqDiff]; omega))).trans (by first | exact bk_0 | exact bk_1 | exact bk_2 | exact bk_3 | exact bk_4 | exact bk_5 | exact bk_6 | exact bk_7 | exact bk_8 | exact bk_9 | exact bk_10 | exact bk_11 | exact bk_12 | exact bk_13 | exact bk_14 | exact bk_15 | exact bk_16 | exact cr_5 | exact cr_23 | exact cr_24 | exact cr_25 | exact cr_26 | exact cr_27 | exact cr_28 | exact cr_29 | exact cr_30 | assumption)) (by decide) (by first | omega | (simp only [bset, reduceIte, Nat.reduceEqDiff]; omega)) (by first | omega | (simp only [bset, reduceIte, Nat.reduceEqDiff]; omega)) rfl ?_
                        refine zr_iload_n dX7_draws_256 (rfl : 256 + 1 = 257) rfl ?_
                        refine zr_iret dX7_draws_257 rfl (by first | rfl | exact jb_nar) ?_ rfl rfl rfl
                        first | rfl | rw [jb_pos (by first | assumption | omega)] | rw [jb_neg (by first | assumption | omega)] | rw [if_pos (by first | assumption | omega)] | rw [if_neg (by first | assumption | omega)]))
                · first
                  | (exfalso; omega)
                  | (
                    refine zr_iconst dX7_draws_163 (rfl : 163 + 1 = 164) ?_
                    refine zr_goto (tgt := 170) dX7_draws_164 (by decide) ?_
                    refine zr_istore (lv' := [_, _, _, _, _, _, _]) dX7_draws_170 (rfl : 170 + 2 = 172) (Nat.le_of_ble_eq_true rfl) rfl ?_
                    refine zr_aload_n dX7_draws_172 (rfl : 172 + 1 = 173) rfl ?_
                    refine zr_getf dX7_draws_173 (rfl : 173 + 3 = 176) f_X7_7 (by first | assumption | exact mw_167 | exact mw_168 | exact mw_169 | exact mw_170 | exact bk_0 | exact bk_1 | exact bk_2 | exact bk_3 | exact bk_4 | exact bk_5 | exact bk_6 | exact bk_7 | exact bk_8 | exact bk_9 | exact bk_10 | exact bk_11 | exact bk_12 | exact bk_13 | exact bk_14 | exact bk_15 | exact bk_16 | exact zup_self | exact (zup_ne (by first | assumption | omega)).trans (by first | assumption | exact zup_self) | exact (zup_ne (by first | assumption | omega)).trans ((zup_ne (by first | assumption | omega)).trans (by first | assumption | exact zup_self)) | exact (bk_out (by first | omega | (simp only [bset, reduceIte, Nat.reduceEqDiff]; omega))).trans (by first | exact bk_0 | exact bk_1 | exact bk_2 | exact bk_3 | exact bk_4 | exact bk_5 | exact bk_6 | exact bk_7 | exact bk_8 | exact bk_9 | exact bk_10 | exact bk_11 | exact bk_12 | exact bk_13 | exact bk_14 | exact bk_15 | exact bk_16 | exact cr_5 | exact cr_23 | exact cr_24 | exact cr_25 | exact cr_26 | exact cr_27 | exact cr_28 | exact cr_29 | exact cr_30 | assumption)) rfl ?_
                    refine zr_iload_n dX7_draws_176 (rfl : 176 + 1 = 177) rfl ?_
                    refine zr_bipush dX7_draws_177 (rfl : 177 + 2 = 179) (by decide) ?_
                    refine zr_iadd dX7_draws_179 (rfl : 179 + 1 = 180) (by first | exact jI_add _ _ | rfl) ?_
                    refine zr_iload_n dX7_draws_180 (rfl : 180 + 1 = 181) rfl ?_
                    refine zr_iadd dX7_draws_181 (rfl : 181 + 1 = 182) (by first | exact jI_add _ _ | rfl) ?_
                    refine zr_iload dX7_draws_182 (rfl : 182 + 2 = 184) rfl ?_
                    refine zr_iconst dX7_draws_184 (rfl : 184 + 1 = 185) ?_
                    refine zr_iadd dX7_draws_185 (rfl : 185 + 1 = 186) (by first | exact jI_add _ _ | rfl) ?_
                    refine zr_iast dX7_draws_186 (rfl : 186 + 1 = 187) (by first | assumption | exact mw_167 | exact mw_168 | exact mw_169 | exact mw_170 | exact bk_0 | exact bk_1 | exact bk_2 | exact bk_3 | exact bk_4 | exact bk_5 | exact bk_6 | exact bk_7 | exact bk_8 | exact bk_9 | exact bk_10 | exact bk_11 | exact bk_12 | exact bk_13 | exact bk_14 | exact bk_15 | exact bk_16 | exact zup_self | exact (zup_ne (by first | assumption | omega)).trans (by first | assumption | exact zup_self) | exact (zup_ne (by first | assumption | omega)).trans ((zup_ne (by first | assumption | omega)).trans (by first | assumption | exact zup_self)) | exact (bk_out (by first | omega | (simp only [bset, reduceIte, Nat.reduceEqDiff]; omega))).trans (by first | exact bk_0 | exact bk_1 | exact bk_2 | exact bk_3 | exact bk_4 | exact bk_5 | exact bk_6 | exact bk_7 | exact bk_8 | exact bk_9 | exact bk_10 | exact bk_11 | exact bk_12 | exact bk_13 | exact bk_14 | exact bk_15 | exact bk_16 | exact cr_5 | exact cr_23 | exact cr_24 | exact cr_25 | exact cr_26 | exact cr_27 | exact cr_28 | exact cr_29 | exact cr_30 | assumption)) (by decide) (by first | omega | (simp only [bset, reduceIte, Nat.reduceEqDiff]; omega)) (by first | omega | (simp only [bset, reduceIte, Nat.reduceEqDiff]; omega)) rfl ?_
                    refine zr_aload_n dX7_draws_187 (rfl : 187 + 1 = 188) rfl ?_
                    refine zr_getf dX7_draws_188 (rfl : 188 + 3 = 191) f_X7_7 (by first | assumption | exact mw_167 | exact mw_168 | exact mw_169 | exact mw_170 | exact bk_0 | exact bk_1 | exact bk_2 | exact bk_3 | exact bk_4 | exact bk_5 | exact bk_6 | exact bk_7 | exact bk_8 | exact bk_9 | exact bk_10 | exact bk_11 | exact bk_12 | exact bk_13 | exact bk_14 | exact bk_15 | exact bk_16 | exact zup_self | exact (zup_ne (by first | assumption | omega)).trans (by first | assumption | exact zup_self) | exact (zup_ne (by first | assumption | omega)).trans ((zup_ne (by first | assumption | omega)).trans (by first | assumption | exact zup_self)) | exact (bk_out (by first | omega | (simp only [bset, reduceIte, Nat.reduceEqDiff]; omega))).trans (by first | exact bk_0 | exact bk_1 | exact bk_2 | exact bk_3 | exact bk_4 | exact bk_5 | exact bk_6 | exact bk_7 | exact bk_8 | exact bk_9 | exact bk_10 | exact bk_11 | exact bk_12 | exact bk_13 | exact bk_14 | exact bk_15 | exact bk_16 | exact cr_5 | exact cr_23 | exact cr_24 | exact cr_25 | exact cr_26 | exact cr_27 | exact cr_28 | exact cr_29 | exact cr_30 | assumption)) rfl ?_
                    refine zr_iload_n dX7_draws_191 (rfl : 191 + 1 = 192) rfl ?_
                    refine zr_sipush dX7_draws_192 (rfl : 192 + 3 = 195) (by decide) ?_
                    refine zr_iadd dX7_draws_195 (rfl : 195 + 1 = 196) (by first | exact jI_add _ _ | rfl) ?_
                    refine zr_iload dX7_draws_196 (rfl : 196 + 2 = 198) rfl ?_
                    refine zr_iadd dX7_draws_198 (rfl : 198 + 1 = 199) (by first | exact jI_add _ _ | rfl) ?_
                    refine zr_dup2 dX7_draws_199 (rfl : 199 + 1 = 200) rfl rfl ?_
                    refine zr_iald dX7_draws_200 (rfl : 200 + 1 = 201) (by first | assumption | exact mw_167 | exact mw_168 | exact mw_169 | exact mw_170 | exact bk_0 | exact bk_1 | exact bk_2 | exact bk_3 | exact bk_4 | exact bk_5 | exact bk_6 | exact bk_7 | exact bk_8 | exact bk_9 | exact bk_10 | exact bk_11 | exact bk_12 | exact bk_13 | exact bk_14 | exact bk_15 | exact bk_16 | exact zup_self | exact (zup_ne (by first | assumption | omega)).trans (by first | assumption | exact zup_self) | exact (zup_ne (by first | assumption | omega)).trans ((zup_ne (by first | assumption | omega)).trans (by first | assumption | exact zup_self)) | exact (bk_out (by first | omega | (simp only [bset, reduceIte, Nat.reduceEqDiff]; omega))).trans (by first | exact bk_0 | exact bk_1 | exact bk_2 | exact bk_3 | exact bk_4 | exact bk_5 | exact bk_6 | exact bk_7 | exact bk_8 | exact bk_9 | exact bk_10 | exact bk_11 | exact bk_12 | exact bk_13 | exact bk_14 | exact bk_15 | exact bk_16 | exact cr_5 | exact cr_23 | exact cr_24 | exact cr_25 | exact cr_26 | exact cr_27 | exact cr_28 | exact cr_29 | exact cr_30 | assumption)) (by decide) (by first | omega | (simp only [bset, reduceIte, Nat.reduceEqDiff]; omega)) (by first | omega | (simp only [bset, reduceIte, Nat.reduceEqDiff]; omega)) ?_
                    refine zr_iconst dX7_draws_201 (rfl : 201 + 1 = 202) ?_
                    refine zr_iadd dX7_draws_202 (rfl : 202 + 1 = 203) (by first | exact jI_add _ _ | rfl) ?_
                    refine zr_iast dX7_draws_203 (rfl : 203 + 1 = 204) (by first | assumption | exact mw_167 | exact mw_168 | exact mw_169 | exact mw_170 | exact bk_0 | exact bk_1 | exact bk_2 | exact bk_3 | exact bk_4 | exact bk_5 | exact bk_6 | exact bk_7 | exact bk_8 | exact bk_9 | exact bk_10 | exact bk_11 | exact bk_12 | exact bk_13 | exact bk_14 | exact bk_15 | exact bk_16 | exact zup_self | exact (zup_ne (by first | assumption | omega)).trans (by first | assumption | exact zup_self) | exact (zup_ne (by first | assumption | omega)).trans ((zup_ne (by first | assumption | omega)).trans (by first | assumption | exact zup_self)) | exact (bk_out (by first | omega | (simp only [bset, reduceIte, Nat.reduceEqDiff]; omega))).trans (by first | exact bk_0 | exact bk_1 | exact bk_2 | exact bk_3 | exact bk_4 | exact bk_5 | exact bk_6 | exact bk_7 | exact bk_8 | exact bk_9 | exact bk_10 | exact bk_11 | exact bk_12 | exact bk_13 | exact bk_14 | exact bk_15 | exact bk_16 | exact cr_5 | exact cr_23 | exact cr_24 | exact cr_25 | exact cr_26 | exact cr_27 | exact cr_28 | exact cr_29 | exact cr_30 | assumption)) (by decide) (by first | omega | (simp only [bset, reduceIte, Nat.reduceEqDiff]; omega)) (by first | omega | (simp only [bset, reduceIte, Nat.reduceEqDiff]; omega)) rfl ?_
                    refine zr_aload_n dX7_draws_204 (rfl : 204 + 1 = 205) rfl ?_
                    refine zr_getf dX7_draws_205 (rfl : 205 + 3 = 208) f_X7_7 (by first | assumption | exact mw_167 | exact mw_168 | exact mw_169 | exact mw_170 | exact bk_0 | exact bk_1 | exact bk_2 | exact bk_3 | exact bk_4 | exact bk_5 | exact bk_6 | exact bk_7 | exact bk_8 | exact bk_9 | exact bk_10 | exact bk_11 | exact bk_12 | exact bk_13 | exact bk_14 | exact bk_15 | exact bk_16 | exact zup_self | exact (zup_ne (by first | assumption | omega)).trans (by first | assumption | exact zup_self) | exact (zup_ne (by first | assumption | omega)).trans ((zup_ne (by first | assumption | omega)).trans (by first | assumption | exact zup_self)) | exact (bk_out (by first | omega | (simp only [bset, reduceIte, Nat.reduceEqDiff]; omega))).trans (by first | exact bk_0 | exact bk_1 | exact bk_2 | exact bk_3 | exact bk_4 | exact bk_5 | exact bk_6 | exact bk_7 | exact bk_8 | exact bk_9 | exact bk_10 | exact bk_11 | exact bk_12 | exact bk_13 | exact bk_14 | exact bk_15 | exact bk_16 | exact cr_5 | exact cr_23 | exact cr_24 | exact cr_25 | exact cr_26 | exact cr_27 | exact cr_28 | exact cr_29 | exact cr_30 | assumption)) rfl ?_
                    refine zr_iload_n dX7_draws_208 (rfl : 208 + 1 = 209) rfl ?_
                    refine zr_sipush dX7_draws_209 (rfl : 209 + 3 = 212) (by decide) ?_
                    refine zr_iadd dX7_draws_212 (rfl : 212 + 1 = 213) (by first | exact jI_add _ _ | rfl) ?_
                    refine zr_iload dX7_draws_213 (rfl : 213 + 2 = 215) rfl ?_
                    refine zr_iadd dX7_draws_215 (rfl : 215 + 1 = 216) (by first | exact jI_add _ _ | rfl) ?_
                    refine zr_iload_n dX7_draws_216 (rfl : 216 + 1 = 217) rfl ?_
                    refine zr_iast dX7_draws_217 (rfl : 217 + 1 = 218) (by first | assumption | exact mw_167 | exact mw_168 | exact mw_169 | exact mw_170 | exact bk_0 | exact bk_1 | exact bk_2 | exact bk_3 | exact bk_4 | exact bk_5 | exact bk_6 | exact bk_7 | exact bk_8 | exact bk_9 | exact bk_10 | exact bk_11 | exact bk_12 | exact bk_13 | exact bk_14 | exact bk_15 | exact bk_16 | exact zup_self | exact (zup_ne (by first | assumption | omega)).trans (by first | assumption | exact zup_self) | exact (zup_ne (by first | assumption | omega)).trans ((zup_ne (by first | assumption | omega)).trans (by first | assumption | exact zup_self)) | exact (bk_out (by first | omega | (simp only [bset, reduceIte, Nat.reduceEqDiff]; omega))).trans (by first | exact bk_0 | exact bk_1 | exact bk_2 | exact bk_3 | exact bk_4 | exact bk_5 | exact bk_6 | exact bk_7 | exact bk_8 | exact bk_9 | exact bk_10 | exact bk_11 | exact bk_12 | exact bk_13 | exact bk_14 | exact bk_15 | exact bk_16 | exact cr_5 | exact cr_23 | exact cr_24 | exact cr_25 | exact cr_26 | exact cr_27 | exact cr_28 | exact cr_29 | exact cr_30 | assumption)) (by decide) (by first | omega | (simp only [bset, reduceIte, Nat.reduceEqDiff]; omega)) (by first | omega | (simp only [bset, reduceIte, Nat.reduceEqDiff]; omega)) rfl ?_
                    refine zr_aload_n dX7_draws_218 (rfl : 218 + 1 = 219) rfl ?_
                    refine zr_getf dX7_draws_219 (rfl : 219 + 3 = 222) f_X7_7 (by first | assumption | exact mw_167 | exact mw_168 | exact mw_169 | exact mw_170 | exact bk_0 | exact bk_1 | exact bk_2 | exact bk_3 | exact bk_4 | exact bk_5 | exact bk_6 | exact bk_7 | exact bk_8 | exact bk_9 | exact bk_10 | exact bk_11 | exact bk_12 | exact bk_13 | exact bk_14 | exact bk_15 | exact bk_16 | exact zup_self | exact (zup_ne (by first | assumption | omega)).trans (by first | assumption | exact zup_self) | exact (zup_ne (by first | assumption | omega)).trans ((zup_ne (by first | assumption | omega)).trans (by first | assumption | exact zup_self)) | exact (bk_out (by first | omega | (simp only [bset, reduceIte, Nat.reduceEqDiff]; omega))).trans (by first | exact bk_0 | exact bk_1 | exact bk_2 | exact bk_3 | exact bk_4 | exact bk_5 | exact bk_6 | exact bk_7 | exact bk_8 | exact bk_9 | exact bk_10 | exact bk_11 | exact bk_12 | exact bk_13 | exact bk_14 | exact bk_15 | exact bk_16 | exact cr_5 | exact cr_23 | exact cr_24 | exact cr_25 | exact cr_26 | exact cr_27 | exact cr_28 | exact cr_29 | exact cr_30 | assumption)) rfl ?_
                    refine zr_iload_n dX7_draws_222 (rfl : 222 + 1 = 223) rfl ?_
                    refine zr_sipush dX7_draws_223 (rfl : 223 + 3 = 226) (by decide) ?_
                    refine zr_iadd dX7_draws_226 (rfl : 226 + 1 = 227) (by first | exact jI_add _ _ | rfl) ?_
                    refine zr_iload dX7_draws_227 (rfl : 227 + 2 = 229) rfl ?_
                    refine zr_iadd dX7_draws_229 (rfl : 229 + 1 = 230) (by first | exact jI_add _ _ | rfl) ?_
                    refine zr_iload dX7_draws_230 (rfl : 230 + 2 = 232) rfl ?_
                    refine zr_iast dX7_draws_232 (rfl : 232 + 1 = 233) (by first | assumption | exact mw_167 | exact mw_168 | exact mw_169 | exact mw_170 | exact bk_0 | exact bk_1 | exact bk_2 | exact bk_3 | exact bk_4 | exact bk_5 | exact bk_6 | exact bk_7 | exact bk_8 | exact bk_9 | exact bk_10 | exact bk_11 | exact bk_12 | exact bk_13 | exact bk_14 | exact bk_15 | exact bk_16 | exact zup_self | exact (zup_ne (by first | assumption | omega)).trans (by first | assumption | exact zup_self) | exact (zup_ne (by first | assumption | omega)).trans ((zup_ne (by first | assumption | omega)).trans (by first | assumption | exact zup_self)) | exact (bk_out (by first | omega | (simp only [bset, reduceIte, Nat.reduceEqDiff]; omega))).trans (by first | exact bk_0 | exact bk_1 | exact bk_2 | exact bk_3 | exact bk_4 | exact bk_5 | exact bk_6 | exact bk_7 | exact bk_8 | exact bk_9 | exact bk_10 | exact bk_11 | exact bk_12 | exact bk_13 | exact bk_14 | exact bk_15 | exact bk_16 | exact cr_5 | exact cr_23 | exact cr_24 | exact cr_25 | exact cr_26 | exact cr_27 | exact cr_28 | exact cr_29 | exact cr_30 | assumption)) (by decide) (by first | omega | (simp only [bset, reduceIte, Nat.reduceEqDiff]; omega)) (by first | omega | (simp only [bset, reduceIte, Nat.reduceEqDiff]; omega)) rfl ?_
                    refine zr_aload_n dX7_draws_233 (rfl : 233 + 1 = 234) rfl ?_
                    refine zr_getf dX7_draws_234 (rfl : 234 + 3 = 237) f_X7_7 (by first | assumption | exact mw_167 | exact mw_168 | exact mw_169 | exact mw_170 | exact bk_0 | exact bk_1 | exact bk_2 | exact bk_3 | exact bk_4 | exact bk_5 | exact bk_6 | exact bk_7 | exact bk_8 | exact bk_9 | exact bk_10 | exact bk_11 | exact bk_12 | exact bk_13 | exact bk_14 | exact bk_15 | exact bk_16 | exact zup_self | exact (zup_ne (by first | assumption | omega)).trans (by first | assumption | exact zup_self) | exact (zup_ne (by first | assumption | omega)).trans ((zup_ne (by first | assumption | omega)).trans (by first | assumption | exact zup_self)) | exact (bk_out (by first | omega | (simp only [bset, reduceIte, Nat.reduceEqDiff]; omega))).trans (by first | exact bk_0 | exact bk_1 | exact bk_2 | exact bk_3 | exact bk_4 | exact bk_5 | exact bk_6 | exact bk_7 | exact bk_8 | exact bk_9 | exact bk_10 | exact bk_11 | exact bk_12 | exact bk_13 | exact bk_14 | exact bk_15 | exact bk_16 | exact cr_5 | exact cr_23 | exact cr_24 | exact cr_25 | exact cr_26 | exact cr_27 | exact cr_28 | exact cr_29 | exact cr_30 | assumption)) rfl ?_
                    refine zr_iload_n dX7_draws_237 (rfl : 237 + 1 = 238) rfl ?_
                    refine zr_sipush dX7_draws_238 (rfl : 238 + 3 = 241) (by decide) ?_
                    refine zr_iadd dX7_draws_241 (rfl : 241 + 1 = 242) (by first | exact jI_add _ _ | rfl) ?_
                    refine zr_dup2 dX7_draws_242 (rfl : 242 + 1 = 243) rfl rfl ?_
                    refine zr_iald dX7_draws_243 (rfl : 243 + 1 = 244) (by first | assumption | exact mw_167 | exact mw_168 | exact mw_169 | exact mw_170 | exact bk_0 | exact bk_1 | exact bk_2 | exact bk_3 | exact bk_4 | exact bk_5 | exact bk_6 | exact bk_7 | exact bk_8 | exact bk_9 | exact bk_10 | exact bk_11 | exact bk_12 | exact bk_13 | exact bk_14 | exact bk_15 | exact bk_16 | exact zup_self | exact (zup_ne (by first | assumption | omega)).trans (by first | assumption | exact zup_self) | exact (zup_ne (by first | assumption | omega)).trans ((zup_ne (by first | assumption | omega)).trans (by first | assumption | exact zup_self)) | exact (bk_out (by first | omega | (simp only [bset, reduceIte, Nat.reduceEqDiff]; omega))).trans (by first | exact bk_0 | exact bk_1 | exact bk_2 | exact bk_3 | exact bk_4 | exact bk_5 | exact bk_6 | exact bk_7 | exact bk_8 | exact bk_9 | exact bk_10 | exact bk_11 | exact bk_12 | exact bk_13 | exact bk_14 | exact bk_15 | exact bk_16 | exact cr_5 | exact cr_23 | exact cr_24 | exact cr_25 | exact cr_26 | exact cr_27 | exact cr_28 | exact cr_29 | exact cr_30 | assumption)) (by decide) (by first | omega | (simp only [bset, reduceIte, Nat.reduceEqDiff]; omega)) (by first | omega | (simp only [bset, reduceIte, Nat.reduceEqDiff]; omega)) ?_
                    refine zr_iload dX7_draws_244 (rfl : 244 + 2 = 246) rfl ?_
                    refine zr_if_eq (tgt := 253) dX7_draws_246 (by decide) (rfl : 246 + 3 = 249) (by first | exact jb_iff | exact jI_z (by first | omega | (simp only [bset, reduceIte, Nat.reduceEqDiff]; omega)) (by first | omega | (simp only [bset, reduceIte, Nat.reduceEqDiff]; omega))) (fun h246 => ?_) (fun h246 => ?_)
                    · first
                      | (exfalso; omega)
                      | (
                        refine zr_iconst dX7_draws_253 (rfl : 253 + 1 = 254) ?_
                        refine zr_iadd dX7_draws_254 (rfl : 254 + 1 = 255) (by first | exact jI_add _ _ | rfl) ?_
                        refine zr_iast dX7_draws_255 (rfl : 255 + 1 = 256) (by first | assumption | exact mw_167 | exact mw_168 | exact mw_169 | exact mw_170 | exact bk_0 | exact bk_1 | exact bk_2 | exact bk_3 | exact bk_4 | exact bk_5 | exact bk_6 | exact bk_7 | exact bk_8 | exact bk_9 | exact bk_10 | exact bk_11 | exact bk_12 | exact bk_13 | exact bk_14 | exact bk_15 | exact bk_16 | exact zup_self | exact (zup_ne (by first | assumption | omega)).trans (by first | assumption | exact zup_self) | exact (zup_ne (by first | assumption | omega)).trans ((zup_ne (by first | assumption | omega)).trans (by first | assumption | exact zup_self)) | exact (bk_out (by first | omega | (simp only [bset, reduceIte, Nat.reduceEqDiff]; omega))).trans (by first | exact bk_0 | exact bk_1 | exact bk_2 | exact bk_3 | exact bk_4 | exact bk_5 | exact bk_6 | exact bk_7 | exact bk_8 | exact bk_9 | exact bk_10 | exact bk_11 | exact bk_12 | exact bk_13 | exact bk_14 | exact bk_15 | exact bk_16 | exact cr_5 | exact cr_23 | exact cr_24 | exact cr_25 | exact cr_26 | exact cr_27 | exact cr_28 | exact cr_29 | exact cr_30 | assumption)) (by decide) (by first | omega | (simp only [bset, reduceIte, Nat.reduceEqDiff]; omega)) (by first | omega | (simp only [bset, reduceIte, Nat.reduceEqDiff]; omega)) rfl ?_
                        refine zr_iload_n dX7_draws_256 (rfl : 256 + 1 = 257) rfl ?_
                        refine zr_iret dX7_draws_257 rfl (by first | rfl | exact jb_nar) ?_ rfl rfl rfl
                        first | rfl | rw [jb_pos (by first | assumption | omega)] | rw [jb_neg (by first | assumption | omega)] | rw [if_pos (by first | assumption | omega)] | rw [if_neg (by first | assumption | omega)])
                    · first
                      | (exfalso; omega)
                      | (
                        refine zr_iconst dX7_draws_249 (rfl : 249 + 1 = 250) ?_
                        refine zr_goto (tgt := 254) dX7_draws_250 (by decide) ?_
                        refine zr_iadd dX7_draws_254 (rfl : 254 + 1 = 255) (by first | exact jI_add _ _ | rfl) ?_
                        refine zr_iast dX7_draws_255 (rfl : 255 + 1 = 256) (by first | assumption | exact mw_167 | exact mw_168 | exact mw_169 | exact mw_170 | exact bk_0 | exact bk_1 | exact bk_2 | exact bk_3 | exact bk_4 | exact bk_5 | exact bk_6 | exact bk_7 | exact bk_8 | exact bk_9 | exact bk_10 | exact bk_11 | exact bk_12 | exact bk_13 | exact bk_14 | exact bk_15 | exact bk_16 | exact zup_self | exact (zup_ne (by first | assumption | omega)).trans (by first | assumption | exact zup_self) | exact (zup_ne (by first | assumption | omega)).trans ((zup_ne (by first | assumption | omega)).trans (by first | assumption | exact zup_self)) | exact (bk_out (by first | omega | (simp only [bset, reduceIte, Nat.reduceEqDiff]; omega))).trans (by first | exact bk_0 | exact bk_1 | exact bk_2 | exact bk_3 | exact bk_4 | exact bk_5 | exact bk_6 | exact bk_7 | exact bk_8 | exact bk_9 | exact bk_10 | exact bk_11 | exact bk_12 | exact bk_13 | exact bk_14 | exact bk_15 | exact bk_16 | exact cr_5 | exact cr_23 | exact cr_24 | exact cr_25 | exact cr_26 | exact cr_27 | exact cr_28 | exact cr_29 | exact cr_30 | assumption)) (by decide) (by first | omega | (simp only [bset, reduceIte, Nat.reduceEqDiff]; omega)) (by first | omega | (simp only [bset, reduceIte, Nat.reduceEqDiff]; omega)) rfl ?_
                        refine zr_iload_n dX7_draws_256 (rfl : 256 + 1 = 257) rfl ?_
                        refine zr_iret dX7_draws_257 rfl (by first | rfl | exact jb_nar) ?_ rfl rfl rfl
                        first | rfl | rw [jb_pos (by first | assumption | omega)] | rw [jb_neg (by first | assumption | omega)] | rw [if_pos (by first | assumption | omega)] | rw [if_neg (by first | assumption | omega)])))
            · first
              | (exfalso; omega)
              | (
                refine zr_iload_n dX7_draws_153 (rfl : 153 + 1 = 154) rfl ?_
                refine zr_goto (tgt := 170) dX7_draws_154 (by decide) ?_
                refine zr_istore (lv' := [_, _, _, _, _, _, _]) dX7_draws_170 (rfl : 170 + 2 = 172) (Nat.le_of_ble_eq_true rfl) rfl ?_
                refine zr_aload_n dX7_draws_172 (rfl : 172 + 1 = 173) rfl ?_
                refine zr_getf dX7_draws_173 (rfl : 173 + 3 = 176) f_X7_7 (by first | assumption | exact mw_167 | exact mw_168 | exact mw_169 | exact mw_170 | exact bk_0 | exact bk_1 | exact bk_2 | exact bk_3 | exact bk_4 | exact bk_5 | exact bk_6 | exact bk_7 | exact bk_8 | exact bk_9 | exact bk_10 | exact bk_11 | exact bk_12 | exact bk_13 | exact bk_14 | exact bk_15 | exact bk_16 | exact zup_self | exact (zup_ne (by first | assumption | omega)).trans (by first | assumption | exact zup_self) | exact (zup_ne (by first | assumption | omega)).trans ((zup_ne (by first | assumption | omega)).trans (by first | assumption | exact zup_self)) | exact (bk_out (by first | omega | (simp only [bset, reduceIte, Nat.reduceEqDiff]; omega))).trans (by first | exact bk_0 | exact bk_1 | exact bk_2 | exact bk_3 | exact bk_4 | exact bk_5 | exact bk_6 | exact bk_7 | exact bk_8 | exact bk_9 | exact bk_10 | exact bk_11 | exact bk_12 | exact bk_13 | exact bk_14 | exact bk_15 | exact bk_16 | exact cr_5 | exact cr_23 | exact cr_24 | exact cr_25 | exact cr_26 | exact cr_27 | exact cr_28 | exact cr_29 | exact cr_30 | assumption)) rfl ?_
                refine zr_iload_n dX7_draws_176 (rfl : 176 + 1 = 177) rfl ?_
                refine zr_bipush dX7_draws_177 (rfl : 177 + 2 = 179) (by decide) ?_
                refine zr_iadd dX7_draws_179 (rfl : 179 + 1 = 180) (by first | exact jI_add _ _ | rfl) ?_
                refine zr_iload_n dX7_draws_180 (rfl : 180 + 1 = 181) rfl ?_
                refine zr_iadd dX7_draws_181 (rfl : 181 + 1 = 182) (by first | exact jI_add _ _ | rfl) ?_
                refine zr_iload dX7_draws_182 (rfl : 182 + 2 = 184) rfl ?_
                refine zr_iconst dX7_draws_184 (rfl : 184 + 1 = 185) ?_
                refine zr_iadd dX7_draws_185 (rfl : 185 + 1 = 186) (by first | exact jI_add _ _ | rfl) ?_
                refine zr_iast dX7_draws_186 (rfl : 186 + 1 = 187) (by first | assumption | exact mw_167 | exact mw_168 | exact mw_169 | exact mw_170 | exact bk_0 | exact bk_1 | exact bk_2 | exact bk_3 | exact bk_4 | exact bk_5 | exact bk_6 | exact bk_7 | exact bk_8 | exact bk_9 | exact bk_10 | exact bk_11 | exact bk_12 | exact bk_13 | exact bk_14 | exact bk_15 | exact bk_16 | exact zup_self | exact (zup_ne (by first | assumption | omega)).trans (by first | assumption | exact zup_self) | exact (zup_ne (by first | assumption | omega)).trans ((zup_ne (by first | assumption | omega)).trans (by first | assumption | exact zup_self)) | exact (bk_out (by first | omega | (simp only [bset, reduceIte, Nat.reduceEqDiff]; omega))).trans (by first | exact bk_0 | exact bk_1 | exact bk_2 | exact bk_3 | exact bk_4 | exact bk_5 | exact bk_6 | exact bk_7 | exact bk_8 | exact bk_9 | exact bk_10 | exact bk_11 | exact bk_12 | exact bk_13 | exact bk_14 | exact bk_15 | exact bk_16 | exact cr_5 | exact cr_23 | exact cr_24 | exact cr_25 | exact cr_26 | exact cr_27 | exact cr_28 | exact cr_29 | exact cr_30 | assumption)) (by decide) (by first | omega | (simp only [bset, reduceIte, Nat.reduceEqDiff]; omega)) (by first | omega | (simp only [bset, reduceIte, Nat.reduceEqDiff]; omega)) rfl ?_
                refine zr_aload_n dX7_draws_187 (rfl : 187 + 1 = 188) rfl ?_
                refine zr_getf dX7_draws_188 (rfl : 188 + 3 = 191) f_X7_7 (by first | assumption | exact mw_167 | exact mw_168 | exact mw_169 | exact mw_170 | exact bk_0 | exact bk_1 | exact bk_2 | exact bk_3 | exact bk_4 | exact bk_5 | exact bk_6 | exact bk_7 | exact bk_8 | exact bk_9 | exact bk_10 | exact bk_11 | exact bk_12 | exact bk_13 | exact bk_14 | exact bk_15 | exact bk_16 | exact zup_self | exact (zup_ne (by first | assumption | omega)).trans (by first | assumption | exact zup_self) | exact (zup_ne (by first | assumption | omega)).trans ((zup_ne (by first | assumption | omega)).trans (by first | assumption | exact zup_self)) | exact (bk_out (by first | omega | (simp only [bset, reduceIte, Nat.reduceEqDiff]; omega))).trans (by first | exact bk_0 | exact bk_1 | exact bk_2 | exact bk_3 | exact bk_4 | exact bk_5 | exact bk_6 | exact bk_7 | exact bk_8 | exact bk_9 | exact bk_10 | exact bk_11 | exact bk_12 | exact bk_13 | exact bk_14 | exact bk_15 | exact bk_16 | exact cr_5 | exact cr_23 | exact cr_24 | exact cr_25 | exact cr_26 | exact cr_27 | exact cr_28 | exact cr_29 | exact cr_30 | assumption)) rfl ?_
                refine zr_iload_n dX7_draws_191 (rfl : 191 + 1 = 192) rfl ?_
                refine zr_sipush dX7_draws_192 (rfl : 192 + 3 = 195) (by decide) ?_
                refine zr_iadd dX7_draws_195 (rfl : 195 + 1 = 196) (by first | exact jI_add _ _ | rfl) ?_
                refine zr_iload dX7_draws_196 (rfl : 196 + 2 = 198) rfl ?_
                refine zr_iadd dX7_draws_198 (rfl : 198 + 1 = 199) (by first | exact jI_add _ _ | rfl) ?_
                refine zr_dup2 dX7_draws_199 (rfl : 199 + 1 = 200) rfl rfl ?_
                refine zr_iald dX7_draws_200 (rfl : 200 + 1 = 201) (by first | assumption | exact mw_167 | exact mw_168 | exact mw_169 | exact mw_170 | exact bk_0 | exact bk_1 | exact bk_2 | exact bk_3 | exact bk_4 | exact bk_5 | exact bk_6 | exact bk_7 | exact bk_8 | exact bk_9 | exact bk_10 | exact bk_11 | exact bk_12 | exact bk_13 | exact bk_14 | exact bk_15 | exact bk_16 | exact zup_self | exact (zup_ne (by first | assumption | omega)).trans (by first | assumption | exact zup_self) | exact (zup_ne (by first | assumption | omega)).trans ((zup_ne (by first | assumption | omega)).trans (by first | assumption | exact zup_self)) | exact (bk_out (by first | omega | (simp only [bset, reduceIte, Nat.reduceEqDiff]; omega))).trans (by first | exact bk_0 | exact bk_1 | exact bk_2 | exact bk_3 | exact bk_4 | exact bk_5 | exact bk_6 | exact bk_7 | exact bk_8 | exact bk_9 | exact bk_10 | exact bk_11 | exact bk_12 | exact bk_13 | exact bk_14 | exact bk_15 | exact bk_16 | exact cr_5 | exact cr_23 | exact cr_24 | exact cr_25 | exact cr_26 | exact cr_27 | exact cr_28 | exact cr_29 | exact cr_30 | assumption)) (by decide) (by first | omega | (simp only [bset, reduceIte, Nat.reduceEqDiff]; omega)) (by first | omega | (simp only [bset, reduceIte, Nat.reduceEqDiff]; omega)) ?_
                refine zr_iconst dX7_draws_201 (rfl : 201 + 1 = 202) ?_
                refine zr_iadd dX7_draws_202 (rfl : 202 + 1 = 203) (by first | exact jI_add _ _ | rfl) ?_
                refine zr_iast dX7_draws_203 (rfl : 203 + 1 = 204) (by first | assumption | exact mw_167 | exact mw_168 | exact mw_169 | exact mw_170 | exact bk_0 | exact bk_1 | exact bk_2 | exact bk_3 | exact bk_4 | exact bk_5 | exact bk_6 | exact bk_7 | exact bk_8 | exact bk_9 | exact bk_10 | exact bk_11 | exact bk_12 | exact bk_13 | exact bk_14 | exact bk_15 | exact bk_16 | exact zup_self | exact (zup_ne (by first | assumption | omega)).trans (by first | assumption | exact zup_self) | exact (zup_ne (by first | assumption | omega)).trans ((zup_ne (by first | assumption | omega)).trans (by first | assumption | exact zup_self)) | exact (bk_out (by first | omega | (simp only [bset, reduceIte, Nat.reduceEqDiff]; omega))).trans (by first | exact bk_0 | exact bk_1 | exact bk_2 | exact bk_3 | exact bk_4 | exact bk_5 | exact bk_6 | exact bk_7 | exact bk_8 | exact bk_9 | exact bk_10 | exact bk_11 | exact bk_12 | exact bk_13 | exact bk_14 | exact bk_15 | exact bk_16 | exact cr_5 | exact cr_23 | exact cr_24 | exact cr_25 | exact cr_26 | exact cr_27 | exact cr_28 | exact cr_29 | exact cr_30 | assumption)) (by decide) (by first | omega | (simp only [bset, reduceIte, Nat.reduceEqDiff]; omega)) (by first | omega | (simp only [bset, reduceIte, Nat.reduceEqDiff]; omega)) rfl ?_
                refine zr_aload_n dX7_draws_204 (rfl : 204 + 1 = 205) rfl ?_
                refine zr_getf dX7_draws_205 (rfl : 205 + 3 = 208) f_X7_7 (by first | assumption | exact mw_167 | exact mw_168 | exact mw_169 | exact mw_170 | exact bk_0 | exact bk_1 | exact bk_2 | exact bk_3 | exact bk_4 | exact bk_5 | exact bk_6 | exact bk_7 | exact bk_8 | exact bk_9 | exact bk_10 | exact bk_11 | exact bk_12 | exact bk_13 | exact bk_14 | exact bk_15 | exact bk_16 | exact zup_self | exact (zup_ne (by first | assumption | omega)).trans (by first | assumption | exact zup_self) | exact (zup_ne (by first | assumption | omega)).trans ((zup_ne (by first | assumption | omega)).trans (by first | assumption | exact zup_self)) | exact (bk_out (by first | omega | (simp only [bset, reduceIte, Nat.reduceEqDiff]; omega))).trans (by first | exact bk_0 | exact bk_1 | exact bk_2 | exact bk_3 | exact bk_4 | exact bk_5 | exact bk_6 | exact bk_7 | exact bk_8 | exact bk_9 | exact bk_10 | exact bk_11 | exact bk_12 | exact bk_13 | exact bk_14 | exact bk_15 | exact bk_16 | exact cr_5 | exact cr_23 | exact cr_24 | exact cr_25 | exact cr_26 | exact cr_27 | exact cr_28 | exact cr_29 | exact cr_30 | assumption)) rfl ?_
                refine zr_iload_n dX7_draws_208 (rfl : 208 + 1 = 209) rfl ?_
                refine zr_sipush dX7_draws_209 (rfl : 209 + 3 = 212) (by decide) ?_
                refine zr_iadd dX7_draws_212 (rfl : 212 + 1 = 213) (by first | exact jI_add _ _ | rfl) ?_
                refine zr_iload dX7_draws_213 (rfl : 213 + 2 = 215) rfl ?_
                refine zr_iadd dX7_draws_215 (rfl : 215 + 1 = 216) (by first | exact jI_add _ _ | rfl) ?_
                refine zr_iload_n dX7_draws_216 (rfl : 216 + 1 = 217) rfl ?_
                refine zr_iast dX7_draws_217 (rfl : 217 + 1 = 218) (by first | assumption | exact mw_167 | exact mw_168 | exact mw_169 | exact mw_170 | exact bk_0 | exact bk_1 | exact bk_2 | exact bk_3 | exact bk_4 | exact bk_5 | exact bk_6 | exact bk_7 | exact bk_8 | exact bk_9 | exact bk_10 | exact bk_11 | exact bk_12 | exact bk_13 | exact bk_14 | exact bk_15 | exact bk_16 | exact zup_self | exact (zup_ne (by first | assumption | omega)).trans (by first | assumption | exact zup_self) | exact (zup_ne (by first | assumption | omega)).trans ((zup_ne (by first | assumption | omega)).trans (by first | assumption | exact zup_self)) | exact (bk_out (by first | omega | (simp only [bset, reduceIte, Nat.reduceEqDiff]; omega))).trans (by first | exact bk_0 | exact bk_1 | exact bk_2 | exact bk_3 | exact bk_4 | exact bk_5 | exact bk_6 | exact bk_7 | exact bk_8 | exact bk_9 | exact bk_10 | exact bk_11 | exact bk_12 | exact bk_13 | exact bk_14 | exact bk_15 | exact bk_16 | exact cr_5 | exact cr_23 | exact cr_24 | exact cr_25 | exact cr_26 | exact cr_27 | exact cr_28 | exact cr_29 | exact cr_30 | assumption)) (by decide) (by first | omega | (simp only [bset, reduceIte, Nat.reduceEqDiff]; omega)) (by first | omega | (simp only [bset, reduceIte, Nat.reduceEqDiff]; omega)) rfl ?_
                refine zr_aload_n dX7_draws_218 (rfl : 218 + 1 = 219) rfl ?_
                refine zr_getf dX7_draws_219 (rfl : 219 + 3 = 222) f_X7_7 (by first | assumption | exact mw_167 | exact mw_168 | exact mw_169 | exact mw_170 | exact bk_0 | exact bk_1 | exact bk_2 | exact bk_3 | exact bk_4 | exact bk_5 | exact bk_6 | exact bk_7 | exact bk_8 | exact bk_9 | exact bk_10 | exact bk_11 | exact bk_12 | exact bk_13 | exact bk_14 | exact bk_15 | exact bk_16 | exact zup_self | exact (zup_ne (by first | assumption | omega)).trans (by first | assumption | exact zup_self) | exact (zup_ne (by first | assumption | omega)).trans ((zup_ne (by first | assumption | omega)).trans (by first | assumption | exact zup_self)) | exact (bk_out (by first | omega | (simp only [bset, reduceIte, Nat.reduceEqDiff]; omega))).trans (by first | exact bk_0 | exact bk_1 | exact bk_2 | exact bk_3 | exact bk_4 | exact bk_5 | exact bk_6 | exact bk_7 | exact bk_8 | exact bk_9 | exact bk_10 | exact bk_11 | exact bk_12 | exact bk_13 | exact bk_14 | exact bk_15 | exact bk_16 | exact cr_5 | exact cr_23 | exact cr_24 | exact cr_25 | exact cr_26 | exact cr_27 | exact cr_28 | exact cr_29 | exact cr_30 | assumption)) rfl ?_
                refine zr_iload_n dX7_draws_222 (rfl : 222 + 1 = 223) rfl ?_
                refine zr_sipush dX7_draws_223 (rfl : 223 + 3 = 226) (by decide) ?_
                refine zr_iadd dX7_draws_226 (rfl : 226 + 1 = 227) (by first | exact jI_add _ _ | rfl) ?_
                refine zr_iload dX7_draws_227 (rfl : 227 + 2 = 229) rfl ?_
                refine zr_iadd dX7_draws_229 (rfl : 229 + 1 = 230) (by first | exact jI_add _ _ | rfl) ?_
                refine zr_iload dX7_draws_230 (rfl : 230 + 2 = 232) rfl ?_
                refine zr_iast dX7_draws_232 (rfl : 232 + 1 = 233) (by first | assumption | exact mw_167 | exact mw_168 | exact mw_169 | exact mw_170 | exact bk_0 | exact bk_1 | exact bk_2 | exact bk_3 | exact bk_4 | exact bk_5 | exact bk_6 | exact bk_7 | exact bk_8 | exact bk_9 | exact bk_10 | exact bk_11 | exact bk_12 | exact bk_13 | exact bk_14 | exact bk_15 | exact bk_16 | exact zup_self | exact (zup_ne (by first | assumption | omega)).trans (by first | assumption | exact zup_self) | exact (zup_ne (by first | assumption | omega)).trans ((zup_ne (by first | assumption | omega)).trans (by first | assumption | exact zup_self)) | exact (bk_out (by first | omega | (simp only [bset, reduceIte, Nat.reduceEqDiff]; omega))).trans (by first | exact bk_0 | exact bk_1 | exact bk_2 | exact bk_3 | exact bk_4 | exact bk_5 | exact bk_6 | exact bk_7 | exact bk_8 | exact bk_9 | exact bk_10 | exact bk_11 | exact bk_12 | exact bk_13 | exact bk_14 | exact bk_15 | exact bk_16 | exact cr_5 | exact cr_23 | exact cr_24 | exact cr_25 | exact cr_26 | exact cr_27 | exact cr_28 | exact cr_29 | exact cr_30 | assumption)) (by decide) (by first | omega | (simp only [bset, reduceIte, Nat.reduceEqDiff]; omega)) (by first | omega | (simp only [bset, reduceIte, Nat.reduceEqDiff]; omega)) rfl ?_
                refine zr_aload_n dX7_draws_233 (rfl : 233 + 1 = 234) rfl ?_
                refine zr_getf dX7_draws_234 (rfl : 234 + 3 = 237) f_X7_7 (by first | assumption | exact mw_167 | exact mw_168 | exact mw_169 | exact mw_170 | exact bk_0 | exact bk_1 | exact bk_2 | exact bk_3 | exact bk_4 | exact bk_5 | exact bk_6 | exact bk_7 | exact bk_8 | exact bk_9 | exact bk_10 | exact bk_11 | exact bk_12 | exact bk_13 | exact bk_14 | exact bk_15 | exact bk_16 | exact zup_self | exact (zup_ne (by first | assumption | omega)).trans (by first | assumption | exact zup_self) | exact (zup_ne (by first | assumption | omega)).trans ((zup_ne (by first | assumption | omega)).trans (by first | assumption | exact zup_self)) | exact (bk_out (by first | omega | (simp only [bset, reduceIte, Nat.reduceEqDiff]; omega))).trans (by first | exact bk_0 | exact bk_1 | exact bk_2 | exact bk_3 | exact bk_4 | exact bk_5 | exact bk_6 | exact bk_7 | exact bk_8 | exact bk_9 | exact bk_10 | exact bk_11 | exact bk_12 | exact bk_13 | exact bk_14 | exact bk_15 | exact bk_16 | exact cr_5 | exact cr_23 | exact cr_24 | exact cr_25 | exact cr_26 | exact cr_27 | exact cr_28 | exact cr_29 | exact cr_30 | assumption)) rfl ?_
                refine zr_iload_n dX7_draws_237 (rfl : 237 + 1 = 238) rfl ?_
                refine zr_sipush dX7_draws_238 (rfl : 238 + 3 = 241) (by decide) ?_
                refine zr_iadd dX7_draws_241 (rfl : 241 + 1 = 242) (by first | exact jI_add _ _ | rfl) ?_
                refine zr_dup2 dX7_draws_242 (rfl : 242 + 1 = 243) rfl rfl ?_
                refine zr_iald dX7_draws_243 (rfl : 243 + 1 = 244) (by first | assumption | exact mw_167 | exact mw_168 | exact mw_169 | exact mw_170 | exact bk_0 | exact bk_1 | exact bk_2 | exact bk_3 | exact bk_4 | exact bk_5 | exact bk_6 | exact bk_7 | exact bk_8 | exact bk_9 | exact bk_10 | exact bk_11 | exact bk_12 | exact bk_13 | exact bk_14 | exact bk_15 | exact bk_16 | exact zup_self | exact (zup_ne (by first | assumption | omega)).trans (by first | assumption | exact zup_self) | exact (zup_ne (by first | assumption | omega)).trans ((zup_ne (by first | assumption | omega)).trans (by first | assumption | exact zup_self)) | exact (bk_out (by first | omega | (simp only [bset, reduceIte, Nat.reduceEqDiff]; omega))).trans (by first | exact bk_0 | exact bk_1 | exact bk_2 | exact bk_3 | exact bk_4 | exact bk_5 | exact bk_6 | exact bk_7 | exact bk_8 | exact bk_9 | exact bk_10 | exact bk_11 | exact bk_12 | exact bk_13 | exact bk_14 | exact bk_15 | exact bk_16 | exact cr_5 | exact cr_23 | exact cr_24 | exact cr_25 | exact cr_26 | exact cr_27 | exact cr_28 | exact cr_29 | exact cr_30 | assumption)) (by decide) (by first | omega | (simp only [bset, reduceIte, Nat.reduceEqDiff]; omega)) (by first | omega | (simp only [bset, reduceIte, Nat.reduceEqDiff]; omega)) ?_
                refine zr_iload dX7_draws_244 (rfl : 244 + 2 = 246) rfl ?_
                refine zr_if_eq (tgt := 253) dX7_draws_246 (by decide) (rfl : 246 + 3 = 249) (by first | exact jb_iff | exact jI_z (by first | omega | (simp only [bset, reduceIte, Nat.reduceEqDiff]; omega)) (by first | omega | (simp only [bset, reduceIte, Nat.reduceEqDiff]; omega))) (fun h246 => ?_) (fun h246 => ?_)
                · first
                  | (exfalso; omega)
                  | (
                    refine zr_iconst dX7_draws_253 (rfl : 253 + 1 = 254) ?_
                    refine zr_iadd dX7_draws_254 (rfl : 254 + 1 = 255) (by first | exact jI_add _ _ | rfl) ?_
                    refine zr_iast dX7_draws_255 (rfl : 255 + 1 = 256) (by first | assumption | exact mw_167 | exact mw_168 | exact mw_169 | exact mw_170 | exact bk_0 | exact bk_1 | exact bk_2 | exact bk_3 | exact bk_4 | exact bk_5 | exact bk_6 | exact bk_7 | exact bk_8 | exact bk_9 | exact bk_10 | exact bk_11 | exact bk_12 | exact bk_13 | exact bk_14 | exact bk_15 | exact bk_16 | exact zup_self | exact (zup_ne (by first | assumption | omega)).trans (by first | assumption | exact zup_self) | exact (zup_ne (by first | assumption | omega)).trans ((zup_ne (by first | assumption | omega)).trans (by first | assumption | exact zup_self)) | exact (bk_out (by first | omega | (simp only [bset, reduceIte, Nat.reduceEqDiff]; omega))).trans (by first | exact bk_0 | exact bk_1 | exact bk_2 | exact bk_3 | exact bk_4 | exact bk_5 | exact bk_6 | exact bk_7 | exact bk_8 | exact bk_9 | exact bk_10 | exact bk_11 | exact bk_12 | exact bk_13 | exact bk_14 | exact bk_15 | exact bk_16 | exact cr_5 | exact cr_23 | exact cr_24 | exact cr_25 | exact cr_26 | exact cr_27 | exact cr_28 | exact cr_29 | exact cr_30 | assumption)) (by decide) (by first | omega | (simp only [bset, reduceIte, Nat.reduceEqDiff]; omega)) (by first | omega | (simp only [bset, reduceIte, Nat.reduceEqDiff]; omega)) rfl ?_
                    refine zr_iload_n dX7_draws_256 (rfl : 256 + 1 = 257) rfl ?_
                    refine zr_iret dX7_draws_257 rfl (by first | rfl | exact jb_nar) ?_ rfl rfl rfl
                    first | rfl | rw [jb_pos (by first | assumption | omega)] | rw [jb_neg (by first | assumption | omega)] | rw [if_pos (by first | assumption | omega)] | rw [if_neg (by first | assumption | omega)])
                · first
                  | (exfalso; omega)
                  | (
                    refine zr_iconst dX7_draws_249 (rfl : 249 + 1 = 250) ?_
                    refine zr_goto (tgt := 254) dX7_draws_250 (by decide) ?_
                    refine zr_iadd dX7_draws_254 (rfl : 254 + 1 = 255) (by first | exact jI_add _ _ | rfl) ?_
                    refine zr_iast dX7_draws_255 (rfl : 255 + 1 = 256) (by first | assumption | exact mw_167 | exact mw_168 | exact mw_169 | exact mw_170 | exact bk_0 | exact bk_1 | exact bk_2 | exact bk_3 | exact bk_4 | exact bk_5 | exact bk_6 | exact bk_7 | exact bk_8 | exact bk_9 | exact bk_10 | exact bk_11 | exact bk_12 | exact bk_13 | exact bk_14 | exact bk_15 | exact bk_16 | exact zup_self | exact (zup_ne (by first | assumption | omega)).trans (by first | assumption | exact zup_self) | exact (zup_ne (by first | assumption | omega)).trans ((zup_ne (by first | assumption | omega)).trans (by first | assumption | exact zup_self)) | exact (bk_out (by first | omega | (simp only [bset, reduceIte, Nat.reduceEqDiff]; omega))).trans (by first | exact bk_0 | exact bk_1 | exact bk_2 | exact bk_3 | exact bk_4 | exact bk_5 | exact bk_6 | exact bk_7 | exact bk_8 | exact bk_9 | exact bk_10 | exact bk_11 | exact bk_12 | exact bk_13 | exact bk_14 | exact bk_15 | exact bk_16 | exact cr_5 | exact cr_23 | exact cr_24 | exact cr_25 | exact cr_26 | exact cr_27 | exact cr_28 | exact cr_29 | exact cr_30 | assumption)) (by decide) (by first | omega | (simp only [bset, reduceIte, Nat.reduceEqDiff]; omega)) (by first | omega | (simp only [bset, reduceIte, Nat.reduceEqDiff]; omega)) rfl ?_
                    refine zr_iload_n dX7_draws_256 (rfl : 256 + 1 = 257) rfl ?_
                    refine zr_iret dX7_draws_257 rfl (by first | rfl | exact jb_nar) ?_ rfl rfl rfl
                    first | rfl | rw [jb_pos (by first | assumption | omega)] | rw [jb_neg (by first | assumption | omega)] | rw [if_pos (by first | assumption | omega)] | rw [if_neg (by first | assumption | omega)])))
        · first
          | (exfalso; omega)
          | (
            refine zr_iload dX7_draws_125 (rfl : 125 + 2 = 127) rfl ?_
            refine zr_iconst dX7_draws_127 (rfl : 127 + 1 = 128) ?_
            refine zr_iadd dX7_draws_128 (rfl : 128 + 1 = 129) (by first | exact jI_add _ _ | rfl) ?_
            refine zr_aload_n dX7_draws_129 (rfl : 129 + 1 = 130) rfl ?_
            refine zr_getf dX7_draws_130 (rfl : 130 + 3 = 133) f_X7_7 (by first | assumption | exact mw_167 | exact mw_168 | exact mw_169 | exact mw_170 | exact bk_0 | exact bk_1 | exact bk_2 | exact bk_3 | exact bk_4 | exact bk_5 | exact bk_6 | exact bk_7 | exact bk_8 | exact bk_9 | exact bk_10 | exact bk_11 | exact bk_12 | exact bk_13 | exact bk_14 | exact bk_15 | exact bk_16 | exact zup_self | exact (zup_ne (by first | assumption | omega)).trans (by first | assumption | exact zup_self) | exact (zup_ne (by first | assumption | omega)).trans ((zup_ne (by first | assumption | omega)).trans (by first | assumption | exact zup_self)) | exact (bk_out (by first | omega | (simp only [bset, reduceIte, Nat.reduceEqDiff]; omega))).trans (by first | exact bk_0 | exact bk_1 | exact bk_2 | exact bk_3 | exact bk_4 | exact bk_5 | exact bk_6 | exact bk_7 | exact bk_8 | exact bk_9 | exact bk_10 | exact bk_11 | exact bk_12 | exact bk_13 | exact bk_14 | exact bk_15 | exact bk_16 | exact cr_5 | exact cr_23 | exact cr_24 | exact cr_25 | exact cr_26 | exact cr_27 | exact cr_28 | exact cr_29 | exact cr_30 | assumption)) rfl ?_
            refine zr_iload_n dX7_draws_133 (rfl : 133 + 1 = 134) rfl ?_
            refine zr_iconst dX7_draws_134 (rfl : 134 + 1 = 135) ?_
            refine zr_iadd dX7_draws_135 (rfl : 135 + 1 = 136) (by first | exact jI_add _ _ | rfl) ?_
            refine zr_iald dX7_draws_136 (rfl : 136 + 1 = 137) (by first | assumption | exact mw_167 | exact mw_168 | exact mw_169 | exact mw_170 | exact bk_0 | exact bk_1 | exact bk_2 | exact bk_3 | exact bk_4 | exact bk_5 | exact bk_6 | exact bk_7 | exact bk_8 | exact bk_9 | exact bk_10 | exact bk_11 | exact bk_12 | exact bk_13 | exact bk_14 | exact bk_15 | exact bk_16 | exact zup_self | exact (zup_ne (by first | assumption | omega)).trans (by first | assumption | exact zup_self) | exact (zup_ne (by first | assumption | omega)).trans ((zup_ne (by first | assumption | omega)).trans (by first | assumption | exact zup_self)) | exact (bk_out (by first | omega | (simp only [bset, reduceIte, Nat.reduceEqDiff]; omega))).trans (by first | exact bk_0 | exact bk_1 | exact bk_2 | exact bk_3 | exact bk_4 | exact bk_5 | exact bk_6 | exact bk_7 | exact bk_8 | exact bk_9 | exact bk_10 | exact bk_11 | exact bk_12 | exact bk_13 | exact bk_14 | exact bk_15 | exact bk_16 | exact cr_5 | exact cr_23 | exact cr_24 | exact cr_25 | exact cr_26 | exact cr_27 | exact cr_28 | exact cr_29 | exact cr_30 | assumption)) (by decide) (by first | omega | (simp only [bset, reduceIte, Nat.reduceEqDiff]; omega)) (by first | omega | (simp only [bset, reduceIte, Nat.reduceEqDiff]; omega)) ?_
            refine zr_irem dX7_draws_137 (rfl : 137 + 1 = 138) (fun q => absurd ((jI_z (by first | omega | (simp only [bset, reduceIte, Nat.reduceEqDiff]; omega)) (by first | omega | (simp only [bset, reduceIte, Nat.reduceEqDiff]; omega))).mp q) (by first | omega | (simp only [bset, reduceIte, Nat.reduceEqDiff]; omega))) (jI_rem (by first | omega | (simp only [bset, reduceIte, Nat.reduceEqDiff]; omega)) (by first | omega | (simp only [bset, reduceIte, Nat.reduceEqDiff]; omega)) (by first | omega | (simp only [bset, reduceIte, Nat.reduceEqDiff]; omega)) (by first | omega | (simp only [bset, reduceIte, Nat.reduceEqDiff]; omega))) ?_
            refine zr_if_ne (tgt := 145) dX7_draws_138 (by decide) (rfl : 138 + 3 = 141) (by first | exact jb_iff | exact jI_z (by first | omega | (simp only [bset, reduceIte, Nat.reduceEqDiff]; omega)) (by first | omega | (simp only [bset, reduceIte, Nat.reduceEqDiff]; omega))) (fun h138 => ?_) (fun h138 => ?_)
            · first
              | (exfalso; omega)
              | (
                refine zr_iconst dX7_draws_145 (rfl : 145 + 1 = 146) ?_
                refine zr_istore (lv' := [_, _, _, _, _, _, _]) dX7_draws_146 (rfl : 146 + 2 = 148) (Nat.le_of_ble_eq_true rfl) rfl ?_
                refine zr_iload dX7_draws_148 (rfl : 148 + 2 = 150) rfl ?_
                refine zr_if_ne (tgt := 157) dX7_draws_150 (by decide) (rfl : 150 + 3 = 153) (by first | exact jb_iff | exact jI_z (by first | omega | (simp only [bset, reduceIte, Nat.reduceEqDiff]; omega)) (by first | omega | (simp only [bset, reduceIte, Nat.reduceEqDiff]; omega))) (fun h150 => ?_) (fun h150 => ?_)
                · first
                  | (exfalso; omega)
                  | (
                    refine zr_iload_n dX7_draws_157 (rfl : 157 + 1 = 158) rfl ?_
                    refine zr_bipush dX7_draws_158 (rfl : 158 + 2 = 160) (by decide) ?_
                    refine zr_icmp_ne (tgt := 167) dX7_draws_160 (by decide) (rfl : 160 + 3 = 163) (jI_eq (by first | omega | (simp only [bset, reduceIte, Nat.reduceEqDiff]; omega)) (by first | omega | (simp only [bset, reduceIte, Nat.reduceEqDiff]; omega)) (by first | omega | (simp only [bset, reduceIte, Nat.reduceEqDiff]; omega)) (by first | omega | (simp only [bset, reduceIte, Nat.reduceEqDiff]; omega))) (fun h160 => ?_) (fun h160 => ?_)
                    · first
                      | (exfalso; omega)
                      | (
                        refine zr_iload_n dX7_draws_167 (rfl : 167 + 1 = 168) rfl ?_
                        refine zr_iconst dX7_draws_168 (rfl : 168 + 1 = 169) ?_
                        refine zr_iadd dX7_draws_169 (rfl : 169 + 1 = 170) (by first | exact jI_add _ _ | rfl) ?_
                        refine zr_istore (lv' := [_, _, _, _, _, _, _]) dX7_draws_170 (rfl : 170 + 2 = 172) (Nat.le_of_ble_eq_true rfl) rfl ?_
                        refine zr_aload_n dX7_draws_172 (rfl : 172 + 1 = 173) rfl ?_
                        refine zr_getf dX7_draws_173 (rfl : 173 + 3 = 176) f_X7_7 (by first | assumption | exact mw_167 | exact mw_168 | exact mw_169 | exact mw_170 | exact bk_0 | exact bk_1 | exact bk_2 | exact bk_3 | exact bk_4 | exact bk_5 | exact bk_6 | exact bk_7 | exact bk_8 | exact bk_9 | exact bk_10 | exact bk_11 | exact bk_12 | exact bk_13 | exact bk_14 | exact bk_15 | exact bk_16 | exact zup_self | exact (zup_ne (by first | assumption | omega)).trans (by first | assumption | exact zup_self) | exact (zup_ne (by first | assumption | omega)).trans ((zup_ne (by first | assumption | omega)).trans (by first | assumption | exact zup_self)) | exact (bk_out (by first | omega | (simp only [bset, reduceIte, Nat.reduceEqDiff]; omega))).trans (by first | exact bk_0 | exact bk_1 | exact bk_2 | exact bk_3 | exact bk_4 | exact bk_5 | exact bk_6 | exact bk_7 | exact bk_8 | exact bk_9 | exact bk_10 | exact bk_11 | exact bk_12 | exact bk_13 | exact bk_14 | exact bk_15 | exact bk_16 | exact cr_5 | exact cr_23 | exact cr_24 | exact cr_25 | exact cr_26 | exact cr_27 | exact cr_28 | exact cr_29 | exact cr_30 | assumption)) rfl ?_
                        refine zr_iload_n dX7_draws_176 (rfl : 176 + 1 = 177) rfl ?_
                        refine zr_bipush dX7_draws_177 (rfl : 177 + 2 = 179) (by decide) ?_
                        refine zr_iadd dX7_draws_179 (rfl : 179 + 1 = 180) (by first | exact jI_add _ _ | rfl) ?_
                        refine zr_iload_n dX7_draws_180 (rfl : 180 + 1 = 181) rfl ?_
                        refine zr_iadd dX7_draws_181 (rfl : 181 + 1 = 182) (by first | exact jI_add _ _ | rfl) ?_
                        refine zr_iload dX7_draws_182 (rfl : 182 + 2 = 184) rfl ?_
                        refine zr_iconst dX7_draws_184 (rfl : 184 + 1 = 185) ?_
                        refine zr_iadd dX7_draws_185 (rfl : 185 + 1 = 186) (by first | exact jI_add _ _ | rfl) ?_
                        refine zr_iast dX7_draws_186 (rfl : 186 + 1 = 187) (by first | assumption | exact mw_167 | exact mw_168 | exact mw_169 | exact mw_170 | exact bk_0 | exact bk_1 | exact bk_2 | exact bk_3 | exact bk_4 | exact bk_5 | exact bk_6 | exact bk_7 | exact bk_8 | exact bk_9 | exact bk_10 | exact bk_11 | exact bk_12 | exact bk_13 | exact bk_14 | exact bk_15 | exact bk_16 | exact zup_self | exact (zup_ne (by first | assumption | omega)).trans (by first | assumption | exact zup_self) | exact (zup_ne (by first | assumption | omega)).trans ((zup_ne (by first | assumption | omega)).trans (by first | assumption | exact zup_self)) | exact (bk_out (by first | omega | (simp only [bset, reduceIte, Nat.reduceEqDiff]; omega))).trans (by first | exact bk_0 | exact bk_1 | exact bk_2 | exact bk_3 | exact bk_4 | exact bk_5 | exact bk_6 | exact bk_7 | exact bk_8 | exact bk_9 | exact bk_10 | exact bk_11 | exact bk_12 | exact bk_13 | exact bk_14 | exact bk_15 | exact bk_16 | exact cr_5 | exact cr_23 | exact cr_24 | exact cr_25 | exact cr_26 | exact cr_27 | exact cr_28 | exact cr_29 | exact cr_30 | assumption)) (by decide) (by first | omega | (simp only [bset, reduceIte, Nat.reduceEqDiff]; omega)) (by first | omega | (simp only [bset, reduceIte, Nat.reduceEqDiff]; omega)) rfl ?_
                        refine zr_aload_n dX7_draws_187 (rfl : 187 + 1 = 188) rfl ?_
                        refine zr_getf dX7_draws_188 (rfl : 188 + 3 = 191) f_X7_7 (by first | assumption | exact mw_167 | exact mw_168 | exact mw_169 | exact mw_170 | exact bk_0 | exact bk_1 | exact bk_2 | exact bk_3 | exact bk_4 | exact bk_5 | exact bk_6 | exact bk_7 | exact bk_8 | exact bk_9 | exact bk_10 | exact bk_11 | exact bk_12 | exact bk_13 | exact bk_14 | exact bk_15 | exact bk_16 | exact zup_self | exact (zup_ne (by first | assumption | omega)).trans (by first | assumption | exact zup_self) | exact (zup_ne (by first | assumption | omega)).trans ((zup_ne (by first | assumption | omega)).trans (by first | assumption | exact zup_self)) | exact (bk_out (by first | omega | (simp only [bset, reduceIte, Nat.reduceEqDiff]; omega))).trans (by first | exact bk_0 | exact bk_1 | exact bk_2 | exact bk_3 | exact bk_4 | exact bk_5 | exact bk_6 | exact bk_7 | exact bk_8 | exact bk_9 | exact bk_10 | exact bk_11 | exact bk_12 | exact bk_13 | exact bk_14 | exact bk_15 | exact bk_16 | exact cr_5 | exact cr_23 | exact cr_24 | exact cr_25 | exact cr_26 | exact cr_27 | exact cr_28 | exact cr_29 | exact cr_30 | assumption)) rfl ?_
                        refine zr_iload_n dX7_draws_191 (rfl : 191 + 1 = 192) rfl ?_
                        refine zr_sipush dX7_draws_192 (rfl : 192 + 3 = 195) (by decide) ?_
                        refine zr_iadd dX7_draws_195 (rfl : 195 + 1 = 196) (by first | exact jI_add _ _ | rfl) ?_
                        refine zr_iload dX7_draws_196 (rfl : 196 + 2 = 198) rfl ?_
                        refine zr_iadd dX7_draws_198 (rfl : 198 + 1 = 199) (by first | exact jI_add _ _ | rfl) ?_
                        refine zr_dup2 dX7_draws_199 (rfl : 199 + 1 = 200) rfl rfl ?_
                        refine zr_iald dX7_draws_200 (rfl : 200 + 1 = 201) (by first | assumption | exact mw_167 | exact mw_168 | exact mw_169 | exact mw_170 | exact bk_0 | exact bk_1 | exact bk_2 | exact bk_3 | exact bk_4 | exact bk_5 | exact bk_6 | exact bk_7 | exact bk_8 | exact bk_9 | exact bk_10 | exact bk_11 | exact bk_12 | exact bk_13 | exact bk_14 | exact bk_15 | exact bk_16 | exact zup_self | exact (zup_ne (by first | assumption | omega)).trans (by first | assumption | exact zup_self) | exact (zup_ne (by first | assumption | omega)).trans ((zup_ne (by first | assumption | omega)).trans (by first | assumption | exact zup_self)) | exact (bk_out (by first | omega | (simp only [bset, reduceIte, Nat.reduceEqDiff]; omega))).trans (by first | exact bk_0 | exact bk_1 | exact bk_2 | exact bk_3 | exact bk_4 | exact bk_5 | exact bk_6 | exact bk_7 | exact bk_8 | exact bk_9 | exact bk_10 | exact bk_11 | exact bk_12 | exact bk_13 | exact bk_14 | exact bk_15 | exact bk_16 | exact cr_5 | exact cr_23 | exact cr_24 | exact cr_25 | exact cr_26 | exact cr_27 | exact cr_28 | exact cr_29 | exact cr_30 | assumption)) (by decide) (by first | omega | (simp only [bset, reduceIte, Nat.reduceEqDiff]; omega)) (by first | omega | (simp only [bset, reduceIte, Nat.reduceEqDiff]; omega)) ?_
                        refine zr_iconst dX7_draws_201 (rfl : 201 + 1 = 202) ?_
                        refine zr_iadd dX7_draws_202 (rfl : 202 + 1 = 203) (by first | exact jI_add _ _ | rfl) ?_
                        refine zr_iast dX7_draws_203 (rfl : 203 + 1 = 204) (by first | assumption | exact mw_167 | exact mw_168 | exact mw_169 | exact mw_170 | exact bk_0 | exact bk_1 | exact bk_2 | exact bk_3 | exact bk_4 | exact bk_5 | exact bk_6 | exact bk_7 | exact bk_8 | exact bk_9 | exact bk_10 | exact bk_11 | exact bk_12 | exact bk_13 | exact bk_14 | exact bk_15 | exact bk_16 | exact zup_self | exact (zup_ne (by first | assumption | omega)).trans (by first | assumption | exact zup_self) | exact (zup_ne (by first | assumption | omega)).trans ((zup_ne (by first | assumption | omega)).trans (by first | assumption | exact zup_self)) | exact (bk_out (by first | omega | (simp only [bset, reduceIte, Nat.reduceEqDiff]; omega))).trans (by first | exact bk_0 | exact bk_1 | exact bk_2 | exact bk_3 | exact bk_4 | exact bk_5 | exact bk_6 | exact bk_7 | exact bk_8 | exact bk_9 | exact bk_10 | exact bk_11 | exact bk_12 | exact bk_13 | exact bk_14 | exact bk_15 | exact bk_16 | exact cr_5 | exact cr_23 | exact cr_24 | exact cr_25 | exact cr_26 | exact cr_27 | exact cr_28 | exact cr_29 | exact cr_30 | assumption)) (by decide) (by first | omega | (simp only [bset, reduceIte, Nat.reduceEqDiff]; omega)) (by first | omega | (simp only [bset, reduceIte, Nat.reduceEqDiff]; omega)) rfl ?_
                        refine zr_aload_n dX7_draws_204 (rfl : 204 + 1 = 205) rfl ?_
                        refine zr_getf dX7_draws_205 (rfl : 205 + 3 = 208) f_X7_7 (by first | assumption | exact mw_167 | exact mw_168 | exact mw_169 | exact mw_170 | exact bk_0 | exact bk_1 | exact bk_2 | exact bk_3 | exact bk_4 | exact bk_5 | exact bk_6 | exact bk_7 | exact bk_8 | exact bk_9 | exact bk_10 | exact bk_11 | exact bk_12 | exact bk_13 | exact bk_14 | exact bk_15 | exact bk_16 | exact zup_self | exact (zup_ne (by first | assumption | omega)).trans (by first | assumption | exact zup_self) | exact (zup_ne (by first | assumption | omega)).trans ((zup_ne (by first | assumption | omega)).trans (by first | assumption | exact zup_self)) | exact (bk_out (by first | omega | (simp only [bset, reduceIte, Nat.reduceEqDiff]; omega))).trans (by first | exact bk_0 | exact bk_1 | exact bk_2 | exact bk_3 | exact bk_4 | exact bk_5 | exact bk_6 | exact bk_7 | exact bk_8 | exact bk_9 | exact bk_10 | exact bk_11 | exact bk_12 | exact bk_13 | exact bk_14 | exact bk_15 | exact bk_16 | exact cr_5 | exact cr_23 | exact cr_24 | exact cr_25 | exact cr_26 | exact cr_27 | exact cr_28 | exact cr_29 | exact cr_30 | assumption)) rfl ?_
                        refine zr_iload_n dX7_draws_208 (rfl : 208 + 1 = 209) rfl ?_
                        refine zr_sipush dX7_draws_209 (rfl : 209 + 3 = 212) (by decide) ?_
                        refine zr_iadd dX7_draws_212 (rfl : 212 + 1 = 213) (by first | exact jI_add _ _ | rfl) ?_
                        refine zr_iload dX7_draws_213 (rfl : 213 + 2 = 215) rfl ?_
                        refine zr_iadd dX7_draws_215 (rfl : 215 + 1 = 216) (by first | exact jI_add _ _ | rfl) ?_
                        refine zr_iload_n dX7_draws_216 (rfl : 216 + 1 = 217) rfl ?_
                        refine zr_iast dX7_draws_217 (rfl : 217 + 1 = 218) (by first | assumption | exact mw_167 | exact mw_168 | exact mw_169 | exact mw_170 | exact bk_0 | exact bk_1 | exact bk_2 | exact bk_3 | exact bk_4 | exact bk_5 | exact bk_6 | exact bk_7 | exact bk_8 | exact bk_9 | exact bk_10 | exact bk_11 | exact bk_12 | exact bk_13 | exact bk_14 | exact bk_15 | exact bk_16 | exact zup_self | exact (zup_ne (by first | assumption | omega)).trans (by first | assumption | exact zup_self) | exact (zup_ne (by first | assumption | omega)).trans ((zup_ne (by first | assumption | omega)).trans (by first | assumption | exact zup_self)) | exact (bk_out (by first | omega | (simp only [bset, reduceIte, Nat.reduceEqDiff]; omega))).trans (by first | exact bk_0 | exact bk_1 | exact bk_2 | exact bk_3 | exact bk_4 | exact bk_5 | exact bk_6 | exact bk_7 | exact bk_8 | exact bk_9 | exact bk_10 | exact bk_11 | exact bk_12 | exact bk_13 | exact bk_14 | exact bk_15 | exact bk_16 | exact cr_5 | exact cr_23 | exact cr_24 | exact cr_25 | exact cr_26 | exact cr_27 | exact cr_28 | exact cr_29 | exact cr_30 | assumption)) (by decide) (by first | omega | (simp only [bset, reduceIte, Nat.reduceEqDiff]; omega)) (by first | omega | (simp only [bset, reduceIte, Nat.reduceEqDiff]; omega)) rfl ?_
                        refine zr_aload_n dX7_draws_218 (rfl : 218 + 1 = 219) rfl ?_
                        refine zr_getf dX7_draws_219 (rfl : 219 + 3 = 222) f_X7_7 (by first | assumption | exact mw_167 | exact mw_168 | exact mw_169 | exact mw_170 | exact bk_0 | exact bk_1 | exact bk_2 | exact bk_3 | exact bk_4 | exact bk_5 | exact bk_6 | exact bk_7 | exact bk_8 | exact bk_9 | exact bk_10 | exact bk_11 | exact bk_12 | exact bk_13 | exact bk_14 | exact bk_15 | exact bk_16 | exact zup_self | exact (zup_ne (by first | assumption | omega)).trans (by first | assumption | exact zup_self) | exact (zup_ne (by first | assumption | omega)).trans ((zup_ne (by first | assumption | omega)).trans (by first | assumption | exact zup_self)) | exact (bk_out (by first | omega | (simp only [bset, reduceIte, Nat.reduceEqDiff]; omega))).trans (by first | exact bk_0 | exact bk_1 | exact bk_2 | exact bk_3 | exact bk_4 | exact bk_5 | exact bk_6 | exact bk_7 | exact bk_8 | exact bk_9 | exact bk_10 | exact bk_11 | exact bk_12 | exact bk_13 | exact bk_14 | exact bk_15 | exact bk_16 | exact cr_5 | exact cr_23 | exact cr_24 | exact cr_25 | exact cr_26 | exact cr_27 | exact cr_28 | exact cr_29 | exact cr_30 | assumption)) rfl ?_
                        refine zr_iload_n dX7_draws_222 (rfl : 222 + 1 = 223) rfl ?_
                        refine zr_sipush dX7_draws_223 (rfl : 223 + 3 = 226) (by decide) ?_
                        refine zr_iadd dX7_draws_226 (rfl : 226 + 1 = 227) (by first | exact jI_add _ _ | rfl) ?_
                        refine zr_iload dX7_draws_227 (rfl : 227 + 2 = 229) rfl ?_
                        refine zr_iadd dX7_draws_229 (rfl : 229 + 1 = 230) (by first | exact jI_add _ _ | rfl) ?_
                        refine zr_iload dX7_draws_230 (rfl : 230 + 2 = 232) rfl ?_
                        refine zr_iast dX7_draws_232 (rfl : 232 + 1 = 233) (by first | assumption | exact mw_167 | exact mw_168 | exact mw_169 | exact mw_170 | exact bk_0 | exact bk_1 | exact bk_2 | exact bk_3 | exact bk_4 | exact bk_5 | exact bk_6 | exact bk_7 | exact bk_8 | exact bk_9 | exact bk_10 | exact bk_11 | exact bk_12 | exact bk_13 | exact bk_14 | exact bk_15 | exact bk_16 | exact zup_self | exact (zup_ne (by first | assumption | omega)).trans (by first | assumption | exact zup_self) | exact (zup_ne (by first | assumption | omega)).trans ((zup_ne (by first | assumption | omega)).trans (by first | assumption | exact zup_self)) | exact (bk_out (by first | omega | (simp only [bset, reduceIte, Nat.reduceEqDiff]; omega))).trans (by first | exact bk_0 | exact bk_1 | exact bk_2 | exact bk_3 | exact bk_4 | exact bk_5 | exact bk_6 | exact bk_7 | exact bk_8 | exact bk_9 | exact bk_10 | exact bk_11 | exact bk_12 | exact bk_13 | exact bk_14 | exact bk_15 | exact bk_16 | exact cr_5 | exact cr_23 | exact cr_24 | exact cr_25 | exact cr_26 | exact cr_27 | exact cr_28 | exact cr_29 | exact cr_30 | assumption)) (by decide) (by first | omega | (simp only [bset, reduceIte, Nat.reduceEqDiff]; omega)) (by first | omega | (simp only [bset, reduceIte, Nat.reduceEqDiff]; omega)) rfl ?_
                        refine zr_aload_n dX7_draws_233 (rfl : 233 + 1 = 234) rfl ?_
                        refine zr_getf dX7_draws_234 (rfl : 234 + 3 = 237) f_X7_7 (by first | assumption | exact mw_167 | exact mw_168 | exact mw_169 | exact mw_170 | exact bk_0 | exact bk_1 | exact bk_2 | exact bk_3 | exact bk_4 | exact bk_5 | exact bk_6 | exact bk_7 | exact bk_8 | exact bk_9 | exact bk_10 | exact bk_11 | exact bk_12 | exact bk_13 | exact bk_14 | exact bk_15 | exact bk_16 | exact zup_self | exact (zup_ne (by first | assumption | omega)).trans (by first | assumption | exact zup_self) | exact (zup_ne (by first | assumption | omega)).trans ((zup_ne (by first | assumption | omega)).trans (by first | assumption | exact zup_self)) | exact (bk_out (by first | omega | (simp only [bset, reduceIte, Nat.reduceEqDiff]; omega))).trans (by first | exact bk_0 | exact bk_1 | exact bk_2 | exact bk_3 | exact bk_4 | exact bk_5 | exact bk_6 | exact bk_7 | exact bk_8 | exact bk_9 | exact bk_10 | exact bk_11 | exact bk_12 | exact bk_13 | exact bk_14 | exact bk_15 | exact bk_16 | exact cr_5 | exact cr_23 | exact cr_24 | exact cr_25 | exact cr_26 | exact cr_27 | exact cr_28 | exact cr_29 | exact cr_30 | assumption)) rfl ?_
                        refine zr_iload_n dX7_draws_237 (rfl : 237 + 1 = 238) rfl ?_
                        refine zr_sipush dX7_draws_238 (rfl : 238 + 3 = 241) (by decide) ?_
                        refine zr_iadd dX7_draws_241 (rfl : 241 + 1 = 242) (by first | exact jI_add _ _ | rfl) ?_
                        refine zr_dup2 dX7_draws_242 (rfl : 242 + 1 = 243) rfl rfl ?_
                        refine zr_iald dX7_draws_243 (rfl : 243 + 1 = 244) (by first | assumption | exact mw_167 | exact mw_168 | exact mw_169 | exact mw_170 | exact bk_0 | exact bk_1 | exact bk_2 | exact bk_3 | exact bk_4 | exact bk_5 | exact bk_6 | exact bk_7 | exact bk_8 | exact bk_9 | exact bk_10 | exact bk_11 | exact bk_12 | exact bk_13 | exact bk_14 | exact bk_15 | exact bk_16 | exact zup_self | exact (zup_ne (by first | assumption | omega)).trans (by first | assumption | exact zup_self) | exact (zup_ne (by first | assumption | omega)).trans ((zup_ne (by first | assumption | omega)).trans (by first | assumption | exact zup_self)) | exact (bk_out (by first | omega | (simp only [bset, reduceIte, Nat.reduceEqDiff]; omega))).trans (by first | exact bk_0 | exact bk_1 | exact bk_2 | exact bk_3 | exact bk_4 | exact bk_5 | exact bk_6 | exact bk_7 | exact bk_8 | exact bk_9 | exact bk_10 | exact bk_11 | exact bk_12 | exact bk_13 | exact bk_14 | exact bk_15 | exact bk_16 | exact cr_5 | exact cr_23 | exact cr_24 | exact cr_25 | exact cr_26 | exact cr_27 | exact cr_28 | exact cr_29 | exact cr_30 | assumption)) (by decide) (by first | omega | (simp only [bset, reduceIte, Nat.reduceEqDiff]; omega)) (by first | omega | (simp only [bset, reduceIte, Nat.reduceEqDiff]; omega)) ?_
                        refine zr_iload dX7_draws_244 (rfl : 244 + 2 = 246) rfl ?_
                        refine zr_if_eq (tgt := 253) dX7_draws_246 (by decide) (rfl : 246 + 3 = 249) (by first | exact jb_iff | exact jI_z (by first | omega | (simp only [bset, reduceIte, Nat.reduceEqDiff]; omega)) (by first | omega | (simp only [bset, reduceIte, Nat.reduceEqDiff]; omega))) (fun h246 => ?_) (fun h246 => ?_)
                        · first
                          | (exfalso; omega)
                          | (
                            refine zr_iconst dX7_draws_253 (rfl : 253 + 1 = 254) ?_
                            refine zr_iadd dX7_draws_254 (rfl : 254 + 1 = 255) (by first | exact jI_add _ _ | rfl) ?_
                            refine zr_iast dX7_draws_255 (rfl : 255 + 1 = 256) (by first | assumption | exact mw_167 | exact mw_168 | exact mw_169 | exact mw_170 | exact bk_0 | exact bk_1 | exact bk_2 | exact bk_3 | exact bk_4 | exact bk_5 | exact bk_6 | exact bk_7 | exact bk_8 | exact bk_9 | exact bk_10 | exact bk_11 | exact bk_12 | exact bk_13 | exact bk_14 | exact bk_15 | exact bk_16 | exact zup_self | exact (zup_ne (by first | assumption | omega)).trans (by first | assumption | exact zup_self) | exact (zup_ne (by first | assumption | omega)).trans ((zup_ne (by first | assumption | omega)).trans (by first | assumption | exact zup_self)) | exact (bk_out (by first | omega | (simp only [bset, reduceIte, Nat.reduceEqDiff]; omega))).trans (by first | exact bk_0 | exact bk_1 | exact bk_2 | exact bk_3 | exact bk_4 | exact bk_5 | exact bk_6 | exact bk_7 | exact bk_8 | exact bk_9 | exact bk_10 | exact bk_11 | exact bk_12 | exact bk_13 | exact bk_14 | exact bk_15 | exact bk_16 | exact cr_5 | exact cr_23 | exact cr_24 | exact cr_25 | exact cr_26 | exact cr_27 | exact cr_28 | exact cr_29 | exact cr_30 | assumption)) (by decide) (by first | omega | (simp only [bset, reduceIte, Nat.reduceEqDiff]; omega)) (by first | omega | (simp only [bset, reduceIte, Nat.reduceEqDiff]; omega)) rfl ?_
                            refine zr_iload_n dX7_draws_256 (rfl : 256 + 1 = 257) rfl ?_
                            refine zr_iret dX7_draws_257 rfl (by first | rfl | exact jb_nar) ?_ rfl rfl rfl
                            first | rfl | rw [jb_pos (by first | assumption | omega)] | rw [jb_neg (by first | assumption | omega)] | rw [if_pos (by first | assumption | omega)] | rw [if_neg (by first | assumption | omega)])
                        · first
                          | (exfalso; omega)
                          | (
                            refine zr_iconst dX7_draws_249 (rfl : 249 + 1 = 250) ?_
                            refine zr_goto (tgt := 254) dX7_draws_250 (by decide) ?_
                            refine zr_iadd dX7_draws_254 (rfl : 254 + 1 = 255) (by first | exact jI_add _ _ | rfl) ?_
                            refine zr_iast dX7_draws_255 (rfl : 255 + 1 = 256) (by first | assumption | exact mw_167 | exact mw_168 | exact mw_169 | exact mw_170 | exact bk_0 | exact bk_1 | exact bk_2 | exact bk_3 | exact bk_4 | exact bk_5 | exact bk_6 | exact bk_7 | exact bk_8 | exact bk_9 | exact bk_10 | exact bk_11 | exact bk_12 | exact bk_13 | exact bk_14 | exact bk_15 | exact bk_16 | exact zup_self | exact (zup_ne (by first | assumption | omega)).trans (by first | assumption | exact zup_self) | exact (zup_ne (by first | assumption | omega)).trans ((zup_ne (by first | assumption | omega)).trans (by first | assumption | exact zup_self)) | exact (bk_out (by first | omega | (simp only [bset, reduceIte, Nat.reduceEqDiff]; omega))).trans (by first | exact bk_0 | exact bk_1 | exact bk_2 | exact bk_3 | exact bk_4 | exact bk_5 | exact bk_6 | exact bk_7 | exact bk_8 | exact bk_9 | exact bk_10 | exact bk_11 | exact bk_12 | exact bk_13 | exact bk_14 | exact bk_15 | exact bk_16 | exact cr_5 | exact cr_23 | exact cr_24 | exact cr_25 | exact cr_26 | exact cr_27 | exact cr_28 | exact cr_29 | exact cr_30 | assumption)) (by decide) (by first | omega | (simp only [bset, reduceIte, Nat.reduceEqDiff]; omega)) (by first | omega | (simp only [bset, reduceIte, Nat.reduceEqDiff]; omega)) rfl ?_
                            refine zr_iload_n dX7_draws_256 (rfl : 256 + 1 = 257) rfl ?_
                            refine zr_iret dX7_draws_257 rfl (by first | rfl | exact jb_nar) ?_ rfl rfl rfl
                            first | rfl | rw [jb_pos (by first | assumption | omega)] | rw [jb_neg (by first | assumption | omega)] | rw [if_pos (by first | assumption | omega)] | rw [if_neg (by first | assumption | omega)]))
                    · first
                      | (exfalso; omega)
                      | (
                        refine zr_iconst dX7_draws_163 (rfl : 163 + 1 = 164) ?_
                        refine zr_goto (tgt := 170) dX7_draws_164 (by decide) ?_
                        refine zr_istore (lv' := [_, _, _, _, _, _, _]) dX7_draws_170 (rfl : 170 + 2 = 172) (Nat.le_of_ble_eq_true rfl) rfl ?_
                        refine zr_aload_n dX7_draws_172 (rfl : 172 + 1 = 173) rfl ?_
                        refine zr_getf dX7_draws_173 (rfl : 173 + 3 = 176) f_X7_7 (by first | assumption | exact mw_167 | exact mw_168 | exact mw_169 | exact mw_170 | exact bk_0 | exact bk_1 | exact bk_2 | exact bk_3 | exact bk_4 | exact bk_5 | exact bk_6 | exact bk_7 | exact bk_8 | exact bk_9 | exact bk_10 | exact bk_11 | exact bk_12 | exact bk_13 | exact bk_14 | exact bk_15 | exact bk_16 | exact zup_self | exact (zup_ne (by first | assumption | omega)).trans (by first | assumption | exact zup_self) | exact (zup_ne (by first | assumption | omega)).trans ((zup_ne (by first | assumption | omega)).trans (by first | assumption | exact zup_self)) | exact (bk_out (by first | omega | (simp only [bset, reduceIte, Nat.reduceEqDiff]; omega))).trans (by first | exact bk_0 | exact bk_1 | exact bk_2 | exact bk_3 | exact bk_4 | exact bk_5 | exact bk_6 | exact bk_7 | exact bk_8 | exact bk_9 | exact bk_10 | exact bk_11 | exact bk_12 | exact bk_13 | exact bk_14 | exact bk_15 | exact bk_16 | exact cr_5 | exact cr_23 | exact cr_24 | exact cr_25 | exact cr_26 | exact cr_27 | exact cr_28 | exact cr_29 | exact cr_30 | assumption)) rfl ?_
                        refine zr_iload_n dX7_draws_176 (rfl : 176 + 1 = 177) rfl ?_
                        refine zr_bipush dX7_draws_177 (rfl : 177 + 2 = 179) (by decide) ?_
                        refine zr_iadd dX7_draws_179 (rfl : 179 + 1 = 180) (by first | exact jI_add _ _ | rfl) ?_
                        refine zr_iload_n dX7_draws_180 (rfl : 180 + 1 = 181) rfl ?_
                        refine zr_iadd dX7_draws_181 (rfl : 181 + 1 = 182) (by first | exact jI_add _ _ | rfl) ?_
                        refine zr_iload dX7_draws_182 (rfl : 182 + 2 = 184) rfl ?_
                        refine zr_iconst dX7_draws_184 (rfl : 184 + 1 = 185) ?_
                        refine zr_iadd dX7_draws_185 (rfl : 185 + 1 = 186) (by first | exact jI_add _ _ | rfl) ?_
                        refine zr_iast dX7_draws_186 (rfl : 186 + 1 = 187) (by first | assumption | exact mw_167 | exact mw_168 | exact mw_169 | exact mw_170 | exact bk_0 | exact bk_1 | exact bk_2 | exact bk_3 | exact bk_4 | exact bk_5 | exact bk_6 | exact bk_7 | exact bk_8 | exact bk_9 | exact bk_10 | exact bk_11 | exact bk_12 | exact bk_13 | exact bk_14 | exact bk_15 | exact bk_16 | exact zup_self | exact (zup_ne (by first | assumption | omega)).trans (by first | assumption | exact zup_self) | exact (zup_ne (by first | assumption | omega)).trans ((zup_ne (by first | assumption | omega)).trans (by first | assumption | exact zup_self)) | exact (bk_out (by first | omega | (simp only [bset, reduceIte, Nat.reduceEqDiff]; omega))).trans (by first | exact bk_0 | exact bk_1 | exact bk_2 | exact bk_3 | exact bk_4 | exact bk_5 | exact bk_6 | exact bk_7 | exact bk_8 | exact bk_9 | exact bk_10 | exact bk_11 | exact bk_12 | exact bk_13 | exact bk_14 | exact bk_15 | exact bk_16 | exact cr_5 | exact cr_23 | exact cr_24 | exact cr_25 | exact cr_26 | exact cr_27 | exact cr_28 | exact cr_29 | exact cr_30 | assumption)) (by decide) (by first | omega | (simp only [bset, reduceIte, Nat.reduceEqDiff]; omega)) (by first | omega | (simp only [bset, reduceIte, Nat.reduceEqDiff]; omega)) rfl ?_
                        refine zr_aload_n dX7_draws_187 (rfl : 187 + 1 = 188) rfl ?_
                        refine zr_getf dX7_draws_188 (rfl : 188 + 3 = 191) f_X7_7 (by first | assumption | exact mw_167 | exact mw_168 | exact mw_169 | exact mw_170 | exact bk_0 | exact bk_1 | exact bk_2 | exact bk_3 | exact bk_4 | exact bk_5 | exact bk_6 | exact bk_7 | exact bk_8 | exact bk_9 | exact bk_10 | exact bk_11 | exact bk_12 | exact bk_13 | exact bk_14 | exact bk_15 | exact bk_16 | exact zup_self | exact (zup_ne (by first | assumption | omega)).trans (by first | assumption | exact zup_self) | exact (zup_ne (by first | assumption | omega)).trans ((zup_ne (by first | assumption | omega)).trans (by first | assumption | exact zup_self)) | exact (bk_out (by first | omega | (simp only [bset, reduceIte, Nat.reduceEqDiff]; omega))).trans (by first | exact bk_0 | exact bk_1 | exact bk_2 | exact bk_3 | exact bk_4 | exact bk_5 | exact bk_6 | exact bk_7 | exact bk_8 | exact bk_9 | exact bk_10 | exact bk_11 | exact bk_12 | exact bk_13 | exact bk_14 | exact bk_15 | exact bk_16 | exact cr_5 | exact cr_23 | exact cr_24 | exact cr_25 | exact cr_26 | exact cr_27 | exact cr_28 | exact cr_29 | exact cr_30 | assumption)) rfl ?_
                        refine zr_iload_n dX7_draws_191 (rfl : 191 + 1 = 192) rfl ?_
                        refine zr_sipush dX7_draws_192 (rfl : 192 + 3 = 195) (by decide) ?_
                        refine zr_iadd dX7_draws_195 (rfl : 195 + 1 = 196) (by first | exact jI_add _ _ | rfl) ?_
                        refine zr_iload dX7_draws_196 (rfl : 196 + 2 = 198) rfl ?_
                        refine zr_iadd dX7_draws_198 (rfl : 198 + 1 = 199) (by first | exact jI_add _ _ | rfl) ?_
                        refine zr_dup2 dX7_draws_199 (rfl : 199 + 1 = 200) rfl rfl ?_
                        refine zr_iald dX7_draws_200 (rfl : 200 + 1 = 201) (by first | assumption | exact mw_167 | exact mw_168 | exact mw_169 | exact mw_170 | exact bk_0 | exact bk_1 | exact bk_2 | exact bk_3 | exact bk_4 | exact bk_5 | exact bk_6 | exact bk_7 | exact bk_8 | exact bk_9 | exact bk_10 | exact bk_11 | exact bk_12 | exact bk_13 | exact bk_14 | exact bk_15 | exact bk_16 | exact zup_self | exact (zup_ne (by first | assumption | omega)).trans (by first | assumption | exact zup_self) | exact (zup_ne (by first | assumption | omega)).trans ((zup_ne (by first | assumption | omega)).trans (by first | assumption | exact zup_self)) | exact (bk_out (by first | omega | (simp only [bset, reduceIte, Nat.reduceEqDiff]; omega))).trans (by first | exact bk_0 | exact bk_1 | exact bk_2 | exact bk_3 | exact bk_4 | exact bk_5 | exact bk_6 | exact bk_7 | exact bk_8 | exact bk_9 | exact bk_10 | exact bk_11 | exact bk_12 | exact bk_13 | exact bk_14 | exact bk_15 | exact bk_16 | exact cr_5 | exact cr_23 | exact cr_24 | exact cr_25 | exact cr_26 | exact cr_27 | exact cr_28 | exact cr_29 | exact cr_30 | assumption)) (by decide) (by first | omega | (simp only [bset, reduceIte, Nat.reduceEqDiff]; omega)) (by first | omega | (simp only [bset, reduceIte, Nat.reduceEqDiff]; omega)) ?_
                        refine zr_iconst dX7_draws_201 (rfl : 201 + 1 = 202) ?_
                        refine zr_iadd dX7_draws_202 (rfl : 202 + 1 = 203) (by first | exact jI_add _ _ | rfl) ?_
                        refine zr_iast dX7_draws_203 (rfl : 203 + 1 = 204) (by first | assumption | exact mw_167 | exact mw_168 | exact mw_169 | exact mw_170 | exact bk_0 | exact bk_1 | exact bk_2 | exact bk_3 | exact bk_4 | exact bk_5 | exact bk_6 | exact bk_7 | exact bk_8 | exact bk_9 | exact bk_10 | exact bk_11 | exact bk_12 | exact bk_13 | exact bk_14 | exact bk_15 | exact bk_16 | exact zup_self | exact (zup_ne (by first | assumption | omega)).trans (by first | assumption | exact zup_self) | exact (zup_ne (by first | assumption | omega)).trans ((zup_ne (by first | assumption | omega)).trans (by first | assumption | exact zup_self)) | exact (bk_out (by first | omega | (simp only [bset, reduceIte, Nat.reduceEqDiff]; omega))).trans (by first | exact bk_0 | exact bk_1 | exact bk_2 | exact bk_3 | exact bk_4 | exact bk_5 | exact bk_6 | exact bk_7 | exact bk_8 | exact bk_9 | exact bk_10 | exact bk_11 | exact bk_12 | exact bk_13 | exact bk_14 | exact bk_15 | exact bk_16 | exact cr_5 | exact cr_23 | exact cr_24 | exact cr_25 | exact cr_26 | exact cr_27 | exact cr_28 | exact cr_29 | exact cr_30 | assumption)) (by decide) (by first | omega | (simp only [bset, reduceIte, Nat.reduceEqDiff]; omega)) (by first | omega | (simp only [bset, reduceIte, Nat.reduceEqDiff]; omega)) rfl ?_
                        refine zr_aload_n dX7_draws_204 (rfl : 204 + 1 = 205) rfl ?_
                        refine zr_getf dX7_draws_205 (rfl : 205 + 3 = 208) f_X7_7 (by first | assumption | exact mw_167 | exact mw_168 | exact mw_169 | exact mw_170 | exact bk_0 | exact bk_1 | exact bk_2 | exact bk_3 | exact bk_4 | exact bk_5 | exact bk_6 | exact bk_7 | exact bk_8 | exact bk_9 | exact bk_10 | exact bk_11 | exact bk_12 | exact bk_13 | exact bk_14 | exact bk_15 | exact bk_16 | exact zup_self | exact (zup_ne (by first | assumption | omega)).trans (by first | assumption | exact zup_self) | exact (zup_ne (by first | assumption | omega)).trans ((zup_ne (by first | assumption | omega)).trans (by first | assumption | exact zup_self)) | exact (bk_out (by first | omega | (simp only [bset, reduceIte, Nat.reduceEqDiff]; omega))).trans (by first | exact bk_0 | exact bk_1 | exact bk_2 | exact bk_3 | exact bk_4 | exact bk_5 | exact bk_6 | exact bk_7 | exact bk_8 | exact bk_9 | exact bk_10 | exact bk_11 | exact bk_12 | exact bk_13 | exact bk_14 | exact bk_15 | exact bk_16 | exact cr_5 | exact cr_23 | exact cr_24 | exact cr_25 | exact cr_26 | exact cr_27 | exact cr_28 | exact cr_29 | exact cr_30 | assumption)) rfl ?_
                        refine zr_iload_n dX7_draws_208 (rfl : 208 + 1 = 209) rfl ?_
                        refine zr_sipush dX7_draws_209 (rfl : 209 + 3 = 212) (by decide) ?_
                        refine zr_iadd dX7_draws_212 (rfl : 212 + 1 = 213) (by first | exact jI_add _ _ | rfl) ?_
                        refine zr_iload dX7_draws_213 (rfl : 213 + 2 = 215) rfl ?_
                        refine zr_iadd dX7_draws_215 (rfl : 215 + 1 = 216) (by first | exact jI_add _ _ | rfl) ?_
                        refine zr_iload_n dX7_draws_216 (rfl : 216 + 1 = 217) rfl ?_
                        refine zr_iast dX7_draws_217 (rfl : 217 + 1 = 218) (by first | assumption | exact mw_167 | exact mw_168 | exact mw_169 | exact mw_170 | exact bk_0 | exact bk_1 | exact bk_2 | exact bk_3 | exact bk_4 | exact bk_5 | exact bk_6 | exact bk_7 | exact bk_8 | exact bk_9 | exact bk_10 | exact bk_11 | exact bk_12 | exact bk_13 | exact bk_14 | exact bk_15 | exact bk_16 | exact zup_self | exact (zup_ne (by first | assumption | omega)).trans (by first | assumption | exact zup_self) | exact (zup_ne (by first | assumption | omega)).trans ((zup_ne (by first | assumption | omega)).trans (by first | assumption | exact zup_self)) | exact (bk_out (by first | omega | (simp only [bset, reduceIte, Nat.reduceEqDiff]; omega))).trans (by first | exact bk_0 | exact bk_1 | exact bk_2 | exact bk_3 | exact bk_4 | exact bk_5 | exact bk_6 | exact bk_7 | exact bk_8 | exact bk_9 | exact bk_10 | exact bk_11 | exact bk_12 | exact bk_13 | exact bk_14 | exact bk_15 | exact bk_16 | exact cr_5 | exact cr_23 | exact cr_24 | exact cr_25 | exact cr_26 | exact cr_27 | exact cr_28 | exact cr_29 | exact cr_30 | assumption)) (by decide) (by first | omega | (simp only [bset, reduceIte, Nat.reduceEqDiff]; omega)) (by first | omega | (simp only [bset, reduceIte, Nat.reduceEqDiff]; omega)) rfl ?_
                        refine zr_aload_n dX7_draws_218 (rfl : 218 + 1 = 219) rfl ?_
                        refine zr_getf dX7_draws_219 (rfl : 219 + 3 = 222) f_X7_7 (by first | assumption | exact mw_167 | exact mw_168 | exact mw_169 | exact mw_170 | exact bk_0 | exact bk_1 | exact bk_2 | exact bk_3 | exact bk_4 | exact bk_5 | exact bk_6 | exact bk_7 | exact bk_8 | exact bk_9 | exact bk_10 | exact bk_11 | exact bk_12 | exact bk_13 | exact bk_14 | exact bk_15 | exact bk_16 | exact zup_self | exact (zup_ne (by first | assumption | omega)).trans (by first | assumption | exact zup_self) | exact (zup_ne (by first | assumption | omega)).trans ((zup_ne (by first | assumption | omega)).trans (by first | assumption | exact zup_self)) | exact (bk_out (by first | omega | (simp only [bset, reduceIte, Nat.reduceEqDiff]; omega))).trans (by first | exact bk_0 | exact bk_1 | exact bk_2 | exact bk_3 | exact bk_4 | exact bk_5 | exact bk_6 | exact bk_7 | exact bk_8 | exact bk_9 | exact bk_10 | exact bk_11 | exact bk_12 | exact bk_13 | exact bk_14 | exact bk_15 | exact bk_16 | exact cr_5 | exact cr_23 | exact cr_24 | exact cr_25 | exact cr_26 | exact cr_27 | exact cr_28 | exact cr_29 | exact cr_30 | assumption)) rfl ?_
                        refine zr_iload_n dX7_draws_222 (rfl : 222 + 1 = 223) rfl ?_
                        refine zr_sipush dX7_draws_223 (rfl : 223 + 3 = 226) (by decide) ?_
                        refine zr_iadd dX7_draws_226 (rfl : 226 + 1 = 227) (by first | exact jI_add _ _ | rfl) ?_
                        refine zr_iload dX7_draws_227 (rfl : 227 + 2 = 229) rfl ?_
                        refine zr_iadd dX7_draws_229 (rfl : 229 + 1 = 230) (by first | exact jI_add _ _ | rfl) ?_
                        refine zr_iload dX7_draws_230 (rfl : 230 + 2 = 232) rfl ?_
                        refine zr_iast dX7_draws_232 (rfl : 232 + 1 = 233) (by first | assumption | exact mw_167 | exact mw_168 | exact mw_169 | exact mw_170 | exact bk_0 | exact bk_1 | exact bk_2 | exact bk_3 | exact bk_4 | exact bk_5 | exact bk_6 | exact bk_7 | exact bk_8 | exact bk_9 | exact bk_10 | exact bk_11 | exact bk_12 | exact bk_13 | exact bk_14 | exact bk_15 | exact bk_16 | exact zup_self | exact (zup_ne (by first | assumption | omega)).trans (by first | assumption | exact zup_self) | exact (zup_ne (by first | assumption | omega)).trans ((zup_ne (by first | assumption | omega)).trans (by first | assumption | exact zup_self)) | exact (bk_out (by first | omega | (simp only [bset, reduceIte, Nat.reduceEqDiff]; omega))).trans (by first | exact bk_0 | exact bk_1 | exact bk_2 | exact bk_3 | exact bk_4 | exact bk_5 | exact bk_6 | exact bk_7 | exact bk_8 | exact bk_9 | exact bk_10 | exact bk_11 | exact bk_12 | exact bk_13 | exact bk_14 | exact bk_15 | exact bk_16 | exact cr_5 | exact cr_23 | exact cr_24 | exact cr_25 | exact cr_26 | exact cr_27 | exact cr_28 | exact cr_29 | exact cr_30 | assumption)) (by decide) (by first | omega | (simp only [bset, reduceIte, Nat.reduceEqDiff]; omega)) (by first | omega | (simp only [bset, reduceIte, Nat.reduceEqDiff]; omega)) rfl ?_
                        refine zr_aload_n dX7_draws_233 (rfl : 233 + 1 = 234) rfl ?_
                        refine zr_getf dX7_draws_234 (rfl : 234 + 3 = 237) f_X7_7 (by first | assumption | exact mw_167 | exact mw_168 | exact mw_169 | exact mw_170 | exact bk_0 | exact bk_1 | exact bk_2 | exact bk_3 | exact bk_4 | exact bk_5 | exact bk_6 | exact bk_7 | exact bk_8 | exact bk_9 | exact bk_10 | exact bk_11 | exact bk_12 | exact bk_13 | exact bk_14 | exact bk_15 | exact bk_16 | exact zup_self | exact (zup_ne (by first | assumption | omega)).trans (by first | assumption | exact zup_self) | exact (zup_ne (by first | assumption | omega)).trans ((zup_ne (by first | assumption | omega)).trans (by first | assumption | exact zup_self)) | exact (bk_out (by first | omega | (simp only [bset, reduceIte, Nat.reduceEqDiff]; omega))).trans (by first | exact bk_0 | exact bk_1 | exact bk_2 | exact bk_3 | exact bk_4 | exact bk_5 | exact bk_6 | exact bk_7 | exact bk_8 | exact bk_9 | exact bk_10 | exact bk_11 | exact bk_12 | exact bk_13 | exact bk_14 | exact bk_15 | exact bk_16 | exact cr_5 | exact cr_23 | exact cr_24 | exact cr_25 | exact cr_26 | exact cr_27 | exact cr_28 | exact cr_29 | exact cr_30 | assumption)) rfl ?_
                        refine zr_iload_n dX7_draws_237 (rfl : 237 + 1 = 238) rfl ?_
                        refine zr_sipush dX7_draws_238 (rfl : 238 + 3 = 241) (by decide) ?_
                        refine zr_iadd dX7_draws_241 (rfl : 241 + 1 = 242) (by first | exact jI_add _ _ | rfl) ?_
                        refine zr_dup2 dX7_draws_242 (rfl : 242 + 1 = 243) rfl rfl ?_
                        refine zr_iald dX7_draws_243 (rfl : 243 + 1 = 244) (by first | assumption | exact mw_167 | exact mw_168 | exact mw_169 | exact mw_170 | exact bk_0 | exact bk_1 | exact bk_2 | exact bk_3 | exact bk_4 | exact bk_5 | exact bk_6 | exact bk_7 | exact bk_8 | exact bk_9 | exact bk_10 | exact bk_11 | exact bk_12 | exact bk_13 | exact bk_14 | exact bk_15 | exact bk_16 | exact zup_self | exact (zup_ne (by first | assumption | omega)).trans (by first | assumption | exact zup_self) | exact (zup_ne (by first | assumption | omega)).trans ((zup_ne (by first | assumption | omega)).trans (by first | assumption | exact zup_self)) | exact (bk_out (by first | omega | (simp only [bset, reduceIte, Nat.reduceEqDiff]; omega))).trans (by first | exact bk_0 | exact bk_1 | exact bk_2 | exact bk_3 | exact bk_4 | exact bk_5 | exact bk_6 | exact bk_7 | exact bk_8 | exact bk_9 | exact bk_10 | exact bk_11 | exact bk_12 | exact bk_13 | exact bk_14 | exact bk_15 | exact bk_16 | exact cr_5 | exact cr_23 | exact cr_24 | exact cr_25 | exact cr_26 | exact cr_27 | exact cr_28 | exact cr_29 | exact cr_30 | assumption)) (by decide) (by first | omega | (simp only [bset, reduceIte, Nat.reduceEqDiff]; omega)) (by first | omega | (simp only [bset, reduceIte, Nat.reduceEqDiff]; omega)) ?_
                        refine zr_iload dX7_draws_244 (rfl : 244 + 2 = 246) rfl ?_
                        refine zr_if_eq (tgt := 253) dX7_draws_246 (by decide) (rfl : 246 + 3 = 249) (by first | exact jb_iff | exact jI_z (by first | omega | (simp only [bset, reduceIte, Nat.reduceEqDiff]; omega)) (by first | omega | (simp only [bset, reduceIte, Nat.reduceEqDiff]; omega))) (fun h246 => ?_) (fun h246 => ?_)
                        · first
                          | (exfalso; omega)
                          | (
                            refine zr_iconst dX7_draws_253 (rfl : 253 + 1 = 254) ?_
                            refine zr_iadd dX7_draws_254 (rfl : 254 + 1 = 255) (by first | exact jI_add _ _ | rfl) ?_
                            refine zr_iast dX7_draws_255 (rfl : 255 + 1 = 256) (by first | assumption | exact mw_167 | exact mw_168 | exact mw_169 | exact mw_170 | exact bk_0 | exact bk_1 | exact bk_2 | exact bk_3 | exact bk_4 | exact bk_5 | exact bk_6 | exact bk_7 | exact bk_8 | exact bk_9 | exact bk_10 | exact bk_11 | exact bk_12 | exact bk_13 | exact bk_14 | exact bk_15 | exact bk_16 | exact zup_self | exact (zup_ne (by first | assumption | omega)).trans (by first | assumption | exact zup_self) | exact (zup_ne (by first | assumption | omega)).trans ((zup_ne (by first | assumption | omega)).trans (by first | assumption | exact zup_self)) | exact (bk_out (by first | omega | (simp only [bset, reduceIte, Nat.reduceEqDiff]; omega))).trans (by first | exact bk_0 | exact bk_1 | exact bk_2 | exact bk_3 | exact bk_4 | exact bk_5 | exact bk_6 | exact bk_7 | exact bk_8 | exact bk_9 | exact bk_10 | exact bk_11 | exact bk_12 | exact bk_13 | exact bk_14 | exact bk_15 | exact bk_16 | exact cr_5 | exact cr_23 | exact cr_24 | exact cr_25 | exact cr_26 | exact cr_27 | exact cr_28 | exact cr_29 | exact cr_30 | assumption)) (by decide) (by first | omega | (simp only [bset, reduceIte, Nat.reduceEqDiff]; omega)) (by first | omega | (simp only [bset, reduceIte, Nat.reduceEqDiff]; omega)) rfl ?_
                            refine zr_iload_n dX7_draws_256 (rfl : 256 + 1 = 257) rfl ?_
                            refine zr_iret dX7_draws_257 rfl (by first | rfl | exact jb_nar) ?_ rfl rfl rfl
                            first | rfl | rw [jb_pos (by first | assumption | omega)] | rw [jb_neg (by first | assumption | omega)] | rw [if_pos (by first | assumption | omega)] | rw [if_neg (by first | assumption | omega)])
                        · first
                          | (exfalso; omega)
                          | (
                            refine zr_iconst dX7_draws_249 (rfl : 249 + 1 = 250) ?_
                            refine zr_goto (tgt := 254) dX7_draws_250 (by decide) ?_
                            refine zr_iadd dX7_draws_254 (rfl : 254 + 1 = 255) (by first | exact jI_add _ _ | rfl) ?_
                            refine zr_iast dX7_draws_255 (rfl : 255 + 1 = 256) (by first | assumption | exact mw_167 | exact mw_168 | exact mw_169 | exact mw_170 | exact bk_0 | exact bk_1 | exact bk_2 | exact bk_3 | exact bk_4 | exact bk_5 | exact bk_6 | exact bk_7 | exact bk_8 | exact bk_9 | exact bk_10 | exact bk_11 | exact bk_12 | exact bk_13 | exact bk_14 | exact bk_15 | exact bk_16 | exact zup_self | exact (zup_ne (by first | assumption | omega)).trans (by first | assumption | exact zup_self) | exact (zup_ne (by first | assumption | omega)).trans ((zup_ne (by first | assumption | omega)).trans (by first | assumption | exact zup_self)) | exact (bk_out (by first | omega | (simp only [bset, reduceIte, Nat.reduceEqDiff]; omega))).trans (by first | exact bk_0 | exact bk_1 | exact bk_2 | exact bk_3 | exact bk_4 | exact bk_5 | exact bk_6 | exact bk_7 | exact bk_8 | exact bk_9 | exact bk_10 | exact bk_11 | exact bk_12 | exact bk_13 | exact bk_14 | exact bk_15 | exact bk_16 | exact cr_5 | exact cr_23 | exact cr_24 | exact cr_25 | exact cr_26 | exact cr_27 | exact cr_28 | exact cr_29 | exact cr_30 | assumption)) (by decide) (by first | omega | (simp only [bset, reduceIte, Nat.reduceEqDiff]; omega)) (by first | omega | (simp only [bset, reduceIte, Nat.reduceEqDiff]; omega)) rfl ?_
                            refine zr_iload_n dX7_draws_256 (rfl : 256 + 1 = 257) rfl ?_
                            refine zr_iret dX7_draws_257 rfl (by first | rfl | exact jb_nar) ?_ rfl rfl rfl
                            first | rfl | rw [jb_pos (by first | assumption | omega)] | rw [jb_neg (by first | assumption | omega)] | rw [if_pos (by first | assumption | omega)] | rw [if_neg (by first | assumption | omega)])))
                · first
                  | (exfalso; omega)
                  | (
                    refine zr_iload_n dX7_draws_153 (rfl : 153 + 1 = 154) rfl ?_
                    refine zr_goto (tgt := 170) dX7_draws_154 (by decide) ?_
                    refine zr_istore (lv' := [_, _, _, _, _, _, _]) dX7_draws_170 (rfl : 170 + 2 = 172) (Nat.le_of_ble_eq_true rfl) rfl ?_
                    refine zr_aload_n dX7_draws_172 (rfl : 172 + 1 = 173) rfl ?_
                    refine zr_getf dX7_draws_173 (rfl : 173 + 3 = 176) f_X7_7 (by first | assumption | exact mw_167 | exact mw_168 | exact mw_169 | exact mw_170 | exact bk_0 | exact bk_1 | exact bk_2 | exact bk_3 | exact bk_4 | exact bk_5 | exact bk_6 | exact bk_7 | exact bk_8 | exact bk_9 | exact bk_10 | exact bk_11 | exact bk_12 | exact bk_13 | exact bk_14 | exact bk_15 | exact bk_16 | exact zup_self | exact (zup_ne (by first | assumption | omega)).trans (by first | assumption | exact zup_self) | exact (zup_ne (by first | assumption | omega)).trans ((zup_ne (by first | assumption | omega)).trans (by first | assumption | exact zup_self)) | exact (bk_out (by first | omega | (simp only [bset, reduceIte, Nat.reduceEqDiff]; omega))).trans (by first | exact bk_0 | exact bk_1 | exact bk_2 | exact bk_3 | exact bk_4 | exact bk_5 | exact bk_6 | exact bk_7 | exact bk_8 | exact bk_9 | exact bk_10 | exact bk_11 | exact bk_12 | exact bk_13 | exact bk_14 | exact bk_15 | exact bk_16 | exact cr_5 | exact cr_23 | exact cr_24 | exact cr_25 | exact cr_26 | exact cr_27 | exact cr_28 | exact cr_29 | exact cr_30 | assumption)) rfl ?_
                    refine zr_iload_n dX7_draws_176 (rfl : 176 + 1 = 177) rfl ?_
                    refine zr_bipush dX7_draws_177 (rfl : 177 + 2 = 179) (by decide) ?_
                    refine zr_iadd dX7_draws_179 (rfl : 179 + 1 = 180) (by first | exact jI_add _ _ | rfl) ?_
                    refine zr_iload_n dX7_draws_180 (rfl : 180 + 1 = 181) rfl ?_
                    refine zr_iadd dX7_draws_181 (rfl : 181 + 1 = 182) (by first | exact jI_add _ _ | rfl) ?_
                    refine zr_iload dX7_draws_182 (rfl : 182 + 2 = 184) rfl ?_
                    refine zr_iconst dX7_draws_184 (rfl : 184 + 1 = 185) ?_
                    refine zr_iadd dX7_draws_185 (rfl : 185 + 1 = 186) (by first | exact jI_add _ _ | rfl) ?_
                    refine zr_iast dX7_draws_186 (rfl : 186 + 1 = 187) (by first | assumption | exact mw_167 | exact mw_168 | exact mw_169 | exact mw_170 | exact bk_0 | exact bk_1 | exact bk_2 | exact bk_3 | exact bk_4 | exact bk_5 | exact bk_6 | exact bk_7 | exact bk_8 | exact bk_9 | exact bk_10 | exact bk_11 | exact bk_12 | exact bk_13 | exact bk_14 | exact bk_15 | exact bk_16 | exact zup_self | exact (zup_ne (by first | assumption | omega)).trans (by first | assumption | exact zup_self) | exact (zup_ne (by first | assumption | omega)).trans ((zup_ne (by first | assumption | omega)).trans (by first | assumption | exact zup_self)) | exact (bk_out (by first | omega | (simp only [bset, reduceIte, Nat.reduceEqDiff]; omega))).trans (by first | exact bk_0 | exact bk_1 | exact bk_2 | exact bk_3 | exact bk_4 | exact bk_5 | exact bk_6 | exact bk_7 | exact bk_8 | exact bk_9 | exact bk_10 | exact bk_11 | exact bk_12 | exact bk_13 | exact bk_14 | exact bk_15 | exact bk_16 | exact cr_5 | exact cr_23 | exact cr_24 | exact cr_25 | exact cr_26 | exact cr_27 | exact cr_28 | exact cr_29 | exact cr_30 | assumption)) (by decide) (by first | omega | (simp only [bset, reduceIte, Nat.reduceEqDiff]; omega)) (by first | omega | (simp only [bset, reduceIte, Nat.reduceEqDiff]; omega)) rfl ?_
                    refine zr_aload_n dX7_draws_187 (rfl : 187 + 1 = 188) rfl ?_
                    refine zr_getf dX7_draws_188 (rfl : 188 + 3 = 191) f_X7_7 (by first | assumption | exact mw_167 | exact mw_168 | exact mw_169 | exact mw_170 | exact bk_0 | exact bk_1 | exact bk_2 | exact bk_3 | exact bk_4 | exact bk_5 | exact bk_6 | exact bk_7 | exact bk_8 | exact bk_9 | exact bk_10 | exact bk_11 | exact bk_12 | exact bk_13 | exact bk_14 | exact bk_15 | exact bk_16 | exact zup_self | exact (zup_ne (by first | assumption | omega)).trans (by first | assumption | exact zup_self) | exact (zup_ne (by first | assumption | omega)).trans ((zup_ne (by first | assumption | omega)).trans (by first | assumption | exact zup_self)) | exact (bk_out (by first | omega | (simp only [bset, reduceIte, Nat.reduceEqDiff]; omega))).trans (by first | exact bk_0 | exact bk_1 | exact bk_2 | exact bk_3 | exact bk_4 | exact bk_5 | exact bk_6 | exact bk_7 | exact bk_8 | exact bk_9 | exact bk_10 | exact bk_11 | exact bk_12 | exact bk_13 | exact bk_14 | exact bk_15 | exact bk_16 | exact cr_5 | exact cr_23 | exact cr_24 | exact cr_25 | exact cr_26 | exact cr_27 | exact cr_28 | exact cr_29 | exact cr_30 | assumption)) rfl ?_
                    refine zr_iload_n dX7_draws_191 (rfl : 191 + 1 = 192) rfl ?_
                    refine zr_sipush dX7_draws_192 (rfl : 192 + 3 = 195) (by decide) ?_
                    refine zr_iadd dX7_draws_195 (rfl : 195 + 1 = 196) (by first | exact jI_add _ _ | rfl) ?_
                    refine zr_iload dX7_draws_196 (rfl : 196 + 2 = 198) rfl ?_
                    refine zr_iadd dX7_draws_198 (rfl : 198 + 1 = 199) (by first | exact jI_add _ _ | rfl) ?_
                    refine zr_dup2 dX7_draws_199 (rfl : 199 + 1 = 200) rfl rfl ?_
                    refine zr_iald dX7_draws_200 (rfl : 200 + 1 = 201) (by first | assumption | exact mw_167 | exact mw_168 | exact mw_169 | exact mw_170 | exact bk_0 | exact bk_1 | exact bk_2 | exact bk_3 | exact bk_4 | exact bk_5 | exact bk_6 | exact bk_7 | exact bk_8 | exact bk_9 | exact bk_10 | exact bk_11 | exact bk_12 | exact bk_13 | exact bk_14 | exact bk_15 | exact bk_16 | exact zup_self | exact (zup_ne (by first | assumption | omega)).trans (by first | assumption | exact zup_self) | exact (zup_ne (by first | assumption | omega)).trans ((zup_ne (by first | assumption | omega)).trans (by first | assumption | exact zup_self)) | exact (bk_out (by first | omega | (simp only [bset, reduceIte, Nat.reduceEqDiff]; omega))).trans (by first | exact bk_0 | exact bk_1 | exact bk_2 | exact bk_3 | exact bk_4 | exact bk_5 | exact bk_6 | exact bk_7 | exact bk_8 | exact bk_9 | exact bk_10 | exact bk_11 | exact bk_12 | exact bk_13 | exact bk_14 | exact bk_15 | exact bk_16 | exact cr_5 | exact cr_23 | exact cr_24 | exact cr_25 | exact cr_26 | exact cr_27 | exact cr_28 | exact cr_29 | exact cr_30 | assumption)) (by decide) (by first | omega | (simp only [bset, reduceIte, Nat.reduceEqDiff]; omega)) (by first | omega | (simp only [bset, reduceIte, Nat.reduceEqDiff]; omega)) ?_
                    refine zr_iconst dX7_draws_201 (rfl : 201 + 1 = 202) ?_
                    refine zr_iadd dX7_draws_202 (rfl : 202 + 1 = 203) (by first | exact jI_add _ _ | rfl) ?_
                    refine zr_iast dX7_draws_203 (rfl : 203 + 1 = 204) (by first | assumption | exact mw_167 | exact mw_168 | exact mw_169 | exact mw_170 | exact bk_0 | exact bk_1 | exact bk_2 | exact bk_3 | exact bk_4 | exact bk_5 | exact bk_6 | exact bk_7 | exact bk_8 | exact bk_9 | exact bk_10 | exact bk_11 | exact bk_12 | exact bk_13 | exact bk_14 | exact bk_15 | exact bk_16 | exact zup_self | exact (zup_ne (by first | assumption | omega)).trans (by first | assumption | exact zup_self) | exact (zup_ne (by first | assumption | omega)).trans ((zup_ne (by first | assumption | omega)).trans (by first | assumption | exact zup_self)) | exact (bk_out (by first | omega | (simp only [bset, reduceIte, Nat.reduceEqDiff]; omega))).trans (by first | exact bk_0 | exact bk_1 | exact bk_2 | exact bk_3 | exact bk_4 | exact bk_5 | exact bk_6 | exact bk_7 | exact bk_8 | exact bk_9 | exact bk_10 | exact bk_11 | exact bk_12 | exact bk_13 | exact bk_14 | exact bk_15 | exact bk_16 | exact cr_5 | exact cr_23 | exact cr_24 | exact cr_25 | exact cr_26 | exact cr_27 | exact cr_28 | exact cr_29 | exact cr_30 | assumption)) (by decide) (by first | omega | (simp only [bset, reduceIte, Nat.reduceEqDiff]; omega)) (by first | omega | (simp only [bset, reduceIte, Nat.reduceEqDiff]; omega)) rfl ?_
                    refine zr_aload_n dX7_draws_204 (rfl : 204 + 1 = 205) rfl ?_
                    refine zr_getf dX7_draws_205 (rfl : 205 + 3 = 208) f_X7_7 (by first | assumption | exact mw_167 | exact mw_168 | exact mw_169 | exact mw_170 | exact bk_0 | exact bk_1 | exact bk_2 | exact bk_3 | exact bk_4 | exact bk_5 | exact bk_6 | exact bk_7 | exact bk_8 | exact bk_9 | exact bk_10 | exact bk_11 | exact bk_12 | exact bk_13 | exact bk_14 | exact bk_15 | exact bk_16 | exact zup_self | exact (zup_ne (by first | assumption | omega)).trans (by first | assumption | exact zup_self) | exact (zup_ne (by first | assumption | omega)).trans ((zup_ne (by first | assumption | omega)).trans (by first | assumption | exact zup_self)) | exact (bk_out (by first | omega | (simp only [bset, reduceIte, Nat.reduceEqDiff]; omega))).trans (by first | exact bk_0 | exact bk_1 | exact bk_2 | exact bk_3 | exact bk_4 | exact bk_5 | exact bk_6 | exact bk_7 | exact bk_8 | exact bk_9 | exact bk_10 | exact bk_11 | exact bk_12 | exact bk_13 | exact bk_14 | exact bk_15 | exact bk_16 | exact cr_5 | exact cr_23 | exact cr_24 | exact cr_25 | exact cr_26 | exact cr_27 | exact cr_28 | exact cr_29 | exact cr_30 | assumption)) rfl ?_
                    refine zr_iload_n dX7_draws_208 (rfl : 208 + 1 = 209) rfl ?_
                    refine zr_sipush dX7_draws_209 (rfl : 209 + 3 = 212) (by decide) ?_
                    refine zr_iadd dX7_draws_212 (rfl : 212 + 1 = 213) (by first | exact jI_add _ _ | rfl) ?_
                    refine zr_iload dX7_draws_213 (rfl : 213 + 2 = 215) rfl ?_
                    refine zr_iadd dX7_draws_215 (rfl : 215 + 1 = 216) (by first | exact jI_add _ _ | rfl) ?_
                    refine zr_iload_n dX7_draws_216 (rfl : 216 + 1 = 217) rfl ?_
                    refine zr_iast dX7_draws_217 (rfl : 217 + 1 = 218) (by first | assumption | exact mw_167 | exact mw_168 | exact mw_169 | exact mw_170 | exact bk_0 | exact bk_1 | exact bk_2 | exact bk_3 | exact bk_4 | exact bk_5 | exact bk_6 | exact bk_7 | exact bk_8 | exact bk_9 | exact bk_10 | exact bk_11 | exact bk_12 | exact bk_13 | exact bk_14 | exact bk_15 | exact bk_16 | exact zup_self | exact (zup_ne (by first | assumption | omega)).trans (by first | assumption | exact zup_self) | exact (zup_ne (by first | assumption | omega)).trans ((zup_ne (by first | assumption | omega)).trans (by first | assumption | exact zup_self)) | exact (bk_out (by first | omega | (simp only [bset, reduceIte, Nat.reduceEqDiff]; omega))).trans (by first | exact bk_0 | exact bk_1 | exact bk_2 | exact bk_3 | exact bk_4 | exact bk_5 | exact bk_6 | exact bk_7 | exact bk_8 | exact bk_9 | exact bk_10 | exact bk_11 | exact bk_12 | exact bk_13 | exact bk_14 | exact bk_15 | exact bk_16 | exact cr_5 | exact cr_23 | exact cr_24 | exact cr_25 | exact cr_26 | exact cr_27 | exact cr_28 | exact cr_29 | exact cr_30 | assumption)) (by decide) (by first | omega | (simp only [bset, reduceIte, Nat.reduceEqDiff]; omega)) (by first | omega | (simp only [bset, reduceIte, Nat.reduceEqDiff]; omega)) rfl ?_
                    refine zr_aload_n dX7_draws_218 (rfl : 218 + 1 = 219) rfl ?_
                    refine zr_getf dX7_draws_219 (rfl : 219 + 3 = 222) f_X7_7 (by first | assumption | exact mw_167 | exact mw_168 | exact mw_169 | exact mw_170 | exact bk_0 | exact bk_1 | exact bk_2 | exact bk_3 | exact bk_4 | exact bk_5 | exact bk_6 | exact bk_7 | exact bk_8 | exact bk_9 | exact bk_10 | exact bk_11 | exact bk_12 | exact bk_13 | exact bk_14 | exact bk_15 | exact bk_16 | exact zup_self | exact (zup_ne (by first | assumption | omega)).trans (by first | assumption | exact zup_self) | exact (zup_ne (by first | assumption | omega)).trans ((zup_ne (by first | assumption | omega)).trans (by first | assumption | exact zup_self)) | exact (bk_out (by first | omega | (simp only [bset, reduceIte, Nat.reduceEqDiff]; omega))).trans (by first | exact bk_0 | exact bk_1 | exact bk_2 | exact bk_3 | exact bk_4 | exact bk_5 | exact bk_6 | exact bk_7 | exact bk_8 | exact bk_9 | exact bk_10 | exact bk_11 | exact bk_12 | exact bk_13 | exact bk_14 | exact bk_15 | exact bk_16 | exact cr_5 | exact cr_23 | exact cr_24 | exact cr_25 | exact cr_26 | exact cr_27 | exact cr_28 | exact cr_29 | exact cr_30 | assumption)) rfl ?_
                    refine zr_iload_n dX7_draws_222 (rfl : 222 + 1 = 223) rfl ?_
                    refine zr_sipush dX7_draws_223 (rfl : 223 + 3 = 226) (by decide) ?_
                    refine zr_iadd dX7_draws_226 (rfl : 226 + 1 = 227) (by first | exact jI_add _ _ | rfl) ?_
                    refine zr_iload dX7_draws_227 (rfl : 227 + 2 = 229) rfl ?_
                    refine zr_iadd dX7_draws_229 (rfl : 229 + 1 = 230) (by first | exact jI_add _ _ | rfl) ?_
                    refine zr_iload dX7_draws_230 (rfl : 230 + 2 = 232) rfl ?_
                    refine zr_iast dX7_draws_232 (rfl : 232 + 1 = 233) (by first | assumption | exact mw_167 | exact mw_168 | exact mw_169 | exact mw_170 | exact bk_0 | exact bk_1 | exact bk_2 | exact bk_3 | exact bk_4 | exact bk_5 | exact bk_6 | exact bk_7 | exact bk_8 | exact bk_9 | exact bk_10 | exact bk_11 | exact bk_12 | exact bk_13 | exact bk_14 | exact bk_15 | exact bk_16 | exact zup_self | exact (zup_ne (by first | assumption | omega)).trans (by first | assumption | exact zup_self) | exact (zup_ne (by first | assumption | omega)).trans ((zup_ne (by first | assumption | omega)).trans (by first | assumption | exact zup_self)) | exact (bk_out (by first | omega | (simp only [bset, reduceIte, Nat.reduceEqDiff]; omega))).trans (by first | exact bk_0 | exact bk_1 | exact bk_2 | exact bk_3 | exact bk_4 | exact bk_5 | exact bk_6 | exact bk_7 | exact bk_8 | exact bk_9 | exact bk_10 | exact bk_11 | exact bk_12 | exact bk_13 | exact bk_14 | exact bk_15 | exact bk_16 | exact cr_5 | exact cr_23 | exact cr_24 | exact cr_25 | exact cr_26 | exact cr_27 | exact cr_28 | exact cr_29 | exact cr_30 | assumption)) (by decide) (by first | omega | (simp only [bset, reduceIte, Nat.reduceEqDiff]; omega)) (by first | omega | (simp only [bset, reduceIte, Nat.reduceEqDiff]; omega)) rfl ?_
                    refine zr_aload_n dX7_draws_233 (rfl : 233 + 1 = 234) rfl ?_
                    refine zr_getf dX7_draws_234 (rfl : 234 + 3 = 237) f_X7_7 (by first | assumption | exact mw_167 | exact mw_168 | exact mw_169 | exact mw_170 | exact bk_0 | exact bk_1 | exact bk_2 | exact bk_3 | exact bk_4 | exact bk_5 | exact bk_6 | exact bk_7 | exact bk_8 | exact bk_9 | exact bk_10 | exact bk_11 | exact bk_12 | exact bk_13 | exact bk_14 | exact bk_15 | exact bk_16 | exact zup_self | exact (zup_ne (by first | assumption | omega)).trans (by first | assumption | exact zup_self) | exact (zup_ne (by first | assumption | omega)).trans ((zup_ne (by first | assumption | omega)).trans (by first | assumption | exact zup_self)) | exact (bk_out (by first | omega | (simp only [bset, reduceIte, Nat.reduceEqDiff]; omega))).trans (by first | exact bk_0 | exact bk_1 | exact bk_2 | exact bk_3 | exact bk_4 | exact bk_5 | exact bk_6 | exact bk_7 | exact bk_8 | exact bk_9 | exact bk_10 | exact bk_11 | exact bk_12 | exact bk_13 | exact bk_14 | exact bk_15 | exact bk_16 | exact cr_5 | exact cr_23 | exact cr_24 | exact cr_25 | exact cr_26 | exact cr_27 | exact cr_28 | exact cr_29 | exact cr_30 | assumption)) rfl ?_
                    refine zr_iload_n dX7_draws_237 (rfl : 237 + 1 = 238) rfl ?_
                    refine zr_sipush dX7_draws_238 (rfl : 238 + 3 = 241) (by decide) ?_
                    refine zr_iadd dX7_draws_241 (rfl : 241 + 1 = 242) (by first | exact jI_add _ _ | rfl) ?_
                    refine zr_dup2 dX7_draws_242 (rfl : 242 + 1 = 243) rfl rfl ?_
                    refine zr_iald dX7_draws_243 (rfl : 243 + 1 = 244) (by first | assumption | exact mw_167 | exact mw_168 | exact mw_169 | exact mw_170 | exact bk_0 | exact bk_1 | exact bk_2 | exact bk_3 | exact bk_4 | exact bk_5 | exact bk_6 | exact bk_7 | exact bk_8 | exact bk_9 | exact bk_10 | exact bk_11 | exact bk_12 | exact bk_13 | exact bk_14 | exact bk_15 | exact bk_16 | exact zup_self | exact (zup_ne (by first | assumption | omega)).trans (by first | assumption | exact zup_self) | exact (zup_ne (by first | assumption | omega)).trans ((zup_ne (by first | assumption | omega)).trans (by first | assumption | exact zup_self)) | exact (bk_out (by first | omega | (simp only [bset, reduceIte, Nat.reduceEqDiff]; omega))).trans (by first | exact bk_0 | exact bk_1 | exact bk_2 | exact bk_3 | exact bk_4 | exact bk_5 | exact bk_6 | exact bk_7 | exact bk_8 | exact bk_9 | exact bk_10 | exact bk_11 | exact bk_12 | exact bk_13 | exact bk_14 | exact bk_15 | exact bk_16 | exact cr_5 | exact cr_23 | exact cr_24 | exact cr_25 | exact cr_26 | exact cr_27 | exact cr_28 | exact cr_29 | exact cr_30 | assumption)) (by decide) (by first | omega | (simp only [bset, reduceIte, Nat.reduceEqDiff]; omega)) (by first | omega | (simp only [bset, reduceIte, Nat.reduceEqDiff]; omega)) ?_
                    refine zr_iload dX7_draws_244 (rfl : 244 + 2 = 246) rfl ?_
                    refine zr_if_eq (tgt := 253) dX7_draws_246 (by decide) (rfl : 246 + 3 = 249) (by first | exact jb_iff | exact jI_z (by first | omega | (simp only [bset, reduceIte, Nat.reduceEqDiff]; omega)) (by first | omega | (simp only [bset, reduceIte, Nat.reduceEqDiff]; omega))) (fun h246 => ?_) (fun h246 => ?_)
                    · first
                      | (exfalso; omega)
                      | (
                        refine zr_iconst dX7_draws_253 (rfl : 253 + 1 = 254) ?_
                        refine zr_iadd dX7_draws_254 (rfl : 254 + 1 = 255) (by first | exact jI_add _ _ | rfl) ?_
                        refine zr_iast dX7_draws_255 (rfl : 255 + 1 = 256) (by first | assumption | exact mw_167 | exact mw_168 | exact mw_169 | exact mw_170 | exact bk_0 | exact bk_1 | exact bk_2 | exact bk_3 | exact bk_4 | exact bk_5 | exact bk_6 | exact bk_7 | exact bk_8 | exact bk_9 | exact bk_10 | exact bk_11 | exact bk_12 | exact bk_13 | exact bk_14 | exact bk_15 | exact bk_16 | exact zup_self | exact (zup_ne (by first | assumption | omega)).trans (by first | assumption | exact zup_self) | exact (zup_ne (by first | assumption | omega)).trans ((zup_ne (by first | assumption | omega)).trans (by first | assumption | exact zup_self)) | exact (bk_out (by first | omega | (simp only [bset, reduceIte, Nat.reduceEqDiff]; omega))).trans (by first | exact bk_0 | exact bk_1 | exact bk_2 | exact bk_3 | exact bk_4 | exact bk_5 | exact bk_6 | exact bk_7 | exact bk_8 | exact bk_9 | exact bk_10 | exact bk_11 | exact bk_12 | exact bk_13 | exact bk_14 | exact bk_15 | exact bk_16 | exact cr_5 | exact cr_23 | exact cr_24 | exact cr_25 | exact cr_26 | exact cr_27 | exact cr_28 | exact cr_29 | exact cr_30 | assumption)) (by decide) (by first | omega | (simp only [bset, reduceIte, Nat.reduceEqDiff]; omega)) (by first | omega | (simp only [bset, reduceIte, Nat.reduceEqDiff]; omega)) rfl ?_
                        refine zr_iload_n dX7_draws_256 (rfl : 256 + 1 = 257) rfl ?_
                        refine zr_iret dX7_draws_257 rfl (by first | rfl | exact jb_nar) ?_ rfl rfl rfl
                        first | rfl | rw [jb_pos (by first | assumption | omega)] | rw [jb_neg (by first | assumption | omega)] | rw [if_pos (by first | assumption | omega)] | rw [if_neg (by first | assumption | omega)])
                    · first
                      | (exfalso; omega)
                      | (
                        refine zr_iconst dX7_draws_249 (rfl : 249 + 1 = 250) ?_
                        refine zr_goto (tgt := 254) dX7_draws_250 (by decide) ?_
                        refine zr_iadd dX7_draws_254 (rfl : 254 + 1 = 255) (by first | exact jI_add _ _ | rfl) ?_
                        refine zr_iast dX7_draws_255 (rfl : 255 + 1 = 256) (by first | assumption | exact mw_167 | exact mw_168 | exact mw_169 | exact mw_170 | exact bk_0 | exact bk_1 | exact bk_2 | exact bk_3 | exact bk_4 | exact bk_5 | exact bk_6 | exact bk_7 | exact bk_8 | exact bk_9 | exact bk_10 | exact bk_11 | exact bk_12 | exact bk_13 | exact bk_14 | exact bk_15 | exact bk_16 | exact zup_self | exact (zup_ne (by first | assumption | omega)).trans (by first | assumption | exact zup_self) | exact (zup_ne (by first | assumption | omega)).trans ((zup_ne (by first | assumption | omega)).trans (by first | assumption | exact zup_self)) | exact (bk_out (by first | omega | (simp only [bset, reduceIte, Nat.reduceEqDiff]; omega))).trans (by first | exact bk_0 | exact bk_1 | exact bk_2 | exact bk_3 | exact bk_4 | exact bk_5 | exact bk_6 | exact bk_7 | exact bk_8 | exact bk_9 | exact bk_10 | exact bk_11 | exact bk_12 | exact bk_13 | exact bk_14 | exact bk_15 | exact bk_16 | exact cr_5 | exact cr_23 | exact cr_24 | exact cr_25 | exact cr_26 | exact cr_27 | exact cr_28 | exact cr_29 | exact cr_30 | assumption)) (by decide) (by first | omega | (simp only [bset, reduceIte, Nat.reduceEqDiff]; omega)) (by first | omega | (simp only [bset, reduceIte, Nat.reduceEqDiff]; omega)) rfl ?_
                        refine zr_iload_n dX7_draws_256 (rfl : 256 + 1 = 257) rfl ?_
                        refine zr_iret dX7_draws_257 rfl (by first | rfl | exact jb_nar) ?_ rfl rfl rfl
                        first | rfl | rw [jb_pos (by first | assumption | omega)] | rw [jb_neg (by first | assumption | omega)] | rw [if_pos (by first | assumption | omega)] | rw [if_neg (by first | assumption | omega)])))
            · first
              | (exfalso; omega)
              | (
                refine zr_iconst dX7_draws_141 (rfl : 141 + 1 = 142) ?_
                refine zr_goto (tgt := 146) dX7_draws_142 (by decide) ?_
                refine zr_istore (lv' := [_, _, _, _, _, _, _]) dX7_draws_146 (rfl : 146 + 2 = 148) (Nat.le_of_ble_eq_true rfl) rfl ?_
                refine zr_iload dX7_draws_148 (rfl : 148 + 2 = 150) rfl ?_
                refine zr_if_ne (tgt := 157) dX7_draws_150 (by decide) (rfl : 150 + 3 = 153) (by first | exact jb_iff | exact jI_z (by first | omega | (simp only [bset, reduceIte, Nat.reduceEqDiff]; omega)) (by first | omega | (simp only [bset, reduceIte, Nat.reduceEqDiff]; omega))) (fun h150 => ?_) (fun h150 => ?_)
                · first
                  | (exfalso; omega)
                  | (
                    refine zr_iload_n dX7_draws_157 (rfl : 157 + 1 = 158) rfl ?_
                    refine zr_bipush dX7_draws_158 (rfl : 158 + 2 = 160) (by decide) ?_
                    refine zr_icmp_ne (tgt := 167) dX7_draws_160 (by decide) (rfl : 160 + 3 = 163) (jI_eq (by first | omega | (simp only [bset, reduceIte, Nat.reduceEqDiff]; omega)) (by first | omega | (simp only [bset, reduceIte, Nat.reduceEqDiff]; omega)) (by first | omega | (simp only [bset, reduceIte, Nat.reduceEqDiff]; omega)) (by first | omega | (simp only [bset, reduceIte, Nat.reduceEqDiff]; omega))) (fun h160 => ?_) (fun h160 => ?_)
                    · first
                      | (exfalso; omega)
                      | (
                        refine zr_iload_n dX7_draws_167 (rfl : 167 + 1 = 168) rfl ?_
                        refine zr_iconst dX7_draws_168 (rfl : 168 + 1 = 169) ?_
                        refine zr_iadd dX7_draws_169 (rfl : 169 + 1 = 170) (by first | exact jI_add _ _ | rfl) ?_
                        refine zr_istore (lv' := [_, _, _, _, _, _, _]) dX7_draws_170 (rfl : 170 + 2 = 172) (Nat.le_of_ble_eq_true rfl) rfl ?_
                        refine zr_aload_n dX7_draws_172 (rfl : 172 + 1 = 173) rfl ?_
                        refine zr_getf dX7_draws_173 (rfl : 173 + 3 = 176) f_X7_7 (by first | assumption | exact mw_167 | exact mw_168 | exact mw_169 | exact mw_170 | exact bk_0 | exact bk_1 | exact bk_2 | exact bk_3 | exact bk_4 | exact bk_5 | exact bk_6 | exact bk_7 | exact bk_8 | exact bk_9 | exact bk_10 | exact bk_11 | exact bk_12 | exact bk_13 | exact bk_14 | exact bk_15 | exact bk_16 | exact zup_self | exact (zup_ne (by first | assumption | omega)).trans (by first | assumption | exact zup_self) | exact (zup_ne (by first | assumption | omega)).trans ((zup_ne (by first | assumption | omega)).trans (by first | assumption | exact zup_self)) | exact (bk_out (by first | omega | (simp only [bset, reduceIte, Nat.reduceEqDiff]; omega))).trans (by first | exact bk_0 | exact bk_1 | exact bk_2 | exact bk_3 | exact bk_4 | exact bk_5 | exact bk_6 | exact bk_7 | exact bk_8 | exact bk_9 | exact bk_10 | exact bk_11 | exact bk_12 | exact bk_13 | exact bk_14 | exact bk_15 | exact bk_16 | exact cr_5 | exact cr_23 | exact cr_24 | exact cr_25 | exact cr_26 | exact cr_27 | exact cr_28 | exact cr_29 | exact cr_30 | assumption)) rfl ?_
                        refine zr_iload_n dX7_draws_176 (rfl : 176 + 1 = 177) rfl ?_
                        refine zr_bipush dX7_draws_177 (rfl : 177 + 2 = 179) (by decide) ?_
                        refine zr_iadd dX7_draws_179 (rfl : 179 + 1 = 180) (by first | exact jI_add _ _ | rfl) ?_
                        refine zr_iload_n dX7_draws_180 (rfl : 180 + 1 = 181) rfl ?_
                        refine zr_iadd dX7_draws_181 (rfl : 181 + 1 = 182) (by first | exact jI_add _ _ | rfl) ?_
                        refine zr_iload dX7_draws_182 (rfl : 182 + 2 = 184) rfl ?_
                        refine zr_iconst dX7_draws_184 (rfl : 184 + 1 = 185) ?_
                        refine zr_iadd dX7_draws_185 (rfl : 185 + 1 = 186) (by first | exact jI_add _ _ | rfl) ?_
                        refine zr_iast dX7_draws_186 (rfl : 186 + 1 = 187) (by first | assumption | exact mw_167 | exact mw_168 | exact mw_169 | exact mw_170 | exact bk_0 | exact bk_1 | exact bk_2 | exact bk_3 | exact bk_4 | exact bk_5 | exact bk_6 | exact bk_7 | exact bk_8 | exact bk_9 | exact bk_10 | exact bk_11 | exact bk_12 | exact bk_13 | exact bk_14 | exact bk_15 | exact bk_16 | exact zup_self | exact (zup_ne (by first | assumption | omega)).trans (by first | assumption | exact zup_self) | exact (zup_ne (by first | assumption | omega)).trans ((zup_ne (by first | assumption | omega)).trans (by first | assumption | exact zup_self)) | exact (bk_out (by first | omega | (simp only [bset, reduceIte, Nat.reduceEqDiff]; omega))).trans (by first | exact bk_0 | exact bk_1 | exact bk_2 | exact bk_3 | exact bk_4 | exact bk_5 | exact bk_6 | exact bk_7 | exact bk_8 | exact bk_9 | exact bk_10 | exact bk_11 | exact bk_12 | exact bk_13 | exact bk_14 | exact bk_15 | exact bk_16 | exact cr_5 | exact cr_23 | exact cr_24 | exact cr_25 | exact cr_26 | exact cr_27 | exact cr_28 | exact cr_29 | exact cr_30 | assumption)) (by decide) (by first | omega | (simp only [bset, reduceIte, Nat.reduceEqDiff]; omega)) (by first | omega | (simp only [bset, reduceIte, Nat.reduceEqDiff]; omega)) rfl ?_
                        refine zr_aload_n dX7_draws_187 (rfl : 187 + 1 = 188) rfl ?_
                        refine zr_getf dX7_draws_188 (rfl : 188 + 3 = 191) f_X7_7 (by first | assumption | exact mw_167 | exact mw_168 | exact mw_169 | exact mw_170 | exact bk_0 | exact bk_1 | exact bk_2 | exact bk_3 | exact bk_4 | exact bk_5 | exact bk_6 | exact bk_7 | exact bk_8 | exact bk_9 | exact bk_10 | exact bk_11 | exact bk_12 | exact bk_13 | exact bk_14 | exact bk_15 | exact bk_16 | exact zup_self | exact (zup_ne (by first | assumption | omega)).trans (by first | assumption | exact zup_self) | exact (zup_ne (by first | assumption | omega)).trans ((zup_ne (by first | assumption | omega)).trans (by first | assumption | exact zup_self)) | exact (bk_out (by first | omega | (simp only [bset, reduceIte, Nat.reduceEqDiff]; omega))).trans (by first | exact bk_0 | exact bk_1 | exact bk_2 | exact bk_3 | exact bk_4 | exact bk_5 | exact bk_6 | exact bk_7 | exact bk_8 | exact bk_9 | exact bk_10 | exact bk_11 | exact bk_12 | exact bk_13 | exact bk_14 | exact bk_15 | exact bk_16 | exact cr_5 | exact cr_23 | exact cr_24 | exact cr_25 | exact cr_26 | exact cr_27 | exact cr_28 | exact cr_29 | exact cr_30 | assumption)) rfl ?_
                        refine zr_iload_n dX7_draws_191 (rfl : 191 + 1 = 192) rfl ?_
                        refine zr_sipush dX7_draws_192 (rfl : 192 + 3 = 195) (by decide) ?_
                        refine zr_iadd dX7_draws_195 (rfl : 195 + 1 = 196) (by first | exact jI_add _ _ | rfl) ?_
                        refine zr_iload dX7_draws_196 (rfl : 196 + 2 = 198) rfl ?_
                        refine zr_iadd dX7_draws_198 (rfl : 198 + 1 = 199) (by first | exact jI_add _ _ | rfl) ?_
                        refine zr_dup2 dX7_draws_199 (rfl : 199 + 1 = 200) rfl rfl ?_
                        refine zr_iald dX7_draws_200 (rfl : 200 + 1 = 201) (by first | assumption | exact mw_167 | exact mw_168 | exact mw_169 | exact mw_170 | exact bk_0 | exact bk_1 | exact bk_2 | exact bk_3 | exact bk_4 | exact bk_5 | exact bk_6 | exact bk_7 | exact bk_8 | exact bk_9 | exact bk_10 | exact bk_11 | exact bk_12 | exact bk_13 | exact bk_14 | exact bk_15 | exact bk_16 | exact zup_self | exact (zup_ne (by first | assumption | omega)).trans (by first | assumption | exact zup_self) | exact (zup_ne (by first | assumption | omega)).trans ((zup_ne (by first | assumption | omega)).trans (by first | assumption | exact zup_self)) | exact (bk_out (by first | omega | (simp only [bset, reduceIte, Nat.reduceEqDiff]; omega))).trans (by first | exact bk_0 | exact bk_1 | exact bk_2 | exact bk_3 | exact bk_4 | exact bk_5 | exact bk_6 | exact bk_7 | exact bk_8 | exact bk_9 | exact bk_10 | exact bk_11 | exact bk_12 | exact bk_13 | exact bk_14 | exact bk_15 | exact bk_16 | exact cr_5 | exact cr_23 | exact cr_24 | exact cr_25 | exact cr_26 | exact cr_27 | exact cr_28 | exact cr_29 | exact cr_30 | assumption)) (by decide) (by first | omega | (simp only [bset, reduceIte, Nat.reduceEqDiff]; omega)) (by first | omega | (simp only [bset, reduceIte, Nat.reduceEqDiff]; omega)) ?_
                        refine zr_iconst dX7_draws_201 (rfl : 201 + 1 = 202) ?_
                        refine zr_iadd dX7_draws_202 (rfl : 202 + 1 = 203) (by first | exact jI_add _ _ | rfl) ?_
                        refine zr_iast dX7_draws_203 (rfl : 203 + 1 = 204) (by first | assumption | exact mw_167 | exact mw_168 | exact mw_169 | exact mw_170 | exact bk_0 | exact bk_1 | exact bk_2 | exact bk_3 | exact bk_4 | exact bk_5 | exact bk_6 | exact bk_7 | exact bk_8 | exact bk_9 | exact bk_10 | exact bk_11 | exact bk_12 | exact bk_13 | exact bk_14 | exact bk_15 | exact bk_16 | exact zup_self | exact (zup_ne (by first | assumption | omega)).trans (by first | assumption | exact zup_self) | exact (zup_ne (by first | assumption | omega)).trans ((zup_ne (by first | assumption | omega)).trans (by first | assumption | exact zup_self)) | exact (bk_out (by first | omega | (simp only [bset, reduceIte, Nat.reduceEqDiff]; omega))).trans (by first | exact bk_0 | exact bk_1 | exact bk_2 | exact bk_3 | exact bk_4 | exact bk_5 | exact bk_6 | exact bk_7 | exact bk_8 | exact bk_9 | exact bk_10 | exact bk_11 | exact bk_12 | exact bk_13 | exact bk_14 | exact bk_15 | exact bk_16 | exact cr_5 | exact cr_23 | exact cr_24 | exact cr_25 | exact cr_26 | exact cr_27 | exact cr_28 | exact cr_29 | exact cr_30 | assumption)) (by decide) (by first | omega | (simp only [bset, reduceIte, Nat.reduceEqDiff]; omega)) (by first | omega | (simp only [bset, reduceIte, Nat.reduceEqDiff]; omega)) rfl ?_
                        refine zr_aload_n dX7_draws_204 (rfl : 204 + 1 = 205) rfl ?_
                        refine zr_getf dX7_draws_205 (rfl : 205 + 3 = 208) f_X7_7 (by first | assumption | exact mw_167 | exact mw_168 | exact mw_169 | exact mw_170 | exact bk_0 | exact bk_1 | exact bk_2 | exact bk_3 | exact bk_4 | exact bk_5 | exact bk_6 | exact bk_7 | exact bk_8 | exact bk_9 | exact bk_10 | exact bk_11 | exact bk_12 | exact bk_13 | exact bk_14 | exact bk_15 | exact bk_16 | exact zup_self | exact (zup_ne (by first | assumption | omega)).trans (by first | assumption | exact zup_self) | exact (zup_ne (by first | assumption | omega)).trans ((zup_ne (by first | assumption | omega)).trans (by first | assumption | exact zup_self)) | exact (bk_out (by first | omega | (simp only [bset, reduceIte, Nat.reduceEqDiff]; omega))).trans (by first | exact bk_0 | exact bk_1 | exact bk_2 | exact bk_3 | exact bk_4 | exact bk_5 | exact bk_6 | exact bk_7 | exact bk_8 | exact bk_9 | exact bk_10 | exact bk_11 | exact bk_12 | exact bk_13 | exact bk_14 | exact bk_15 | exact bk_16 | exact cr_5 | exact cr_23 | exact cr_24 | exact cr_25 | exact cr_26 | exact cr_27 | exact cr_28 | exact cr_29 | exact cr_30 | assumption)) rfl ?_
                        refine zr_iload_n dX7_draws_208 (rfl : 208 + 1 = 209) rfl ?_
                        refine zr_sipush dX7_draws_209 (rfl : 209 + 3 = 212) (by decide) ?_
                        refine zr_iadd dX7_draws_212 (rfl : 212 + 1 = 213) (by first | exact jI_add _ _ | rfl) ?_
                        refine zr_iload dX7_draws_213 (rfl : 213 + 2 = 215) rfl ?_
                        refine zr_iadd dX7_draws_215 (rfl : 215 + 1 = 216) (by first | exact jI_add _ _ | rfl) ?_
                        refine zr_iload_n dX7_draws_216 (rfl : 216 + 1 = 217) rfl ?_
                        refine zr_iast dX7_draws_217 (rfl : 217 + 1 = 218) (by first | assumption | exact mw_167 | exact mw_168 | exact mw_169 | exact mw_170 | exact bk_0 | exact bk_1 | exact bk_2 | exact bk_3 | exact bk_4 | exact bk_5 | exact bk_6 | exact bk_7 | exact bk_8 | exact bk_9 | exact bk_10 | exact bk_11 | exact bk_12 | exact bk_13 | exact bk_14 | exact bk_15 | exact bk_16 | exact zup_self | exact (zup_ne (by first | assumption | omega)).trans (by first | assumption | exact zup_self) | exact (zup_ne (by first | assumption | omega)).trans ((zup_ne (by first | assumption | omega)).trans (by first | assumption | exact zup_self)) | exact (bk_out (by first | omega | (simp only [bset, reduceIte, Nat.reduceEqDiff]; omega))).trans (by first | exact bk_0 | exact bk_1 | exact bk_2 | exact bk_3 | exact bk_4 | exact bk_5 | exact bk_6 | exact bk_7 | exact bk_8 | exact bk_9 | exact bk_10 | exact bk_11 | exact bk_12 | exact bk_13 | exact bk_14 | exact bk_15 | exact bk_16 | exact cr_5 | exact cr_23 | exact cr_24 | exact cr_25 | exact cr_26 | exact cr_27 | exact cr_28 | exact cr_29 | exact cr_30 | assumption)) (by decide) (by first | omega | (simp only [bset, reduceIte, Nat.reduceEqDiff]; omega)) (by first | omega | (simp only [bset, reduceIte, Nat.reduceEqDiff]; omega)) rfl ?_
                        refine zr_aload_n dX7_draws_218 (rfl : 218 + 1 = 219) rfl ?_
                        refine zr_getf dX7_draws_219 (rfl : 219 + 3 = 222) f_X7_7 (by first | assumption | exact mw_167 | exact mw_168 | exact mw_169 | exact mw_170 | exact bk_0 | exact bk_1 | exact bk_2 | exact bk_3 | exact bk_4 | exact bk_5 | exact bk_6 | exact bk_7 | exact bk_8 | exact bk_9 | exact bk_10 | exact bk_11 | exact bk_12 | exact bk_13 | exact bk_14 | exact bk_15 | exact bk_16 | exact zup_self | exact (zup_ne (by first | assumption | omega)).trans (by first | assumption | exact zup_self) | exact (zup_ne (by first | assumption | omega)).trans ((zup_ne (by first | assumption | omega)).trans (by first | assumption | exact zup_self)) | exact (bk_out (by first | omega | (simp only [bset, reduceIte, Nat.reduceEqDiff]; omega))).trans (by first | exact bk_0 | exact bk_1 | exact bk_2 | exact bk_3 | exact bk_4 | exact bk_5 | exact bk_6 | exact bk_7 | exact bk_8 | exact bk_9 | exact bk_10 | exact bk_11 | exact bk_12 | exact bk_13 | exact bk_14 | exact bk_15 | exact bk_16 | exact cr_5 | exact cr_23 | exact cr_24 | exact cr_25 | exact cr_26 | exact cr_27 | exact cr_28 | exact cr_29 | exact cr_30 | assumption)) rfl ?_
                        refine zr_iload_n dX7_draws_222 (rfl : 222 + 1 = 223) rfl ?_
                        refine zr_sipush dX7_draws_223 (rfl : 223 + 3 = 226) (by decide) ?_
                        refine zr_iadd dX7_draws_226 (rfl : 226 + 1 = 227) (by first | exact jI_add _ _ | rfl) ?_
                        refine zr_iload dX7_draws_227 (rfl : 227 + 2 = 229) rfl ?_
                        refine zr_iadd dX7_draws_229 (rfl : 229 + 1 = 230) (by first | exact jI_add _ _ | rfl) ?_
                        refine zr_iload dX7_draws_230 (rfl : 230 + 2 = 232) rfl ?_
                        refine zr_iast dX7_draws_232 (rfl : 232 + 1 = 233) (by first | assumption | exact mw_167 | exact mw_168 | exact mw_169 | exact mw_170 | exact bk_0 | exact bk_1 | exact bk_2 | exact bk_3 | exact bk_4 | exact bk_5 | exact bk_6 | exact bk_7 | exact bk_8 | exact bk_9 | exact bk_10 | exact bk_11 | exact bk_12 | exact bk_13 | exact bk_14 | exact bk_15 | exact bk_16 | exact zup_self | exact (zup_ne (by first | assumption | omega)).trans (by first | assumption | exact zup_self) | exact (zup_ne (by first | assumption | omega)).trans ((zup_ne (by first | assumption | omega)).trans (by first | assumption | exact zup_self)) | exact (bk_out (by first | omega | (simp only [bset, reduceIte, Nat.reduceEqDiff]; omega))).trans (by first | exact bk_0 | exact bk_1 | exact bk_2 | exact bk_3 | exact bk_4 | exact bk_5 | exact bk_6 | exact bk_7 | exact bk_8 | exact bk_9 | exact bk_10 | exact bk_11 | exact bk_12 | exact bk_13 | exact bk_14 | exact bk_15 | exact bk_16 | exact cr_5 | exact cr_23 | exact cr_24 | exact cr_25 | exact cr_26 | exact cr_27 | exact cr_28 | exact cr_29 | exact cr_30 | assumption)) (by decide) (by first | omega | (simp only [bset, reduceIte, Nat.reduceEqDiff]; omega)) (by first | omega | (simp only [bset, reduceIte, Nat.reduceEqDiff]; omega)) rfl ?_
                        refine zr_aload_n dX7_draws_233 (rfl : 233 + 1 = 234) rfl ?_
                        refine zr_getf dX7_draws_234 (rfl : 234 + 3 = 237) f_X7_7 (by first | assumption | exact mw_167 | exact mw_168 | exact mw_169 | exact mw_170 | exact bk_0 | exact bk_1 | exact bk_2 | exact bk_3 | exact bk_4 | exact bk_5 | exact bk_6 | exact bk_7 | exact bk_8 | exact bk_9 | exact bk_10 | exact bk_11 | exact bk_12 | exact bk_13 | exact bk_14 | exact bk_15 | exact bk_16 | exact zup_self | exact (zup_ne (by first | assumption | omega)).trans (by first | assumption | exact zup_self) | exact (zup_ne (by first | assumption | omega)).trans ((zup_ne (by first | assumption | omega)).trans (by first | assumption | exact zup_self)) | exact (bk_out (by first | omega | (simp only [bset, reduceIte, Nat.reduceEqDiff]; omega))).trans (by first | exact bk_0 | exact bk_1 | exact bk_2 | exact bk_3 | exact bk_4 | exact bk_5 | exact bk_6 | exact bk_7 | exact bk_8 | exact bk_9 | exact bk_10 | exact bk_11 | exact bk_12 | exact bk_13 | exact bk_14 | exact bk_15 | exact bk_16 | exact cr_5 | exact cr_23 | exact cr_24 | exact cr_25 | exact cr_26 | exact cr_27 | exact cr_28 | exact cr_29 | exact cr_30 | assumption)) rfl ?_
                        refine zr_iload_n dX7_draws_237 (rfl : 237 + 1 = 238) rfl ?_
                        refine zr_sipush dX7_draws_238 (rfl : 238 + 3 = 241) (by decide) ?_
                        refine zr_iadd dX7_draws_241 (rfl : 241 + 1 = 242) (by first | exact jI_add _ _ | rfl) ?_
                        refine zr_dup2 dX7_draws_242 (rfl : 242 + 1 = 243) rfl rfl ?_
                        refine zr_iald dX7_draws_243 (rfl : 243 + 1 = 244) (by first | assumption | exact mw_167 | exact mw_168 | exact mw_169 | exact mw_170 | exact bk_0 | exact bk_1 | exact bk_2 | exact bk_3 | exact bk_4 | exact bk_5 | exact bk_6 | exact bk_7 | exact bk_8 | exact bk_9 | exact bk_10 | exact bk_11 | exact bk_12 | exact bk_13 | exact bk_14 | exact bk_15 | exact bk_16 | exact zup_self | exact (zup_ne (by first | assumption | omega)).trans (by first | assumption | exact zup_self) | exact (zup_ne (by first | assumption | omega)).trans ((zup_ne (by first | assumption | omega)).trans (by first | assumption | exact zup_self)) | exact (bk_out (by first | omega | (simp only [bset, reduceIte, Nat.reduceEqDiff]; omega))).trans (by first | exact bk_0 | exact bk_1 | exact bk_2 | exact bk_3 | exact bk_4 | exact bk_5 | exact bk_6 | exact bk_7 | exact bk_8 | exact bk_9 | exact bk_10 | exact bk_11 | exact bk_12 | exact bk_13 | exact bk_14 | exact bk_15 | exact bk_16 | exact cr_5 | exact cr_23 | exact cr_24 | exact cr_25 | exact cr_26 | exact cr_27 | exact cr_28 | exact cr_29 | exact cr_30 | assumption)) (by decide) (by first | omega | (simp only [bset, reduceIte, Nat.reduceEqDiff]; omega)) (by first | omega | (simp only [bset, reduceIte, Nat.reduceEqDiff]; omega)) ?_
                        refine zr_iload dX7_draws_244 (rfl : 244 + 2 = 246) rfl ?_
                        refine zr_if_eq (tgt := 253) dX7_draws_246 (by decide) (rfl : 246 + 3 = 249) (by first | exact jb_iff | exact jI_z (by first | omega | (simp only [bset, reduceIte, Nat.reduceEqDiff]; omega)) (by first | omega | (simp only [bset, reduceIte, Nat.reduceEqDiff]; omega))) (fun h246 => ?_) (fun h246 => ?_)
                        · first
                          | (exfalso; omega)
                          | (
                            refine zr_iconst dX7_draws_253 (rfl : 253 + 1 = 254) ?_
                            refine zr_iadd dX7_draws_254 (rfl : 254 + 1 = 255) (by first | exact jI_add _ _ | rfl) ?_
                            refine zr_iast dX7_draws_255 (rfl : 255 + 1 = 256) (by first | assumption | exact mw_167 | exact mw_168 | exact mw_169 | exact mw_170 | exact bk_0 | exact bk_1 | exact bk_2 | exact bk_3 | exact bk_4 | exact bk_5 | exact bk_6 | exact bk_7 | exact bk_8 | exact bk_9 | exact bk_10 | exact bk_11 | exact bk_12 | exact bk_13 | exact bk_14 | exact bk_15 | exact bk_16 | exact zup_self | exact (zup_ne (by first | assumption | omega)).trans (by first | assumption | exact zup_self) | exact (zup_ne (by first | assumption | omega)).trans ((zup_ne (by first | assumption | omega)).trans (by first | assumption | exact zup_self)) | exact (bk_out (by first | omega | (simp only [bset, reduceIte, Nat.reduceEqDiff]; omega))).trans (by first | exact bk_0 | exact bk_1 | exact bk_2 | exact bk_3 | exact bk_4 | exact bk_5 | exact bk_6 | exact bk_7 | exact bk_8 | exact bk_9 | exact bk_10 | exact bk_11 | exact bk_12 | exact bk_13 | exact bk_14 | exact bk_15 | exact bk_16 | exact cr_5 | exact cr_23 | exact cr_24 | exact cr_25 | exact cr_26 | exact cr_27 | exact cr_28 | exact cr_29 | exact cr_30 | assumption)) (by decide) (by first | omega | (simp only [bset, reduceIte, Nat.reduceEqDiff]; omega)) (by first | omega | (simp only [bset, reduceIte, Nat.reduceEqDiff]; omega)) rfl ?_
                            refine zr_iload_n dX7_draws_256 (rfl : 256 + 1 = 257) rfl ?_
                            refine zr_iret dX7_draws_257 rfl (by first | rfl | exact jb_nar) ?_ rfl rfl rfl
                            first | rfl | rw [jb_pos (by first | assumption | omega)] | rw [jb_neg (by first | assumption | omega)] | rw [if_pos (by first | assumption | omega)] | rw [if_neg (by first | assumption | omega)])
                        · first
                          | (exfalso; omega)
                          | (
                            refine zr_iconst dX7_draws_249 (rfl : 249 + 1 = 250) ?_
                            refine zr_goto (tgt := 254) dX7_draws_250 (by decide) ?_
                            refine zr_iadd dX7_draws_254 (rfl : 254 + 1 = 255) (by first | exact jI_add _ _ | rfl) ?_
                            refine zr_iast dX7_draws_255 (rfl : 255 + 1 = 256) (by first | assumption | exact mw_167 | exact mw_168 | exact mw_169 | exact mw_170 | exact bk_0 | exact bk_1 | exact bk_2 | exact bk_3 | exact bk_4 | exact bk_5 | exact bk_6 | exact bk_7 | exact bk_8 | exact bk_9 | exact bk_10 | exact bk_11 | exact bk_12 | exact bk_13 | exact bk_14 | exact bk_15 | exact bk_16 | exact zup_self | exact (zup_ne (by first | assumption | omega)).trans (by first | assumption | exact zup_self) | exact (zup_ne (by first | assumption | omega)).trans ((zup_ne (by first | assumption | omega)).trans (by first | assumption | exact zup_self)) | exact (bk_out (by first | omega | (simp only [bset, reduceIte, Nat.reduceEqDiff]; omega))).trans (by first | exact bk_0 | exact bk_1 | exact bk_2 | exact bk_3 | exact bk_4 | exact bk_5 | exact bk_6 | exact bk_7 | exact bk_8 | exact bk_9 | exact bk_10 | exact bk_11 | exact bk_12 | exact bk_13 | exact bk_14 | exact bk_15 | exact bk_16 | exact cr_5 | exact cr_23 | exact cr_24 | exact cr_25 | exact cr_26 | exact cr_27 | exact cr_28 | exact cr_29 | exact cr_30 | assumption)) (by decide) (by first | omega | (simp only [bset, reduceIte, Nat.reduceEqDiff]; omega)) (by first | omega | (simp only [bset, reduceIte, Nat.reduceEqDiff]; omega)) rfl ?_
                            refine zr_iload_n dX7_draws_256 (rfl : 256 + 1 = 257) rfl ?_
                            refine zr_iret dX7_draws_257 rfl (by first | rfl | exact jb_nar) ?_ rfl rfl rfl
                            first | rfl | rw [jb_pos (by first | assumption | omega)] | rw [jb_neg (by first | assumption | omega)] | rw [if_pos (by first | assumption | omega)] | rw [if_neg (by first | assumption | omega)]))
                    · first
                      | (exfalso; omega)
                      | (
                        refine zr_iconst dX7_draws_163 (rfl : 163 + 1 = 164) ?_
                        refine zr_goto (tgt := 170) dX7_draws_164 (by decide) ?_
                        refine zr_istore (lv' := [_, _, _, _, _, _, _]) dX7_draws_170 (rfl : 170 + 2 = 172) (Nat.le_of_ble_eq_true rfl) rfl ?_
                        refine zr_aload_n dX7_draws_172 (rfl : 172 + 1 = 173) rfl ?_
                        refine zr_getf dX7_draws_173 (rfl : 173 + 3 = 176) f_X7_7 (by first | assumption | exact mw_167 | exact mw_168 | exact mw_169 | exact mw_170 | exact bk_0 | exact bk_1 | exact bk_2 | exact bk_3 | exact bk_4 | exact bk_5 | exact bk_6 | exact bk_7 | exact bk_8 | exact bk_9 | exact bk_10 | exact bk_11 | exact bk_12 | exact bk_13 | exact bk_14 | exact bk_15 | exact bk_16 | exact zup_self | exact (zup_ne (by first | assumption | omega)).trans (by first | assumption | exact zup_self) | exact (zup_ne (by first | assumption | omega)).trans ((zup_ne (by first | assumption | omega)).trans (by first | assumption | exact zup_self)) | exact (bk_out (by first | omega | (simp only [bset, reduceIte, Nat.reduceEqDiff]; omega))).trans (by first | exact bk_0 | exact bk_1 | exact bk_2 | exact bk_3 | exact bk_4 | exact bk_5 | exact bk_6 | exact bk_7 | exact bk_8 | exact bk_9 | exact bk_10 | exact bk_11 | exact bk_12 | exact bk_13 | exact bk_14 | exact bk_15 | exact bk_16 | exact cr_5 | exact cr_23 | exact cr_24 | exact cr_25 | exact cr_26 | exact cr_27 | exact cr_28 | exact cr_29 | exact cr_30 | assumption)) rfl ?_
                        refine zr_iload_n dX7_draws_176 (rfl : 176 + 1 = 177) rfl ?_
                        refine zr_bipush dX7_draws_177 (rfl : 177 + 2 = 179) (by decide) ?_
                        refine zr_iadd dX7_draws_179 (rfl : 179 + 1 = 180) (by first | exact jI_add _ _ | rfl) ?_
                        refine zr_iload_n dX7_draws_180 (rfl : 180 + 1 = 181) rfl ?_
                        refine zr_iadd dX7_draws_181 (rfl : 181 + 1 = 182) (by first | exact jI_add _ _ | rfl) ?_
                        refine zr_iload dX7_draws_182 (rfl : 182 + 2 = 184) rfl ?_
                        refine zr_iconst dX7_draws_184 (rfl : 184 + 1 = 185) ?_
                        refine zr_iadd dX7_draws_185 (rfl : 185 + 1 = 186) (by first | exact jI_add _ _ | rfl) ?_
                        refine zr_iast dX7_draws_186 (rfl : 186 + 1 = 187) (by first | assumption | exact mw_167 | exact mw_168 | exact mw_169 | exact mw_170 | exact bk_0 | exact bk_1 | exact bk_2 | exact bk_3 | exact bk_4 | exact bk_5 | exact bk_6 | exact bk_7 | exact bk_8 | exact bk_9 | exact bk_10 | exact bk_11 | exact bk_12 | exact bk_13 | exact bk_14 | exact bk_15 | exact bk_16 | exact zup_self | exact (zup_ne (by first | assumption | omega)).trans (by first | assumption | exact zup_self) | exact (zup_ne (by first | assumption | omega)).trans ((zup_ne (by first | assumption | omega)).trans (by first | assumption | exact zup_self)) | exact (bk_out (by first | omega | (simp only [bset, reduceIte, Nat.reduceEqDiff]; omega))).trans (by first | exact bk_0 | exact bk_1 | exact bk_2 | exact bk_3 | exact bk_4 | exact bk_5 | exact bk_6 | exact bk_7 | exact bk_8 | exact bk_9 | exact bk_10 | exact bk_11 | exact bk_12 | exact bk_13 | exact bk_14 | exact bk_15 | exact bk_16 | exact cr_5 | exact cr_23 | exact cr_24 | exact cr_25 | exact cr_26 | exact cr_27 | exact cr_28 | exact cr_29 | exact cr_30 | assumption)) (by decide) (by first | omega | (simp only [bset, reduceIte, Nat.reduceEqDiff]; omega)) (by first | omega | (simp only [bset, reduceIte, Nat.reduceEqDiff]; omega)) rfl ?_
                        refine zr_aload_n dX7_draws_187 (rfl : 187 + 1 = 188) rfl ?_
                        refine zr_getf dX7_draws_188 (rfl : 188 + 3 = 191) f_X7_7 (by first | assumption | exact mw_167 | exact mw_168 | exact mw_169 | exact mw_170 | exact bk_0 | exact bk_1 | exact bk_2 | exact bk_3 | exact bk_4 | exact bk_5 | exact bk_6 | exact bk_7 | exact bk_8 | exact bk_9 | exact bk_10 | exact bk_11 | exact bk_12 | exact bk_13 | exact bk_14 | exact bk_15 | exact bk_16 | exact zup_self | exact (zup_ne (by first | assumption | omega)).trans (by first | assumption | exact zup_self) | exact (zup_ne (by first | assumption | omega)).trans ((zup_ne (by first | assumption | omega)).trans (by first | assumption | exact zup_self)) | exact (bk_out (by first | omega | (simp only [bset, reduceIte, Nat.reduceEqDiff]; omega))).trans (by first | exact bk_0 | exact bk_1 | exact bk_2 | exact bk_3 | exact bk_4 | exact bk_5 | exact bk_6 | exact bk_7 | exact bk_8 | exact bk_9 | exact bk_10 | exact bk_11 | exact bk_12 | exact bk_13 | exact bk_14 | exact bk_15 | exact bk_16 | exact cr_5 | exact cr_23 | exact cr_24 | exact cr_25 | exact cr_26 | exact cr_27 | exact cr_28 | exact cr_29 | exact cr_30 | assumption)) rfl ?_
                        refine zr_iload_n dX7_draws_191 (rfl : 191 + 1 = 192) rfl ?_
                        refine zr_sipush dX7_draws_192 (rfl : 192 + 3 = 195) (by decide) ?_
                        refine zr_iadd dX7_draws_195 (rfl : 195 + 1 = 196) (by first | exact jI_add _ _ | rfl) ?_
                        refine zr_iload dX7_draws_196 (rfl : 196 + 2 = 198) rfl ?_
                        refine zr_iadd dX7_draws_198 (rfl : 198 + 1 = 199) (by first | exact jI_add _ _ | rfl) ?_
                        refine zr_dup2 dX7_draws_199 (rfl : 199 + 1 = 200) rfl rfl ?_
                        refine zr_iald dX7_draws_200 (rfl : 200 + 1 = 201) (by first | assumption | exact mw_167 | exact mw_168 | exact mw_169 | exact mw_170 | exact bk_0 | exact bk_1 | exact bk_2 | exact bk_3 | exact bk_4 | exact bk_5 | exact bk_6 | exact bk_7 | exact bk_8 | exact bk_9 | exact bk_10 | exact bk_11 | exact bk_12 | exact bk_13 | exact bk_14 | exact bk_15 | exact bk_16 | exact zup_self | exact (zup_ne (by first | assumption | omega)).trans (by first | assumption | exact zup_self) | exact (zup_ne (by first | assumption | omega)).trans ((zup_ne (by first | assumption | omega)).trans (by first | assumption | exact zup_self)) | exact (bk_out (by first | omega | (simp only [bset, reduceIte, Nat.reduceEqDiff]; omega))).trans (by first | exact bk_0 | exact bk_1 | exact bk_2 | exact bk_3 | exact bk_4 | exact bk_5 | exact bk_6 | exact bk_7 | exact bk_8 | exact bk_9 | exact bk_10 | exact bk_11 | exact bk_12 | exact bk_13 | exact bk_14 | exact bk_15 | exact bk_16 | exact cr_5 | exact cr_23 | exact cr_24 | exact cr_25 | exact cr_26 | exact cr_27 | exact cr_28 | exact cr_29 | exact cr_30 | assumption)) (by decide) (by first | omega | (simp only [bset, reduceIte, Nat.reduceEqDiff]; omega)) (by first | omega | (simp only [bset, reduceIte, Nat.reduceEqDiff]; omega)) ?_
                        refine zr_iconst dX7_draws_201 (rfl : 201 + 1 = 202) ?_
                        refine zr_iadd dX7_draws_202 (rfl : 202 + 1 = 203) (by first | exact jI_add _ _ | rfl) ?_
                        refine zr_iast dX7_draws_203 (rfl : 203 + 1 = 204) (by first | assumption | exact mw_167 | exact mw_168 | exact mw_169 | exact mw_170 | exact bk_0 | exact bk_1 | exact bk_2 | exact bk_3 | exact bk_4 | exact bk_5 | exact bk_6 | exact bk_7 | exact bk_8 | exact bk_9 | exact bk_10 | exact bk_11 | exact bk_12 | exact bk_13 | exact bk_14 | exact bk_15 | exact bk_16 | exact zup_self | exact (zup_ne (by first | assumption | omega)).trans (by first | assumption | exact zup_self) | exact (zup_ne (by first | assumption | omega)).trans ((zup_ne (by first | assumption | omega)).trans (by first | assumption | exact zup_self)) | exact (bk_out (by first | omega | (simp only [bset, reduceIte, Nat.reduceEqDiff]; omega))).trans (by first | exact bk_0 | exact bk_1 | exact bk_2 | exact bk_3 | exact bk_4 | exact bk_5 | exact bk_6 | exact bk_7 | exact bk_8 | exact bk_9 | exact bk_10 | exact bk_11 | exact bk_12 | exact bk_13 | exact bk_14 | exact bk_15 | exact bk_16 | exact cr_5 | exact cr_23 | exact cr_24 | exact cr_25 | exact cr_26 | exact cr_27 | exact cr_28 | exact cr_29 | exact cr_30 | assumption)) (by decide) (by first | omega | (simp only [bset, reduceIte, Nat.reduceEqDiff]; omega)) (by first | omega | (simp only [bset, reduceIte, Nat.reduceEqDiff]; omega)) rfl ?_
                        refine zr_aload_n dX7_draws_204 (rfl : 204 + 1 = 205) rfl ?_
                        refine zr_getf dX7_draws_205 (rfl : 205 + 3 = 208) f_X7_7 (by first | assumption | exact mw_167 | exact mw_168 | exact mw_169 | exact mw_170 | exact bk_0 | exact bk_1 | exact bk_2 | exact bk_3 | exact bk_4 | exact bk_5 | exact bk_6 | exact bk_7 | exact bk_8 | exact bk_9 | exact bk_10 | exact bk_11 | exact bk_12 | exact bk_13 | exact bk_14 | exact bk_15 | exact bk_16 | exact zup_self | exact (zup_ne (by first | assumption | omega)).trans (by first | assumption | exact zup_self) | exact (zup_ne (by first | assumption | omega)).trans ((zup_ne (by first | assumption | omega)).trans (by first | assumption | exact zup_self)) | exact (bk_out (by first | omega | (simp only [bset, reduceIte, Nat.reduceEqDiff]; omega))).trans (by first | exact bk_0 | exact bk_1 | exact bk_2 | exact bk_3 | exact bk_4 | exact bk_5 | exact bk_6 | exact bk_7 | exact bk_8 | exact bk_9 | exact bk_10 | exact bk_11 | exact bk_12 | exact bk_13 | exact bk_14 | exact bk_15 | exact bk_16 | exact cr_5 | exact cr_23 | exact cr_24 | exact cr_25 | exact cr_26 | exact cr_27 | exact cr_28 | exact cr_29 | exact cr_30 | assumption)) rfl ?_
                        refine zr_iload_n dX7_draws_208 (rfl : 208 + 1 = 209) rfl ?_
                        refine zr_sipush dX7_draws_209 (rfl : 209 + 3 = 212) (by decide) ?_
                        refine zr_iadd dX7_draws_212 (rfl : 212 + 1 = 213) (by first | exact jI_add _ _ | rfl) ?_
                        refine zr_iload dX7_draws_213 (rfl : 213 + 2 = 215) rfl ?_
                        refine zr_iadd dX7_draws_215 (rfl : 215 + 1 = 216) (by first | exact jI_add _ _ | rfl) ?_
                        refine zr_iload_n dX7_draws_216 (rfl : 216 + 1 = 217) rfl ?_
                        refine zr_iast dX7_draws_217 (rfl : 217 + 1 = 218) (by first | assumption | exact mw_167 | exact mw_168 | exact mw_169 | exact mw_170 | exact bk_0 | exact bk_1 | exact bk_2 | exact bk_3 | exact bk_4 | exact bk_5 | exact bk_6 | exact bk_7 | exact bk_8 | exact bk_9 | exact bk_10 | exact bk_11 | exact bk_12 | exact bk_13 | exact bk_14 | exact bk_15 | exact bk_16 | exact zup_self | exact (zup_ne (by first | assumption | omega)).trans (by first | assumption | exact zup_self) | exact (zup_ne (by first | assumption | omega)).trans ((zup_ne (by first | assumption | omega)).trans (by first | assumption | exact zup_self)) | exact (bk_out (by first | omega | (simp only [bset, reduceIte, Nat.reduceEqDiff]; omega))).trans (by first | exact bk_0 | exact bk_1 | exact bk_2 | exact bk_3 | exact bk_4 | exact bk_5 | exact bk_6 | exact bk_7 | exact bk_8 | exact bk_9 | exact bk_10 | exact bk_11 | exact bk_12 | exact bk_13 | exact bk_14 | exact bk_15 | exact bk_16 | exact cr_5 | exact cr_23 | exact cr_24 | exact cr_25 | exact cr_26 | exact cr_27 | exact cr_28 | exact cr_29 | exact cr_30 | assumption)) (by decide) (by first | omega | (simp only [bset, reduceIte, Nat.reduceEqDiff]; omega)) (by first | omega | (simp only [bset, reduceIte, Nat.reduceEqDiff]; omega)) rfl ?_
                        refine zr_aload_n dX7_draws_218 (rfl : 218 + 1 = 219) rfl ?_
                        refine zr_getf dX7_draws_219 (rfl : 219 + 3 = 222) f_X7_7 (by first | assumption | exact mw_167 | exact mw_168 | exact mw_169 | exact mw_170 | exact bk_0 | exact bk_1 | exact bk_2 | exact bk_3 | exact bk_4 | exact bk_5 | exact bk_6 | exact bk_7 | exact bk_8 | exact bk_9 | exact bk_10 | exact bk_11 | exact bk_12 | exact bk_13 | exact bk_14 | exact bk_15 | exact bk_16 | exact zup_self | exact (zup_ne (by first | assumption | omega)).trans (by first | assumption | exact zup_self) | exact (zup_ne (by first | assumption | omega)).trans ((zup_ne (by first | assumption | omega)).trans (by first | assumption | exact zup_self)) | exact (bk_out (by first | omega | (simp only [bset, reduceIte, Nat.reduceEqDiff]; omega))).trans (by first | exact bk_0 | exact bk_1 | exact bk_2 | exact bk_3 | exact bk_4 | exact bk_5 | exact bk_6 | exact bk_7 | exact bk_8 | exact bk_9 | exact bk_10 | exact bk_11 | exact bk_12 | exact bk_13 | exact bk_14 | exact bk_15 | exact bk_16 | exact cr_5 | exact cr_23 | exact cr_24 | exact cr_25 | exact cr_26 | exact cr_27 | exact cr_28 | exact cr_29 | exact cr_30 | assumption)) rfl ?_
                        refine zr_iload_n dX7_draws_222 (rfl : 222 + 1 = 223) rfl ?_
                        refine zr_sipush dX7_draws_223 (rfl : 223 + 3 = 226) (by decide) ?_
                        refine zr_iadd dX7_draws_226 (rfl : 226 + 1 = 227) (by first | exact jI_add _ _ | rfl) ?_
                        refine zr_iload dX7_draws_227 (rfl : 227 + 2 = 229) rfl ?_
                        refine zr_iadd dX7_draws_229 (rfl : 229 + 1 = 230) (by first | exact jI_add _ _ | rfl) ?_
                        refine zr_iload dX7_draws_230 (rfl : 230 + 2 = 232) rfl ?_
                        refine zr_iast dX7_draws_232 (rfl : 232 + 1 = 233) (by first | assumption | exact mw_167 | exact mw_168 | exact mw_169 | exact mw_170 | exact bk_0 | exact bk_1 | exact bk_2 | exact bk_3 | exact bk_4 | exact bk_5 | exact bk_6 | exact bk_7 | exact bk_8 | exact bk_9 | exact bk_10 | exact bk_11 | exact bk_12 | exact bk_13 | exact bk_14 | exact bk_15 | exact bk_16 | exact zup_self | exact (zup_ne (by first | assumption | omega)).trans (by first | assumption | exact zup_self) | exact (zup_ne (by first | assumption | omega)).trans ((zup_ne (by first | assumption | omega)).trans (by first | assumption | exact zup_self)) | exact (bk_out (by first | omega | (simp only [bset, reduceIte, Nat.reduceEqDiff]; omega))).trans (by first | exact bk_0 | exact bk_1 | exact bk_2 | exact bk_3 | exact bk_4 | exact bk_5 | exact bk_6 | exact bk_7 | exact bk_8 | exact bk_9 | exact bk_10 | exact bk_11 | exact bk_12 | exact bk_13 | exact bk_14 | exact bk_15 | exact bk_16 | exact cr_5 | exact cr_23 | exact cr_24 | exact cr_25 | exact cr_26 | exact cr_27 | exact cr_28 | exact cr_29 | exact cr_30 | assumption)) (by decide) (by first | omega | (simp only [bset, reduceIte, Nat.reduceEqDiff]; omega)) (by first | omega | (simp only [bset, reduceIte, Nat.reduceEqDiff]; omega)) rfl ?_
                        refine zr_aload_n dX7_draws_233 (rfl : 233 + 1 = 234) rfl ?_
                        refine zr_getf dX7_draws_234 (rfl : 234 + 3 = 237) f_X7_7 (by first | assumption | exact mw_167 | exact mw_168 | exact mw_169 | exact mw_170 | exact bk_0 | exact bk_1 | exact bk_2 | exact bk_3 | exact bk_4 | exact bk_5 | exact bk_6 | exact bk_7 | exact bk_8 | exact bk_9 | exact bk_10 | exact bk_11 | exact bk_12 | exact bk_13 | exact bk_14 | exact bk_15 | exact bk_16 | exact zup_self | exact (zup_ne (by first | assumption | omega)).trans (by first | assumption | exact zup_self) | exact (zup_ne (by first | assumption | omega)).trans ((zup_ne (by first | assumption | omega)).trans (by first | assumption | exact zup_self)) | exact (bk_out (by first | omega | (simp only [bset, reduceIte, Nat.reduceEqDiff]; omega))).trans (by first | exact bk_0 | exact bk_1 | exact bk_2 | exact bk_3 | exact bk_4 | exact bk_5 | exact bk_6 | exact bk_7 | exact bk_8 | exact bk_9 | exact bk_10 | exact bk_11 | exact bk_12 | exact bk_13 | exact bk_14 | exact bk_15 | exact bk_16 | exact cr_5 | exact cr_23 | exact cr_24 | exact cr_25 | exact cr_26 | exact cr_27 | exact cr_28 | exact cr_29 | exact cr_30 | assumption)) rfl ?_
                        refine zr_iload_n dX7_draws_237 (rfl : 237 + 1 = 238) rfl ?_
                        refine zr_sipush dX7_draws_238 (rfl : 238 + 3 = 241) (by decide) ?_
                        refine zr_iadd dX7_draws_241 (rfl : 241 + 1 = 242) (by first | exact jI_add _ _ | rfl) ?_
                        refine zr_dup2 dX7_draws_242 (rfl : 242 + 1 = 243) rfl rfl ?_
                        refine zr_iald dX7_draws_243 (rfl : 243 + 1 = 244) (by first | assumption | exact mw_167 | exact mw_168 | exact mw_169 | exact mw_170 | exact bk_0 | exact bk_1 | exact bk_2 | exact bk_3 | exact bk_4 | exact bk_5 | exact bk_6 | exact bk_7 | exact bk_8 | exact bk_9 | exact bk_10 | exact bk_11 | exact bk_12 | exact bk_13 | exact bk_14 | exact bk_15 | exact bk_16 | exact zup_self | exact (zup_ne (by first | assumption | omega)).trans (by first | assumption | exact zup_self) | exact (zup_ne (by first | assumption | omega)).trans ((zup_ne (by first | assumption | omega)).trans (by first | assumption | exact zup_self)) | exact (bk_out (by first | omega | (simp only [bset, reduceIte, Nat.reduceEqDiff]; omega))).trans (by first | exact bk_0 | exact bk_1 | exact bk_2 | exact bk_3 | exact bk_4 | exact bk_5 | exact bk_6 | exact bk_7 | exact bk_8 | exact bk_9 | exact bk_10 | exact bk_11 | exact bk_12 | exact bk_13 | exact bk_14 | exact bk_15 | exact bk_16 | exact cr_5 | exact cr_23 | exact cr_24 | exact cr_25 | exact cr_26 | exact cr_27 | exact cr_28 | exact cr_29 | exact cr_30 | assumption)) (by decide) (by first | omega | (simp only [bset, reduceIte, Nat.reduceEqDiff]; omega)) (by first | omega | (simp only [bset, reduceIte, Nat.reduceEqDiff]; omega)) ?_
                        refine zr_iload dX7_draws_244 (rfl : 244 + 2 = 246) rfl ?_
                        refine zr_if_eq (tgt := 253) dX7_draws_246 (by decide) (rfl : 246 + 3 = 249) (by first | exact jb_iff | exact jI_z (by first | omega | (simp only [bset, reduceIte, Nat.reduceEqDiff]; omega)) (by first | omega | (simp only [bset, reduceIte, Nat.reduceEqDiff]; omega))) (fun h246 => ?_) (fun h246 => ?_)
                        · first
                          | (exfalso; omega)
                          | (
                            refine zr_iconst dX7_draws_253 (rfl : 253 + 1 = 254) ?_
                            refine zr_iadd dX7_draws_254 (rfl : 254 + 1 = 255) (by first | exact jI_add _ _ | rfl) ?_
                            refine zr_iast dX7_draws_255 (rfl : 255 + 1 = 256) (by first | assumption | exact mw_167 | exact mw_168 | exact mw_169 | exact mw_170 | exact bk_0 | exact bk_1 | exact bk_2 | exact bk_3 | exact bk_4 | exact bk_5 | exact bk_6 | exact bk_7 | exact bk_8 | exact bk_9 | exact bk_10 | exact bk_11 | exact bk_12 | exact bk_13 | exact bk_14 | exact bk_15 | exact bk_16 | exact zup_self | exact (zup_ne (by first | assumption | omega)).trans (by first | assumption | exact zup_self) | exact (zup_ne (by first | assumption | omega)).trans ((zup_ne (by first | assumption | omega)).trans (by first | assumption | exact zup_self)) | exact (bk_out (by first | omega | (simp only [bset, reduceIte, Nat.reduceEqDiff]; omega))).trans (by first | exact bk_0 | exact bk_1 | exact bk_2 | exact bk_3 | exact bk_4 | exact bk_5 | exact bk_6 | exact bk_7 | exact bk_8 | exact bk_9 | exact bk_10 | exact bk_11 | exact bk_12 | exact bk_13 | exact bk_14 | exact bk_15 | exact bk_16 | exact cr_5 | exact cr_23 | exact cr_24 | exact cr_25 | exact cr_26 | exact cr_27 | exact cr_28 | exact cr_29 | exact cr_30 | assumption)) (by decide) (by first | omega | (simp only [bset, reduceIte, Nat.reduceEqDiff]; omega)) (by first | omega | (simp only [bset, reduceIte, Nat.reduceEqDiff]; omega)) rfl ?_
                            refine zr_iload_n dX7_draws_256 (rfl : 256 + 1 = 257) rfl ?_
                            refine zr_iret dX7_draws_257 rfl (by first | rfl | exact jb_nar) ?_ rfl rfl rfl
                            first | rfl | rw [jb_pos (by first | assumption | omega)] | rw [jb_neg (by first | assumption | omega)] | rw [if_pos (by first | assumption | omega)] | rw [if_neg (by first | assumption | omega)])
                        · first
                          | (exfalso; omega)
                          | (
                            refine zr_iconst dX7_draws_249 (rfl : 249 + 1 = 250) ?_
                            refine zr_goto (tgt := 254) dX7_draws_250 (by decide) ?_
                            refine zr_iadd dX7_draws_254 (rfl : 254 + 1 = 255) (by first | exact jI_add _ _ | rfl) ?_
                            refine zr_iast dX7_draws_255 (rfl : 255 + 1 = 256) (by first | assumption | exact mw_167 | exact mw_168 | exact mw_169 | exact mw_170 | exact bk_0 | exact bk_1 | exact bk_2 | exact bk_3 | exact bk_4 | exact bk_5 | exact bk_6 | exact bk_7 | exact bk_8 | exact bk_9 | exact bk_10 | exact bk_11 | exact bk_12 | exact bk_13 | exact bk_14 | exact bk_15 | exact bk_16 | exact zup_self | exact (zup_ne (by first | assumption | omega)).trans (by first | assumption | exact zup_self) | exact (zup_ne (by first | assumption | omega)).trans ((zup_ne (by first | assumption | omega)).trans (by first | assumption | exact zup_self)) | exact (bk_out (by first | omega | (simp only [bset, reduceIte, Nat.reduceEqDiff]; omega))).trans (by first | exact bk_0 | exact bk_1 | exact bk_2 | exact bk_3 | exact bk_4 | exact bk_5 | exact bk_6 | exact bk_7 | exact bk_8 | exact bk_9 | exact bk_10 | exact bk_11 | exact bk_12 | exact bk_13 | exact bk_14 | exact bk_15 | exact bk_16 | exact cr_5 | exact cr_23 | exact cr_24 | exact cr_25 | exact cr_26 | exact cr_27 | exact cr_28 | exact cr_29 | exact cr_30 | assumption)) (by decide) (by first | omega | (simp only [bset, reduceIte, Nat.reduceEqDiff]; omega)) (by first | omega | (simp only [bset, reduceIte, Nat.reduceEqDiff]; omega)) rfl ?_
                            refine zr_iload_n dX7_draws_256 (rfl : 256 + 1 = 257) rfl ?_
                            refine zr_iret dX7_draws_257 rfl (by first | rfl | exact jb_nar) ?_ rfl rfl rfl
                            first | rfl | rw [jb_pos (by first | assumption | omega)] | rw [jb_neg (by first | assumption | omega)] | rw [if_pos (by first | assumption | omega)] | rw [if_neg (by first | assumption | omega)])))
                · first
                  | (exfalso; omega)
                  | (
                    refine zr_iload_n dX7_draws_153 (rfl : 153 + 1 = 154) rfl ?_
                    refine zr_goto (tgt := 170) dX7_draws_154 (by decide) ?_
                    refine zr_istore (lv' := [_, _, _, _, _, _, _]) dX7_draws_170 (rfl : 170 + 2 = 172) (Nat.le_of_ble_eq_true rfl) rfl ?_
                    refine zr_aload_n dX7_draws_172 (rfl : 172 + 1 = 173) rfl ?_
                    refine zr_getf dX7_draws_173 (rfl : 173 + 3 = 176) f_X7_7 (by first | assumption | exact mw_167 | exact mw_168 | exact mw_169 | exact mw_170 | exact bk_0 | exact bk_1 | exact bk_2 | exact bk_3 | exact bk_4 | exact bk_5 | exact bk_6 | exact bk_7 | exact bk_8 | exact bk_9 | exact bk_10 | exact bk_11 | exact bk_12 | exact bk_13 | exact bk_14 | exact bk_15 | exact bk_16 | exact zup_self | exact (zup_ne (by first | assumption | omega)).trans (by first | assumption | exact zup_self) | exact (zup_ne (by first | assumption | omega)).trans ((zup_ne (by first | assumption | omega)).trans (by first | assumption | exact zup_self)) | exact (bk_out (by first | omega | (simp only [bset, reduceIte, Nat.reduceEqDiff]; omega))).trans (by first | exact bk_0 | exact bk_1 | exact bk_2 | exact bk_3 | exact bk_4 | exact bk_5 | exact bk_6 | exact bk_7 | exact bk_8 | exact bk_9 | exact bk_10 | exact bk_11 | exact bk_12 | exact bk_13 | exact bk_14 | exact bk_15 | exact bk_16 | exact cr_5 | exact cr_23 | exact cr_24 | exact cr_25 | exact cr_26 | exact cr_27 | exact cr_28 | exact cr_29 | exact cr_30 | assumption)) rfl ?_
                    refine zr_iload_n dX7_draws_176 (rfl : 176 + 1 = 177) rfl ?_
                    refine zr_bipush dX7_draws_177 (rfl : 177 + 2 = 179) (by decide) ?_
                    refine zr_iadd dX7_draws_179 (rfl : 179 + 1 = 180) (by first | exact jI_add _ _ | rfl) ?_
                    refine zr_iload_n dX7_draws_180 (rfl : 180 + 1 = 181) rfl ?_
                    refine zr_iadd dX7_draws_181 (rfl : 181 + 1 = 182) (by first | exact jI_add _ _ | rfl) ?_
                    refine zr_iload dX7_draws_182 (rfl : 182 + 2 = 184) rfl ?_
                    refine zr_iconst dX7_draws_184 (rfl : 184 + 1 = 185) ?_
                    refine zr_iadd dX7_draws_185 (rfl : 185 + 1 = 186) (by first | exact jI_add _ _ | rfl) ?_
                    refine zr_iast dX7_draws_186 (rfl : 186 + 1 = 187) (by first | assumption | exact mw_167 | exact mw_168 | exact mw_169 | exact mw_170 | exact bk_0 | exact bk_1 | exact bk_2 | exact bk_3 | exact bk_4 | exact bk_5 | exact bk_6 | exact bk_7 | exact bk_8 | exact bk_9 | exact bk_10 | exact bk_11 | exact bk_12 | exact bk_13 | exact bk_14 | exact bk_15 | exact bk_16 | exact zup_self | exact (zup_ne (by first | assumption | omega)).trans (by first | assumption | exact zup_self) | exact (zup_ne (by first | assumption | omega)).trans ((zup_ne (by first | assumption | omega)).trans (by first | assumption | exact zup_self)) | exact (bk_out (by first | omega | (simp only [bset, reduceIte, Nat.reduceEqDiff]; omega))).trans (by first | exact bk_0 | exact bk_1 | exact bk_2 | exact bk_3 | exact bk_4 | exact bk_5 | exact bk_6 | exact bk_7 | exact bk_8 | exact bk_9 | exact bk_10 | exact bk_11 | exact bk_12 | exact bk_13 | exact bk_14 | exact bk_15 | exact bk_16 | exact cr_5 | exact cr_23 | exact cr_24 | exact cr_25 | exact cr_26 | exact cr_27 | exact cr_28 | exact cr_29 | exact cr_30 | assumption)) (by decide) (by first | omega | (simp only [bset, reduceIte, Nat.reduceEqDiff]; omega)) (by first | omega | (simp only [bset, reduceIte, Nat.reduceEqDiff]; omega)) rfl ?_
                    refine zr_aload_n dX7_draws_187 (rfl : 187 + 1 = 188) rfl ?_
                    refine zr_getf dX7_draws_188 (rfl : 188 + 3 = 191) f_X7_7 (by first | assumption | exact mw_167 | exact mw_168 | exact mw_169 | exact mw_170 | exact bk_0 | exact bk_1 | exact bk_2 | exact bk_3 | exact bk_4 | exact bk_5 | exact bk_6 | exact bk_7 | exact bk_8 | exact bk_9 | exact bk_10 | exact bk_11 | exact bk_12 | exact bk_13 | exact bk_14 | exact bk_15 | exact bk_16 | exact zup_self | exact (zup_ne (by first | assumption | omega)).trans (by first | assumption | exact zup_self) | exact (zup_ne (by first | assumption | omega)).trans ((zup_ne (by first | assumption | omega)).trans (by first | assumption | exact zup_self)) | exact (bk_out (by first | omega | (simp only [bset, reduceIte, Nat.reduceEqDiff]; omega))).trans (by first | exact bk_0 | exact bk_1 | exact bk_2 | exact bk_3 | exact bk_4 | exact bk_5 | exact bk_6 | exact bk_7 | exact bk_8 | exact bk_9 | exact bk_10 | exact bk_11 | exact bk_12 | exact bk_13 | exact bk_14 | exact bk_15 | exact bk_16 | exact cr_5 | exact cr_23 | exact cr_24 | exact cr_25 | exact cr_26 | exact cr_27 | exact cr_28 | exact cr_29 | exact cr_30 | assumption)) rfl ?_
                    refine zr_iload_n dX7_draws_191 (rfl : 191 + 1 = 192) rfl ?_
                    refine zr_sipush dX7_draws_192 (rfl : 192 + 3 = 195) (by decide) ?_
                    refine zr_iadd dX7_draws_195 (rfl : 195 + 1 = 196) (by first | exact jI_add _ _ | rfl) ?_
                    refine zr_iload dX7_draws_196 (rfl : 196 + 2 = 198) rfl ?_
                    refine zr_iadd dX7_draws_198 (rfl : 198 + 1 = 199) (by first | exact jI_add _ _ | rfl) ?_
                    refine zr_dup2 dX7_draws_199 (rfl : 199 + 1 = 200) rfl rfl ?_
                    refine zr_iald dX7_draws_200 (rfl : 200 + 1 = 201) (by first | assumption | exact mw_167 | exact mw_168 | exact mw_169 | exact mw_170 | exact bk_0 | exact bk_1 | exact bk_2 | exact bk_3 | exact bk_4 | exact bk_5 | exact bk_6 | exact bk_7 | exact bk_8 | exact bk_9 | exact bk_10 | exact bk_11 | exact bk_12 | exact bk_13 | exact bk_14 | exact bk_15 | exact bk_16 | exact zup_self | exact (zup_ne (by first | assumption | omega)).trans (by first | assumption | exact zup_self) | exact (zup_ne (by first | assumption | omega)).trans ((zup_ne (by first | assumption | omega)).trans (by first | assumption | exact zup_self)) | exact (bk_out (by first | omega | (simp only [bset, reduceIte, Nat.reduceEqDiff]; omega))).trans (by first | exact bk_0 | exact bk_1 | exact bk_2 | exact bk_3 | exact bk_4 | exact bk_5 | exact bk_6 | exact bk_7 | exact bk_8 | exact bk_9 | exact bk_10 | exact bk_11 | exact bk_12 | exact bk_13 | exact bk_14 | exact bk_15 | exact bk_16 | exact cr_5 | exact cr_23 | exact cr_24 | exact cr_25 | exact cr_26 | exact cr_27 | exact cr_28 | exact cr_29 | exact cr_30 | assumption)) (by decide) (by first | omega | (simp only [bset, reduceIte, Nat.reduceEqDiff]; omega)) (by first | omega | (simp only [bset, reduceIte, Nat.reduceEqDiff]; omega)) ?_
                    refine zr_iconst dX7_draws_201 (rfl : 201 + 1 = 202) ?_
                    refine zr_iadd dX7_draws_202 (rfl : 202 + 1 = 203) (by first | exact jI_add _ _ | rfl) ?_
                    refine zr_iast dX7_draws_203 (rfl : 203 + 1 = 204) (by first | assumption | exact mw_167 | exact mw_168 | exact mw_169 | exact mw_170 | exact bk_0 | exact bk_1 | exact bk_2 | exact bk_3 | exact bk_4 | exact bk_5 | exact bk_6 | exact bk_7 | exact bk_8 | exact bk_9 | exact bk_10 | exact bk_11 | exact bk_12 | exact bk_13 | exact bk_14 | exact bk_15 | exact bk_16 | exact zup_self | exact (zup_ne (by first | assumption | omega)).trans (by first | assumption | exact zup_self) | exact (zup_ne (by first | assumption | omega)).trans ((zup_ne (by first | assumption | omega)).trans (by first | assumption | exact zup_self)) | exact (bk_out (by first | omega | (simp only [bset, reduceIte, Nat.reduceEqDiff]; omega))).trans (by first | exact bk_0 | exact bk_1 | exact bk_2 | exact bk_3 | exact bk_4 | exact bk_5 | exact bk_6 | exact bk_7 | exact bk_8 | exact bk_9 | exact bk_10 | exact bk_11 | exact bk_12 | exact bk_13 | exact bk_14 | exact bk_15 | exact bk_16 | exact cr_5 | exact cr_23 | exact cr_24 | exact cr_25 | exact cr_26 | exact cr_27 | exact cr_28 | exact cr_29 | exact cr_30 | assumption)) (by decide) (by first | omega | (simp only [bset, reduceIte, Nat.reduceEqDiff]; omega)) (by first | omega | (simp only [bset, reduceIte, Nat.reduceEqDiff]; omega)) rfl ?_
                    refine zr_aload_n dX7_draws_204 (rfl : 204 + 1 = 205) rfl ?_
                    refine zr_getf dX7_draws_205 (rfl : 205 + 3 = 208) f_X7_7 (by first | assumption | exact mw_167 | exact mw_168 | exact mw_169 | exact mw_170 | exact bk_0 | exact bk_1 | exact bk_2 | exact bk_3 | exact bk_4 | exact bk_5 | exact bk_6 | exact bk_7 | exact bk_8 | exact bk_9 | exact bk_10 | exact bk_11 | exact bk_12 | exact bk_13 | exact bk_14 | exact bk_15 | exact bk_16 | exact zup_self | exact (zup_ne (by first | assumption | omega)).trans (by first | assumption | exact zup_self) | exact (zup_ne (by first | assumption | omega)).trans ((zup_ne (by first | assumption | omega)).trans (by first | assumption | exact zup_self)) | exact (bk_out (by first | omega | (simp only [bset, reduceIte, Nat.reduceEqDiff]; omega))).trans (by first | exact bk_0 | exact bk_1 | exact bk_2 | exact bk_3 | exact bk_4 | exact bk_5 | exact bk_6 | exact bk_7 | exact bk_8 | exact bk_9 | exact bk_10 | exact bk_11 | exact bk_12 | exact bk_13 | exact bk_14 | exact bk_15 | exact bk_16 | exact cr_5 | exact cr_23 | exact cr_24 | exact cr_25 | exact cr_26 | exact cr_27 | exact cr_28 | exact cr_29 | exact cr_30 | assumption)) rfl ?_
                    refine zr_iload_n dX7_draws_208 (rfl : 208 + 1 = 209) rfl ?_
                    refine zr_sipush dX7_draws_209 (rfl : 209 + 3 = 212) (by decide) ?_
                    refine zr_iadd dX7_draws_212 (rfl : 212 + 1 = 213) (by first | exact jI_add _ _ | rfl) ?_
                    refine zr_iload dX7_draws_213 (rfl : 213 + 2 = 215) rfl ?_
                    refine zr_iadd dX7_draws_215 (rfl : 215 + 1 = 216) (by first | exact jI_add _ _ | rfl) ?_
                    refine zr_iload_n dX7_draws_216 (rfl : 216 + 1 = 217) rfl ?_
                    refine zr_iast dX7_draws_217 (rfl : 217 + 1 = 218) (by first | assumption | exact mw_167 | exact mw_168 | exact mw_169 | exact mw_170 | exact bk_0 | exact bk_1 | exact bk_2 | exact bk_3 | exact bk_4 | exact bk_5 | exact bk_6 | exact bk_7 | exact bk_8 | exact bk_9 | exact bk_10 | exact bk_11 | exact bk_12 | exact bk_13 | exact bk_14 | exact bk_15 | exact bk_16 | exact zup_self | exact (zup_ne (by first | assumption | omega)).trans (by first | assumption | exact zup_self) | exact (zup_ne (by first | assumption | omega)).trans ((zup_ne (by first | assumption | omega)).trans (by first | assumption | exact zup_self)) | exact (bk_out (by first | omega | (simp only [bset, reduceIte, Nat.reduceEqDiff]; omega))).trans (by first | exact bk_0 | exact bk_1 | exact bk_2 | exact bk_3 | exact bk_4 | exact bk_5 | exact bk_6 | exact bk_7 | exact bk_8 | exact bk_9 | exact bk_10 | exact bk_11 | exact bk_12 | exact bk_13 | exact bk_14 | exact bk_15 | exact bk_16 | exact cr_5 | exact cr_23 | exact cr_24 | exact cr_25 | exact cr_26 | exact cr_27 | exact cr_28 | exact cr_29 | exact cr_30 | assumption)) (by decide) (by first | omega | (simp only [bset, reduceIte, Nat.reduceEqDiff]; omega)) (by first | omega | (simp only [bset, reduceIte, Nat.reduceEqDiff]; omega)) rfl ?_
                    refine zr_aload_n dX7_draws_218 (rfl : 218 + 1 = 219) rfl ?_
                    refine zr_getf dX7_draws_219 (rfl : 219 + 3 = 222) f_X7_7 (by first | assumption | exact mw_167 | exact mw_168 | exact mw_169 | exact mw_170 | exact bk_0 | exact bk_1 | exact bk_2 | exact bk_3 | exact bk_4 | exact bk_5 | exact bk_6 | exact bk_7 | exact bk_8 | exact bk_9 | exact bk_10 | exact bk_11 | exact bk_12 | exact bk_13 | exact bk_14 | exact bk_15 | exact bk_16 | exact zup_self | exact (zup_ne (by first | assumption | omega)).trans (by first | assumption | exact zup_self) | exact (zup_ne (by first | assumption | omega)).trans ((zup_ne (by first | assumption | omega)).trans (by first | assumption | exact zup_self)) | exact (bk_out (by first | omega | (simp only [bset, reduceIte, Nat.reduceEqDiff]; omega))).trans (by first | exact bk_0 | exact bk_1 | exact bk_2 | exact bk_3 | exact bk_4 | exact bk_5 | exact bk_6 | exact bk_7 | exact bk_8 | exact bk_9 | exact bk_10 | exact bk_11 | exact bk_12 | exact bk_13 | exact bk_14 | exact bk_15 | exact bk_16 | exact cr_5 | exact cr_23 | exact cr_24 | exact cr_25 | exact cr_26 | exact cr_27 | exact cr_28 | exact cr_29 | exact cr_30 | assumption)) rfl ?_
                    refine zr_iload_n dX7_draws_222 (rfl : 222 + 1 = 223) rfl ?_
                    refine zr_sipush dX7_draws_223 (rfl : 223 + 3 = 226) (by decide) ?_
                    refine zr_iadd dX7_draws_226 (rfl : 226 + 1 = 227) (by first | exact jI_add _ _ | rfl) ?_
                    refine zr_iload dX7_draws_227 (rfl : 227 + 2 = 229) rfl ?_
                    refine zr_iadd dX7_draws_229 (rfl : 229 + 1 = 230) (by first | exact jI_add _ _ | rfl) ?_
                    refine zr_iload dX7_draws_230 (rfl : 230 + 2 = 232) rfl ?_
                    refine zr_iast dX7_draws_232 (rfl : 232 + 1 = 233) (by first | assumption | exact mw_167 | exact mw_168 | exact mw_169 | exact mw_170 | exact bk_0 | exact bk_1 | exact bk_2 | exact bk_3 | exact bk_4 | exact bk_5 | exact bk_6 | exact bk_7 | exact bk_8 | exact bk_9 | exact bk_10 | exact bk_11 | exact bk_12 | exact bk_13 | exact bk_14 | exact bk_15 | exact bk_16 | exact zup_self | exact (zup_ne (by first | assumption | omega)).trans (by first | assumption | exact zup_self) | exact (zup_ne (by first | assumption | omega)).trans ((zup_ne (by first | assumption | omega)).trans (by first | assumption | exact zup_self)) | exact (bk_out (by first | omega | (simp only [bset, reduceIte, Nat.reduceEqDiff]; omega))).trans (by first | exact bk_0 | exact bk_1 | exact bk_2 | exact bk_3 | exact bk_4 | exact bk_5 | exact bk_6 | exact bk_7 | exact bk_8 | exact bk_9 | exact bk_10 | exact bk_11 | exact bk_12 | exact bk_13 | exact bk_14 | exact bk_15 | exact bk_16 | exact cr_5 | exact cr_23 | exact cr_24 | exact cr_25 | exact cr_26 | exact cr_27 | exact cr_28 | exact cr_29 | exact cr_30 | assumption)) (by decide) (by first | omega | (simp only [bset, reduceIte, Nat.reduceEqDiff]; omega)) (by first | omega | (simp only [bset, reduceIte, Nat.reduceEqDiff]; omega)) rfl ?_
                    refine zr_aload_n dX7_draws_233 (rfl : 233 + 1 = 234) rfl ?_
                    refine zr_getf dX7_draws_234 (rfl : 234 + 3 = 237) f_X7_7 (by first | assumption | exact mw_167 | exact mw_168 | exact mw_169 | exact mw_170 | exact bk_0 | exact bk_1 | exact bk_2 | exact bk_3 | exact bk_4 | exact bk_5 | exact bk_6 | exact bk_7 | exact bk_8 | exact bk_9 | exact bk_10 | exact bk_11 | exact bk_12 | exact bk_13 | exact bk_14 | exact bk_15 | exact bk_16 | exact zup_self | exact (zup_ne (by first | assumption | omega)).trans (by first | assumption | exact zup_self) | exact (zup_ne (by first | assumption | omega)).trans ((zup_ne (by first | assumption | omega)).trans (by first | assumption | exact zup_self)) | exact (bk_out (by first | omega | (simp only [bset, reduceIte, Nat.reduceEqDiff]; omega))).trans (by first | exact bk_0 | exact bk_1 | exact bk_2 | exact bk_3 | exact bk_4 | exact bk_5 | exact bk_6 | exact bk_7 | exact bk_8 | exact bk_9 | exact bk_10 | exact bk_11 | exact bk_12 | exact bk_13 | exact bk_14 | exact bk_15 | exact bk_16 | exact cr_5 | exact cr_23 | exact cr_24 | exact cr_25 | exact cr_26 | exact cr_27 | exact cr_28 | exact cr_29 | exact cr_30 | assumption)) rfl ?_
                    refine zr_iload_n dX7_draws_237 (rfl : 237 + 1 = 238) rfl ?_
                    refine zr_sipush dX7_draws_238 (rfl : 238 + 3 = 241) (by decide) ?_
                    refine zr_iadd dX7_draws_241 (rfl : 241 + 1 = 242) (by first | exact jI_add _ _ | rfl) ?_
                    refine zr_dup2 dX7_draws_242 (rfl : 242 + 1 = 243) rfl rfl ?_
                    refine zr_iald dX7_draws_243 (rfl : 243 + 1 = 244) (by first | assumption | exact mw_167 | exact mw_168 | exact mw_169 | exact mw_170 | exact bk_0 | exact bk_1 | exact bk_2 | exact bk_3 | exact bk_4 | exact bk_5 | exact bk_6 | exact bk_7 | exact bk_8 | exact bk_9 | exact bk_10 | exact bk_11 | exact bk_12 | exact bk_13 | exact bk_14 | exact bk_15 | exact bk_16 | exact zup_self | exact (zup_ne (by first | assumption | omega)).trans (by first | assumption | exact zup_self) | exact (zup_ne (by first | assumption | omega)).trans ((zup_ne (by first | assumption | omega)).trans (by first | assumption | exact zup_self)) | exact (bk_out (by first | omega | (simp only [bset, reduceIte, Nat.reduceEqDiff]; omega))).trans (by first | exact bk_0 | exact bk_1 | exact bk_2 | exact bk_3 | exact bk_4 | exact bk_5 | exact bk_6 | exact bk_7 | exact bk_8 | exact bk_9 | exact bk_10 | exact bk_11 | exact bk_12 | exact bk_13 | exact bk_14 | exact bk_15 | exact bk_16 | exact cr_5 | exact cr_23 | exact cr_24 | exact cr_25 | exact cr_26 | exact cr_27 | exact cr_28 | exact cr_29 | exact cr_30 | assumption)) (by decide) (by first | omega | (simp only [bset, reduceIte, Nat.reduceEqDiff]; omega)) (by first | omega | (simp only [bset, reduceIte, Nat.reduceEqDiff]; omega)) ?_
                    refine zr_iload dX7_draws_244 (rfl : 244 + 2 = 246) rfl ?_
                    refine zr_if_eq (tgt := 253) dX7_draws_246 (by decide) (rfl : 246 + 3 = 249) (by first | exact jb_iff | exact jI_z (by first | omega | (simp only [bset, reduceIte, Nat.reduceEqDiff]; omega)) (by first | omega | (simp only [bset, reduceIte, Nat.reduceEqDiff]; omega))) (fun h246 => ?_) (fun h246 => ?_)
                    · first
                      | (exfalso; omega)
                      | (
                        refine zr_iconst dX7_draws_253 (rfl : 253 + 1 = 254) ?_
                        refine zr_iadd dX7_draws_254 (rfl : 254 + 1 = 255) (by first | exact jI_add _ _ | rfl) ?_
                        refine zr_iast dX7_draws_255 (rfl : 255 + 1 = 256) (by first | assumption | exact mw_167 | exact mw_168 | exact mw_169 | exact mw_170 | exact bk_0 | exact bk_1 | exact bk_2 | exact bk_3 | exact bk_4 | exact bk_5 | exact bk_6 | exact bk_7 | exact bk_8 | exact bk_9 | exact bk_10 | exact bk_11 | exact bk_12 | exact bk_13 | exact bk_14 | exact bk_15 | exact bk_16 | exact zup_self | exact (zup_ne (by first | assumption | omega)).trans (by first | assumption | exact zup_self) | exact (zup_ne (by first | assumption | omega)).trans ((zup_ne (by first | assumption | omega)).trans (by first | assumption | exact zup_self)) | exact (bk_out (by first | omega | (simp only [bset, reduceIte, Nat.reduceEqDiff]; omega))).trans (by first | exact bk_0 | exact bk_1 | exact bk_2 | exact bk_3 | exact bk_4 | exact bk_5 | exact bk_6 | exact bk_7 | exact bk_8 | exact bk_9 | exact bk_10 | exact bk_11 | exact bk_12 | exact bk_13 | exact bk_14 | exact bk_15 | exact bk_16 | exact cr_5 | exact cr_23 | exact cr_24 | exact cr_25 | exact cr_26 | exact cr_27 | exact cr_28 | exact cr_29 | exact cr_30 | assumption)) (by decide) (by first | omega | (simp only [bset, reduceIte, Nat.reduceEqDiff]; omega)) (by first | omega | (simp only [bset, reduceIte, Nat.reduceEqDiff]; omega)) rfl ?_
                        refine zr_iload_n dX7_draws_256 (rfl : 256 + 1 = 257) rfl ?_
                        refine zr_iret dX7_draws_257 rfl (by first | rfl | exact jb_nar) ?_ rfl rfl rfl
                        first | rfl | rw [jb_pos (by first | assumption | omega)] | rw [jb_neg (by first | assumption | omega)] | rw [if_pos (by first | assumption | omega)] | rw [if_neg (by first | assumption | omega)])
                    · first
                      | (exfalso; omega)
                      | (
                        refine zr_iconst dX7_draws_249 (rfl : 249 + 1 = 250) ?_
                        refine zr_goto (tgt := 254) dX7_draws_250 (by decide) ?_
                        refine zr_iadd dX7_draws_254 (rfl : 254 + 1 = 255) (by first | exact jI_add _ _ | rfl) ?_
                        refine zr_iast dX7_draws_255 (rfl : 255 + 1 = 256) (by first | assumption | exact mw_167 | exact mw_168 | exact mw_169 | exact mw_170 | exact bk_0 | exact bk_1 | exact bk_2 | exact bk_3 | exact bk_4 | exact bk_5 | exact bk_6 | exact bk_7 | exact bk_8 | exact bk_9 | exact bk_10 | exact bk_11 | exact bk_12 | exact bk_13 | exact bk_14 | exact bk_15 | exact bk_16 | exact zup_self | exact (zup_ne (by first | assumption | omega)).trans (by first | assumption | exact zup_self) | exact (zup_ne (by first | assumption | omega)).trans ((zup_ne (by first | assumption | omega)).trans (by first | assumption | exact zup_self)) | exact (bk_out (by first | omega | (simp only [bset, reduceIte, Nat.reduceEqDiff]; omega))).trans (by first | exact bk_0 | exact bk_1 | exact bk_2 | exact bk_3 | exact bk_4 | exact bk_5 | exact bk_6 | exact bk_7 | exact bk_8 | exact bk_9 | exact bk_10 | exact bk_11 | exact bk_12 | exact bk_13 | exact bk_14 | exact bk_15 | exact bk_16 | exact cr_5 | exact cr_23 | exact cr_24 | exact cr_25 | exact cr_26 | exact cr_27 | exact cr_28 | exact cr_29 | exact cr_30 | assumption)) (by decide) (by first | omega | (simp only [bset, reduceIte, Nat.reduceEqDiff]; omega)) (by first | omega | (simp only [bset, reduceIte, Nat.reduceEqDiff]; omega)) rfl ?_
                        refine zr_iload_n dX7_draws_256 (rfl : 256 + 1 = 257) rfl ?_
                        refine zr_iret dX7_draws_257 rfl (by first | rfl | exact jb_nar) ?_ rfl rfl rfl
                        first | rfl | rw [jb_pos (by first | assumption | omega)] | rw [jb_neg (by first | assumption | omega)] | rw [if_pos (by first | assumption | omega)] | rw [if_neg (by first | assumption | omega)])))))
    · first
      | (exfalso; omega)
      | (
        refine zr_aload_n dX7_draws_31 (rfl : 31 + 1 = 32) rfl ?_
        refine zr_getf dX7_draws_32 (rfl : 32 + 3 = 35) f_X7_7 (by first | assumption | exact mw_167 | exact mw_168 | exact mw_169 | exact mw_170 | exact bk_0 | exact bk_1 | exact bk_2 | exact bk_3 | exact bk_4 | exact bk_5 | exact bk_6 | exact bk_7 | exact bk_8 | exact bk_9 | exact bk_10 | exact bk_11 | exact bk_12 | exact bk_13 | exact bk_14 | exact bk_15 | exact bk_16 | exact zup_self | exact (zup_ne (by first | assumption | omega)).trans (by first | assumption | exact zup_self) | exact (zup_ne (by first | assumption | omega)).trans ((zup_ne (by first | assumption | omega)).trans (by first | assumption | exact zup_self)) | exact (bk_out (by first | omega | (simp only [bset, reduceIte, Nat.reduceEqDiff]; omega))).trans (by first | exact bk_0 | exact bk_1 | exact bk_2 | exact bk_3 | exact bk_4 | exact bk_5 | exact bk_6 | exact bk_7 | exact bk_8 | exact bk_9 | exact bk_10 | exact bk_11 | exact bk_12 | exact bk_13 | exact bk_14 | exact bk_15 | exact bk_16 | exact cr_5 | exact cr_23 | exact cr_24 | exact cr_25 | exact cr_26 | exact cr_27 | exact cr_28 | exact cr_29 | exact cr_30 | assumption)) rfl ?_
        refine zr_iload_n dX7_draws_35 (rfl : 35 + 1 = 36) rfl ?_
        refine zr_bipush dX7_draws_36 (rfl : 36 + 2 = 38) (by decide) ?_
        refine zr_iadd dX7_draws_38 (rfl : 38 + 1 = 39) (by first | exact jI_add _ _ | rfl) ?_
        refine zr_iload dX7_draws_39 (rfl : 39 + 2 = 41) rfl ?_
        refine zr_iadd dX7_draws_41 (rfl : 41 + 1 = 42) (by first | exact jI_add _ _ | rfl) ?_
        refine zr_iald dX7_draws_42 (rfl : 42 + 1 = 43) (by first | assumption | exact mw_167 | exact mw_168 | exact mw_169 | exact mw_170 | exact bk_0 | exact bk_1 | exact bk_2 | exact bk_3 | exact bk_4 | exact bk_5 | exact bk_6 | exact bk_7 | exact bk_8 | exact bk_9 | exact bk_10 | exact bk_11 | exact bk_12 | exact bk_13 | exact bk_14 | exact bk_15 | exact bk_16 | exact zup_self | exact (zup_ne (by first | assumption | omega)).trans (by first | assumption | exact zup_self) | exact (zup_ne (by first | assumption | omega)).trans ((zup_ne (by first | assumption | omega)).trans (by first | assumption | exact zup_self)) | exact (bk_out (by first | omega | (simp only [bset, reduceIte, Nat.reduceEqDiff]; omega))).trans (by first | exact bk_0 | exact bk_1 | exact bk_2 | exact bk_3 | exact bk_4 | exact bk_5 | exact bk_6 | exact bk_7 | exact bk_8 | exact bk_9 | exact bk_10 | exact bk_11 | exact bk_12 | exact bk_13 | exact bk_14 | exact bk_15 | exact bk_16 | exact cr_5 | exact cr_23 | exact cr_24 | exact cr_25 | exact cr_26 | exact cr_27 | exact cr_28 | exact cr_29 | exact cr_30 | assumption)) (by decide) (by first | omega | (simp only [bset, reduceIte, Nat.reduceEqDiff]; omega)) (by first | omega | (simp only [bset, reduceIte, Nat.reduceEqDiff]; omega)) ?_
        refine zr_if_ne (tgt := 50) dX7_draws_43 (by decide) (rfl : 43 + 3 = 46) (by first | exact jb_iff | exact jI_z (by first | omega | (simp only [bset, reduceIte, Nat.reduceEqDiff]; omega)) (by first | omega | (simp only [bset, reduceIte, Nat.reduceEqDiff]; omega))) (fun h43 => ?_) (fun h43 => ?_)
        · first
          | (exfalso; omega)
          | (
            refine zr_iconst dX7_draws_50 (rfl : 50 + 1 = 51) ?_
            refine zr_istore (lv' := [_, _, _, _, _, _, _]) dX7_draws_51 (rfl : 51 + 2 = 53) (Nat.le_of_ble_eq_true rfl) rfl ?_
            refine zr_iload dX7_draws_53 (rfl : 53 + 2 = 55) rfl ?_
            refine zr_if_eq (tgt := 67) dX7_draws_55 (by decide) (rfl : 55 + 3 = 58) (by first | exact jb_iff | exact jI_z (by first | omega | (simp only [bset, reduceIte, Nat.reduceEqDiff]; omega)) (by first | omega | (simp only [bset, reduceIte, Nat.reduceEqDiff]; omega))) (fun h55 => ?_) (fun h55 => ?_)
            · first
              | (exfalso; omega)
              | (
                refine zr_iload_n dX7_draws_67 (rfl : 67 + 1 = 68) rfl ?_
                refine zr_istore_n (lv' := [_, _, _, _, _, _, _]) dX7_draws_68 (rfl : 68 + 1 = 69) (Nat.le_of_ble_eq_true rfl) rfl ?_
                refine zr_iload_n dX7_draws_69 (rfl : 69 + 1 = 70) rfl ?_
                refine zr_iload dX7_draws_70 (rfl : 70 + 2 = 72) rfl ?_
                refine zr_if_eq (tgt := 79) dX7_draws_72 (by decide) (rfl : 72 + 3 = 75) (by first | exact jb_iff | exact jI_z (by first | omega | (simp only [bset, reduceIte, Nat.reduceEqDiff]; omega)) (by first | omega | (simp only [bset, reduceIte, Nat.reduceEqDiff]; omega))) (fun h72 => ?_) (fun h72 => ?_)
                · first
                  | (exfalso; omega)
                  | (
                    refine zr_iconst dX7_draws_79 (rfl : 79 + 1 = 80) ?_
                    refine zr_isub dX7_draws_80 (rfl : 80 + 1 = 81) (by first | exact jI_sub _ _ | rfl) ?_
                    refine zr_istore_n (lv' := [_, _, _, _, _, _, _]) dX7_draws_81 (rfl : 81 + 1 = 82) (Nat.le_of_ble_eq_true rfl) rfl ?_
                    refine zr_iinc (lv' := [_, _, _, _, _, _, _]) dX7_draws_82 (rfl : 82 + 3 = 85) (Nat.le_of_ble_eq_true rfl) rfl (by first | exact jI_add _ _ | rfl) rfl ?_
                    refine zr_goto (tgt := 24) dX7_draws_85 (by decide) ?_
                    refine hk _ _ _ ⟨by omega, ?_⟩
                    first | (split <;> omega) | (rw [hx]; split <;> split <;> omega))
                · first
                  | (exfalso; omega)
                  | (
                    refine zr_iconst dX7_draws_75 (rfl : 75 + 1 = 76) ?_
                    refine zr_goto (tgt := 80) dX7_draws_76 (by decide) ?_
                    refine zr_isub dX7_draws_80 (rfl : 80 + 1 = 81) (by first | exact jI_sub _ _ | rfl) ?_
                    refine zr_istore_n (lv' := [_, _, _, _, _, _, _]) dX7_draws_81 (rfl : 81 + 1 = 82) (Nat.le_of_ble_eq_true rfl) rfl ?_
                    refine zr_iinc (lv' := [_, _, _, _, _, _, _]) dX7_draws_82 (rfl : 82 + 3 = 85) (Nat.le_of_ble_eq_true rfl) rfl (by first | exact jI_add _ _ | rfl) rfl ?_
                    refine zr_goto (tgt := 24) dX7_draws_85 (by decide) ?_
                    refine hk _ _ _ ⟨by omega, ?_⟩
                    first | (split <;> omega) | (rw [hx]; split <;> split <;> omega)))
            · first
              | (exfalso; omega)
              | (
                refine zr_iload_n dX7_draws_58 (rfl : 58 + 1 = 59) rfl ?_
                refine zr_if_ne (tgt := 67) dX7_draws_59 (by decide) (rfl : 59 + 3 = 62) (by first | exact jb_iff | exact jI_z (by first | omega | (simp only [bset, reduceIte, Nat.reduceEqDiff]; omega)) (by first | omega | (simp only [bset, reduceIte, Nat.reduceEqDiff]; omega))) (fun h59 => ?_) (fun h59 => ?_)
                · first
                  | (exfalso; omega)
                  | (
                    refine zr_iload_n dX7_draws_67 (rfl : 67 + 1 = 68) rfl ?_
                    refine zr_istore_n (lv' := [_, _, _, _, _, _, _]) dX7_draws_68 (rfl : 68 + 1 = 69) (Nat.le_of_ble_eq_true rfl) rfl ?_
                    refine zr_iload_n dX7_draws_69 (rfl : 69 + 1 = 70) rfl ?_
                    refine zr_iload dX7_draws_70 (rfl : 70 + 2 = 72) rfl ?_
                    refine zr_if_eq (tgt := 79) dX7_draws_72 (by decide) (rfl : 72 + 3 = 75) (by first | exact jb_iff | exact jI_z (by first | omega | (simp only [bset, reduceIte, Nat.reduceEqDiff]; omega)) (by first | omega | (simp only [bset, reduceIte, Nat.reduceEqDiff]; omega))) (fun h72 => ?_) (fun h72 => ?_)
                    · first
                      | (exfalso; omega)
                      | (
                        refine zr_iconst dX7_draws_79 (rfl : 79 + 1 = 80) ?_
                        refine zr_isub dX7_draws_80 (rfl : 80 + 1 = 81) (by first | exact jI_sub _ _ | rfl) ?_
                        refine zr_istore_n (lv' := [_, _, _, _, _, _, _]) dX7_draws_81 (rfl : 81 + 1 = 82) (Nat.le_of_ble_eq_true rfl) rfl ?_
                        refine zr_iinc (lv' := [_, _, _, _, _, _, _]) dX7_draws_82 (rfl : 82 + 3 = 85) (Nat.le_of_ble_eq_true rfl) rfl (by first | exact jI_add _ _ | rfl) rfl ?_
                        refine zr_goto (tgt := 24) dX7_draws_85 (by decide) ?_
                        refine hk _ _ _ ⟨by omega, ?_⟩
                        first | (split <;> omega) | (rw [hx]; split <;> split <;> omega))
                    · first
                      | (exfalso; omega)
                      | (
                        refine zr_iconst dX7_draws_75 (rfl : 75 + 1 = 76) ?_
                        refine zr_goto (tgt := 80) dX7_draws_76 (by decide) ?_
                        refine zr_isub dX7_draws_80 (rfl : 80 + 1 = 81) (by first | exact jI_sub _ _ | rfl) ?_
                        refine zr_istore_n (lv' := [_, _, _, _, _, _, _]) dX7_draws_81 (rfl : 81 + 1 = 82) (Nat.le_of_ble_eq_true rfl) rfl ?_
                        refine zr_iinc (lv' := [_, _, _, _, _, _, _]) dX7_draws_82 (rfl : 82 + 3 = 85) (Nat.le_of_ble_eq_true rfl) rfl (by first | exact jI_add _ _ | rfl) rfl ?_
                        refine zr_goto (tgt := 24) dX7_draws_85 (by decide) ?_
                        refine hk _ _ _ ⟨by omega, ?_⟩
                        first | (split <;> omega) | (rw [hx]; split <;> split <;> omega)))
                · first
                  | (exfalso; omega)
                  | (
                    refine zr_iload dX7_draws_62 (rfl : 62 + 2 = 64) rfl ?_
                    refine zr_goto (tgt := 68) dX7_draws_64 (by decide) ?_
                    refine zr_istore_n (lv' := [_, _, _, _, _, _, _]) dX7_draws_68 (rfl : 68 + 1 = 69) (Nat.le_of_ble_eq_true rfl) rfl ?_
                    refine zr_iload_n dX7_draws_69 (rfl : 69 + 1 = 70) rfl ?_
                    refine zr_iload dX7_draws_70 (rfl : 70 + 2 = 72) rfl ?_
                    refine zr_if_eq (tgt := 79) dX7_draws_72 (by decide) (rfl : 72 + 3 = 75) (by first | exact jb_iff | exact jI_z (by first | omega | (simp only [bset, reduceIte, Nat.reduceEqDiff]; omega)) (by first | omega | (simp only [bset, reduceIte, Nat.reduceEqDiff]; omega))) (fun h72 => ?_) (fun h72 => ?_)
                    · first
                      | (exfalso; omega)
                      | (
                        refine zr_iconst dX7_draws_79 (rfl : 79 + 1 = 80) ?_
                        refine zr_isub dX7_draws_80 (rfl : 80 + 1 = 81) (by first | exact jI_sub _ _ | rfl) ?_
                        refine zr_istore_n (lv' := [_, _, _, _, _, _, _]) dX7_draws_81 (rfl : 81 + 1 = 82) (Nat.le_of_ble_eq_true rfl) rfl ?_
                        refine zr_iinc (lv' := [_, _, _, _, _, _, _]) dX7_draws_82 (rfl : 82 + 3 = 85) (Nat.le_of_ble_eq_true rfl) rfl (by first | exact jI_add _ _ | rfl) rfl ?_
                        refine zr_goto (tgt := 24) dX7_draws_85 (by decide) ?_
                        refine hk _ _ _ ⟨by omega, ?_⟩
                        first | (split <;> omega) | (rw [hx]; split <;> split <;> omega))
                    · first
                      | (exfalso; omega)
                      | (
                        refine zr_iconst dX7_draws_75 (rfl : 75 + 1 = 76) ?_
                        refine zr_goto (tgt := 80) dX7_draws_76 (by decide) ?_
                        refine zr_isub dX7_draws_80 (rfl : 80 + 1 = 81) (by first | exact jI_sub _ _ | rfl) ?_
                        refine zr_istore_n (lv' := [_, _, _, _, _, _, _]) dX7_draws_81 (rfl : 81 + 1 = 82) (Nat.le_of_ble_eq_true rfl) rfl ?_
                        refine zr_iinc (lv' := [_, _, _, _, _, _, _]) dX7_draws_82 (rfl : 82 + 3 = 85) (Nat.le_of_ble_eq_true rfl) rfl (by first | exact jI_add _ _ | rfl) rfl ?_
                        refine zr_goto (tgt := 24) dX7_draws_85 (by decide) ?_
                        refine hk _ _ _ ⟨by omega, ?_⟩
                        first | (split <;> omega) | (rw [hx]; split <;> split <;> omega)))))
        · first
          | (exfalso; omega)
          | (
            refine zr_iconst dX7_draws_46 (rfl : 46 + 1 = 47) ?_
            refine zr_goto (tgt := 51) dX7_draws_47 (by decide) ?_
            refine zr_istore (lv' := [_, _, _, _, _, _, _]) dX7_draws_51 (rfl : 51 + 2 = 53) (Nat.le_of_ble_eq_true rfl) rfl ?_
            refine zr_iload dX7_draws_53 (rfl : 53 + 2 = 55) rfl ?_
            refine zr_if_eq (tgt := 67) dX7_draws_55 (by decide) (rfl : 55 + 3 = 58) (by first | exact jb_iff | exact jI_z (by first | omega | (simp only [bset, reduceIte, Nat.reduceEqDiff]; omega)) (by first | omega | (simp only [bset, reduceIte, Nat.reduceEqDiff]; omega))) (fun h55 => ?_) (fun h55 => ?_)
            · first
              | (exfalso; omega)
              | (
                refine zr_iload_n dX7_draws_67 (rfl : 67 + 1 = 68) rfl ?_
                refine zr_istore_n (lv' := [_, _, _, _, _, _, _]) dX7_draws_68 (rfl : 68 + 1 = 69) (Nat.le_of_ble_eq_true rfl) rfl ?_
                refine zr_iload_n dX7_draws_69 (rfl : 69 + 1 = 70) rfl ?_
                refine zr_iload dX7_draws_70 (rfl : 70 + 2 = 72) rfl ?_
                refine zr_if_eq (tgt := 79) dX7_draws_72 (by decide) (rfl : 72 + 3 = 75) (by first | exact jb_iff | exact jI_z (by first | omega | (simp only [bset, reduceIte, Nat.reduceEqDiff]; omega)) (by first | omega | (simp only [bset, reduceIte, Nat.reduceEqDiff]; omega))) (fun h72 => ?_) (fun h72 => ?_)
                · first
                  | (exfalso; omega)
                  | (
                    refine zr_iconst dX7_draws_79 (rfl : 79 + 1 = 80) ?_
                    refine zr_isub dX7_draws_80 (rfl : 80 + 1 = 81) (by first | exact jI_sub _ _ | rfl) ?_
                    refine zr_istore_n (lv' := [_, _, _, _, _, _, _]) dX7_draws_81 (rfl : 81 + 1 = 82) (Nat.le_of_ble_eq_true rfl) rfl ?_
                    refine zr_iinc (lv' := [_, _, _, _, _, _, _]) dX7_draws_82 (rfl : 82 + 3 = 85) (Nat.le_of_ble_eq_true rfl) rfl (by first | exact jI_add _ _ | rfl) rfl ?_
                    refine zr_goto (tgt := 24) dX7_draws_85 (by decide) ?_
                    refine hk _ _ _ ⟨by omega, ?_⟩
                    first | (split <;> omega) | (rw [hx]; split <;> split <;> omega))
                · first
                  | (exfalso; omega)
                  | (
                    refine zr_iconst dX7_draws_75 (rfl : 75 + 1 = 76) ?_
                    refine zr_goto (tgt := 80) dX7_draws_76 (by decide) ?_
                    refine zr_isub dX7_draws_80 (rfl : 80 + 1 = 81) (by first | exact jI_sub _ _ | rfl) ?_
                    refine zr_istore_n (lv' := [_, _, _, _, _, _, _]) dX7_draws_81 (rfl : 81 + 1 = 82) (Nat.le_of_ble_eq_true rfl) rfl ?_
                    refine zr_iinc (lv' := [_, _, _, _, _, _, _]) dX7_draws_82 (rfl : 82 + 3 = 85) (Nat.le_of_ble_eq_true rfl) rfl (by first | exact jI_add _ _ | rfl) rfl ?_
                    refine zr_goto (tgt := 24) dX7_draws_85 (by decide) ?_
                    refine hk _ _ _ ⟨by omega, ?_⟩
                    first | (split <;> omega) | (rw [hx]; split <;> split <;> omega)))
            · first
              | (exfalso; omega)
              | (
                refine zr_iload_n dX7_draws_58 (rfl : 58 + 1 = 59) rfl ?_
                refine zr_if_ne (tgt := 67) dX7_draws_59 (by decide) (rfl : 59 + 3 = 62) (by first | exact jb_iff | exact jI_z (by first | omega | (simp only [bset, reduceIte, Nat.reduceEqDiff]; omega)) (by first | omega | (simp only [bset, reduceIte, Nat.reduceEqDiff]; omega))) (fun h59 => ?_) (fun h59 => ?_)
                · first
                  | (exfalso; omega)
                  | (
                    refine zr_iload_n dX7_draws_67 (rfl : 67 + 1 = 68) rfl ?_
                    refine zr_istore_n (lv' := [_, _, _, _, _, _, _]) dX7_draws_68 (rfl : 68 + 1 = 69) (Nat.le_of_ble_eq_true rfl) rfl ?_
                    refine zr_iload_n dX7_draws_69 (rfl : 69 + 1 = 70) rfl ?_
                    refine zr_iload dX7_draws_70 (rfl : 70 + 2 = 72) rfl ?_
                    refine zr_if_eq (tgt := 79) dX7_draws_72 (by decide) (rfl : 72 + 3 = 75) (by first | exact jb_iff | exact jI_z (by first | omega | (simp only [bset, reduceIte, Nat.reduceEqDiff]; omega)) (by first | omega | (simp only [bset, reduceIte, Nat.reduceEqDiff]; omega))) (fun h72 => ?_) (fun h72 => ?_)
                    · first
                      | (exfalso; omega)
                      | (
                        refine zr_iconst dX7_draws_79 (rfl : 79 + 1 = 80) ?_
                        refine zr_isub dX7_draws_80 (rfl : 80 + 1 = 81) (by first | exact jI_sub _ _ | rfl) ?_
                        refine zr_istore_n (lv' := [_, _, _, _, _, _, _]) dX7_draws_81 (rfl : 81 + 1 = 82) (Nat.le_of_ble_eq_true rfl) rfl ?_
                        refine zr_iinc (lv' := [_, _, _, _, _, _, _]) dX7_draws_82 (rfl : 82 + 3 = 85) (Nat.le_of_ble_eq_true rfl) rfl (by first | exact jI_add _ _ | rfl) rfl ?_
                        refine zr_goto (tgt := 24) dX7_draws_85 (by decide) ?_
                        refine hk _ _ _ ⟨by omega, ?_⟩
                        first | (split <;> omega) | (rw [hx]; split <;> split <;> omega))
                    · first
                      | (exfalso; omega)
                      | (
                        refine zr_iconst dX7_draws_75 (rfl : 75 + 1 = 76) ?_
                        refine zr_goto (tgt := 80) dX7_draws_76 (by decide) ?_
                        refine zr_isub dX7_draws_80 (rfl : 80 + 1 = 81) (by first | exact jI_sub _ _ | rfl) ?_
                        refine zr_istore_n (lv' := [_, _, _, _, _, _, _]) dX7_draws_81 (rfl : 81 + 1 = 82) (Nat.le_of_ble_eq_true rfl) rfl ?_
                        refine zr_iinc (lv' := [_, _, _, _, _, _, _]) dX7_draws_82 (rfl : 82 + 3 = 85) (Nat.le_of_ble_eq_true rfl) rfl (by first | exact jI_add _ _ | rfl) rfl ?_
                        refine zr_goto (tgt := 24) dX7_draws_85 (by decide) ?_
                        refine hk _ _ _ ⟨by omega, ?_⟩
                        first | (split <;> omega) | (rw [hx]; split <;> split <;> omega)))
                · first
                  | (exfalso; omega)
                  | (
                    refine zr_iload dX7_draws_62 (rfl : 62 + 2 = 64) rfl ?_
                    refine zr_goto (tgt := 68) dX7_draws_64 (by decide) ?_
                    refine zr_istore_n (lv' := [_, _, _, _, _, _, _]) dX7_draws_68 (rfl : 68 + 1 = 69) (Nat.le_of_ble_eq_true rfl) rfl ?_
                    refine zr_iload_n dX7_draws_69 (rfl : 69 + 1 = 70) rfl ?_
                    refine zr_iload dX7_draws_70 (rfl : 70 + 2 = 72) rfl ?_
                    refine zr_if_eq (tgt := 79) dX7_draws_72 (by decide) (rfl : 72 + 3 = 75) (by first | exact jb_iff | exact jI_z (by first | omega | (simp only [bset, reduceIte, Nat.reduceEqDiff]; omega)) (by first | omega | (simp only [bset, reduceIte, Nat.reduceEqDiff]; omega))) (fun h72 => ?_) (fun h72 => ?_)
                    · first
                      | (exfalso; omega)
                      | (
                        refine zr_iconst dX7_draws_79 (rfl : 79 + 1 = 80) ?_
                        refine zr_isub dX7_draws_80 (rfl : 80 + 1 = 81) (by first | exact jI_sub _ _ | rfl) ?_
                        refine zr_istore_n (lv' := [_, _, _, _, _, _, _]) dX7_draws_81 (rfl : 81 + 1 = 82) (Nat.le_of_ble_eq_true rfl) rfl ?_
                        refine zr_iinc (lv' := [_, _, _, _, _, _, _]) dX7_draws_82 (rfl : 82 + 3 = 85) (Nat.le_of_ble_eq_true rfl) rfl (by first | exact jI_add _ _ | rfl) rfl ?_
                        refine zr_goto (tgt := 24) dX7_draws_85 (by decide) ?_
                        refine hk _ _ _ ⟨by omega, ?_⟩
                        first | (split <;> omega) | (rw [hx]; split <;> split <;> omega))
                    · first
                      | (exfalso; omega)
                      | (
                        refine zr_iconst dX7_draws_75 (rfl : 75 + 1 = 76) ?_
                        refine zr_goto (tgt := 80) dX7_draws_76 (by decide) ?_
                        refine zr_isub dX7_draws_80 (rfl : 80 + 1 = 81) (by first | exact jI_sub _ _ | rfl) ?_
                        refine zr_istore_n (lv' := [_, _, _, _, _, _, _]) dX7_draws_81 (rfl : 81 + 1 = 82) (Nat.le_of_ble_eq_true rfl) rfl ?_
                        refine zr_iinc (lv' := [_, _, _, _, _, _, _]) dX7_draws_82 (rfl : 82 + 3 = 85) (Nat.le_of_ble_eq_true rfl) rfl (by first | exact jI_add _ _ | rfl) rfl ?_
                        refine zr_goto (tgt := 24) dX7_draws_85 (by decide) ?_
                        refine hk _ _ _ ⟨by omega, ?_⟩
                        first | (split <;> omega) | (rw [hx]; split <;> split <;> omega))))))
  · intro l x o5 hI
    have e : jrk (jund B) ((1 : Int) + ((90 : Nat) : Int)) = jall (jund B) := rfl
    rw [e] at hI
    clear e
    have hx : x = jball B := by rw [hI.2, if_pos (by omega)]
    rw [hx]
    clear hI hx hall
    have fin : ∀ (said sl : Int) (o5 : Option Value), 1 ≤ said ∧ said ≤ 90 → (o5 = some (.int (jI sl))) → 0 ≤ sl ∧ sl ≤ 1 → jdr1 B = jtl (jdr0 B) (jball B) said sl → zRun Γ md_X7_draws (d + 1) none 172 [some (.ref 167), some (.int (jI b)), some (.int (jI l)), some (.int (jI (jball B))), some (.int (jI (B 12 0))), o5, some (.int (jI said))] [] (n9, g9, 0, 0) (mw (jup S15 (b + 457) (B 12 0 + 1)) st ik th tx ty w) (zPost md_X7_draws (zMP (some (.int (jI (jball B)))) (fun S' => jagb b S' S ∧ mr S' b (jdr1 B)) st ik th tx ty w) n9 g9) := by
      intro said sl o5 hsr ho hsl2 hj
      subst ho
      have hs8 := hsa said hsr.1 hsr.2
      refine zr_aload_n dX7_draws_172 (rfl : 172 + 1 = 173) rfl ?_
      refine zr_getf dX7_draws_173 (rfl : 173 + 3 = 176) f_X7_7 (by first | assumption | exact mw_167 | exact mw_168 | exact mw_169 | exact mw_170 | exact bk_0 | exact bk_1 | exact bk_2 | exact bk_3 | exact bk_4 | exact bk_5 | exact bk_6 | exact bk_7 | exact bk_8 | exact bk_9 | exact bk_10 | exact bk_11 | exact bk_12 | exact bk_13 | exact bk_14 | exact bk_15 | exact bk_16 | exact zup_self | exact (zup_ne (by first | assumption | omega)).trans (by first | assumption | exact zup_self) | exact (zup_ne (by first | assumption | omega)).trans ((zup_ne (by first | assumption | omega)).trans (by first | assumption | exact zup_self)) | exact (bk_out (by first | omega | (simp only [bset, reduceIte, Nat.reduceEqDiff]; omega))).trans (by first | exact bk_0 | exact bk_1 | exact bk_2 | exact bk_3 | exact bk_4 | exact bk_5 | exact bk_6 | exact bk_7 | exact bk_8 | exact bk_9 | exact bk_10 | exact bk_11 | exact bk_12 | exact bk_13 | exact bk_14 | exact bk_15 | exact bk_16 | exact cr_5 | exact cr_23 | exact cr_24 | exact cr_25 | exact cr_26 | exact cr_27 | exact cr_28 | exact cr_29 | exact cr_30 | assumption)) rfl ?_
      refine zr_iload_n dX7_draws_176 (rfl : 176 + 1 = 177) rfl ?_
      refine zr_bipush dX7_draws_177 (rfl : 177 + 2 = 179) (by decide) ?_
      refine zr_iadd dX7_draws_179 (rfl : 179 + 1 = 180) (by first | exact jI_add _ _ | rfl) ?_
      refine zr_iload_n dX7_draws_180 (rfl : 180 + 1 = 181) rfl ?_
      refine zr_iadd dX7_draws_181 (rfl : 181 + 1 = 182) (by first | exact jI_add _ _ | rfl) ?_
      refine zr_iload dX7_draws_182 (rfl : 182 + 2 = 184) rfl ?_
      refine zr_iconst dX7_draws_184 (rfl : 184 + 1 = 185) ?_
      refine zr_iadd dX7_draws_185 (rfl : 185 + 1 = 186) (by first | exact jI_add _ _ | rfl) ?_
      refine zr_iast dX7_draws_186 (rfl : 186 + 1 = 187) (by first | assumption | exact mw_167 | exact mw_168 | exact mw_169 | exact mw_170 | exact bk_0 | exact bk_1 | exact bk_2 | exact bk_3 | exact bk_4 | exact bk_5 | exact bk_6 | exact bk_7 | exact bk_8 | exact bk_9 | exact bk_10 | exact bk_11 | exact bk_12 | exact bk_13 | exact bk_14 | exact bk_15 | exact bk_16 | exact zup_self | exact (zup_ne (by first | assumption | omega)).trans (by first | assumption | exact zup_self) | exact (zup_ne (by first | assumption | omega)).trans ((zup_ne (by first | assumption | omega)).trans (by first | assumption | exact zup_self)) | exact (bk_out (by first | omega | (simp only [bset, reduceIte, Nat.reduceEqDiff]; omega))).trans (by first | exact bk_0 | exact bk_1 | exact bk_2 | exact bk_3 | exact bk_4 | exact bk_5 | exact bk_6 | exact bk_7 | exact bk_8 | exact bk_9 | exact bk_10 | exact bk_11 | exact bk_12 | exact bk_13 | exact bk_14 | exact bk_15 | exact bk_16 | exact cr_5 | exact cr_23 | exact cr_24 | exact cr_25 | exact cr_26 | exact cr_27 | exact cr_28 | exact cr_29 | exact cr_30 | assumption)) (by decide) (by first | omega | (simp only [bset, reduceIte, Nat.reduceEqDiff]; omega)) (by first | omega | (simp only [bset, reduceIte, Nat.reduceEqDiff]; omega)) rfl ?_
      rw [mwu_S]
      refine zr_aload_n dX7_draws_187 (rfl : 187 + 1 = 188) rfl ?_
      refine zr_getf dX7_draws_188 (rfl : 188 + 3 = 191) f_X7_7 (by first | assumption | exact mw_167 | exact mw_168 | exact mw_169 | exact mw_170 | exact bk_0 | exact bk_1 | exact bk_2 | exact bk_3 | exact bk_4 | exact bk_5 | exact bk_6 | exact bk_7 | exact bk_8 | exact bk_9 | exact bk_10 | exact bk_11 | exact bk_12 | exact bk_13 | exact bk_14 | exact bk_15 | exact bk_16 | exact zup_self | exact (zup_ne (by first | assumption | omega)).trans (by first | assumption | exact zup_self) | exact (zup_ne (by first | assumption | omega)).trans ((zup_ne (by first | assumption | omega)).trans (by first | assumption | exact zup_self)) | exact (bk_out (by first | omega | (simp only [bset, reduceIte, Nat.reduceEqDiff]; omega))).trans (by first | exact bk_0 | exact bk_1 | exact bk_2 | exact bk_3 | exact bk_4 | exact bk_5 | exact bk_6 | exact bk_7 | exact bk_8 | exact bk_9 | exact bk_10 | exact bk_11 | exact bk_12 | exact bk_13 | exact bk_14 | exact bk_15 | exact bk_16 | exact cr_5 | exact cr_23 | exact cr_24 | exact cr_25 | exact cr_26 | exact cr_27 | exact cr_28 | exact cr_29 | exact cr_30 | assumption)) rfl ?_
      refine zr_iload_n dX7_draws_191 (rfl : 191 + 1 = 192) rfl ?_
      refine zr_sipush dX7_draws_192 (rfl : 192 + 3 = 195) (by decide) ?_
      refine zr_iadd dX7_draws_195 (rfl : 195 + 1 = 196) (by first | exact jI_add _ _ | rfl) ?_
      refine zr_iload dX7_draws_196 (rfl : 196 + 2 = 198) rfl ?_
      refine zr_iadd dX7_draws_198 (rfl : 198 + 1 = 199) (by first | exact jI_add _ _ | rfl) ?_
      refine zr_dup2 dX7_draws_199 (rfl : 199 + 1 = 200) rfl rfl ?_
      refine zr_iald dX7_draws_200 (rfl : 200 + 1 = 201) (by first | assumption | exact mw_167 | exact mw_168 | exact mw_169 | exact mw_170 | exact bk_0 | exact bk_1 | exact bk_2 | exact bk_3 | exact bk_4 | exact bk_5 | exact bk_6 | exact bk_7 | exact bk_8 | exact bk_9 | exact bk_10 | exact bk_11 | exact bk_12 | exact bk_13 | exact bk_14 | exact bk_15 | exact bk_16 | exact zup_self | exact (zup_ne (by first | assumption | omega)).trans (by first | assumption | exact zup_self) | exact (zup_ne (by first | assumption | omega)).trans ((zup_ne (by first | assumption | omega)).trans (by first | assumption | exact zup_self)) | exact (bk_out (by first | omega | (simp only [bset, reduceIte, Nat.reduceEqDiff]; omega))).trans (by first | exact bk_0 | exact bk_1 | exact bk_2 | exact bk_3 | exact bk_4 | exact bk_5 | exact bk_6 | exact bk_7 | exact bk_8 | exact bk_9 | exact bk_10 | exact bk_11 | exact bk_12 | exact bk_13 | exact bk_14 | exact bk_15 | exact bk_16 | exact cr_5 | exact cr_23 | exact cr_24 | exact cr_25 | exact cr_26 | exact cr_27 | exact cr_28 | exact cr_29 | exact cr_30 | assumption)) (by decide) (by first | omega | (simp only [bset, reduceIte, Nat.reduceEqDiff]; omega)) (by first | omega | (simp only [bset, reduceIte, Nat.reduceEqDiff]; omega)) ?_
      rw [jup_ne (by omega), jup_ne (by omega), hs8]
      refine zr_iconst dX7_draws_201 (rfl : 201 + 1 = 202) ?_
      refine zr_iadd dX7_draws_202 (rfl : 202 + 1 = 203) (by first | exact jI_add _ _ | rfl) ?_
      refine zr_iast dX7_draws_203 (rfl : 203 + 1 = 204) (by first | assumption | exact mw_167 | exact mw_168 | exact mw_169 | exact mw_170 | exact bk_0 | exact bk_1 | exact bk_2 | exact bk_3 | exact bk_4 | exact bk_5 | exact bk_6 | exact bk_7 | exact bk_8 | exact bk_9 | exact bk_10 | exact bk_11 | exact bk_12 | exact bk_13 | exact bk_14 | exact bk_15 | exact bk_16 | exact zup_self | exact (zup_ne (by first | assumption | omega)).trans (by first | assumption | exact zup_self) | exact (zup_ne (by first | assumption | omega)).trans ((zup_ne (by first | assumption | omega)).trans (by first | assumption | exact zup_self)) | exact (bk_out (by first | omega | (simp only [bset, reduceIte, Nat.reduceEqDiff]; omega))).trans (by first | exact bk_0 | exact bk_1 | exact bk_2 | exact bk_3 | exact bk_4 | exact bk_5 | exact bk_6 | exact bk_7 | exact bk_8 | exact bk_9 | exact bk_10 | exact bk_11 | exact bk_12 | exact bk_13 | exact bk_14 | exact bk_15 | exact bk_16 | exact cr_5 | exact cr_23 | exact cr_24 | exact cr_25 | exact cr_26 | exact cr_27 | exact cr_28 | exact cr_29 | exact cr_30 | assumption)) (by decide) (by first | omega | (simp only [bset, reduceIte, Nat.reduceEqDiff]; omega)) (by first | omega | (simp only [bset, reduceIte, Nat.reduceEqDiff]; omega)) rfl ?_
      rw [mwu_S]
      refine zr_aload_n dX7_draws_204 (rfl : 204 + 1 = 205) rfl ?_
      refine zr_getf dX7_draws_205 (rfl : 205 + 3 = 208) f_X7_7 (by first | assumption | exact mw_167 | exact mw_168 | exact mw_169 | exact mw_170 | exact bk_0 | exact bk_1 | exact bk_2 | exact bk_3 | exact bk_4 | exact bk_5 | exact bk_6 | exact bk_7 | exact bk_8 | exact bk_9 | exact bk_10 | exact bk_11 | exact bk_12 | exact bk_13 | exact bk_14 | exact bk_15 | exact bk_16 | exact zup_self | exact (zup_ne (by first | assumption | omega)).trans (by first | assumption | exact zup_self) | exact (zup_ne (by first | assumption | omega)).trans ((zup_ne (by first | assumption | omega)).trans (by first | assumption | exact zup_self)) | exact (bk_out (by first | omega | (simp only [bset, reduceIte, Nat.reduceEqDiff]; omega))).trans (by first | exact bk_0 | exact bk_1 | exact bk_2 | exact bk_3 | exact bk_4 | exact bk_5 | exact bk_6 | exact bk_7 | exact bk_8 | exact bk_9 | exact bk_10 | exact bk_11 | exact bk_12 | exact bk_13 | exact bk_14 | exact bk_15 | exact bk_16 | exact cr_5 | exact cr_23 | exact cr_24 | exact cr_25 | exact cr_26 | exact cr_27 | exact cr_28 | exact cr_29 | exact cr_30 | assumption)) rfl ?_
      refine zr_iload_n dX7_draws_208 (rfl : 208 + 1 = 209) rfl ?_
      refine zr_sipush dX7_draws_209 (rfl : 209 + 3 = 212) (by decide) ?_
      refine zr_iadd dX7_draws_212 (rfl : 212 + 1 = 213) (by first | exact jI_add _ _ | rfl) ?_
      refine zr_iload dX7_draws_213 (rfl : 213 + 2 = 215) rfl ?_
      refine zr_iadd dX7_draws_215 (rfl : 215 + 1 = 216) (by first | exact jI_add _ _ | rfl) ?_
      refine zr_iload_n dX7_draws_216 (rfl : 216 + 1 = 217) rfl ?_
      refine zr_iast dX7_draws_217 (rfl : 217 + 1 = 218) (by first | assumption | exact mw_167 | exact mw_168 | exact mw_169 | exact mw_170 | exact bk_0 | exact bk_1 | exact bk_2 | exact bk_3 | exact bk_4 | exact bk_5 | exact bk_6 | exact bk_7 | exact bk_8 | exact bk_9 | exact bk_10 | exact bk_11 | exact bk_12 | exact bk_13 | exact bk_14 | exact bk_15 | exact bk_16 | exact zup_self | exact (zup_ne (by first | assumption | omega)).trans (by first | assumption | exact zup_self) | exact (zup_ne (by first | assumption | omega)).trans ((zup_ne (by first | assumption | omega)).trans (by first | assumption | exact zup_self)) | exact (bk_out (by first | omega | (simp only [bset, reduceIte, Nat.reduceEqDiff]; omega))).trans (by first | exact bk_0 | exact bk_1 | exact bk_2 | exact bk_3 | exact bk_4 | exact bk_5 | exact bk_6 | exact bk_7 | exact bk_8 | exact bk_9 | exact bk_10 | exact bk_11 | exact bk_12 | exact bk_13 | exact bk_14 | exact bk_15 | exact bk_16 | exact cr_5 | exact cr_23 | exact cr_24 | exact cr_25 | exact cr_26 | exact cr_27 | exact cr_28 | exact cr_29 | exact cr_30 | assumption)) (by decide) (by first | omega | (simp only [bset, reduceIte, Nat.reduceEqDiff]; omega)) (by first | omega | (simp only [bset, reduceIte, Nat.reduceEqDiff]; omega)) rfl ?_
      rw [mwu_S]
      refine zr_aload_n dX7_draws_218 (rfl : 218 + 1 = 219) rfl ?_
      refine zr_getf dX7_draws_219 (rfl : 219 + 3 = 222) f_X7_7 (by first | assumption | exact mw_167 | exact mw_168 | exact mw_169 | exact mw_170 | exact bk_0 | exact bk_1 | exact bk_2 | exact bk_3 | exact bk_4 | exact bk_5 | exact bk_6 | exact bk_7 | exact bk_8 | exact bk_9 | exact bk_10 | exact bk_11 | exact bk_12 | exact bk_13 | exact bk_14 | exact bk_15 | exact bk_16 | exact zup_self | exact (zup_ne (by first | assumption | omega)).trans (by first | assumption | exact zup_self) | exact (zup_ne (by first | assumption | omega)).trans ((zup_ne (by first | assumption | omega)).trans (by first | assumption | exact zup_self)) | exact (bk_out (by first | omega | (simp only [bset, reduceIte, Nat.reduceEqDiff]; omega))).trans (by first | exact bk_0 | exact bk_1 | exact bk_2 | exact bk_3 | exact bk_4 | exact bk_5 | exact bk_6 | exact bk_7 | exact bk_8 | exact bk_9 | exact bk_10 | exact bk_11 | exact bk_12 | exact bk_13 | exact bk_14 | exact bk_15 | exact bk_16 | exact cr_5 | exact cr_23 | exact cr_24 | exact cr_25 | exact cr_26 | exact cr_27 | exact cr_28 | exact cr_29 | exact cr_30 | assumption)) rfl ?_
      refine zr_iload_n dX7_draws_222 (rfl : 222 + 1 = 223) rfl ?_
      refine zr_sipush dX7_draws_223 (rfl : 223 + 3 = 226) (by decide) ?_
      refine zr_iadd dX7_draws_226 (rfl : 226 + 1 = 227) (by first | exact jI_add _ _ | rfl) ?_
      refine zr_iload dX7_draws_227 (rfl : 227 + 2 = 229) rfl ?_
      refine zr_iadd dX7_draws_229 (rfl : 229 + 1 = 230) (by first | exact jI_add _ _ | rfl) ?_
      refine zr_iload dX7_draws_230 (rfl : 230 + 2 = 232) rfl ?_
      refine zr_iast dX7_draws_232 (rfl : 232 + 1 = 233) (by first | assumption | exact mw_167 | exact mw_168 | exact mw_169 | exact mw_170 | exact bk_0 | exact bk_1 | exact bk_2 | exact bk_3 | exact bk_4 | exact bk_5 | exact bk_6 | exact bk_7 | exact bk_8 | exact bk_9 | exact bk_10 | exact bk_11 | exact bk_12 | exact bk_13 | exact bk_14 | exact bk_15 | exact bk_16 | exact zup_self | exact (zup_ne (by first | assumption | omega)).trans (by first | assumption | exact zup_self) | exact (zup_ne (by first | assumption | omega)).trans ((zup_ne (by first | assumption | omega)).trans (by first | assumption | exact zup_self)) | exact (bk_out (by first | omega | (simp only [bset, reduceIte, Nat.reduceEqDiff]; omega))).trans (by first | exact bk_0 | exact bk_1 | exact bk_2 | exact bk_3 | exact bk_4 | exact bk_5 | exact bk_6 | exact bk_7 | exact bk_8 | exact bk_9 | exact bk_10 | exact bk_11 | exact bk_12 | exact bk_13 | exact bk_14 | exact bk_15 | exact bk_16 | exact cr_5 | exact cr_23 | exact cr_24 | exact cr_25 | exact cr_26 | exact cr_27 | exact cr_28 | exact cr_29 | exact cr_30 | assumption)) (by decide) (by first | omega | (simp only [bset, reduceIte, Nat.reduceEqDiff]; omega)) (by first | omega | (simp only [bset, reduceIte, Nat.reduceEqDiff]; omega)) rfl ?_
      rw [mwu_S]
      refine zr_aload_n dX7_draws_233 (rfl : 233 + 1 = 234) rfl ?_
      refine zr_getf dX7_draws_234 (rfl : 234 + 3 = 237) f_X7_7 (by first | assumption | exact mw_167 | exact mw_168 | exact mw_169 | exact mw_170 | exact bk_0 | exact bk_1 | exact bk_2 | exact bk_3 | exact bk_4 | exact bk_5 | exact bk_6 | exact bk_7 | exact bk_8 | exact bk_9 | exact bk_10 | exact bk_11 | exact bk_12 | exact bk_13 | exact bk_14 | exact bk_15 | exact bk_16 | exact zup_self | exact (zup_ne (by first | assumption | omega)).trans (by first | assumption | exact zup_self) | exact (zup_ne (by first | assumption | omega)).trans ((zup_ne (by first | assumption | omega)).trans (by first | assumption | exact zup_self)) | exact (bk_out (by first | omega | (simp only [bset, reduceIte, Nat.reduceEqDiff]; omega))).trans (by first | exact bk_0 | exact bk_1 | exact bk_2 | exact bk_3 | exact bk_4 | exact bk_5 | exact bk_6 | exact bk_7 | exact bk_8 | exact bk_9 | exact bk_10 | exact bk_11 | exact bk_12 | exact bk_13 | exact bk_14 | exact bk_15 | exact bk_16 | exact cr_5 | exact cr_23 | exact cr_24 | exact cr_25 | exact cr_26 | exact cr_27 | exact cr_28 | exact cr_29 | exact cr_30 | assumption)) rfl ?_
      refine zr_iload_n dX7_draws_237 (rfl : 237 + 1 = 238) rfl ?_
      refine zr_sipush dX7_draws_238 (rfl : 238 + 3 = 241) (by decide) ?_
      refine zr_iadd dX7_draws_241 (rfl : 241 + 1 = 242) (by first | exact jI_add _ _ | rfl) ?_
      refine zr_dup2 dX7_draws_242 (rfl : 242 + 1 = 243) rfl rfl ?_
      refine zr_iald dX7_draws_243 (rfl : 243 + 1 = 244) (by first | assumption | exact mw_167 | exact mw_168 | exact mw_169 | exact mw_170 | exact bk_0 | exact bk_1 | exact bk_2 | exact bk_3 | exact bk_4 | exact bk_5 | exact bk_6 | exact bk_7 | exact bk_8 | exact bk_9 | exact bk_10 | exact bk_11 | exact bk_12 | exact bk_13 | exact bk_14 | exact bk_15 | exact bk_16 | exact zup_self | exact (zup_ne (by first | assumption | omega)).trans (by first | assumption | exact zup_self) | exact (zup_ne (by first | assumption | omega)).trans ((zup_ne (by first | assumption | omega)).trans (by first | assumption | exact zup_self)) | exact (bk_out (by first | omega | (simp only [bset, reduceIte, Nat.reduceEqDiff]; omega))).trans (by first | exact bk_0 | exact bk_1 | exact bk_2 | exact bk_3 | exact bk_4 | exact bk_5 | exact bk_6 | exact bk_7 | exact bk_8 | exact bk_9 | exact bk_10 | exact bk_11 | exact bk_12 | exact bk_13 | exact bk_14 | exact bk_15 | exact bk_16 | exact cr_5 | exact cr_23 | exact cr_24 | exact cr_25 | exact cr_26 | exact cr_27 | exact cr_28 | exact cr_29 | exact cr_30 | assumption)) (by decide) (by first | omega | (simp only [bset, reduceIte, Nat.reduceEqDiff]; omega)) (by first | omega | (simp only [bset, reduceIte, Nat.reduceEqDiff]; omega)) ?_
      rw [jup_ne (by omega), jup_ne (by omega), jup_ne (by omega), jup_ne (by omega), jup_ne (by omega), hsl]
      have last : ∀ s2 : Int, s2 = sl → zRun Γ md_X7_draws (d + 1) none 254 [some (.ref 167), some (.int (jI b)), some (.int (jI l)), some (.int (jI (jball B))), some (.int (jI (B 12 0))), some (.int (jI sl)), some (.int (jI said))] [.int (jI s2), .int (jI (B 13 0)), .int (jI (b + 493)), .ref 168] (n9, g9, 0, 0) (mw (jup (jup (jup (jup (jup S15 (b + 457) (B 12 0 + 1)) (b + 95 + jball B) (B 12 0 + 1)) (b + 186 + said) (B 8 said + 1)) (b + 277 + B 12 0) (jball B)) (b + 367 + B 12 0) said) st ik th tx ty w) (zPost md_X7_draws (zMP (some (.int (jI (jball B)))) (fun S' => jagb b S' S ∧ mr S' b (jdr1 B)) st ik th tx ty w) n9 g9) := by
        intro s2 hs2
        rw [hs2]
        refine zr_iadd dX7_draws_254 (rfl : 254 + 1 = 255) (by first | exact jI_add _ _ | rfl) ?_
        refine zr_iast dX7_draws_255 (rfl : 255 + 1 = 256) (by first | assumption | exact mw_167 | exact mw_168 | exact mw_169 | exact mw_170 | exact bk_0 | exact bk_1 | exact bk_2 | exact bk_3 | exact bk_4 | exact bk_5 | exact bk_6 | exact bk_7 | exact bk_8 | exact bk_9 | exact bk_10 | exact bk_11 | exact bk_12 | exact bk_13 | exact bk_14 | exact bk_15 | exact bk_16 | exact zup_self | exact (zup_ne (by first | assumption | omega)).trans (by first | assumption | exact zup_self) | exact (zup_ne (by first | assumption | omega)).trans ((zup_ne (by first | assumption | omega)).trans (by first | assumption | exact zup_self)) | exact (bk_out (by first | omega | (simp only [bset, reduceIte, Nat.reduceEqDiff]; omega))).trans (by first | exact bk_0 | exact bk_1 | exact bk_2 | exact bk_3 | exact bk_4 | exact bk_5 | exact bk_6 | exact bk_7 | exact bk_8 | exact bk_9 | exact bk_10 | exact bk_11 | exact bk_12 | exact bk_13 | exact bk_14 | exact bk_15 | exact bk_16 | exact cr_5 | exact cr_23 | exact cr_24 | exact cr_25 | exact cr_26 | exact cr_27 | exact cr_28 | exact cr_29 | exact cr_30 | assumption)) (by decide) (by first | omega | (simp only [bset, reduceIte, Nat.reduceEqDiff]; omega)) (by first | omega | (simp only [bset, reduceIte, Nat.reduceEqDiff]; omega)) rfl ?_
        rw [mwu_S]
        refine zr_iload_n dX7_draws_256 (rfl : 256 + 1 = 257) rfl ?_
        refine zr_ireE dX7_draws_257 rfl rfl ?_
        refine ⟨rfl, jdrS S15 b (B 12 0) (jball B) said (B 8 said) sl (B 13 0), ⟨(jag_drS ⟨hco.1, hca⟩ ⟨b1, b2⟩ hsr).trans ag, ?_⟩, rfl⟩
        rw [hj]
        exact mr_dr hm ⟨hco.1, hca⟩ ⟨b1, b2⟩ hsr rfl
      refine zr_iload dX7_draws_244 (rfl : 244 + 2 = 246) rfl ?_
      refine zr_if_eq (tgt := 253) dX7_draws_246 (by decide) (rfl : 246 + 3 = 249) (by first | exact jb_iff | exact jI_z (by first | omega | (simp only [bset, reduceIte, Nat.reduceEqDiff]; omega)) (by first | omega | (simp only [bset, reduceIte, Nat.reduceEqDiff]; omega))) (fun h246 => ?_) (fun h246 => ?_)
      · refine zr_iconst dX7_draws_253 (rfl : 253 + 1 = 254) ?_
        exact last 0 (by omega)
      · refine zr_iconst dX7_draws_249 (rfl : 249 + 1 = 250) ?_
        refine zr_goto (tgt := 254) dX7_draws_250 (by decide) ?_
        exact last 1 (by omega)
    refine zr_iload dX7_draws_24 (rfl : 24 + 2 = 26) rfl ?_
    refine zr_bipush dX7_draws_26 (rfl : 26 + 2 = 28) (by decide) ?_
    refine zr_icmp_gt (tgt := 88) dX7_draws_28 (by decide) (rfl : 28 + 3 = 31) (jI_lt (by first | omega | (simp only [bset, reduceIte, Nat.reduceEqDiff]; omega)) (by first | omega | (simp only [bset, reduceIte, Nat.reduceEqDiff]; omega)) (by first | omega | (simp only [bset, reduceIte, Nat.reduceEqDiff]; omega)) (by first | omega | (simp only [bset, reduceIte, Nat.reduceEqDiff]; omega))) (fun h28 => ?_) (fun h28 => ?_)
    · refine zr_aload_n dX7_draws_88 (rfl : 88 + 1 = 89) rfl ?_
      refine zr_getf dX7_draws_89 (rfl : 89 + 3 = 92) f_X7_7 (by first | assumption | exact mw_167 | exact mw_168 | exact mw_169 | exact mw_170 | exact bk_0 | exact bk_1 | exact bk_2 | exact bk_3 | exact bk_4 | exact bk_5 | exact bk_6 | exact bk_7 | exact bk_8 | exact bk_9 | exact bk_10 | exact bk_11 | exact bk_12 | exact bk_13 | exact bk_14 | exact bk_15 | exact bk_16 | exact zup_self | exact (zup_ne (by first | assumption | omega)).trans (by first | assumption | exact zup_self) | exact (zup_ne (by first | assumption | omega)).trans ((zup_ne (by first | assumption | omega)).trans (by first | assumption | exact zup_self)) | exact (bk_out (by first | omega | (simp only [bset, reduceIte, Nat.reduceEqDiff]; omega))).trans (by first | exact bk_0 | exact bk_1 | exact bk_2 | exact bk_3 | exact bk_4 | exact bk_5 | exact bk_6 | exact bk_7 | exact bk_8 | exact bk_9 | exact bk_10 | exact bk_11 | exact bk_12 | exact bk_13 | exact bk_14 | exact bk_15 | exact bk_16 | exact cr_5 | exact cr_23 | exact cr_24 | exact cr_25 | exact cr_26 | exact cr_27 | exact cr_28 | exact cr_29 | exact cr_30 | assumption)) rfl ?_
      refine zr_iload_n dX7_draws_92 (rfl : 92 + 1 = 93) rfl ?_
      refine zr_sipush dX7_draws_93 (rfl : 93 + 3 = 96) (by decide) ?_
      refine zr_iadd dX7_draws_96 (rfl : 96 + 1 = 97) (by first | exact jI_add _ _ | rfl) ?_
      refine zr_iald dX7_draws_97 (rfl : 97 + 1 = 98) (by first | assumption | exact mw_167 | exact mw_168 | exact mw_169 | exact mw_170 | exact bk_0 | exact bk_1 | exact bk_2 | exact bk_3 | exact bk_4 | exact bk_5 | exact bk_6 | exact bk_7 | exact bk_8 | exact bk_9 | exact bk_10 | exact bk_11 | exact bk_12 | exact bk_13 | exact bk_14 | exact bk_15 | exact bk_16 | exact zup_self | exact (zup_ne (by first | assumption | omega)).trans (by first | assumption | exact zup_self) | exact (zup_ne (by first | assumption | omega)).trans ((zup_ne (by first | assumption | omega)).trans (by first | assumption | exact zup_self)) | exact (bk_out (by first | omega | (simp only [bset, reduceIte, Nat.reduceEqDiff]; omega))).trans (by first | exact bk_0 | exact bk_1 | exact bk_2 | exact bk_3 | exact bk_4 | exact bk_5 | exact bk_6 | exact bk_7 | exact bk_8 | exact bk_9 | exact bk_10 | exact bk_11 | exact bk_12 | exact bk_13 | exact bk_14 | exact bk_15 | exact bk_16 | exact cr_5 | exact cr_23 | exact cr_24 | exact cr_25 | exact cr_26 | exact cr_27 | exact cr_28 | exact cr_29 | exact cr_30 | assumption)) (by decide) (by first | omega | (simp only [bset, reduceIte, Nat.reduceEqDiff]; omega)) (by first | omega | (simp only [bset, reduceIte, Nat.reduceEqDiff]; omega)) ?_
      rw [hc1]
      refine zr_istore (lv' := [_, _, _, _, _, _, _]) dX7_draws_98 (rfl : 98 + 2 = 100) (Nat.le_of_ble_eq_true rfl) rfl ?_
      refine zr_aload_n dX7_draws_100 (rfl : 100 + 1 = 101) rfl ?_
      refine zr_getf dX7_draws_101 (rfl : 101 + 3 = 104) f_X7_7 (by first | assumption | exact mw_167 | exact mw_168 | exact mw_169 | exact mw_170 | exact bk_0 | exact bk_1 | exact bk_2 | exact bk_3 | exact bk_4 | exact bk_5 | exact bk_6 | exact bk_7 | exact bk_8 | exact bk_9 | exact bk_10 | exact bk_11 | exact bk_12 | exact bk_13 | exact bk_14 | exact bk_15 | exact bk_16 | exact zup_self | exact (zup_ne (by first | assumption | omega)).trans (by first | assumption | exact zup_self) | exact (zup_ne (by first | assumption | omega)).trans ((zup_ne (by first | assumption | omega)).trans (by first | assumption | exact zup_self)) | exact (bk_out (by first | omega | (simp only [bset, reduceIte, Nat.reduceEqDiff]; omega))).trans (by first | exact bk_0 | exact bk_1 | exact bk_2 | exact bk_3 | exact bk_4 | exact bk_5 | exact bk_6 | exact bk_7 | exact bk_8 | exact bk_9 | exact bk_10 | exact bk_11 | exact bk_12 | exact bk_13 | exact bk_14 | exact bk_15 | exact bk_16 | exact cr_5 | exact cr_23 | exact cr_24 | exact cr_25 | exact cr_26 | exact cr_27 | exact cr_28 | exact cr_29 | exact cr_30 | assumption)) rfl ?_
      refine zr_iload_n dX7_draws_104 (rfl : 104 + 1 = 105) rfl ?_
      refine zr_sipush dX7_draws_105 (rfl : 105 + 3 = 108) (by decide) ?_
      refine zr_iadd dX7_draws_108 (rfl : 108 + 1 = 109) (by first | exact jI_add _ _ | rfl) ?_
      refine zr_dup2 dX7_draws_109 (rfl : 109 + 1 = 110) rfl rfl ?_
      refine zr_iald dX7_draws_110 (rfl : 110 + 1 = 111) (by first | assumption | exact mw_167 | exact mw_168 | exact mw_169 | exact mw_170 | exact bk_0 | exact bk_1 | exact bk_2 | exact bk_3 | exact bk_4 | exact bk_5 | exact bk_6 | exact bk_7 | exact bk_8 | exact bk_9 | exact bk_10 | exact bk_11 | exact bk_12 | exact bk_13 | exact bk_14 | exact bk_15 | exact bk_16 | exact zup_self | exact (zup_ne (by first | assumption | omega)).trans (by first | assumption | exact zup_self) | exact (zup_ne (by first | assumption | omega)).trans ((zup_ne (by first | assumption | omega)).trans (by first | assumption | exact zup_self)) | exact (bk_out (by first | omega | (simp only [bset, reduceIte, Nat.reduceEqDiff]; omega))).trans (by first | exact bk_0 | exact bk_1 | exact bk_2 | exact bk_3 | exact bk_4 | exact bk_5 | exact bk_6 | exact bk_7 | exact bk_8 | exact bk_9 | exact bk_10 | exact bk_11 | exact bk_12 | exact bk_13 | exact bk_14 | exact bk_15 | exact bk_16 | exact cr_5 | exact cr_23 | exact cr_24 | exact cr_25 | exact cr_26 | exact cr_27 | exact cr_28 | exact cr_29 | exact cr_30 | assumption)) (by decide) (by first | omega | (simp only [bset, reduceIte, Nat.reduceEqDiff]; omega)) (by first | omega | (simp only [bset, reduceIte, Nat.reduceEqDiff]; omega)) ?_
      rw [hc1]
      refine zr_iconst dX7_draws_111 (rfl : 111 + 1 = 112) ?_
      refine zr_iadd dX7_draws_112 (rfl : 112 + 1 = 113) (by first | exact jI_add _ _ | rfl) ?_
      refine zr_iast dX7_draws_113 (rfl : 113 + 1 = 114) (by first | assumption | exact mw_167 | exact mw_168 | exact mw_169 | exact mw_170 | exact bk_0 | exact bk_1 | exact bk_2 | exact bk_3 | exact bk_4 | exact bk_5 | exact bk_6 | exact bk_7 | exact bk_8 | exact bk_9 | exact bk_10 | exact bk_11 | exact bk_12 | exact bk_13 | exact bk_14 | exact bk_15 | exact bk_16 | exact zup_self | exact (zup_ne (by first | assumption | omega)).trans (by first | assumption | exact zup_self) | exact (zup_ne (by first | assumption | omega)).trans ((zup_ne (by first | assumption | omega)).trans (by first | assumption | exact zup_self)) | exact (bk_out (by first | omega | (simp only [bset, reduceIte, Nat.reduceEqDiff]; omega))).trans (by first | exact bk_0 | exact bk_1 | exact bk_2 | exact bk_3 | exact bk_4 | exact bk_5 | exact bk_6 | exact bk_7 | exact bk_8 | exact bk_9 | exact bk_10 | exact bk_11 | exact bk_12 | exact bk_13 | exact bk_14 | exact bk_15 | exact bk_16 | exact cr_5 | exact cr_23 | exact cr_24 | exact cr_25 | exact cr_26 | exact cr_27 | exact cr_28 | exact cr_29 | exact cr_30 | assumption)) (by decide) (by first | omega | (simp only [bset, reduceIte, Nat.reduceEqDiff]; omega)) (by first | omega | (simp only [bset, reduceIte, Nat.reduceEqDiff]; omega)) rfl ?_
      rw [mwu_S]
      refine zr_aload_n dX7_draws_114 (rfl : 114 + 1 = 115) rfl ?_
      refine zr_getf dX7_draws_115 (rfl : 115 + 3 = 118) f_X7_7 (by first | assumption | exact mw_167 | exact mw_168 | exact mw_169 | exact mw_170 | exact bk_0 | exact bk_1 | exact bk_2 | exact bk_3 | exact bk_4 | exact bk_5 | exact bk_6 | exact bk_7 | exact bk_8 | exact bk_9 | exact bk_10 | exact bk_11 | exact bk_12 | exact bk_13 | exact bk_14 | exact bk_15 | exact bk_16 | exact zup_self | exact (zup_ne (by first | assumption | omega)).trans (by first | assumption | exact zup_self) | exact (zup_ne (by first | assumption | omega)).trans ((zup_ne (by first | assumption | omega)).trans (by first | assumption | exact zup_self)) | exact (bk_out (by first | omega | (simp only [bset, reduceIte, Nat.reduceEqDiff]; omega))).trans (by first | exact bk_0 | exact bk_1 | exact bk_2 | exact bk_3 | exact bk_4 | exact bk_5 | exact bk_6 | exact bk_7 | exact bk_8 | exact bk_9 | exact bk_10 | exact bk_11 | exact bk_12 | exact bk_13 | exact bk_14 | exact bk_15 | exact bk_16 | exact cr_5 | exact cr_23 | exact cr_24 | exact cr_25 | exact cr_26 | exact cr_27 | exact cr_28 | exact cr_29 | exact cr_30 | assumption)) rfl ?_
      refine zr_iload_n dX7_draws_118 (rfl : 118 + 1 = 119) rfl ?_
      refine zr_iconst dX7_draws_119 (rfl : 119 + 1 = 120) ?_
      refine zr_iadd dX7_draws_120 (rfl : 120 + 1 = 121) (by first | exact jI_add _ _ | rfl) ?_
      refine zr_iald dX7_draws_121 (rfl : 121 + 1 = 122) (by first | assumption | exact mw_167 | exact mw_168 | exact mw_169 | exact mw_170 | exact bk_0 | exact bk_1 | exact bk_2 | exact bk_3 | exact bk_4 | exact bk_5 | exact bk_6 | exact bk_7 | exact bk_8 | exact bk_9 | exact bk_10 | exact bk_11 | exact bk_12 | exact bk_13 | exact bk_14 | exact bk_15 | exact bk_16 | exact zup_self | exact (zup_ne (by first | assumption | omega)).trans (by first | assumption | exact zup_self) | exact (zup_ne (by first | assumption | omega)).trans ((zup_ne (by first | assumption | omega)).trans (by first | assumption | exact zup_self)) | exact (bk_out (by first | omega | (simp only [bset, reduceIte, Nat.reduceEqDiff]; omega))).trans (by first | exact bk_0 | exact bk_1 | exact bk_2 | exact bk_3 | exact bk_4 | exact bk_5 | exact bk_6 | exact bk_7 | exact bk_8 | exact bk_9 | exact bk_10 | exact bk_11 | exact bk_12 | exact bk_13 | exact bk_14 | exact bk_15 | exact bk_16 | exact cr_5 | exact cr_23 | exact cr_24 | exact cr_25 | exact cr_26 | exact cr_27 | exact cr_28 | exact cr_29 | exact cr_30 | assumption)) (by decide) (by first | omega | (simp only [bset, reduceIte, Nat.reduceEqDiff]; omega)) (by first | omega | (simp only [bset, reduceIte, Nat.reduceEqDiff]; omega)) ?_
      rw [jup_ne (by omega), hs1]
      have hmod : ¬ (0 < B 23 1) ∨ (0 ≤ (B 12 0 + 1) % B 23 1 ∧ (B 12 0 + 1) % B 23 1 < B 23 1) := by
        by_cases h1 : 0 < B 23 1
        · exact Or.inr ⟨Int.emod_nonneg _ (by omega), Int.emod_lt_of_pos _ h1⟩
        · exact Or.inl h1
      by_cases hslip : 0 < B 23 1 ∧ (B 12 0 + 1) % B 23 1 = 0
      · have hj : jdr1 B = jtl (jdr0 B) (jball B) (jball B % 90 + 1) 1 := by
          unfold jdr1
          rw [if_pos hslip]
        refine zr_if_le (tgt := 145) dX7_draws_122 (by decide) (rfl : 122 + 3 = 125) (jI_lez (by first | omega | (simp only [bset, reduceIte, Nat.reduceEqDiff]; omega)) (by first | omega | (simp only [bset, reduceIte, Nat.reduceEqDiff]; omega))) (fun h122 => ?_) (fun h122 => ?_)
        · first
          | (exfalso; omega)
          | (
            refine zr_iconst dX7_draws_145 (rfl : 145 + 1 = 146) ?_
            refine zr_istore (lv' := [_, _, _, _, _, _, _]) dX7_draws_146 (rfl : 146 + 2 = 148) (Nat.le_of_ble_eq_true rfl) rfl ?_
            refine zr_iload dX7_draws_148 (rfl : 148 + 2 = 150) rfl ?_
            refine zr_if_ne (tgt := 157) dX7_draws_150 (by decide) (rfl : 150 + 3 = 153) (by first | exact jb_iff | exact jI_z (by first | omega | (simp only [bset, reduceIte, Nat.reduceEqDiff]; omega)) (by first | omega | (simp only [bset, reduceIte, Nat.reduceEqDiff]; omega))) (fun h150 => ?_) (fun h150 => ?_)
            · first
              | (exfalso; omega)
              | (
                refine zr_iload_n dX7_draws_157 (rfl : 157 + 1 = 158) rfl ?_
                refine zr_bipush dX7_draws_158 (rfl : 158 + 2 = 160) (by decide) ?_
                refine zr_icmp_ne (tgt := 167) dX7_draws_160 (by decide) (rfl : 160 + 3 = 163) (jI_eq (by first | omega | (simp only [bset, reduceIte, Nat.reduceEqDiff]; omega)) (by first | omega | (simp only [bset, reduceIte, Nat.reduceEqDiff]; omega)) (by first | omega | (simp only [bset, reduceIte, Nat.reduceEqDiff]; omega)) (by first | omega | (simp only [bset, reduceIte, Nat.reduceEqDiff]; omega))) (fun h160 => ?_) (fun h160 => ?_)
                · first
                  | (exfalso; omega)
                  | (
                    refine zr_iload_n dX7_draws_167 (rfl : 167 + 1 = 168) rfl ?_
                    refine zr_iconst dX7_draws_168 (rfl : 168 + 1 = 169) ?_
                    refine zr_iadd dX7_draws_169 (rfl : 169 + 1 = 170) (by first | exact jI_add _ _ | rfl) ?_
                    refine zr_istore (lv' := [_, _, _, _, _, _, _]) dX7_draws_170 (rfl : 170 + 2 = 172) (Nat.le_of_ble_eq_true rfl) rfl ?_
                    exact fin _ 1 _ (by omega) rfl (by omega) (by rw [hj]; congr 1; omega))
                · first
                  | (exfalso; omega)
                  | (
                    refine zr_iconst dX7_draws_163 (rfl : 163 + 1 = 164) ?_
                    refine zr_goto (tgt := 170) dX7_draws_164 (by decide) ?_
                    refine zr_istore (lv' := [_, _, _, _, _, _, _]) dX7_draws_170 (rfl : 170 + 2 = 172) (Nat.le_of_ble_eq_true rfl) rfl ?_
                    exact fin _ 1 _ (by omega) rfl (by omega) (by rw [hj]; congr 1; omega)))
            · first
              | (exfalso; omega)
              | (
                refine zr_iload_n dX7_draws_153 (rfl : 153 + 1 = 154) rfl ?_
                refine zr_goto (tgt := 170) dX7_draws_154 (by decide) ?_
                refine zr_istore (lv' := [_, _, _, _, _, _, _]) dX7_draws_170 (rfl : 170 + 2 = 172) (Nat.le_of_ble_eq_true rfl) rfl ?_
                exact fin _ 1 _ (by omega) rfl (by omega) (by rw [hj]; congr 1; omega)))
        · first
          | (exfalso; omega)
          | (
            refine zr_iload dX7_draws_125 (rfl : 125 + 2 = 127) rfl ?_
            refine zr_iconst dX7_draws_127 (rfl : 127 + 1 = 128) ?_
            refine zr_iadd dX7_draws_128 (rfl : 128 + 1 = 129) (by first | exact jI_add _ _ | rfl) ?_
            refine zr_aload_n dX7_draws_129 (rfl : 129 + 1 = 130) rfl ?_
            refine zr_getf dX7_draws_130 (rfl : 130 + 3 = 133) f_X7_7 (by first | assumption | exact mw_167 | exact mw_168 | exact mw_169 | exact mw_170 | exact bk_0 | exact bk_1 | exact bk_2 | exact bk_3 | exact bk_4 | exact bk_5 | exact bk_6 | exact bk_7 | exact bk_8 | exact bk_9 | exact bk_10 | exact bk_11 | exact bk_12 | exact bk_13 | exact bk_14 | exact bk_15 | exact bk_16 | exact zup_self | exact (zup_ne (by first | assumption | omega)).trans (by first | assumption | exact zup_self) | exact (zup_ne (by first | assumption | omega)).trans ((zup_ne (by first | assumption | omega)).trans (by first | assumption | exact zup_self)) | exact (bk_out (by first | omega | (simp only [bset, reduceIte, Nat.reduceEqDiff]; omega))).trans (by first | exact bk_0 | exact bk_1 | exact bk_2 | exact bk_3 | exact bk_4 | exact bk_5 | exact bk_6 | exact bk_7 | exact bk_8 | exact bk_9 | exact bk_10 | exact bk_11 | exact bk_12 | exact bk_13 | exact bk_14 | exact bk_15 | exact bk_16 | exact cr_5 | exact cr_23 | exact cr_24 | exact cr_25 | exact cr_26 | exact cr_27 | exact cr_28 | exact cr_29 | exact cr_30 | assumption)) rfl ?_
            refine zr_iload_n dX7_draws_133 (rfl : 133 + 1 = 134) rfl ?_
            refine zr_iconst dX7_draws_134 (rfl : 134 + 1 = 135) ?_
            refine zr_iadd dX7_draws_135 (rfl : 135 + 1 = 136) (by first | exact jI_add _ _ | rfl) ?_
            refine zr_iald dX7_draws_136 (rfl : 136 + 1 = 137) (by first | assumption | exact mw_167 | exact mw_168 | exact mw_169 | exact mw_170 | exact bk_0 | exact bk_1 | exact bk_2 | exact bk_3 | exact bk_4 | exact bk_5 | exact bk_6 | exact bk_7 | exact bk_8 | exact bk_9 | exact bk_10 | exact bk_11 | exact bk_12 | exact bk_13 | exact bk_14 | exact bk_15 | exact bk_16 | exact zup_self | exact (zup_ne (by first | assumption | omega)).trans (by first | assumption | exact zup_self) | exact (zup_ne (by first | assumption | omega)).trans ((zup_ne (by first | assumption | omega)).trans (by first | assumption | exact zup_self)) | exact (bk_out (by first | omega | (simp only [bset, reduceIte, Nat.reduceEqDiff]; omega))).trans (by first | exact bk_0 | exact bk_1 | exact bk_2 | exact bk_3 | exact bk_4 | exact bk_5 | exact bk_6 | exact bk_7 | exact bk_8 | exact bk_9 | exact bk_10 | exact bk_11 | exact bk_12 | exact bk_13 | exact bk_14 | exact bk_15 | exact bk_16 | exact cr_5 | exact cr_23 | exact cr_24 | exact cr_25 | exact cr_26 | exact cr_27 | exact cr_28 | exact cr_29 | exact cr_30 | assumption)) (by decide) (by first | omega | (simp only [bset, reduceIte, Nat.reduceEqDiff]; omega)) (by first | omega | (simp only [bset, reduceIte, Nat.reduceEqDiff]; omega)) ?_
            rw [jup_ne (by omega), hs1]
            refine zr_irem dX7_draws_137 (rfl : 137 + 1 = 138) (fun q => absurd ((jI_z (by first | omega | (simp only [bset, reduceIte, Nat.reduceEqDiff]; omega)) (by first | omega | (simp only [bset, reduceIte, Nat.reduceEqDiff]; omega))).mp q) (by first | omega | (simp only [bset, reduceIte, Nat.reduceEqDiff]; omega))) (jI_rem (by first | omega | (simp only [bset, reduceIte, Nat.reduceEqDiff]; omega)) (by first | omega | (simp only [bset, reduceIte, Nat.reduceEqDiff]; omega)) (by first | omega | (simp only [bset, reduceIte, Nat.reduceEqDiff]; omega)) (by first | omega | (simp only [bset, reduceIte, Nat.reduceEqDiff]; omega))) ?_
            refine zr_if_ne (tgt := 145) dX7_draws_138 (by decide) (rfl : 138 + 3 = 141) (by first | exact jb_iff | exact jI_z (by first | omega | (simp only [bset, reduceIte, Nat.reduceEqDiff]; omega)) (by first | omega | (simp only [bset, reduceIte, Nat.reduceEqDiff]; omega))) (fun h138 => ?_) (fun h138 => ?_)
            · first
              | (exfalso; omega)
              | (
                refine zr_iconst dX7_draws_145 (rfl : 145 + 1 = 146) ?_
                refine zr_istore (lv' := [_, _, _, _, _, _, _]) dX7_draws_146 (rfl : 146 + 2 = 148) (Nat.le_of_ble_eq_true rfl) rfl ?_
                refine zr_iload dX7_draws_148 (rfl : 148 + 2 = 150) rfl ?_
                refine zr_if_ne (tgt := 157) dX7_draws_150 (by decide) (rfl : 150 + 3 = 153) (by first | exact jb_iff | exact jI_z (by first | omega | (simp only [bset, reduceIte, Nat.reduceEqDiff]; omega)) (by first | omega | (simp only [bset, reduceIte, Nat.reduceEqDiff]; omega))) (fun h150 => ?_) (fun h150 => ?_)
                · first
                  | (exfalso; omega)
                  | (
                    refine zr_iload_n dX7_draws_157 (rfl : 157 + 1 = 158) rfl ?_
                    refine zr_bipush dX7_draws_158 (rfl : 158 + 2 = 160) (by decide) ?_
                    refine zr_icmp_ne (tgt := 167) dX7_draws_160 (by decide) (rfl : 160 + 3 = 163) (jI_eq (by first | omega | (simp only [bset, reduceIte, Nat.reduceEqDiff]; omega)) (by first | omega | (simp only [bset, reduceIte, Nat.reduceEqDiff]; omega)) (by first | omega | (simp only [bset, reduceIte, Nat.reduceEqDiff]; omega)) (by first | omega | (simp only [bset, reduceIte, Nat.reduceEqDiff]; omega))) (fun h160 => ?_) (fun h160 => ?_)
                    · first
                      | (exfalso; omega)
                      | (
                        refine zr_iload_n dX7_draws_167 (rfl : 167 + 1 = 168) rfl ?_
                        refine zr_iconst dX7_draws_168 (rfl : 168 + 1 = 169) ?_
                        refine zr_iadd dX7_draws_169 (rfl : 169 + 1 = 170) (by first | exact jI_add _ _ | rfl) ?_
                        refine zr_istore (lv' := [_, _, _, _, _, _, _]) dX7_draws_170 (rfl : 170 + 2 = 172) (Nat.le_of_ble_eq_true rfl) rfl ?_
                        exact fin _ 1 _ (by omega) rfl (by omega) (by rw [hj]; congr 1; omega))
                    · first
                      | (exfalso; omega)
                      | (
                        refine zr_iconst dX7_draws_163 (rfl : 163 + 1 = 164) ?_
                        refine zr_goto (tgt := 170) dX7_draws_164 (by decide) ?_
                        refine zr_istore (lv' := [_, _, _, _, _, _, _]) dX7_draws_170 (rfl : 170 + 2 = 172) (Nat.le_of_ble_eq_true rfl) rfl ?_
                        exact fin _ 1 _ (by omega) rfl (by omega) (by rw [hj]; congr 1; omega)))
                · first
                  | (exfalso; omega)
                  | (
                    refine zr_iload_n dX7_draws_153 (rfl : 153 + 1 = 154) rfl ?_
                    refine zr_goto (tgt := 170) dX7_draws_154 (by decide) ?_
                    refine zr_istore (lv' := [_, _, _, _, _, _, _]) dX7_draws_170 (rfl : 170 + 2 = 172) (Nat.le_of_ble_eq_true rfl) rfl ?_
                    exact fin _ 1 _ (by omega) rfl (by omega) (by rw [hj]; congr 1; omega)))
            · first
              | (exfalso; omega)
              | (
                refine zr_iconst dX7_draws_141 (rfl : 141 + 1 = 142) ?_
                refine zr_goto (tgt := 146) dX7_draws_142 (by decide) ?_
                refine zr_istore (lv' := [_, _, _, _, _, _, _]) dX7_draws_146 (rfl : 146 + 2 = 148) (Nat.le_of_ble_eq_true rfl) rfl ?_
                refine zr_iload dX7_draws_148 (rfl : 148 + 2 = 150) rfl ?_
                refine zr_if_ne (tgt := 157) dX7_draws_150 (by decide) (rfl : 150 + 3 = 153) (by first | exact jb_iff | exact jI_z (by first | omega | (simp only [bset, reduceIte, Nat.reduceEqDiff]; omega)) (by first | omega | (simp only [bset, reduceIte, Nat.reduceEqDiff]; omega))) (fun h150 => ?_) (fun h150 => ?_)
                · first
                  | (exfalso; omega)
                  | (
                    refine zr_iload_n dX7_draws_157 (rfl : 157 + 1 = 158) rfl ?_
                    refine zr_bipush dX7_draws_158 (rfl : 158 + 2 = 160) (by decide) ?_
                    refine zr_icmp_ne (tgt := 167) dX7_draws_160 (by decide) (rfl : 160 + 3 = 163) (jI_eq (by first | omega | (simp only [bset, reduceIte, Nat.reduceEqDiff]; omega)) (by first | omega | (simp only [bset, reduceIte, Nat.reduceEqDiff]; omega)) (by first | omega | (simp only [bset, reduceIte, Nat.reduceEqDiff]; omega)) (by first | omega | (simp only [bset, reduceIte, Nat.reduceEqDiff]; omega))) (fun h160 => ?_) (fun h160 => ?_)
                    · first
                      | (exfalso; omega)
                      | (
                        refine zr_iload_n dX7_draws_167 (rfl : 167 + 1 = 168) rfl ?_
                        refine zr_iconst dX7_draws_168 (rfl : 168 + 1 = 169) ?_
                        refine zr_iadd dX7_draws_169 (rfl : 169 + 1 = 170) (by first | exact jI_add _ _ | rfl) ?_
                        refine zr_istore (lv' := [_, _, _, _, _, _, _]) dX7_draws_170 (rfl : 170 + 2 = 172) (Nat.le_of_ble_eq_true rfl) rfl ?_
                        exact fin _ 1 _ (by omega) rfl (by omega) (by rw [hj]; congr 1; omega))
                    · first
                      | (exfalso; omega)
                      | (
                        refine zr_iconst dX7_draws_163 (rfl : 163 + 1 = 164) ?_
                        refine zr_goto (tgt := 170) dX7_draws_164 (by decide) ?_
                        refine zr_istore (lv' := [_, _, _, _, _, _, _]) dX7_draws_170 (rfl : 170 + 2 = 172) (Nat.le_of_ble_eq_true rfl) rfl ?_
                        exact fin _ 1 _ (by omega) rfl (by omega) (by rw [hj]; congr 1; omega)))
                · first
                  | (exfalso; omega)
                  | (
                    refine zr_iload_n dX7_draws_153 (rfl : 153 + 1 = 154) rfl ?_
                    refine zr_goto (tgt := 170) dX7_draws_154 (by decide) ?_
                    refine zr_istore (lv' := [_, _, _, _, _, _, _]) dX7_draws_170 (rfl : 170 + 2 = 172) (Nat.le_of_ble_eq_true rfl) rfl ?_
                    exact fin _ 1 _ (by omega) rfl (by omega) (by rw [hj]; congr 1; omega))))
      · have hj : jdr1 B = jtl (jdr0 B) (jball B) (jball B) 0 := by
          unfold jdr1
          rw [if_neg hslip]
        have hsn : B 23 1 ≤ 0 ∨ (B 12 0 + 1) % B 23 1 ≠ 0 := by
          by_cases h1 : 0 < B 23 1
          · exact Or.inr (fun q => hslip ⟨h1, q⟩)
          · exact Or.inl (by omega)
        refine zr_if_le (tgt := 145) dX7_draws_122 (by decide) (rfl : 122 + 3 = 125) (jI_lez (by first | omega | (simp only [bset, reduceIte, Nat.reduceEqDiff]; omega)) (by first | omega | (simp only [bset, reduceIte, Nat.reduceEqDiff]; omega))) (fun h122 => ?_) (fun h122 => ?_)
        · first
          | (exfalso; omega)
          | (
            refine zr_iconst dX7_draws_145 (rfl : 145 + 1 = 146) ?_
            refine zr_istore (lv' := [_, _, _, _, _, _, _]) dX7_draws_146 (rfl : 146 + 2 = 148) (Nat.le_of_ble_eq_true rfl) rfl ?_
            refine zr_iload dX7_draws_148 (rfl : 148 + 2 = 150) rfl ?_
            refine zr_if_ne (tgt := 157) dX7_draws_150 (by decide) (rfl : 150 + 3 = 153) (by first | exact jb_iff | exact jI_z (by first | omega | (simp only [bset, reduceIte, Nat.reduceEqDiff]; omega)) (by first | omega | (simp only [bset, reduceIte, Nat.reduceEqDiff]; omega))) (fun h150 => ?_) (fun h150 => ?_)
            · first
              | (exfalso; omega)
              | (
                refine zr_iload_n dX7_draws_157 (rfl : 157 + 1 = 158) rfl ?_
                refine zr_bipush dX7_draws_158 (rfl : 158 + 2 = 160) (by decide) ?_
                refine zr_icmp_ne (tgt := 167) dX7_draws_160 (by decide) (rfl : 160 + 3 = 163) (jI_eq (by first | omega | (simp only [bset, reduceIte, Nat.reduceEqDiff]; omega)) (by first | omega | (simp only [bset, reduceIte, Nat.reduceEqDiff]; omega)) (by first | omega | (simp only [bset, reduceIte, Nat.reduceEqDiff]; omega)) (by first | omega | (simp only [bset, reduceIte, Nat.reduceEqDiff]; omega))) (fun h160 => ?_) (fun h160 => ?_)
                · first
                  | (exfalso; omega)
                  | (
                    refine zr_iload_n dX7_draws_167 (rfl : 167 + 1 = 168) rfl ?_
                    refine zr_iconst dX7_draws_168 (rfl : 168 + 1 = 169) ?_
                    refine zr_iadd dX7_draws_169 (rfl : 169 + 1 = 170) (by first | exact jI_add _ _ | rfl) ?_
                    refine zr_istore (lv' := [_, _, _, _, _, _, _]) dX7_draws_170 (rfl : 170 + 2 = 172) (Nat.le_of_ble_eq_true rfl) rfl ?_
                    exact fin _ 0 _ (by omega) rfl (by omega) (by rw [hj]))
                · first
                  | (exfalso; omega)
                  | (
                    refine zr_iconst dX7_draws_163 (rfl : 163 + 1 = 164) ?_
                    refine zr_goto (tgt := 170) dX7_draws_164 (by decide) ?_
                    refine zr_istore (lv' := [_, _, _, _, _, _, _]) dX7_draws_170 (rfl : 170 + 2 = 172) (Nat.le_of_ble_eq_true rfl) rfl ?_
                    exact fin _ 0 _ (by omega) rfl (by omega) (by rw [hj])))
            · first
              | (exfalso; omega)
              | (
                refine zr_iload_n dX7_draws_153 (rfl : 153 + 1 = 154) rfl ?_
                refine zr_goto (tgt := 170) dX7_draws_154 (by decide) ?_
                refine zr_istore (lv' := [_, _, _, _, _, _, _]) dX7_draws_170 (rfl : 170 + 2 = 172) (Nat.le_of_ble_eq_true rfl) rfl ?_
                exact fin _ 0 _ (by omega) rfl (by omega) (by rw [hj])))
        · first
          | (exfalso; omega)
          | (
            refine zr_iload dX7_draws_125 (rfl : 125 + 2 = 127) rfl ?_
            refine zr_iconst dX7_draws_127 (rfl : 127 + 1 = 128) ?_
            refine zr_iadd dX7_draws_128 (rfl : 128 + 1 = 129) (by first | exact jI_add _ _ | rfl) ?_
            refine zr_aload_n dX7_draws_129 (rfl : 129 + 1 = 130) rfl ?_
            refine zr_getf dX7_draws_130 (rfl : 130 + 3 = 133) f_X7_7 (by first | assumption | exact mw_167 | exact mw_168 | exact mw_169 | exact mw_170 | exact bk_0 | exact bk_1 | exact bk_2 | exact bk_3 | exact bk_4 | exact bk_5 | exact bk_6 | exact bk_7 | exact bk_8 | exact bk_9 | exact bk_10 | exact bk_11 | exact bk_12 | exact bk_13 | exact bk_14 | exact bk_15 | exact bk_16 | exact zup_self | exact (zup_ne (by first | assumption | omega)).trans (by first | assumption | exact zup_self) | exact (zup_ne (by first | assumption | omega)).trans ((zup_ne (by first | assumption | omega)).trans (by first | assumption | exact zup_self)) | exact (bk_out (by first | omega | (simp only [bset, reduceIte, Nat.reduceEqDiff]; omega))).trans (by first | exact bk_0 | exact bk_1 | exact bk_2 | exact bk_3 | exact bk_4 | exact bk_5 | exact bk_6 | exact bk_7 | exact bk_8 | exact bk_9 | exact bk_10 | exact bk_11 | exact bk_12 | exact bk_13 | exact bk_14 | exact bk_15 | exact bk_16 | exact cr_5 | exact cr_23 | exact cr_24 | exact cr_25 | exact cr_26 | exact cr_27 | exact cr_28 | exact cr_29 | exact cr_30 | assumption)) rfl ?_
            refine zr_iload_n dX7_draws_133 (rfl : 133 + 1 = 134) rfl ?_
            refine zr_iconst dX7_draws_134 (rfl : 134 + 1 = 135) ?_
            refine zr_iadd dX7_draws_135 (rfl : 135 + 1 = 136) (by first | exact jI_add _ _ | rfl) ?_
            refine zr_iald dX7_draws_136 (rfl : 136 + 1 = 137) (by first | assumption | exact mw_167 | exact mw_168 | exact mw_169 | exact mw_170 | exact bk_0 | exact bk_1 | exact bk_2 | exact bk_3 | exact bk_4 | exact bk_5 | exact bk_6 | exact bk_7 | exact bk_8 | exact bk_9 | exact bk_10 | exact bk_11 | exact bk_12 | exact bk_13 | exact bk_14 | exact bk_15 | exact bk_16 | exact zup_self | exact (zup_ne (by first | assumption | omega)).trans (by first | assumption | exact zup_self) | exact (zup_ne (by first | assumption | omega)).trans ((zup_ne (by first | assumption | omega)).trans (by first | assumption | exact zup_self)) | exact (bk_out (by first | omega | (simp only [bset, reduceIte, Nat.reduceEqDiff]; omega))).trans (by first | exact bk_0 | exact bk_1 | exact bk_2 | exact bk_3 | exact bk_4 | exact bk_5 | exact bk_6 | exact bk_7 | exact bk_8 | exact bk_9 | exact bk_10 | exact bk_11 | exact bk_12 | exact bk_13 | exact bk_14 | exact bk_15 | exact bk_16 | exact cr_5 | exact cr_23 | exact cr_24 | exact cr_25 | exact cr_26 | exact cr_27 | exact cr_28 | exact cr_29 | exact cr_30 | assumption)) (by decide) (by first | omega | (simp only [bset, reduceIte, Nat.reduceEqDiff]; omega)) (by first | omega | (simp only [bset, reduceIte, Nat.reduceEqDiff]; omega)) ?_
            rw [jup_ne (by omega), hs1]
            refine zr_irem dX7_draws_137 (rfl : 137 + 1 = 138) (fun q => absurd ((jI_z (by first | omega | (simp only [bset, reduceIte, Nat.reduceEqDiff]; omega)) (by first | omega | (simp only [bset, reduceIte, Nat.reduceEqDiff]; omega))).mp q) (by first | omega | (simp only [bset, reduceIte, Nat.reduceEqDiff]; omega))) (jI_rem (by first | omega | (simp only [bset, reduceIte, Nat.reduceEqDiff]; omega)) (by first | omega | (simp only [bset, reduceIte, Nat.reduceEqDiff]; omega)) (by first | omega | (simp only [bset, reduceIte, Nat.reduceEqDiff]; omega)) (by first | omega | (simp only [bset, reduceIte, Nat.reduceEqDiff]; omega))) ?_
            refine zr_if_ne (tgt := 145) dX7_draws_138 (by decide) (rfl : 138 + 3 = 141) (by first | exact jb_iff | exact jI_z (by first | omega | (simp only [bset, reduceIte, Nat.reduceEqDiff]; omega)) (by first | omega | (simp only [bset, reduceIte, Nat.reduceEqDiff]; omega))) (fun h138 => ?_) (fun h138 => ?_)
            · first
              | (exfalso; omega)
              | (
                refine zr_iconst dX7_draws_145 (rfl : 145 + 1 = 146) ?_
                refine zr_istore (lv' := [_, _, _, _, _, _, _]) dX7_draws_146 (rfl : 146 + 2 = 148) (Nat.le_of_ble_eq_true rfl) rfl ?_
                refine zr_iload dX7_draws_148 (rfl : 148 + 2 = 150) rfl ?_
                refine zr_if_ne (tgt := 157) dX7_draws_150 (by decide) (rfl : 150 + 3 = 153) (by first | exact jb_iff | exact jI_z (by first | omega | (simp only [bset, reduceIte, Nat.reduceEqDiff]; omega)) (by first | omega | (simp only [bset, reduceIte, Nat.reduceEqDiff]; omega))) (fun h150 => ?_) (fun h150 => ?_)
                · first
                  | (exfalso; omega)
                  | (
                    refine zr_iload_n dX7_draws_157 (rfl : 157 + 1 = 158) rfl ?_
                    refine zr_bipush dX7_draws_158 (rfl : 158 + 2 = 160) (by decide) ?_
                    refine zr_icmp_ne (tgt := 167) dX7_draws_160 (by decide) (rfl : 160 + 3 = 163) (jI_eq (by first | omega | (simp only [bset, reduceIte, Nat.reduceEqDiff]; omega)) (by first | omega | (simp only [bset, reduceIte, Nat.reduceEqDiff]; omega)) (by first | omega | (simp only [bset, reduceIte, Nat.reduceEqDiff]; omega)) (by first | omega | (simp only [bset, reduceIte, Nat.reduceEqDiff]; omega))) (fun h160 => ?_) (fun h160 => ?_)
                    · first
                      | (exfalso; omega)
                      | (
                        refine zr_iload_n dX7_draws_167 (rfl : 167 + 1 = 168) rfl ?_
                        refine zr_iconst dX7_draws_168 (rfl : 168 + 1 = 169) ?_
                        refine zr_iadd dX7_draws_169 (rfl : 169 + 1 = 170) (by first | exact jI_add _ _ | rfl) ?_
                        refine zr_istore (lv' := [_, _, _, _, _, _, _]) dX7_draws_170 (rfl : 170 + 2 = 172) (Nat.le_of_ble_eq_true rfl) rfl ?_
                        exact fin _ 0 _ (by omega) rfl (by omega) (by rw [hj]))
                    · first
                      | (exfalso; omega)
                      | (
                        refine zr_iconst dX7_draws_163 (rfl : 163 + 1 = 164) ?_
                        refine zr_goto (tgt := 170) dX7_draws_164 (by decide) ?_
                        refine zr_istore (lv' := [_, _, _, _, _, _, _]) dX7_draws_170 (rfl : 170 + 2 = 172) (Nat.le_of_ble_eq_true rfl) rfl ?_
                        exact fin _ 0 _ (by omega) rfl (by omega) (by rw [hj])))
                · first
                  | (exfalso; omega)
                  | (
                    refine zr_iload_n dX7_draws_153 (rfl : 153 + 1 = 154) rfl ?_
                    refine zr_goto (tgt := 170) dX7_draws_154 (by decide) ?_
                    refine zr_istore (lv' := [_, _, _, _, _, _, _]) dX7_draws_170 (rfl : 170 + 2 = 172) (Nat.le_of_ble_eq_true rfl) rfl ?_
                    exact fin _ 0 _ (by omega) rfl (by omega) (by rw [hj])))
            · first
              | (exfalso; omega)
              | (
                refine zr_iconst dX7_draws_141 (rfl : 141 + 1 = 142) ?_
                refine zr_goto (tgt := 146) dX7_draws_142 (by decide) ?_
                refine zr_istore (lv' := [_, _, _, _, _, _, _]) dX7_draws_146 (rfl : 146 + 2 = 148) (Nat.le_of_ble_eq_true rfl) rfl ?_
                refine zr_iload dX7_draws_148 (rfl : 148 + 2 = 150) rfl ?_
                refine zr_if_ne (tgt := 157) dX7_draws_150 (by decide) (rfl : 150 + 3 = 153) (by first | exact jb_iff | exact jI_z (by first | omega | (simp only [bset, reduceIte, Nat.reduceEqDiff]; omega)) (by first | omega | (simp only [bset, reduceIte, Nat.reduceEqDiff]; omega))) (fun h150 => ?_) (fun h150 => ?_)
                · first
                  | (exfalso; omega)
                  | (
                    refine zr_iload_n dX7_draws_157 (rfl : 157 + 1 = 158) rfl ?_
                    refine zr_bipush dX7_draws_158 (rfl : 158 + 2 = 160) (by decide) ?_
                    refine zr_icmp_ne (tgt := 167) dX7_draws_160 (by decide) (rfl : 160 + 3 = 163) (jI_eq (by first | omega | (simp only [bset, reduceIte, Nat.reduceEqDiff]; omega)) (by first | omega | (simp only [bset, reduceIte, Nat.reduceEqDiff]; omega)) (by first | omega | (simp only [bset, reduceIte, Nat.reduceEqDiff]; omega)) (by first | omega | (simp only [bset, reduceIte, Nat.reduceEqDiff]; omega))) (fun h160 => ?_) (fun h160 => ?_)
                    · first
                      | (exfalso; omega)
                      | (
                        refine zr_iload_n dX7_draws_167 (rfl : 167 + 1 = 168) rfl ?_
                        refine zr_iconst dX7_draws_168 (rfl : 168 + 1 = 169) ?_
                        refine zr_iadd dX7_draws_169 (rfl : 169 + 1 = 170) (by first | exact jI_add _ _ | rfl) ?_
                        refine zr_istore (lv' := [_, _, _, _, _, _, _]) dX7_draws_170 (rfl : 170 + 2 = 172) (Nat.le_of_ble_eq_true rfl) rfl ?_
                        exact fin _ 0 _ (by omega) rfl (by omega) (by rw [hj]))
                    · first
                      | (exfalso; omega)
                      | (
                        refine zr_iconst dX7_draws_163 (rfl : 163 + 1 = 164) ?_
                        refine zr_goto (tgt := 170) dX7_draws_164 (by decide) ?_
                        refine zr_istore (lv' := [_, _, _, _, _, _, _]) dX7_draws_170 (rfl : 170 + 2 = 172) (Nat.le_of_ble_eq_true rfl) rfl ?_
                        exact fin _ 0 _ (by omega) rfl (by omega) (by rw [hj])))
                · first
                  | (exfalso; omega)
                  | (
                    refine zr_iload_n dX7_draws_153 (rfl : 153 + 1 = 154) rfl ?_
                    refine zr_goto (tgt := 170) dX7_draws_154 (by decide) ?_
                    refine zr_istore (lv' := [_, _, _, _, _, _, _]) dX7_draws_170 (rfl : 170 + 2 = 172) (Nat.le_of_ble_eq_true rfl) rfl ?_
                    exact fin _ 0 _ (by omega) rfl (by omega) (by rw [hj]))))
    · exfalso; omega
theorem m_drawsAll (m : Nat) (hm0 : 1 ≤ m) (hm : B 12 0 + m ≤ 90) (h : mr S 0 B) (ok : jok B) (lk : jlk B) : zFe Γ md_X7_drawsAll (d + 2) [.ref 167, .int (jI m)] (mw S st ik th tx ty w) (zMP (some (.int (jI (jdrl B m)))) (fun S' => jagb 0 S' S ∧ mr S' 0 (jdrs m B)) st ik th tx ty w) := by
  have hco := ok.ca
  refine zFe.of_run (lv := [some (.ref 167), some (.int (jI m)), none, none]) (by decide) rfl (Nat.le_of_ble_eq_true rfl) rfl (fun n9 g9 => ?_)
  refine zr_iconst dX7_drawsAll_0 (rfl : 0 + 1 = 1) ?_
  refine zr_istore_n (lv' := [_, _, _, _]) dX7_drawsAll_1 (rfl : 1 + 1 = 2) (Nat.le_of_ble_eq_true rfl) rfl ?_
  refine zr_iconst dX7_drawsAll_2 (rfl : 2 + 1 = 3) ?_
  refine zr_istore_n (lv' := [_, _, _, _]) dX7_drawsAll_3 (rfl : 3 + 1 = 4) (Nat.le_of_ble_eq_true rfl) rfl ?_
  refine zfor2 0 m (fun i x S1 => (0 < i → x = jball (jdrs (i - 1).toNat B)) ∧ jagb 0 S1 S ∧ mr S1 0 (jdrs i.toNat B)) (fun i x _ => [some (.ref 167), some (.int (jI m)), some (.int (jI x)), some (.int (jI i))]) (fun _ _ S1 => mw S1 st ik th tx ty w) 0 S ⟨fun h => absurd h (by decide), jagb.refl, h⟩ ?_ ?_
  · intro i x S1 i0 i1 hI hk
    obtain ⟨-, ag, hm1⟩ := hI
    have hcai := jdrs_ca B i.toNat
    refine zr_iload_n dX7_drawsAll_4 (rfl : 4 + 1 = 5) rfl ?_
    refine zr_iload_n dX7_drawsAll_5 (rfl : 5 + 1 = 6) rfl ?_
    refine zr_icmp_ge (tgt := 21) dX7_drawsAll_6 (by decide) (rfl : 6 + 3 = 9) (jI_le (by first | omega | (simp only [bset, reduceIte, Nat.reduceEqDiff]; omega)) (by first | omega | (simp only [bset, reduceIte, Nat.reduceEqDiff]; omega)) (by first | omega | (simp only [bset, reduceIte, Nat.reduceEqDiff]; omega)) (by first | omega | (simp only [bset, reduceIte, Nat.reduceEqDiff]; omega))) (fun h6 => ?_) (fun h6 => ?_)
    · exfalso; omega
    · refine zr_aload_n dX7_drawsAll_9 (rfl : 9 + 1 = 10) rfl ?_
      refine zr_iconst dX7_drawsAll_10 (rfl : 10 + 1 = 11) ?_
      refine zr_feV dX7_drawsAll_11 (rfl : 11 + 3 = 14) l_X7_90 (m_draws 0 (by decide) (by first | omega | (simp only [bset, reduceIte, Nat.reduceEqDiff]; omega)) hm1 (jok_drs ok i.toNat (by first | omega | (simp only [bset, reduceIte, Nat.reduceEqDiff]; omega))) (jlk_drs ok lk i.toNat (by first | omega | (simp only [bset, reduceIte, Nat.reduceEqDiff]; omega)))) (by first | assumption | exact mw_167 | exact mw_168 | exact mw_169 | exact mw_170 | exact bk_0 | exact bk_1 | exact bk_2 | exact bk_3 | exact bk_4 | exact bk_5 | exact bk_6 | exact bk_7 | exact bk_8 | exact bk_9 | exact bk_10 | exact bk_11 | exact bk_12 | exact bk_13 | exact bk_14 | exact bk_15 | exact bk_16 | exact zup_self | exact (zup_ne (by first | assumption | omega)).trans (by first | assumption | exact zup_self) | exact (zup_ne (by first | assumption | omega)).trans ((zup_ne (by first | assumption | omega)).trans (by first | assumption | exact zup_self)) | exact (bk_out (by first | omega | (simp only [bset, reduceIte, Nat.reduceEqDiff]; omega))).trans (by first | exact bk_0 | exact bk_1 | exact bk_2 | exact bk_3 | exact bk_4 | exact bk_5 | exact bk_6 | exact bk_7 | exact bk_8 | exact bk_9 | exact bk_10 | exact bk_11 | exact bk_12 | exact bk_13 | exact bk_14 | exact bk_15 | exact bk_16 | exact cr_5 | exact cr_23 | exact cr_24 | exact cr_25 | exact cr_26 | exact cr_27 | exact cr_28 | exact cr_29 | exact cr_30 | assumption)) rfl rfl rfl (Nat.le_of_ble_eq_true rfl) ?_
      rintro _ _ ⟨rfl, S11, hS11, rfl⟩
      refine zr_istore_n (lv' := [_, _, _, _]) dX7_drawsAll_14 (rfl : 14 + 1 = 15) (Nat.le_of_ble_eq_true rfl) rfl ?_
      refine zr_iinc (lv' := [_, _, _, _]) dX7_drawsAll_15 (rfl : 15 + 3 = 18) (Nat.le_of_ble_eq_true rfl) rfl (by first | exact jI_add _ _ | rfl) rfl ?_
      refine zr_goto (tgt := 4) dX7_drawsAll_18 (by decide) ?_
      obtain ⟨ag2, hm2⟩ := hS11
      refine hk _ _ ⟨fun _ => ?_, ag2.trans ag, ?_⟩
      · rw [show (i + 1 - 1).toNat = i.toNat by omega]
      · rw [show (i + 1).toNat = i.toNat + 1 by omega]
        exact hm2
  · intro x S1 hI
    rw [show ((0 : Int) + (m : Int)) = m by omega] at hI ⊢
    have e : (m : Int).toNat = m := by omega
    rw [e] at hI
    obtain ⟨h1, ag, hm1⟩ := hI
    have hx : x = jdrl B m := by
      rw [h1 (by omega)]
      cases m with
      | zero => omega
      | succ m =>
        show _ = jball (jdrs m B)
        rw [show (((m + 1 : Nat) : Int) - 1).toNat = m by omega]
    refine zr_iload_n dX7_drawsAll_4 (rfl : 4 + 1 = 5) rfl ?_
    refine zr_iload_n dX7_drawsAll_5 (rfl : 5 + 1 = 6) rfl ?_
    refine zr_icmp_ge (tgt := 21) dX7_drawsAll_6 (by decide) (rfl : 6 + 3 = 9) (jI_le (by first | omega | (simp only [bset, reduceIte, Nat.reduceEqDiff]; omega)) (by first | omega | (simp only [bset, reduceIte, Nat.reduceEqDiff]; omega)) (by first | omega | (simp only [bset, reduceIte, Nat.reduceEqDiff]; omega)) (by first | omega | (simp only [bset, reduceIte, Nat.reduceEqDiff]; omega))) (fun h6 => ?_) (fun h6 => ?_)
    · refine zr_iload_n dX7_drawsAll_21 (rfl : 21 + 1 = 22) rfl ?_
      refine zr_ireE dX7_drawsAll_22 rfl rfl ?_
      exact ⟨by rw [hx], _, ⟨ag, hm1⟩, rfl⟩
    · exfalso; omega
end WR

