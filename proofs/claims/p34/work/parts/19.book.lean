/-! Book -/
/-- what a book must be, at any time -/
def jok (B : zB) : Prop := (∀ z, 0 ≤ B 0 z ∧ B 0 z ≤ 90) ∧ (∀ z, -1 ≤ B 1 z ∧ B 1 z < 18) ∧ (0 ≤ B 11 0 ∧ B 11 0 < 64) ∧ (0 ≤ B 12 0 ∧ B 12 0 ≤ 90) ∧ (∀ z, 0 ≤ B 9 z ∧ B 9 z < 64) ∧ (∀ z, 0 ≤ B 10 z ∧ B 10 z ≤ 90) ∧ (∀ z, 0 ≤ B 7 z ∧ B 7 z ≤ 90) ∧ (∀ z, 0 ≤ B 8 z ∧ B 8 z ≤ 90) ∧ (0 ≤ B 24 0 ∧ B 24 0 < 10000) ∧ (∀ z, 0 ≤ B 23 z ∧ B 23 z < 100) ∧ B 4 0 = 90 - B 12 0 ∧ (∀ z, 0 ≤ z → z < 90 → 1 ≤ B 3 z ∧ B 3 z ≤ 90) ∧ (∀ z, 0 ≤ B 5 z ∧ B 5 z ≤ 90) ∧ (∀ z, 0 ≤ B 6 z ∧ B 6 z ≤ 90) ∧ (0 ≤ B 16 0 ∧ B 16 0 ≤ 99 * jbc (B 11 0)) ∧ (∀ z, 0 ≤ z → z < 91 → B 7 z ≤ B 12 0) ∧ (∀ z, 0 ≤ z → z < 91 → B 8 z ≤ B 12 0)
theorem jok.P {B : zB} (h : jok B) : ∀ z, 0 ≤ B 0 z ∧ B 0 z ≤ 90 := h.1
theorem jok.R {B : zB} (h : jok B) : ∀ z, -1 ≤ B 1 z ∧ B 1 z < 18 := h.2.1
theorem jok.bo {B : zB} (h : jok B) : 0 ≤ B 11 0 ∧ B 11 0 < 64 := h.2.2.1
theorem jok.ca {B : zB} (h : jok B) : 0 ≤ B 12 0 ∧ B 12 0 ≤ 90 := h.2.2.2.1
theorem jok.W {B : zB} (h : jok B) : ∀ z, 0 ≤ B 9 z ∧ B 9 z < 64 := h.2.2.2.2.1
theorem jok.wa {B : zB} (h : jok B) : ∀ z, 0 ≤ B 10 z ∧ B 10 z ≤ 90 := h.2.2.2.2.2.1
theorem jok.da {B : zB} (h : jok B) : ∀ z, 0 ≤ B 7 z ∧ B 7 z ≤ 90 := h.2.2.2.2.2.2.1
theorem jok.sa {B : zB} (h : jok B) : ∀ z, 0 ≤ B 8 z ∧ B 8 z ≤ 90 := h.2.2.2.2.2.2.2.1
theorem jok.lo {B : zB} (h : jok B) : 0 ≤ B 24 0 ∧ B 24 0 < 10000 := h.2.2.2.2.2.2.2.2.1
theorem jok.se {B : zB} (h : jok B) : ∀ z, 0 ≤ B 23 z ∧ B 23 z < 100 := h.2.2.2.2.2.2.2.2.2.1
theorem jok.ds {B : zB} (h : jok B) : B 4 0 = 90 - B 12 0 := h.2.2.2.2.2.2.2.2.2.2.1
theorem jok.nu {B : zB} (h : jok B) : ∀ z, 0 ≤ z → z < 90 → 1 ≤ B 3 z ∧ B 3 z ≤ 90 := h.2.2.2.2.2.2.2.2.2.2.2.1
theorem jok.dr {B : zB} (h : jok B) : ∀ z, 0 ≤ B 5 z ∧ B 5 z ≤ 90 := h.2.2.2.2.2.2.2.2.2.2.2.2.1
theorem jok.sd {B : zB} (h : jok B) : ∀ z, 0 ≤ B 6 z ∧ B 6 z ≤ 90 := h.2.2.2.2.2.2.2.2.2.2.2.2.2.1
theorem jok.po {B : zB} (h : jok B) : 0 ≤ B 16 0 ∧ B 16 0 ≤ 99 * jbc (B 11 0) := h.2.2.2.2.2.2.2.2.2.2.2.2.2.2.1
theorem jok.da2 {B : zB} (h : jok B) : ∀ z, 0 ≤ z → z < 91 → B 7 z ≤ B 12 0 := h.2.2.2.2.2.2.2.2.2.2.2.2.2.2.2.1
theorem jok.sa2 {B : zB} (h : jok B) : ∀ z, 0 ≤ z → z < 91 → B 8 z ≤ B 12 0 := h.2.2.2.2.2.2.2.2.2.2.2.2.2.2.2.2
theorem jok.dam {B : zB} (h : jok B) : ∀ z, 0 ≤ B 7 z ∧ B 7 z < 2147483648 := fun z => ⟨(h.da z).1, by have := (h.da z).2; omega⟩
theorem jok.sam {B : zB} (h : jok B) : ∀ z, 0 ≤ B 8 z ∧ B 8 z < 2147483648 := fun z => ⟨(h.sa z).1, by have := (h.sa z).2; omega⟩
section BO
variable {Γ : zΓ} {d : Nat} {w : zW} {b : Nat} {B : zB}
/-- why a number can't stand in a row; 0 if it can -/
def jrap (B : zB) (r n : Int) : Int := if jra (B 0) (B 1) r n = 0 ∧ jbit (B 11 0) (r / 3) = 1 then 5 else jra (B 0) (B 1) r n
theorem jra_r (P Ro : Int → Int) (r n : Int) : 0 ≤ jra P Ro r n ∧ jra P Ro r n ≤ 4 := by
  unfold jra
  split
  · decide
  · split
    · decide
    · split
      · decide
      · split <;> decide
theorem jrap_r (B : zB) (r n : Int) : 0 ≤ jrap B r n ∧ jrap B r n ≤ 5 := by
  have := jra_r (B 0) (B 1) r n
  unfold jrap
  split <;> omega
theorem s_reasonAgainstPlace (r n : Int) (hr : 0 ≤ r ∧ r < 18) (hn : 1 ≤ n ∧ n ≤ 90) (ok : jok B) : zFn Γ md_X0_reasonAgainstPlace (d + 3) [.ref b, .int (jI r), .int (jI n)] (bk b B w) (some (.int (jI (jrap B r n)))) (bk b B w) := by
  refine zFn.of_run (lv := [some (.ref b), some (.int (jI r)), some (.int (jI n)), none]) (by decide) rfl (Nat.le_of_ble_eq_true rfl) rfl (fun n9 g9 => ?_)
  have h1 := jra_r (B 0) (B 1) r n
  refine zr_aload_n dX0_reasonAgainstPlace_0 (rfl : 0 + 1 = 1) rfl ?_
  refine zr_getf dX0_reasonAgainstPlace_1 (rfl : 1 + 3 = 4) f_X0_12 (by first | assumption | exact mw_167 | exact mw_168 | exact mw_169 | exact mw_170 | exact bk_0 | exact bk_1 | exact bk_2 | exact bk_3 | exact bk_4 | exact bk_5 | exact bk_6 | exact bk_7 | exact bk_8 | exact bk_9 | exact bk_10 | exact bk_11 | exact bk_12 | exact bk_13 | exact bk_14 | exact bk_15 | exact bk_16 | exact zup_self | exact (zup_ne (by first | assumption | omega)).trans (by first | assumption | exact zup_self) | exact (zup_ne (by first | assumption | omega)).trans ((zup_ne (by first | assumption | omega)).trans (by first | assumption | exact zup_self)) | exact (bk_out (by first | omega | (simp only [bset, reduceIte, Nat.reduceEqDiff]; omega))).trans (by first | exact bk_0 | exact bk_1 | exact bk_2 | exact bk_3 | exact bk_4 | exact bk_5 | exact bk_6 | exact bk_7 | exact bk_8 | exact bk_9 | exact bk_10 | exact bk_11 | exact bk_12 | exact bk_13 | exact bk_14 | exact bk_15 | exact bk_16 | exact cr_5 | exact cr_23 | exact cr_24 | exact cr_25 | exact cr_26 | exact cr_27 | exact cr_28 | exact cr_29 | exact cr_30 | assumption)) rfl ?_
  refine zr_iload_n dX0_reasonAgainstPlace_4 (rfl : 4 + 1 = 5) rfl ?_
  refine zr_iload_n dX0_reasonAgainstPlace_5 (rfl : 5 + 1 = 6) rfl ?_
  refine zr_fnV dX0_reasonAgainstPlace_6 (rfl : 6 + 3 = 9) l_X0_59 (s_reasonAgainst r n hr hn ok.1 ok.2.1) (by first | assumption | exact mw_167 | exact mw_168 | exact mw_169 | exact mw_170 | exact bk_0 | exact bk_1 | exact bk_2 | exact bk_3 | exact bk_4 | exact bk_5 | exact bk_6 | exact bk_7 | exact bk_8 | exact bk_9 | exact bk_10 | exact bk_11 | exact bk_12 | exact bk_13 | exact bk_14 | exact bk_15 | exact bk_16 | exact zup_self | exact (zup_ne (by first | assumption | omega)).trans (by first | assumption | exact zup_self) | exact (zup_ne (by first | assumption | omega)).trans ((zup_ne (by first | assumption | omega)).trans (by first | assumption | exact zup_self)) | exact (bk_out (by first | omega | (simp only [bset, reduceIte, Nat.reduceEqDiff]; omega))).trans (by first | exact bk_0 | exact bk_1 | exact bk_2 | exact bk_3 | exact bk_4 | exact bk_5 | exact bk_6 | exact bk_7 | exact bk_8 | exact bk_9 | exact bk_10 | exact bk_11 | exact bk_12 | exact bk_13 | exact bk_14 | exact bk_15 | exact bk_16 | exact cr_5 | exact cr_23 | exact cr_24 | exact cr_25 | exact cr_26 | exact cr_27 | exact cr_28 | exact cr_29 | exact cr_30 | assumption)) rfl rfl rfl (Nat.le_of_ble_eq_true rfl) ?_
  refine zr_istore_n (lv' := [_, _, _, _]) dX0_reasonAgainstPlace_9 (rfl : 9 + 1 = 10) (Nat.le_of_ble_eq_true rfl) rfl ?_
  refine zr_iload_n dX0_reasonAgainstPlace_10 (rfl : 10 + 1 = 11) rfl ?_
  refine zr_if_ne (tgt := 31) dX0_reasonAgainstPlace_11 (by decide) (rfl : 11 + 3 = 14) (by first | exact jb_iff | exact jI_z (by first | omega | (simp only [bset, reduceIte, Nat.reduceEqDiff]; omega)) (by first | omega | (simp only [bset, reduceIte, Nat.reduceEqDiff]; omega))) (fun h11 => ?_) (fun h11 => ?_)
  · first
    | (exfalso; omega)
    | (
      refine zr_iload_n dX0_reasonAgainstPlace_31 (rfl : 31 + 1 = 32) rfl ?_
      refine zr_iret dX0_reasonAgainstPlace_32 rfl rfl ?_ rfl rfl rfl
      unfold jrap
      first | rw [if_pos (by omega)] | rw [if_neg (by omega)])
  · first
    | (exfalso; omega)
    | (
      refine zr_aload_n dX0_reasonAgainstPlace_14 (rfl : 14 + 1 = 15) rfl ?_
      refine zr_getf dX0_reasonAgainstPlace_15 (rfl : 15 + 3 = 18) f_X0_21 (by first | assumption | exact mw_167 | exact mw_168 | exact mw_169 | exact mw_170 | exact bk_0 | exact bk_1 | exact bk_2 | exact bk_3 | exact bk_4 | exact bk_5 | exact bk_6 | exact bk_7 | exact bk_8 | exact bk_9 | exact bk_10 | exact bk_11 | exact bk_12 | exact bk_13 | exact bk_14 | exact bk_15 | exact bk_16 | exact zup_self | exact (zup_ne (by first | assumption | omega)).trans (by first | assumption | exact zup_self) | exact (zup_ne (by first | assumption | omega)).trans ((zup_ne (by first | assumption | omega)).trans (by first | assumption | exact zup_self)) | exact (bk_out (by first | omega | (simp only [bset, reduceIte, Nat.reduceEqDiff]; omega))).trans (by first | exact bk_0 | exact bk_1 | exact bk_2 | exact bk_3 | exact bk_4 | exact bk_5 | exact bk_6 | exact bk_7 | exact bk_8 | exact bk_9 | exact bk_10 | exact bk_11 | exact bk_12 | exact bk_13 | exact bk_14 | exact bk_15 | exact bk_16 | exact cr_5 | exact cr_23 | exact cr_24 | exact cr_25 | exact cr_26 | exact cr_27 | exact cr_28 | exact cr_29 | exact cr_30 | assumption)) rfl ?_
      refine zr_iload_n dX0_reasonAgainstPlace_18 (rfl : 18 + 1 = 19) rfl ?_
      refine zr_iconst dX0_reasonAgainstPlace_19 (rfl : 19 + 1 = 20) ?_
      refine zr_idiv dX0_reasonAgainstPlace_20 (rfl : 20 + 1 = 21) (fun q => absurd ((jI_z (by first | omega | (simp only [bset, reduceIte, Nat.reduceEqDiff]; omega)) (by first | omega | (simp only [bset, reduceIte, Nat.reduceEqDiff]; omega))).mp q) (by first | omega | (simp only [bset, reduceIte, Nat.reduceEqDiff]; omega))) (jI_div (by first | omega | (simp only [bset, reduceIte, Nat.reduceEqDiff]; omega)) (by first | omega | (simp only [bset, reduceIte, Nat.reduceEqDiff]; omega)) (by first | omega | (simp only [bset, reduceIte, Nat.reduceEqDiff]; omega)) (by first | omega | (simp only [bset, reduceIte, Nat.reduceEqDiff]; omega))) ?_
      refine zr_fnV dX0_reasonAgainstPlace_21 (rfl : 21 + 3 = 24) l_X0_63 (s_isBought _ (by first | omega | (simp only [bset, reduceIte, Nat.reduceEqDiff]; omega)) ok.2.2.1) (by first | assumption | exact mw_167 | exact mw_168 | exact mw_169 | exact mw_170 | exact bk_0 | exact bk_1 | exact bk_2 | exact bk_3 | exact bk_4 | exact bk_5 | exact bk_6 | exact bk_7 | exact bk_8 | exact bk_9 | exact bk_10 | exact bk_11 | exact bk_12 | exact bk_13 | exact bk_14 | exact bk_15 | exact bk_16 | exact zup_self | exact (zup_ne (by first | assumption | omega)).trans (by first | assumption | exact zup_self) | exact (zup_ne (by first | assumption | omega)).trans ((zup_ne (by first | assumption | omega)).trans (by first | assumption | exact zup_self)) | exact (bk_out (by first | omega | (simp only [bset, reduceIte, Nat.reduceEqDiff]; omega))).trans (by first | exact bk_0 | exact bk_1 | exact bk_2 | exact bk_3 | exact bk_4 | exact bk_5 | exact bk_6 | exact bk_7 | exact bk_8 | exact bk_9 | exact bk_10 | exact bk_11 | exact bk_12 | exact bk_13 | exact bk_14 | exact bk_15 | exact bk_16 | exact cr_5 | exact cr_23 | exact cr_24 | exact cr_25 | exact cr_26 | exact cr_27 | exact cr_28 | exact cr_29 | exact cr_30 | assumption)) rfl rfl rfl (Nat.le_of_ble_eq_true rfl) ?_
      refine zr_if_eq (tgt := 31) dX0_reasonAgainstPlace_24 (by decide) (rfl : 24 + 3 = 27) (by first | exact jb_iff | exact jI_z (by first | omega | (simp only [bset, reduceIte, Nat.reduceEqDiff]; omega)) (by first | omega | (simp only [bset, reduceIte, Nat.reduceEqDiff]; omega))) (fun h24 => ?_) (fun h24 => ?_)
      · first
        | (exfalso; omega)
        | (
          refine zr_iload_n dX0_reasonAgainstPlace_31 (rfl : 31 + 1 = 32) rfl ?_
          refine zr_iret dX0_reasonAgainstPlace_32 rfl rfl ?_ rfl rfl rfl
          unfold jrap
          first | rw [if_pos (by omega)] | rw [if_neg (by omega)])
      · first
        | (exfalso; omega)
        | (
          refine zr_iconst dX0_reasonAgainstPlace_27 (rfl : 27 + 1 = 28) ?_
          refine zr_goto (tgt := 32) dX0_reasonAgainstPlace_28 (by decide) ?_
          refine zr_iret dX0_reasonAgainstPlace_32 rfl rfl ?_ rfl rfl rfl
          unfold jrap
          first | rw [if_pos (by omega)] | rw [if_neg (by omega)]))
/-- a number stands in a row -/
def jst (B : zB) (r n : Int) : zB := bset (bset (bset B 0 (jup (B 0) (r * 9 + jcol n) n)) 1 (jup (B 1) n r)) 2 (fun _ => B 2 0 + 1)
theorem s_place0 (r n : Int) (hr : 0 ≤ r ∧ r < 18) (hn : 1 ≤ n ∧ n ≤ 90) (ok : jok B) (h : jrap B r n = 0) : zFn Γ md_X0_place (d + 4) [.ref b, .int (jI r), .int (jI n)] (bk b B w) (some (.int (jI 0))) (bk b (jst B r n) w) := by
  refine zFn.of_run (lv := [some (.ref b), some (.int (jI r)), some (.int (jI n)), none]) (by decide) rfl (Nat.le_of_ble_eq_true rfl) rfl (fun n9 g9 => ?_)
  refine zr_aload_n dX0_place_0 (rfl : 0 + 1 = 1) rfl ?_
  refine zr_iload_n dX0_place_1 (rfl : 1 + 1 = 2) rfl ?_
  refine zr_iload_n dX0_place_2 (rfl : 2 + 1 = 3) rfl ?_
  refine zr_fnV dX0_place_3 (rfl : 3 + 3 = 6) l_X0_67 (s_reasonAgainstPlace r n hr hn ok) (by first | assumption | exact mw_167 | exact mw_168 | exact mw_169 | exact mw_170 | exact bk_0 | exact bk_1 | exact bk_2 | exact bk_3 | exact bk_4 | exact bk_5 | exact bk_6 | exact bk_7 | exact bk_8 | exact bk_9 | exact bk_10 | exact bk_11 | exact bk_12 | exact bk_13 | exact bk_14 | exact bk_15 | exact bk_16 | exact zup_self | exact (zup_ne (by first | assumption | omega)).trans (by first | assumption | exact zup_self) | exact (zup_ne (by first | assumption | omega)).trans ((zup_ne (by first | assumption | omega)).trans (by first | assumption | exact zup_self)) | exact (bk_out (by first | omega | (simp only [bset, reduceIte, Nat.reduceEqDiff]; omega))).trans (by first | exact bk_0 | exact bk_1 | exact bk_2 | exact bk_3 | exact bk_4 | exact bk_5 | exact bk_6 | exact bk_7 | exact bk_8 | exact bk_9 | exact bk_10 | exact bk_11 | exact bk_12 | exact bk_13 | exact bk_14 | exact bk_15 | exact bk_16 | exact cr_5 | exact cr_23 | exact cr_24 | exact cr_25 | exact cr_26 | exact cr_27 | exact cr_28 | exact cr_29 | exact cr_30 | assumption)) rfl rfl rfl (Nat.le_of_ble_eq_true rfl) ?_
  refine zr_istore_n (lv' := [_, _, _, _]) dX0_place_6 (rfl : 6 + 1 = 7) (Nat.le_of_ble_eq_true rfl) rfl ?_
  refine zr_iload_n dX0_place_7 (rfl : 7 + 1 = 8) rfl ?_
  refine zr_if_ne (tgt := 20) dX0_place_8 (by decide) (rfl : 8 + 3 = 11) (by first | exact jb_iff | exact jI_z (by first | omega | (simp only [bset, reduceIte, Nat.reduceEqDiff]; omega)) (by first | omega | (simp only [bset, reduceIte, Nat.reduceEqDiff]; omega))) (fun h8 => ?_) (fun h8 => ?_)
  · first
    | (exfalso; omega)
    | (
      refine zr_iload_n dX0_place_20 (rfl : 20 + 1 = 21) rfl ?_
      refine zr_iret dX0_place_21 rfl rfl ?_ rfl rfl rfl
      rw [h])
  · first
    | (exfalso; omega)
    | (
      refine zr_aload_n dX0_place_11 (rfl : 11 + 1 = 12) rfl ?_
      refine zr_getf dX0_place_12 (rfl : 12 + 3 = 15) f_X0_12 (by first | assumption | exact mw_167 | exact mw_168 | exact mw_169 | exact mw_170 | exact bk_0 | exact bk_1 | exact bk_2 | exact bk_3 | exact bk_4 | exact bk_5 | exact bk_6 | exact bk_7 | exact bk_8 | exact bk_9 | exact bk_10 | exact bk_11 | exact bk_12 | exact bk_13 | exact bk_14 | exact bk_15 | exact bk_16 | exact zup_self | exact (zup_ne (by first | assumption | omega)).trans (by first | assumption | exact zup_self) | exact (zup_ne (by first | assumption | omega)).trans ((zup_ne (by first | assumption | omega)).trans (by first | assumption | exact zup_self)) | exact (bk_out (by first | omega | (simp only [bset, reduceIte, Nat.reduceEqDiff]; omega))).trans (by first | exact bk_0 | exact bk_1 | exact bk_2 | exact bk_3 | exact bk_4 | exact bk_5 | exact bk_6 | exact bk_7 | exact bk_8 | exact bk_9 | exact bk_10 | exact bk_11 | exact bk_12 | exact bk_13 | exact bk_14 | exact bk_15 | exact bk_16 | exact cr_5 | exact cr_23 | exact cr_24 | exact cr_25 | exact cr_26 | exact cr_27 | exact cr_28 | exact cr_29 | exact cr_30 | assumption)) rfl ?_
      refine zr_iload_n dX0_place_15 (rfl : 15 + 1 = 16) rfl ?_
      refine zr_iload_n dX0_place_16 (rfl : 16 + 1 = 17) rfl ?_
      refine zr_fnV dX0_place_17 (rfl : 17 + 3 = 20) l_X0_70 (s_stand r n hr hn) (by first | assumption | exact mw_167 | exact mw_168 | exact mw_169 | exact mw_170 | exact bk_0 | exact bk_1 | exact bk_2 | exact bk_3 | exact bk_4 | exact bk_5 | exact bk_6 | exact bk_7 | exact bk_8 | exact bk_9 | exact bk_10 | exact bk_11 | exact bk_12 | exact bk_13 | exact bk_14 | exact bk_15 | exact bk_16 | exact zup_self | exact (zup_ne (by first | assumption | omega)).trans (by first | assumption | exact zup_self) | exact (zup_ne (by first | assumption | omega)).trans ((zup_ne (by first | assumption | omega)).trans (by first | assumption | exact zup_self)) | exact (bk_out (by first | omega | (simp only [bset, reduceIte, Nat.reduceEqDiff]; omega))).trans (by first | exact bk_0 | exact bk_1 | exact bk_2 | exact bk_3 | exact bk_4 | exact bk_5 | exact bk_6 | exact bk_7 | exact bk_8 | exact bk_9 | exact bk_10 | exact bk_11 | exact bk_12 | exact bk_13 | exact bk_14 | exact bk_15 | exact bk_16 | exact cr_5 | exact cr_23 | exact cr_24 | exact cr_25 | exact cr_26 | exact cr_27 | exact cr_28 | exact cr_29 | exact cr_30 | assumption)) rfl rfl rfl (Nat.le_of_ble_eq_true rfl) ?_
      refine zr_iload_n dX0_place_20 (rfl : 20 + 1 = 21) rfl ?_
      refine zr_iret dX0_place_21 rfl rfl ?_ rfl rfl rfl
      rw [h])
theorem s_place1 (r n : Int) (hr : 0 ≤ r ∧ r < 18) (hn : 1 ≤ n ∧ n ≤ 90) (ok : jok B) (h : jrap B r n ≠ 0) : zFn Γ md_X0_place (d + 4) [.ref b, .int (jI r), .int (jI n)] (bk b B w) (some (.int (jI (jrap B r n)))) (bk b B w) := by
  refine zFn.of_run (lv := [some (.ref b), some (.int (jI r)), some (.int (jI n)), none]) (by decide) rfl (Nat.le_of_ble_eq_true rfl) rfl (fun n9 g9 => ?_)
  have h1 := jrap_r B r n
  refine zr_aload_n dX0_place_0 (rfl : 0 + 1 = 1) rfl ?_
  refine zr_iload_n dX0_place_1 (rfl : 1 + 1 = 2) rfl ?_
  refine zr_iload_n dX0_place_2 (rfl : 2 + 1 = 3) rfl ?_
  refine zr_fnV dX0_place_3 (rfl : 3 + 3 = 6) l_X0_67 (s_reasonAgainstPlace r n hr hn ok) (by first | assumption | exact mw_167 | exact mw_168 | exact mw_169 | exact mw_170 | exact bk_0 | exact bk_1 | exact bk_2 | exact bk_3 | exact bk_4 | exact bk_5 | exact bk_6 | exact bk_7 | exact bk_8 | exact bk_9 | exact bk_10 | exact bk_11 | exact bk_12 | exact bk_13 | exact bk_14 | exact bk_15 | exact bk_16 | exact zup_self | exact (zup_ne (by first | assumption | omega)).trans (by first | assumption | exact zup_self) | exact (zup_ne (by first | assumption | omega)).trans ((zup_ne (by first | assumption | omega)).trans (by first | assumption | exact zup_self)) | exact (bk_out (by first | omega | (simp only [bset, reduceIte, Nat.reduceEqDiff]; omega))).trans (by first | exact bk_0 | exact bk_1 | exact bk_2 | exact bk_3 | exact bk_4 | exact bk_5 | exact bk_6 | exact bk_7 | exact bk_8 | exact bk_9 | exact bk_10 | exact bk_11 | exact bk_12 | exact bk_13 | exact bk_14 | exact bk_15 | exact bk_16 | exact cr_5 | exact cr_23 | exact cr_24 | exact cr_25 | exact cr_26 | exact cr_27 | exact cr_28 | exact cr_29 | exact cr_30 | assumption)) rfl rfl rfl (Nat.le_of_ble_eq_true rfl) ?_
  refine zr_istore_n (lv' := [_, _, _, _]) dX0_place_6 (rfl : 6 + 1 = 7) (Nat.le_of_ble_eq_true rfl) rfl ?_
  refine zr_iload_n dX0_place_7 (rfl : 7 + 1 = 8) rfl ?_
  refine zr_if_ne (tgt := 20) dX0_place_8 (by decide) (rfl : 8 + 3 = 11) (by first | exact jb_iff | exact jI_z (by first | omega | (simp only [bset, reduceIte, Nat.reduceEqDiff]; omega)) (by first | omega | (simp only [bset, reduceIte, Nat.reduceEqDiff]; omega))) (fun h8 => ?_) (fun h8 => ?_)
  · first
    | (exfalso; omega)
    | (
      refine zr_iload_n dX0_place_20 (rfl : 20 + 1 = 21) rfl ?_
      refine zr_iret dX0_place_21 rfl rfl ?_ rfl rfl rfl
      first | rfl | rw [jb_pos (by first | assumption | omega)] | rw [jb_neg (by first | assumption | omega)] | rw [if_pos (by first | assumption | omega)] | rw [if_neg (by first | assumption | omega)])
  · first
    | (exfalso; omega)
    | (
      refine zr_aload_n dX0_place_11 (rfl : 11 + 1 = 12) rfl ?_
      refine zr_getf dX0_place_12 (rfl : 12 + 3 = 15) f_X0_12 (by first | assumption | exact mw_167 | exact mw_168 | exact mw_169 | exact mw_170 | exact bk_0 | exact bk_1 | exact bk_2 | exact bk_3 | exact bk_4 | exact bk_5 | exact bk_6 | exact bk_7 | exact bk_8 | exact bk_9 | exact bk_10 | exact bk_11 | exact bk_12 | exact bk_13 | exact bk_14 | exact bk_15 | exact bk_16 | exact zup_self | exact (zup_ne (by first | assumption | omega)).trans (by first | assumption | exact zup_self) | exact (zup_ne (by first | assumption | omega)).trans ((zup_ne (by first | assumption | omega)).trans (by first | assumption | exact zup_self)) | exact (bk_out (by first | omega | (simp only [bset, reduceIte, Nat.reduceEqDiff]; omega))).trans (by first | exact bk_0 | exact bk_1 | exact bk_2 | exact bk_3 | exact bk_4 | exact bk_5 | exact bk_6 | exact bk_7 | exact bk_8 | exact bk_9 | exact bk_10 | exact bk_11 | exact bk_12 | exact bk_13 | exact bk_14 | exact bk_15 | exact bk_16 | exact cr_5 | exact cr_23 | exact cr_24 | exact cr_25 | exact cr_26 | exact cr_27 | exact cr_28 | exact cr_29 | exact cr_30 | assumption)) rfl ?_
      refine zr_iload_n dX0_place_15 (rfl : 15 + 1 = 16) rfl ?_
      refine zr_iload_n dX0_place_16 (rfl : 16 + 1 = 17) rfl ?_
      refine zr_fnV dX0_place_17 (rfl : 17 + 3 = 20) l_X0_70 (s_stand r n hr hn) (by first | assumption | exact mw_167 | exact mw_168 | exact mw_169 | exact mw_170 | exact bk_0 | exact bk_1 | exact bk_2 | exact bk_3 | exact bk_4 | exact bk_5 | exact bk_6 | exact bk_7 | exact bk_8 | exact bk_9 | exact bk_10 | exact bk_11 | exact bk_12 | exact bk_13 | exact bk_14 | exact bk_15 | exact bk_16 | exact zup_self | exact (zup_ne (by first | assumption | omega)).trans (by first | assumption | exact zup_self) | exact (zup_ne (by first | assumption | omega)).trans ((zup_ne (by first | assumption | omega)).trans (by first | assumption | exact zup_self)) | exact (bk_out (by first | omega | (simp only [bset, reduceIte, Nat.reduceEqDiff]; omega))).trans (by first | exact bk_0 | exact bk_1 | exact bk_2 | exact bk_3 | exact bk_4 | exact bk_5 | exact bk_6 | exact bk_7 | exact bk_8 | exact bk_9 | exact bk_10 | exact bk_11 | exact bk_12 | exact bk_13 | exact bk_14 | exact bk_15 | exact bk_16 | exact cr_5 | exact cr_23 | exact cr_24 | exact cr_25 | exact cr_26 | exact cr_27 | exact cr_28 | exact cr_29 | exact cr_30 | assumption)) rfl rfl rfl (Nat.le_of_ble_eq_true rfl) ?_
      refine zr_iload_n dX0_place_20 (rfl : 20 + 1 = 21) rfl ?_
      refine zr_iret dX0_place_21 rfl rfl ?_ rfl rfl rfl
      first | rfl | rw [jb_pos (by first | assumption | omega)] | rw [jb_neg (by first | assumption | omega)] | rw [if_pos (by first | assumption | omega)] | rw [if_neg (by first | assumption | omega)])
/-- the first row of a card in which a number can stand -/
def jfrf (B : zB) (c n : Int) : Int := if jrap B (c * 3) n = 0 then c * 3 else if jrap B (c * 3 + 1) n = 0 then c * 3 + 1 else if jrap B (c * 3 + 1 + 1) n = 0 then c * 3 + 1 + 1 else -1
theorem s_firstRowFor (c n : Int) (hc : 0 ≤ c ∧ c < 6) (hn : 1 ≤ n ∧ n ≤ 90) (ok : jok B) : zFn Γ md_X0_firstRowFor (d + 4) [.ref b, .int (jI c), .int (jI n)] (bk b B w) (some (.int (jI (jfrf B c n)))) (bk b B w) := by
  refine zFn.of_run (lv := [some (.ref b), some (.int (jI c)), some (.int (jI n)), none]) (by decide) rfl (Nat.le_of_ble_eq_true rfl) rfl (fun n9 g9 => ?_)
  have h1 := jrap_r B (c * 3) n
  have h2 := jrap_r B (c * 3 + 1) n
  have h3 := jrap_r B (c * 3 + 1 + 1) n
  refine zr_iload_n dX0_firstRowFor_0 (rfl : 0 + 1 = 1) rfl ?_
  refine zr_iconst dX0_firstRowFor_1 (rfl : 1 + 1 = 2) ?_
  refine zr_imul dX0_firstRowFor_2 (rfl : 2 + 1 = 3) (by first | exact jI_mul _ _ | rfl) ?_
  refine zr_istore_n (lv' := [_, _, _, _]) dX0_firstRowFor_3 (rfl : 3 + 1 = 4) (Nat.le_of_ble_eq_true rfl) rfl ?_
  refine zr_iload_n dX0_firstRowFor_4 (rfl : 4 + 1 = 5) rfl ?_
  refine zr_iload_n dX0_firstRowFor_5 (rfl : 5 + 1 = 6) rfl ?_
  refine zr_iconst dX0_firstRowFor_6 (rfl : 6 + 1 = 7) ?_
  refine zr_imul dX0_firstRowFor_7 (rfl : 7 + 1 = 8) (by first | exact jI_mul _ _ | rfl) ?_
  refine zr_iconst dX0_firstRowFor_8 (rfl : 8 + 1 = 9) ?_
  refine zr_iadd dX0_firstRowFor_9 (rfl : 9 + 1 = 10) (by first | exact jI_add _ _ | rfl) ?_
  refine zr_icmp_ge (tgt := 30) dX0_firstRowFor_10 (by decide) (rfl : 10 + 3 = 13) (jI_le (by first | omega | (simp only [bset, reduceIte, Nat.reduceEqDiff]; omega)) (by first | omega | (simp only [bset, reduceIte, Nat.reduceEqDiff]; omega)) (by first | omega | (simp only [bset, reduceIte, Nat.reduceEqDiff]; omega)) (by first | omega | (simp only [bset, reduceIte, Nat.reduceEqDiff]; omega))) (fun h10 => ?_) (fun h10 => ?_)
  · first
    | (exfalso; omega)
    | (
      refine zr_iconst dX0_firstRowFor_30 (rfl : 30 + 1 = 31) ?_
      refine zr_iret dX0_firstRowFor_31 rfl rfl ?_ rfl rfl rfl
      unfold jfrf
      first | rw [if_pos (by omega)] | rw [if_neg (by omega), if_pos (by omega)] | rw [if_neg (by omega), if_neg (by omega), if_pos (by omega)] | rw [if_neg (by omega), if_neg (by omega), if_neg (by omega)])
  · first
    | (exfalso; omega)
    | (
      refine zr_aload_n dX0_firstRowFor_13 (rfl : 13 + 1 = 14) rfl ?_
      refine zr_iload_n dX0_firstRowFor_14 (rfl : 14 + 1 = 15) rfl ?_
      refine zr_iload_n dX0_firstRowFor_15 (rfl : 15 + 1 = 16) rfl ?_
      refine zr_fnV dX0_firstRowFor_16 (rfl : 16 + 3 = 19) l_X0_67 (s_reasonAgainstPlace _ n (by first | omega | (simp only [bset, reduceIte, Nat.reduceEqDiff]; omega)) hn ok) (by first | assumption | exact mw_167 | exact mw_168 | exact mw_169 | exact mw_170 | exact bk_0 | exact bk_1 | exact bk_2 | exact bk_3 | exact bk_4 | exact bk_5 | exact bk_6 | exact bk_7 | exact bk_8 | exact bk_9 | exact bk_10 | exact bk_11 | exact bk_12 | exact bk_13 | exact bk_14 | exact bk_15 | exact bk_16 | exact zup_self | exact (zup_ne (by first | assumption | omega)).trans (by first | assumption | exact zup_self) | exact (zup_ne (by first | assumption | omega)).trans ((zup_ne (by first | assumption | omega)).trans (by first | assumption | exact zup_self)) | exact (bk_out (by first | omega | (simp only [bset, reduceIte, Nat.reduceEqDiff]; omega))).trans (by first | exact bk_0 | exact bk_1 | exact bk_2 | exact bk_3 | exact bk_4 | exact bk_5 | exact bk_6 | exact bk_7 | exact bk_8 | exact bk_9 | exact bk_10 | exact bk_11 | exact bk_12 | exact bk_13 | exact bk_14 | exact bk_15 | exact bk_16 | exact cr_5 | exact cr_23 | exact cr_24 | exact cr_25 | exact cr_26 | exact cr_27 | exact cr_28 | exact cr_29 | exact cr_30 | assumption)) rfl rfl rfl (Nat.le_of_ble_eq_true rfl) ?_
      refine zr_if_ne (tgt := 24) dX0_firstRowFor_19 (by decide) (rfl : 19 + 3 = 22) (by first | exact jb_iff | exact jI_z (by first | omega | (simp only [bset, reduceIte, Nat.reduceEqDiff]; omega)) (by first | omega | (simp only [bset, reduceIte, Nat.reduceEqDiff]; omega))) (fun h19 => ?_) (fun h19 => ?_)
      · first
        | (exfalso; omega)
        | (
          refine zr_iinc (lv' := [_, _, _, _]) dX0_firstRowFor_24 (rfl : 24 + 3 = 27) (Nat.le_of_ble_eq_true rfl) rfl (by first | exact jI_add _ _ | rfl) rfl ?_
          refine zr_goto (tgt := 4) dX0_firstRowFor_27 (by decide) ?_
          refine zr_iload_n dX0_firstRowFor_4 (rfl : 4 + 1 = 5) rfl ?_
          refine zr_iload_n dX0_firstRowFor_5 (rfl : 5 + 1 = 6) rfl ?_
          refine zr_iconst dX0_firstRowFor_6 (rfl : 6 + 1 = 7) ?_
          refine zr_imul dX0_firstRowFor_7 (rfl : 7 + 1 = 8) (by first | exact jI_mul _ _ | rfl) ?_
          refine zr_iconst dX0_firstRowFor_8 (rfl : 8 + 1 = 9) ?_
          refine zr_iadd dX0_firstRowFor_9 (rfl : 9 + 1 = 10) (by first | exact jI_add _ _ | rfl) ?_
          refine zr_icmp_ge (tgt := 30) dX0_firstRowFor_10 (by decide) (rfl : 10 + 3 = 13) (jI_le (by first | omega | (simp only [bset, reduceIte, Nat.reduceEqDiff]; omega)) (by first | omega | (simp only [bset, reduceIte, Nat.reduceEqDiff]; omega)) (by first | omega | (simp only [bset, reduceIte, Nat.reduceEqDiff]; omega)) (by first | omega | (simp only [bset, reduceIte, Nat.reduceEqDiff]; omega))) (fun h10 => ?_) (fun h10 => ?_)
          · first
            | (exfalso; omega)
            | (
              refine zr_iconst dX0_firstRowFor_30 (rfl : 30 + 1 = 31) ?_
              refine zr_iret dX0_firstRowFor_31 rfl rfl ?_ rfl rfl rfl
              unfold jfrf
              first | rw [if_pos (by omega)] | rw [if_neg (by omega), if_pos (by omega)] | rw [if_neg (by omega), if_neg (by omega), if_pos (by omega)] | rw [if_neg (by omega), if_neg (by omega), if_neg (by omega)])
          · first
            | (exfalso; omega)
            | (
              refine zr_aload_n dX0_firstRowFor_13 (rfl : 13 + 1 = 14) rfl ?_
              refine zr_iload_n dX0_firstRowFor_14 (rfl : 14 + 1 = 15) rfl ?_
              refine zr_iload_n dX0_firstRowFor_15 (rfl : 15 + 1 = 16) rfl ?_
              refine zr_fnV dX0_firstRowFor_16 (rfl : 16 + 3 = 19) l_X0_67 (s_reasonAgainstPlace _ n (by first | omega | (simp only [bset, reduceIte, Nat.reduceEqDiff]; omega)) hn ok) (by first | assumption | exact mw_167 | exact mw_168 | exact mw_169 | exact mw_170 | exact bk_0 | exact bk_1 | exact bk_2 | exact bk_3 | exact bk_4 | exact bk_5 | exact bk_6 | exact bk_7 | exact bk_8 | exact bk_9 | exact bk_10 | exact bk_11 | exact bk_12 | exact bk_13 | exact bk_14 | exact bk_15 | exact bk_16 | exact zup_self | exact (zup_ne (by first | assumption | omega)).trans (by first | assumption | exact zup_self) | exact (zup_ne (by first | assumption | omega)).trans ((zup_ne (by first | assumption | omega)).trans (by first | assumption | exact zup_self)) | exact (bk_out (by first | omega | (simp only [bset, reduceIte, Nat.reduceEqDiff]; omega))).trans (by first | exact bk_0 | exact bk_1 | exact bk_2 | exact bk_3 | exact bk_4 | exact bk_5 | exact bk_6 | exact bk_7 | exact bk_8 | exact bk_9 | exact bk_10 | exact bk_11 | exact bk_12 | exact bk_13 | exact bk_14 | exact bk_15 | exact bk_16 | exact cr_5 | exact cr_23 | exact cr_24 | exact cr_25 | exact cr_26 | exact cr_27 | exact cr_28 | exact cr_29 | exact cr_30 | assumption)) rfl rfl rfl (Nat.le_of_ble_eq_true rfl) ?_
              refine zr_if_ne (tgt := 24) dX0_firstRowFor_19 (by decide) (rfl : 19 + 3 = 22) (by first | exact jb_iff | exact jI_z (by first | omega | (simp only [bset, reduceIte, Nat.reduceEqDiff]; omega)) (by first | omega | (simp only [bset, reduceIte, Nat.reduceEqDiff]; omega))) (fun h19 => ?_) (fun h19 => ?_)
              · first
                | (exfalso; omega)
                | (
                  refine zr_iinc (lv' := [_, _, _, _]) dX0_firstRowFor_24 (rfl : 24 + 3 = 27) (Nat.le_of_ble_eq_true rfl) rfl (by first | exact jI_add _ _ | rfl) rfl ?_
                  refine zr_goto (tgt := 4) dX0_firstRowFor_27 (by decide) ?_
                  refine zr_iload_n dX0_firstRowFor_4 (rfl : 4 + 1 = 5) rfl ?_
                  refine zr_iload_n dX0_firstRowFor_5 (rfl : 5 + 1 = 6) rfl ?_
                  refine zr_iconst dX0_firstRowFor_6 (rfl : 6 + 1 = 7) ?_
                  refine zr_imul dX0_firstRowFor_7 (rfl : 7 + 1 = 8) (by first | exact jI_mul _ _ | rfl) ?_
                  refine zr_iconst dX0_firstRowFor_8 (rfl : 8 + 1 = 9) ?_
                  refine zr_iadd dX0_firstRowFor_9 (rfl : 9 + 1 = 10) (by first | exact jI_add _ _ | rfl) ?_
                  refine zr_icmp_ge (tgt := 30) dX0_firstRowFor_10 (by decide) (rfl : 10 + 3 = 13) (jI_le (by first | omega | (simp only [bset, reduceIte, Nat.reduceEqDiff]; omega)) (by first | omega | (simp only [bset, reduceIte, Nat.reduceEqDiff]; omega)) (by first | omega | (simp only [bset, reduceIte, Nat.reduceEqDiff]; omega)) (by first | omega | (simp only [bset, reduceIte, Nat.reduceEqDiff]; omega))) (fun h10 => ?_) (fun h10 => ?_)
                  · first
                    | (exfalso; omega)
                    | (
                      refine zr_iconst dX0_firstRowFor_30 (rfl : 30 + 1 = 31) ?_
                      refine zr_iret dX0_firstRowFor_31 rfl rfl ?_ rfl rfl rfl
                      unfold jfrf
                      first | rw [if_pos (by omega)] | rw [if_neg (by omega), if_pos (by omega)] | rw [if_neg (by omega), if_neg (by omega), if_pos (by omega)] | rw [if_neg (by omega), if_neg (by omega), if_neg (by omega)])
                  · first
                    | (exfalso; omega)
                    | (
                      refine zr_aload_n dX0_firstRowFor_13 (rfl : 13 + 1 = 14) rfl ?_
                      refine zr_iload_n dX0_firstRowFor_14 (rfl : 14 + 1 = 15) rfl ?_
                      refine zr_iload_n dX0_firstRowFor_15 (rfl : 15 + 1 = 16) rfl ?_
                      refine zr_fnV dX0_firstRowFor_16 (rfl : 16 + 3 = 19) l_X0_67 (s_reasonAgainstPlace _ n (by first | omega | (simp only [bset, reduceIte, Nat.reduceEqDiff]; omega)) hn ok) (by first | assumption | exact mw_167 | exact mw_168 | exact mw_169 | exact mw_170 | exact bk_0 | exact bk_1 | exact bk_2 | exact bk_3 | exact bk_4 | exact bk_5 | exact bk_6 | exact bk_7 | exact bk_8 | exact bk_9 | exact bk_10 | exact bk_11 | exact bk_12 | exact bk_13 | exact bk_14 | exact bk_15 | exact bk_16 | exact zup_self | exact (zup_ne (by first | assumption | omega)).trans (by first | assumption | exact zup_self) | exact (zup_ne (by first | assumption | omega)).trans ((zup_ne (by first | assumption | omega)).trans (by first | assumption | exact zup_self)) | exact (bk_out (by first | omega | (simp only [bset, reduceIte, Nat.reduceEqDiff]; omega))).trans (by first | exact bk_0 | exact bk_1 | exact bk_2 | exact bk_3 | exact bk_4 | exact bk_5 | exact bk_6 | exact bk_7 | exact bk_8 | exact bk_9 | exact bk_10 | exact bk_11 | exact bk_12 | exact bk_13 | exact bk_14 | exact bk_15 | exact bk_16 | exact cr_5 | exact cr_23 | exact cr_24 | exact cr_25 | exact cr_26 | exact cr_27 | exact cr_28 | exact cr_29 | exact cr_30 | assumption)) rfl rfl rfl (Nat.le_of_ble_eq_true rfl) ?_
                      refine zr_if_ne (tgt := 24) dX0_firstRowFor_19 (by decide) (rfl : 19 + 3 = 22) (by first | exact jb_iff | exact jI_z (by first | omega | (simp only [bset, reduceIte, Nat.reduceEqDiff]; omega)) (by first | omega | (simp only [bset, reduceIte, Nat.reduceEqDiff]; omega))) (fun h19 => ?_) (fun h19 => ?_)
                      · first
                        | (exfalso; omega)
                        | (
                          refine zr_iinc (lv' := [_, _, _, _]) dX0_firstRowFor_24 (rfl : 24 + 3 = 27) (Nat.le_of_ble_eq_true rfl) rfl (by first | exact jI_add _ _ | rfl) rfl ?_
                          refine zr_goto (tgt := 4) dX0_firstRowFor_27 (by decide) ?_
                          refine zr_iload_n dX0_firstRowFor_4 (rfl : 4 + 1 = 5) rfl ?_
                          refine zr_iload_n dX0_firstRowFor_5 (rfl : 5 + 1 = 6) rfl ?_
                          refine zr_iconst dX0_firstRowFor_6 (rfl : 6 + 1 = 7) ?_
                          refine zr_imul dX0_firstRowFor_7 (rfl : 7 + 1 = 8) (by first | exact jI_mul _ _ | rfl) ?_
                          refine zr_iconst dX0_firstRowFor_8 (rfl : 8 + 1 = 9) ?_
                          refine zr_iadd dX0_firstRowFor_9 (rfl : 9 + 1 = 10) (by first | exact jI_add _ _ | rfl) ?_
                          refine zr_icmp_ge (tgt := 30) dX0_firstRowFor_10 (by decide) (rfl : 10 + 3 = 13) (jI_le (by first | omega | (simp only [bset, reduceIte, Nat.reduceEqDiff]; omega)) (by first | omega | (simp only [bset, reduceIte, Nat.reduceEqDiff]; omega)) (by first | omega | (simp only [bset, reduceIte, Nat.reduceEqDiff]; omega)) (by first | omega | (simp only [bset, reduceIte, Nat.reduceEqDiff]; omega))) (fun h10 => ?_) (fun h10 => ?_)
                          · first
                            | (exfalso; omega)
                            | (
                              refine zr_iconst dX0_firstRowFor_30 (rfl : 30 + 1 = 31) ?_
                              refine zr_iret dX0_firstRowFor_31 rfl rfl ?_ rfl rfl rfl
                              unfold jfrf
                              first | rw [if_pos (by omega)] | rw [if_neg (by omega), if_pos (by omega)] | rw [if_neg (by omega), if_neg (by omega), if_pos (by omega)] | rw [if_neg (by omega), if_neg (by omega), if_neg (by omega)])
                          · first
                            | (exfalso; omega)
                            | (
                              refine zr_aload_n dX0_firstRowFor_13 (rfl : 13 + 1 = 14) rfl ?_
                              refine zr_iload_n dX0_firstRowFor_14 (rfl : 14 + 1 = 15) rfl ?_
                              refine zr_iload_n dX0_firstRowFor_15 (rfl : 15 + 1 = 16) rfl ?_
                              refine zr_fnV dX0_firstRowFor_16 (rfl : 16 + 3 = 19) l_X0_67 (s_reasonAgainstPlace _ n (by first | omega | (simp only [bset, reduceIte, Nat.reduceEqDiff]; omega)) hn ok) (by first | assumption | exact mw_167 | exact mw_168 | exact mw_169 | exact mw_170 | exact bk_0 | exact bk_1 | exact bk_2 | exact bk_3 | exact bk_4 | exact bk_5 | exact bk_6 | exact bk_7 | exact bk_8 | exact bk_9 | exact bk_10 | exact bk_11 | exact bk_12 | exact bk_13 | exact bk_14 | exact bk_15 | exact bk_16 | exact zup_self | exact (zup_ne (by first | assumption | omega)).trans (by first | assumption | exact zup_self) | exact (zup_ne (by first | assumption | omega)).trans ((zup_ne (by first | assumption | omega)).trans (by first | assumption | exact zup_self)) | exact (bk_out (by first | omega | (simp only [bset, reduceIte, Nat.reduceEqDiff]; omega))).trans (by first | exact bk_0 | exact bk_1 | exact bk_2 | exact bk_3 | exact bk_4 | exact bk_5 | exact bk_6 | exact bk_7 | exact bk_8 | exact bk_9 | exact bk_10 | exact bk_11 | exact bk_12 | exact bk_13 | exact bk_14 | exact bk_15 | exact bk_16 | exact cr_5 | exact cr_23 | exact cr_24 | exact cr_25 | exact cr_26 | exact cr_27 | exact cr_28 | exact cr_29 | exact cr_30 | assumption)) rfl rfl rfl (Nat.le_of_ble_eq_true rfl) ?_
                              refine zr_if_ne (tgt := 24) dX0_firstRowFor_19 (by decide) (rfl : 19 + 3 = 22) (by first | exact jb_iff | exact jI_z (by first | omega | (simp only [bset, reduceIte, Nat.reduceEqDiff]; omega)) (by first | omega | (simp only [bset, reduceIte, Nat.reduceEqDiff]; omega))) (fun h19 => ?_) (fun h19 => ?_)
                              · first
                                | (exfalso; omega)
                                | (
                                  refine zr_iinc (lv' := [_, _, _, _]) dX0_firstRowFor_24 (rfl : 24 + 3 = 27) (Nat.le_of_ble_eq_true rfl) rfl (by first | exact jI_add _ _ | rfl) rfl ?_
                                  refine zr_goto (tgt := 4) dX0_firstRowFor_27 (by decide) ?_
                                  exfalso; omega)
                              · first
                                | (exfalso; omega)
                                | (
                                  refine zr_iload_n dX0_firstRowFor_22 (rfl : 22 + 1 = 23) rfl ?_
                                  refine zr_iret dX0_firstRowFor_23 rfl rfl ?_ rfl rfl rfl
                                  unfold jfrf
                                  first | rw [if_pos (by omega)] | rw [if_neg (by omega), if_pos (by omega)] | rw [if_neg (by omega), if_neg (by omega), if_pos (by omega)] | rw [if_neg (by omega), if_neg (by omega), if_neg (by omega)])))
                      · first
                        | (exfalso; omega)
                        | (
                          refine zr_iload_n dX0_firstRowFor_22 (rfl : 22 + 1 = 23) rfl ?_
                          refine zr_iret dX0_firstRowFor_23 rfl rfl ?_ rfl rfl rfl
                          unfold jfrf
                          first | rw [if_pos (by omega)] | rw [if_neg (by omega), if_pos (by omega)] | rw [if_neg (by omega), if_neg (by omega), if_pos (by omega)] | rw [if_neg (by omega), if_neg (by omega), if_neg (by omega)])))
              · first
                | (exfalso; omega)
                | (
                  refine zr_iload_n dX0_firstRowFor_22 (rfl : 22 + 1 = 23) rfl ?_
                  refine zr_iret dX0_firstRowFor_23 rfl rfl ?_ rfl rfl rfl
                  unfold jfrf
                  first | rw [if_pos (by omega)] | rw [if_neg (by omega), if_pos (by omega)] | rw [if_neg (by omega), if_neg (by omega), if_pos (by omega)] | rw [if_neg (by omega), if_neg (by omega), if_neg (by omega)])))
      · first
        | (exfalso; omega)
        | (
          refine zr_iload_n dX0_firstRowFor_22 (rfl : 22 + 1 = 23) rfl ?_
          refine zr_iret dX0_firstRowFor_23 rfl rfl ?_ rfl rfl rfl
          unfold jfrf
          first | rw [if_pos (by omega)] | rw [if_neg (by omega), if_pos (by omega)] | rw [if_neg (by omega), if_neg (by omega), if_pos (by omega)] | rw [if_neg (by omega), if_neg (by omega), if_neg (by omega)]))
abbrev jfs (B : zB) (c : Int) : Prop := jbit (B 11 0) c = 0 ∧ jcs (B 0) c = 15 ∧ B 12 0 = 0
theorem s_isForSale (c : Int) (hc : 0 ≤ c ∧ c < 6) (ok : jok B) : zFn Γ md_X0_isForSale (d + 3) [.ref b, .int (jI c)] (bk b B w) (some (.int (jI (jb (jfs B c))))) (bk b B w) := by
  refine zFn.of_run (lv := [some (.ref b), some (.int (jI c))]) (by decide) rfl (Nat.le_of_ble_eq_true rfl) rfl (fun n9 g9 => ?_)
  obtain ⟨o0, o1, o11, o12, -⟩ := id ok
  have h9 := jbit_r (B 11 0) c
  refine zr_aload_n dX0_isForSale_0 (rfl : 0 + 1 = 1) rfl ?_
  refine zr_getf dX0_isForSale_1 (rfl : 1 + 3 = 4) f_X0_21 (by first | assumption | exact mw_167 | exact mw_168 | exact mw_169 | exact mw_170 | exact bk_0 | exact bk_1 | exact bk_2 | exact bk_3 | exact bk_4 | exact bk_5 | exact bk_6 | exact bk_7 | exact bk_8 | exact bk_9 | exact bk_10 | exact bk_11 | exact bk_12 | exact bk_13 | exact bk_14 | exact bk_15 | exact bk_16 | exact zup_self | exact (zup_ne (by first | assumption | omega)).trans (by first | assumption | exact zup_self) | exact (zup_ne (by first | assumption | omega)).trans ((zup_ne (by first | assumption | omega)).trans (by first | assumption | exact zup_self)) | exact (bk_out (by first | omega | (simp only [bset, reduceIte, Nat.reduceEqDiff]; omega))).trans (by first | exact bk_0 | exact bk_1 | exact bk_2 | exact bk_3 | exact bk_4 | exact bk_5 | exact bk_6 | exact bk_7 | exact bk_8 | exact bk_9 | exact bk_10 | exact bk_11 | exact bk_12 | exact bk_13 | exact bk_14 | exact bk_15 | exact bk_16 | exact cr_5 | exact cr_23 | exact cr_24 | exact cr_25 | exact cr_26 | exact cr_27 | exact cr_28 | exact cr_29 | exact cr_30 | assumption)) rfl ?_
  refine zr_iload_n dX0_isForSale_4 (rfl : 4 + 1 = 5) rfl ?_
  refine zr_fnV dX0_isForSale_5 (rfl : 5 + 3 = 8) l_X0_63 (s_isBought _ hc o11) (by first | assumption | exact mw_167 | exact mw_168 | exact mw_169 | exact mw_170 | exact bk_0 | exact bk_1 | exact bk_2 | exact bk_3 | exact bk_4 | exact bk_5 | exact bk_6 | exact bk_7 | exact bk_8 | exact bk_9 | exact bk_10 | exact bk_11 | exact bk_12 | exact bk_13 | exact bk_14 | exact bk_15 | exact bk_16 | exact zup_self | exact (zup_ne (by first | assumption | omega)).trans (by first | assumption | exact zup_self) | exact (zup_ne (by first | assumption | omega)).trans ((zup_ne (by first | assumption | omega)).trans (by first | assumption | exact zup_self)) | exact (bk_out (by first | omega | (simp only [bset, reduceIte, Nat.reduceEqDiff]; omega))).trans (by first | exact bk_0 | exact bk_1 | exact bk_2 | exact bk_3 | exact bk_4 | exact bk_5 | exact bk_6 | exact bk_7 | exact bk_8 | exact bk_9 | exact bk_10 | exact bk_11 | exact bk_12 | exact bk_13 | exact bk_14 | exact bk_15 | exact bk_16 | exact cr_5 | exact cr_23 | exact cr_24 | exact cr_25 | exact cr_26 | exact cr_27 | exact cr_28 | exact cr_29 | exact cr_30 | assumption)) rfl rfl rfl (Nat.le_of_ble_eq_true rfl) ?_
  refine zr_if_ne (tgt := 36) dX0_isForSale_8 (by decide) (rfl : 8 + 3 = 11) (by first | exact jb_iff | exact jI_z (by first | omega | (simp only [bset, reduceIte, Nat.reduceEqDiff]; omega)) (by first | omega | (simp only [bset, reduceIte, Nat.reduceEqDiff]; omega))) (fun h8 => ?_) (fun h8 => ?_)
  · first
    | (exfalso; omega)
    | (
      refine zr_iconst dX0_isForSale_36 (rfl : 36 + 1 = 37) ?_
      refine zr_iret dX0_isForSale_37 rfl (by first | exact jb_nar | rfl) ?_ rfl rfl rfl
      first | rfl | rw [jb_pos (by first | assumption | omega)] | rw [jb_neg (by first | assumption | omega)] | rw [if_pos (by first | assumption | omega)] | rw [if_neg (by first | assumption | omega)])
  · first
    | (exfalso; omega)
    | (
      refine zr_aload_n dX0_isForSale_11 (rfl : 11 + 1 = 12) rfl ?_
      refine zr_getf dX0_isForSale_12 (rfl : 12 + 3 = 15) f_X0_12 (by first | assumption | exact mw_167 | exact mw_168 | exact mw_169 | exact mw_170 | exact bk_0 | exact bk_1 | exact bk_2 | exact bk_3 | exact bk_4 | exact bk_5 | exact bk_6 | exact bk_7 | exact bk_8 | exact bk_9 | exact bk_10 | exact bk_11 | exact bk_12 | exact bk_13 | exact bk_14 | exact bk_15 | exact bk_16 | exact zup_self | exact (zup_ne (by first | assumption | omega)).trans (by first | assumption | exact zup_self) | exact (zup_ne (by first | assumption | omega)).trans ((zup_ne (by first | assumption | omega)).trans (by first | assumption | exact zup_self)) | exact (bk_out (by first | omega | (simp only [bset, reduceIte, Nat.reduceEqDiff]; omega))).trans (by first | exact bk_0 | exact bk_1 | exact bk_2 | exact bk_3 | exact bk_4 | exact bk_5 | exact bk_6 | exact bk_7 | exact bk_8 | exact bk_9 | exact bk_10 | exact bk_11 | exact bk_12 | exact bk_13 | exact bk_14 | exact bk_15 | exact bk_16 | exact cr_5 | exact cr_23 | exact cr_24 | exact cr_25 | exact cr_26 | exact cr_27 | exact cr_28 | exact cr_29 | exact cr_30 | assumption)) rfl ?_
      refine zr_iload_n dX0_isForSale_15 (rfl : 15 + 1 = 16) rfl ?_
      refine zr_fnV dX0_isForSale_16 (rfl : 16 + 3 = 19) l_X0_95 (s_isWhole c hc o0) (by first | assumption | exact mw_167 | exact mw_168 | exact mw_169 | exact mw_170 | exact bk_0 | exact bk_1 | exact bk_2 | exact bk_3 | exact bk_4 | exact bk_5 | exact bk_6 | exact bk_7 | exact bk_8 | exact bk_9 | exact bk_10 | exact bk_11 | exact bk_12 | exact bk_13 | exact bk_14 | exact bk_15 | exact bk_16 | exact zup_self | exact (zup_ne (by first | assumption | omega)).trans (by first | assumption | exact zup_self) | exact (zup_ne (by first | assumption | omega)).trans ((zup_ne (by first | assumption | omega)).trans (by first | assumption | exact zup_self)) | exact (bk_out (by first | omega | (simp only [bset, reduceIte, Nat.reduceEqDiff]; omega))).trans (by first | exact bk_0 | exact bk_1 | exact bk_2 | exact bk_3 | exact bk_4 | exact bk_5 | exact bk_6 | exact bk_7 | exact bk_8 | exact bk_9 | exact bk_10 | exact bk_11 | exact bk_12 | exact bk_13 | exact bk_14 | exact bk_15 | exact bk_16 | exact cr_5 | exact cr_23 | exact cr_24 | exact cr_25 | exact cr_26 | exact cr_27 | exact cr_28 | exact cr_29 | exact cr_30 | assumption)) rfl rfl rfl (Nat.le_of_ble_eq_true rfl) ?_
      refine zr_if_eq (tgt := 36) dX0_isForSale_19 (by decide) (rfl : 19 + 3 = 22) (by first | exact jb_iff | exact jI_z (by first | omega | (simp only [bset, reduceIte, Nat.reduceEqDiff]; omega)) (by first | omega | (simp only [bset, reduceIte, Nat.reduceEqDiff]; omega))) (fun h19 => ?_) (fun h19 => ?_)
      · first
        | (exfalso; omega)
        | (
          refine zr_iconst dX0_isForSale_36 (rfl : 36 + 1 = 37) ?_
          refine zr_iret dX0_isForSale_37 rfl (by first | exact jb_nar | rfl) ?_ rfl rfl rfl
          first | rfl | rw [jb_pos (by first | assumption | omega)] | rw [jb_neg (by first | assumption | omega)] | rw [if_pos (by first | assumption | omega)] | rw [if_neg (by first | assumption | omega)])
      · first
        | (exfalso; omega)
        | (
          refine zr_aload_n dX0_isForSale_22 (rfl : 22 + 1 = 23) rfl ?_
          refine zr_getf dX0_isForSale_23 (rfl : 23 + 3 = 26) f_X0_21 (by first | assumption | exact mw_167 | exact mw_168 | exact mw_169 | exact mw_170 | exact bk_0 | exact bk_1 | exact bk_2 | exact bk_3 | exact bk_4 | exact bk_5 | exact bk_6 | exact bk_7 | exact bk_8 | exact bk_9 | exact bk_10 | exact bk_11 | exact bk_12 | exact bk_13 | exact bk_14 | exact bk_15 | exact bk_16 | exact zup_self | exact (zup_ne (by first | assumption | omega)).trans (by first | assumption | exact zup_self) | exact (zup_ne (by first | assumption | omega)).trans ((zup_ne (by first | assumption | omega)).trans (by first | assumption | exact zup_self)) | exact (bk_out (by first | omega | (simp only [bset, reduceIte, Nat.reduceEqDiff]; omega))).trans (by first | exact bk_0 | exact bk_1 | exact bk_2 | exact bk_3 | exact bk_4 | exact bk_5 | exact bk_6 | exact bk_7 | exact bk_8 | exact bk_9 | exact bk_10 | exact bk_11 | exact bk_12 | exact bk_13 | exact bk_14 | exact bk_15 | exact bk_16 | exact cr_5 | exact cr_23 | exact cr_24 | exact cr_25 | exact cr_26 | exact cr_27 | exact cr_28 | exact cr_29 | exact cr_30 | assumption)) rfl ?_
          refine zr_getf dX0_isForSale_26 (rfl : 26 + 3 = 29) f_X0_98 (by first | assumption | exact mw_167 | exact mw_168 | exact mw_169 | exact mw_170 | exact bk_0 | exact bk_1 | exact bk_2 | exact bk_3 | exact bk_4 | exact bk_5 | exact bk_6 | exact bk_7 | exact bk_8 | exact bk_9 | exact bk_10 | exact bk_11 | exact bk_12 | exact bk_13 | exact bk_14 | exact bk_15 | exact bk_16 | exact zup_self | exact (zup_ne (by first | assumption | omega)).trans (by first | assumption | exact zup_self) | exact (zup_ne (by first | assumption | omega)).trans ((zup_ne (by first | assumption | omega)).trans (by first | assumption | exact zup_self)) | exact (bk_out (by first | omega | (simp only [bset, reduceIte, Nat.reduceEqDiff]; omega))).trans (by first | exact bk_0 | exact bk_1 | exact bk_2 | exact bk_3 | exact bk_4 | exact bk_5 | exact bk_6 | exact bk_7 | exact bk_8 | exact bk_9 | exact bk_10 | exact bk_11 | exact bk_12 | exact bk_13 | exact bk_14 | exact bk_15 | exact bk_16 | exact cr_5 | exact cr_23 | exact cr_24 | exact cr_25 | exact cr_26 | exact cr_27 | exact cr_28 | exact cr_29 | exact cr_30 | assumption)) rfl ?_
          refine zr_if_ne (tgt := 36) dX0_isForSale_29 (by decide) (rfl : 29 + 3 = 32) (by first | exact jb_iff | exact jI_z (by first | omega | (simp only [bset, reduceIte, Nat.reduceEqDiff]; omega)) (by first | omega | (simp only [bset, reduceIte, Nat.reduceEqDiff]; omega))) (fun h29 => ?_) (fun h29 => ?_)
          · first
            | (exfalso; omega)
            | (
              refine zr_iconst dX0_isForSale_36 (rfl : 36 + 1 = 37) ?_
              refine zr_iret dX0_isForSale_37 rfl (by first | exact jb_nar | rfl) ?_ rfl rfl rfl
              first | rfl | rw [jb_pos (by first | assumption | omega)] | rw [jb_neg (by first | assumption | omega)] | rw [if_pos (by first | assumption | omega)] | rw [if_neg (by first | assumption | omega)])
          · first
            | (exfalso; omega)
            | (
              refine zr_iconst dX0_isForSale_32 (rfl : 32 + 1 = 33) ?_
              refine zr_goto (tgt := 37) dX0_isForSale_33 (by decide) ?_
              refine zr_iret dX0_isForSale_37 rfl (by first | exact jb_nar | rfl) ?_ rfl rfl rfl
              first | rfl | rw [jb_pos (by first | assumption | omega)] | rw [jb_neg (by first | assumption | omega)] | rw [if_pos (by first | assumption | omega)] | rw [if_neg (by first | assumption | omega)])))
def jsell (B : zB) (c : Int) : zB := bset (bset (bset B 11 (fun _ => jset (B 11 0) c)) 16 (fun _ => B 16 0 + B 23 0)) 17 (fun _ => B 17 0 + B 23 0)
theorem s_sell (c : Int) (hc : 0 ≤ c ∧ c < 6) (ok : jok B) : zFn Γ md_X0_sell (d + 1) [.ref b, .int (jI c)] (bk b B w) (some (.int (jI (B 16 0 + B 23 0)))) (bk b (jsell B c) w) := by
  refine zFn.of_run (lv := [some (.ref b), some (.int (jI c))]) (by decide) rfl (Nat.le_of_ble_eq_true rfl) rfl (fun n9 g9 => ?_)
  obtain ⟨o0, o1, o11, o12, -⟩ := id ok
  refine zr_aload_n dX0_sell_0 (rfl : 0 + 1 = 1) rfl ?_
  refine zr_getf dX0_sell_1 (rfl : 1 + 3 = 4) f_X0_21 (by first | assumption | exact mw_167 | exact mw_168 | exact mw_169 | exact mw_170 | exact bk_0 | exact bk_1 | exact bk_2 | exact bk_3 | exact bk_4 | exact bk_5 | exact bk_6 | exact bk_7 | exact bk_8 | exact bk_9 | exact bk_10 | exact bk_11 | exact bk_12 | exact bk_13 | exact bk_14 | exact bk_15 | exact bk_16 | exact zup_self | exact (zup_ne (by first | assumption | omega)).trans (by first | assumption | exact zup_self) | exact (zup_ne (by first | assumption | omega)).trans ((zup_ne (by first | assumption | omega)).trans (by first | assumption | exact zup_self)) | exact (bk_out (by first | omega | (simp only [bset, reduceIte, Nat.reduceEqDiff]; omega))).trans (by first | exact bk_0 | exact bk_1 | exact bk_2 | exact bk_3 | exact bk_4 | exact bk_5 | exact bk_6 | exact bk_7 | exact bk_8 | exact bk_9 | exact bk_10 | exact bk_11 | exact bk_12 | exact bk_13 | exact bk_14 | exact bk_15 | exact bk_16 | exact cr_5 | exact cr_23 | exact cr_24 | exact cr_25 | exact cr_26 | exact cr_27 | exact cr_28 | exact cr_29 | exact cr_30 | assumption)) rfl ?_
  refine zr_dup dX0_sell_4 (rfl : 4 + 1 = 5) rfl ?_
  refine zr_getf dX0_sell_5 (rfl : 5 + 3 = 8) f_X0_101 (by first | assumption | exact mw_167 | exact mw_168 | exact mw_169 | exact mw_170 | exact bk_0 | exact bk_1 | exact bk_2 | exact bk_3 | exact bk_4 | exact bk_5 | exact bk_6 | exact bk_7 | exact bk_8 | exact bk_9 | exact bk_10 | exact bk_11 | exact bk_12 | exact bk_13 | exact bk_14 | exact bk_15 | exact bk_16 | exact zup_self | exact (zup_ne (by first | assumption | omega)).trans (by first | assumption | exact zup_self) | exact (zup_ne (by first | assumption | omega)).trans ((zup_ne (by first | assumption | omega)).trans (by first | assumption | exact zup_self)) | exact (bk_out (by first | omega | (simp only [bset, reduceIte, Nat.reduceEqDiff]; omega))).trans (by first | exact bk_0 | exact bk_1 | exact bk_2 | exact bk_3 | exact bk_4 | exact bk_5 | exact bk_6 | exact bk_7 | exact bk_8 | exact bk_9 | exact bk_10 | exact bk_11 | exact bk_12 | exact bk_13 | exact bk_14 | exact bk_15 | exact bk_16 | exact cr_5 | exact cr_23 | exact cr_24 | exact cr_25 | exact cr_26 | exact cr_27 | exact cr_28 | exact cr_29 | exact cr_30 | assumption)) rfl ?_
  refine zr_iconst dX0_sell_8 (rfl : 8 + 1 = 9) ?_
  refine zr_iload_n dX0_sell_9 (rfl : 9 + 1 = 10) rfl ?_
  refine zr_ishl dX0_sell_10 (rfl : 10 + 1 = 11) rfl ?_
  refine zr_ior (z := jI (jset (B 11 0) c)) dX0_sell_11 (rfl : 11 + 1 = 12) (jbit_or o11 hc) ?_
  refine zr_putf (fs' := [_, _, _, _, _, _, _, _, _, _]) dX0_sell_12 (rfl : 12 + 3 = 15) f_X0_101 ft_3_7 (by first | assumption | exact mw_167 | exact mw_168 | exact mw_169 | exact mw_170 | exact bk_0 | exact bk_1 | exact bk_2 | exact bk_3 | exact bk_4 | exact bk_5 | exact bk_6 | exact bk_7 | exact bk_8 | exact bk_9 | exact bk_10 | exact bk_11 | exact bk_12 | exact bk_13 | exact bk_14 | exact bk_15 | exact bk_16 | exact zup_self | exact (zup_ne (by first | assumption | omega)).trans (by first | assumption | exact zup_self) | exact (zup_ne (by first | assumption | omega)).trans ((zup_ne (by first | assumption | omega)).trans (by first | assumption | exact zup_self)) | exact (bk_out (by first | omega | (simp only [bset, reduceIte, Nat.reduceEqDiff]; omega))).trans (by first | exact bk_0 | exact bk_1 | exact bk_2 | exact bk_3 | exact bk_4 | exact bk_5 | exact bk_6 | exact bk_7 | exact bk_8 | exact bk_9 | exact bk_10 | exact bk_11 | exact bk_12 | exact bk_13 | exact bk_14 | exact bk_15 | exact bk_16 | exact cr_5 | exact cr_23 | exact cr_24 | exact cr_25 | exact cr_26 | exact cr_27 | exact cr_28 | exact cr_29 | exact cr_30 | assumption)) (Nat.le_of_ble_eq_true rfl) rfl rfl rfl ?_
  rw [bku_11]
  refine zr_aload_n dX0_sell_15 (rfl : 15 + 1 = 16) rfl ?_
  refine zr_getf dX0_sell_16 (rfl : 16 + 3 = 19) f_X0_28 (by first | assumption | exact mw_167 | exact mw_168 | exact mw_169 | exact mw_170 | exact bk_0 | exact bk_1 | exact bk_2 | exact bk_3 | exact bk_4 | exact bk_5 | exact bk_6 | exact bk_7 | exact bk_8 | exact bk_9 | exact bk_10 | exact bk_11 | exact bk_12 | exact bk_13 | exact bk_14 | exact bk_15 | exact bk_16 | exact zup_self | exact (zup_ne (by first | assumption | omega)).trans (by first | assumption | exact zup_self) | exact (zup_ne (by first | assumption | omega)).trans ((zup_ne (by first | assumption | omega)).trans (by first | assumption | exact zup_self)) | exact (bk_out (by first | omega | (simp only [bset, reduceIte, Nat.reduceEqDiff]; omega))).trans (by first | exact bk_0 | exact bk_1 | exact bk_2 | exact bk_3 | exact bk_4 | exact bk_5 | exact bk_6 | exact bk_7 | exact bk_8 | exact bk_9 | exact bk_10 | exact bk_11 | exact bk_12 | exact bk_13 | exact bk_14 | exact bk_15 | exact bk_16 | exact cr_5 | exact cr_23 | exact cr_24 | exact cr_25 | exact cr_26 | exact cr_27 | exact cr_28 | exact cr_29 | exact cr_30 | assumption)) rfl ?_
  refine zr_aload_n dX0_sell_19 (rfl : 19 + 1 = 20) rfl ?_
  refine zr_getf dX0_sell_20 (rfl : 20 + 3 = 23) f_X0_32 (by first | assumption | exact mw_167 | exact mw_168 | exact mw_169 | exact mw_170 | exact bk_0 | exact bk_1 | exact bk_2 | exact bk_3 | exact bk_4 | exact bk_5 | exact bk_6 | exact bk_7 | exact bk_8 | exact bk_9 | exact bk_10 | exact bk_11 | exact bk_12 | exact bk_13 | exact bk_14 | exact bk_15 | exact bk_16 | exact zup_self | exact (zup_ne (by first | assumption | omega)).trans (by first | assumption | exact zup_self) | exact (zup_ne (by first | assumption | omega)).trans ((zup_ne (by first | assumption | omega)).trans (by first | assumption | exact zup_self)) | exact (bk_out (by first | omega | (simp only [bset, reduceIte, Nat.reduceEqDiff]; omega))).trans (by first | exact bk_0 | exact bk_1 | exact bk_2 | exact bk_3 | exact bk_4 | exact bk_5 | exact bk_6 | exact bk_7 | exact bk_8 | exact bk_9 | exact bk_10 | exact bk_11 | exact bk_12 | exact bk_13 | exact bk_14 | exact bk_15 | exact bk_16 | exact cr_5 | exact cr_23 | exact cr_24 | exact cr_25 | exact cr_26 | exact cr_27 | exact cr_28 | exact cr_29 | exact cr_30 | assumption)) rfl ?_
  refine zr_iconst dX0_sell_23 (rfl : 23 + 1 = 24) ?_
  refine zr_iald dX0_sell_24 (rfl : 24 + 1 = 25) (by first | assumption | exact mw_167 | exact mw_168 | exact mw_169 | exact mw_170 | exact bk_0 | exact bk_1 | exact bk_2 | exact bk_3 | exact bk_4 | exact bk_5 | exact bk_6 | exact bk_7 | exact bk_8 | exact bk_9 | exact bk_10 | exact bk_11 | exact bk_12 | exact bk_13 | exact bk_14 | exact bk_15 | exact bk_16 | exact zup_self | exact (zup_ne (by first | assumption | omega)).trans (by first | assumption | exact zup_self) | exact (zup_ne (by first | assumption | omega)).trans ((zup_ne (by first | assumption | omega)).trans (by first | assumption | exact zup_self)) | exact (bk_out (by first | omega | (simp only [bset, reduceIte, Nat.reduceEqDiff]; omega))).trans (by first | exact bk_0 | exact bk_1 | exact bk_2 | exact bk_3 | exact bk_4 | exact bk_5 | exact bk_6 | exact bk_7 | exact bk_8 | exact bk_9 | exact bk_10 | exact bk_11 | exact bk_12 | exact bk_13 | exact bk_14 | exact bk_15 | exact bk_16 | exact cr_5 | exact cr_23 | exact cr_24 | exact cr_25 | exact cr_26 | exact cr_27 | exact cr_28 | exact cr_29 | exact cr_30 | assumption)) (by decide) (by first | omega | (simp only [bset, reduceIte, Nat.reduceEqDiff]; omega)) (by first | omega | (simp only [bset, reduceIte, Nat.reduceEqDiff]; omega)) ?_
  refine zr_fnV dX0_sell_25 (rfl : 25 + 3 = 28) l_X0_104 (s_takeIn _) (by first | assumption | exact mw_167 | exact mw_168 | exact mw_169 | exact mw_170 | exact bk_0 | exact bk_1 | exact bk_2 | exact bk_3 | exact bk_4 | exact bk_5 | exact bk_6 | exact bk_7 | exact bk_8 | exact bk_9 | exact bk_10 | exact bk_11 | exact bk_12 | exact bk_13 | exact bk_14 | exact bk_15 | exact bk_16 | exact zup_self | exact (zup_ne (by first | assumption | omega)).trans (by first | assumption | exact zup_self) | exact (zup_ne (by first | assumption | omega)).trans ((zup_ne (by first | assumption | omega)).trans (by first | assumption | exact zup_self)) | exact (bk_out (by first | omega | (simp only [bset, reduceIte, Nat.reduceEqDiff]; omega))).trans (by first | exact bk_0 | exact bk_1 | exact bk_2 | exact bk_3 | exact bk_4 | exact bk_5 | exact bk_6 | exact bk_7 | exact bk_8 | exact bk_9 | exact bk_10 | exact bk_11 | exact bk_12 | exact bk_13 | exact bk_14 | exact bk_15 | exact bk_16 | exact cr_5 | exact cr_23 | exact cr_24 | exact cr_25 | exact cr_26 | exact cr_27 | exact cr_28 | exact cr_29 | exact cr_30 | assumption)) rfl rfl rfl (Nat.le_of_ble_eq_true rfl) ?_
  refine zr_iret dX0_sell_28 rfl rfl ?_ rfl rfl rfl
  first | rfl | rw [jb_pos (by first | assumption | omega)] | rw [jb_neg (by first | assumption | omega)] | rw [if_pos (by first | assumption | omega)] | rw [if_neg (by first | assumption | omega)]
end BO

