/-! TombolaBooks: tests of values, and Cards -/
def jcol (n : Int) : Int := if n = 90 then 8 else n / 10
section CA
variable {Γ : zΓ} {d : Nat} {w : zW} {b : Nat} {B : zB}
theorem s_isCard (z : Int) (hz : -2147483648 ≤ z ∧ z < 2147483648) : zFn Γ md_X6_isCard d [.int (jI z)] w (some (.int (jI (jb (0 ≤ z ∧ z < 6))))) w := by
  refine zFn.of_run (lv := [some (.int (jI z))]) (by decide) rfl (Nat.le_of_ble_eq_true rfl) rfl (fun n9 g9 => ?_)
  refine zr_iload_n dX6_isCard_0 (rfl : 0 + 1 = 1) rfl ?_
  refine zr_if_lt (tgt := 14) dX6_isCard_1 (by decide) (rfl : 1 + 3 = 4) (jI_ltz (by first | omega | (simp only [bset, reduceIte, Nat.reduceEqDiff]; omega)) (by first | omega | (simp only [bset, reduceIte, Nat.reduceEqDiff]; omega))) (fun h1 => ?_) (fun h1 => ?_)
  · first
    | (exfalso; omega)
    | (
      refine zr_iconst dX6_isCard_14 (rfl : 14 + 1 = 15) ?_
      refine zr_iret dX6_isCard_15 rfl (by first | exact jb_nar | rfl) ?_ rfl rfl rfl
      first | rfl | rw [jb_pos (by first | assumption | omega)] | rw [jb_neg (by first | assumption | omega)] | rw [if_pos (by first | assumption | omega)] | rw [if_neg (by first | assumption | omega)])
  · first
    | (exfalso; omega)
    | (
      refine zr_iload_n dX6_isCard_4 (rfl : 4 + 1 = 5) rfl ?_
      refine zr_bipush dX6_isCard_5 (rfl : 5 + 2 = 7) (by decide) ?_
      refine zr_icmp_ge (tgt := 14) dX6_isCard_7 (by decide) (rfl : 7 + 3 = 10) (jI_le (by first | omega | (simp only [bset, reduceIte, Nat.reduceEqDiff]; omega)) (by first | omega | (simp only [bset, reduceIte, Nat.reduceEqDiff]; omega)) (by first | omega | (simp only [bset, reduceIte, Nat.reduceEqDiff]; omega)) (by first | omega | (simp only [bset, reduceIte, Nat.reduceEqDiff]; omega))) (fun h7 => ?_) (fun h7 => ?_)
      · first
        | (exfalso; omega)
        | (
          refine zr_iconst dX6_isCard_14 (rfl : 14 + 1 = 15) ?_
          refine zr_iret dX6_isCard_15 rfl (by first | exact jb_nar | rfl) ?_ rfl rfl rfl
          first | rfl | rw [jb_pos (by first | assumption | omega)] | rw [jb_neg (by first | assumption | omega)] | rw [if_pos (by first | assumption | omega)] | rw [if_neg (by first | assumption | omega)])
      · first
        | (exfalso; omega)
        | (
          refine zr_iconst dX6_isCard_10 (rfl : 10 + 1 = 11) ?_
          refine zr_goto (tgt := 15) dX6_isCard_11 (by decide) ?_
          refine zr_iret dX6_isCard_15 rfl (by first | exact jb_nar | rfl) ?_ rfl rfl rfl
          first | rfl | rw [jb_pos (by first | assumption | omega)] | rw [jb_neg (by first | assumption | omega)] | rw [if_pos (by first | assumption | omega)] | rw [if_neg (by first | assumption | omega)]))
theorem s_isRow (z : Int) (hz : -2147483648 ≤ z ∧ z < 2147483648) : zFn Γ md_X6_isRow d [.int (jI z)] w (some (.int (jI (jb (0 ≤ z ∧ z < 3))))) w := by
  refine zFn.of_run (lv := [some (.int (jI z))]) (by decide) rfl (Nat.le_of_ble_eq_true rfl) rfl (fun n9 g9 => ?_)
  refine zr_iload_n dX6_isRow_0 (rfl : 0 + 1 = 1) rfl ?_
  refine zr_if_lt (tgt := 13) dX6_isRow_1 (by decide) (rfl : 1 + 3 = 4) (jI_ltz (by first | omega | (simp only [bset, reduceIte, Nat.reduceEqDiff]; omega)) (by first | omega | (simp only [bset, reduceIte, Nat.reduceEqDiff]; omega))) (fun h1 => ?_) (fun h1 => ?_)
  · first
    | (exfalso; omega)
    | (
      refine zr_iconst dX6_isRow_13 (rfl : 13 + 1 = 14) ?_
      refine zr_iret dX6_isRow_14 rfl (by first | exact jb_nar | rfl) ?_ rfl rfl rfl
      first | rfl | rw [jb_pos (by first | assumption | omega)] | rw [jb_neg (by first | assumption | omega)] | rw [if_pos (by first | assumption | omega)] | rw [if_neg (by first | assumption | omega)])
  · first
    | (exfalso; omega)
    | (
      refine zr_iload_n dX6_isRow_4 (rfl : 4 + 1 = 5) rfl ?_
      refine zr_iconst dX6_isRow_5 (rfl : 5 + 1 = 6) ?_
      refine zr_icmp_ge (tgt := 13) dX6_isRow_6 (by decide) (rfl : 6 + 3 = 9) (jI_le (by first | omega | (simp only [bset, reduceIte, Nat.reduceEqDiff]; omega)) (by first | omega | (simp only [bset, reduceIte, Nat.reduceEqDiff]; omega)) (by first | omega | (simp only [bset, reduceIte, Nat.reduceEqDiff]; omega)) (by first | omega | (simp only [bset, reduceIte, Nat.reduceEqDiff]; omega))) (fun h6 => ?_) (fun h6 => ?_)
      · first
        | (exfalso; omega)
        | (
          refine zr_iconst dX6_isRow_13 (rfl : 13 + 1 = 14) ?_
          refine zr_iret dX6_isRow_14 rfl (by first | exact jb_nar | rfl) ?_ rfl rfl rfl
          first | rfl | rw [jb_pos (by first | assumption | omega)] | rw [jb_neg (by first | assumption | omega)] | rw [if_pos (by first | assumption | omega)] | rw [if_neg (by first | assumption | omega)])
      · first
        | (exfalso; omega)
        | (
          refine zr_iconst dX6_isRow_9 (rfl : 9 + 1 = 10) ?_
          refine zr_goto (tgt := 14) dX6_isRow_10 (by decide) ?_
          refine zr_iret dX6_isRow_14 rfl (by first | exact jb_nar | rfl) ?_ rfl rfl rfl
          first | rfl | rw [jb_pos (by first | assumption | omega)] | rw [jb_neg (by first | assumption | omega)] | rw [if_pos (by first | assumption | omega)] | rw [if_neg (by first | assumption | omega)]))
theorem s_isNumber (z : Int) (hz : -2147483648 ≤ z ∧ z < 2147483648) : zFn Γ md_X6_isNumber d [.int (jI z)] w (some (.int (jI (jb (1 ≤ z ∧ z ≤ 90))))) w := by
  refine zFn.of_run (lv := [some (.int (jI z))]) (by decide) rfl (Nat.le_of_ble_eq_true rfl) rfl (fun n9 g9 => ?_)
  refine zr_iload_n dX6_isNumber_0 (rfl : 0 + 1 = 1) rfl ?_
  refine zr_iconst dX6_isNumber_1 (rfl : 1 + 1 = 2) ?_
  refine zr_icmp_lt (tgt := 15) dX6_isNumber_2 (by decide) (rfl : 2 + 3 = 5) (jI_lt (by first | omega | (simp only [bset, reduceIte, Nat.reduceEqDiff]; omega)) (by first | omega | (simp only [bset, reduceIte, Nat.reduceEqDiff]; omega)) (by first | omega | (simp only [bset, reduceIte, Nat.reduceEqDiff]; omega)) (by first | omega | (simp only [bset, reduceIte, Nat.reduceEqDiff]; omega))) (fun h2 => ?_) (fun h2 => ?_)
  · first
    | (exfalso; omega)
    | (
      refine zr_iconst dX6_isNumber_15 (rfl : 15 + 1 = 16) ?_
      refine zr_iret dX6_isNumber_16 rfl (by first | exact jb_nar | rfl) ?_ rfl rfl rfl
      first | rfl | rw [jb_pos (by first | assumption | omega)] | rw [jb_neg (by first | assumption | omega)] | rw [if_pos (by first | assumption | omega)] | rw [if_neg (by first | assumption | omega)])
  · first
    | (exfalso; omega)
    | (
      refine zr_iload_n dX6_isNumber_5 (rfl : 5 + 1 = 6) rfl ?_
      refine zr_bipush dX6_isNumber_6 (rfl : 6 + 2 = 8) (by decide) ?_
      refine zr_icmp_gt (tgt := 15) dX6_isNumber_8 (by decide) (rfl : 8 + 3 = 11) (jI_lt (by first | omega | (simp only [bset, reduceIte, Nat.reduceEqDiff]; omega)) (by first | omega | (simp only [bset, reduceIte, Nat.reduceEqDiff]; omega)) (by first | omega | (simp only [bset, reduceIte, Nat.reduceEqDiff]; omega)) (by first | omega | (simp only [bset, reduceIte, Nat.reduceEqDiff]; omega))) (fun h8 => ?_) (fun h8 => ?_)
      · first
        | (exfalso; omega)
        | (
          refine zr_iconst dX6_isNumber_15 (rfl : 15 + 1 = 16) ?_
          refine zr_iret dX6_isNumber_16 rfl (by first | exact jb_nar | rfl) ?_ rfl rfl rfl
          first | rfl | rw [jb_pos (by first | assumption | omega)] | rw [jb_neg (by first | assumption | omega)] | rw [if_pos (by first | assumption | omega)] | rw [if_neg (by first | assumption | omega)])
      · first
        | (exfalso; omega)
        | (
          refine zr_iconst dX6_isNumber_11 (rfl : 11 + 1 = 12) ?_
          refine zr_goto (tgt := 16) dX6_isNumber_12 (by decide) ?_
          refine zr_iret dX6_isNumber_16 rfl (by first | exact jb_nar | rfl) ?_ rfl rfl rfl
          first | rfl | rw [jb_pos (by first | assumption | omega)] | rw [jb_neg (by first | assumption | omega)] | rw [if_pos (by first | assumption | omega)] | rw [if_neg (by first | assumption | omega)]))
theorem s_isGame (z : Int) (hz : -2147483648 ≤ z ∧ z < 2147483648) : zFn Γ md_X6_isGame d [.int (jI z)] w (some (.int (jI (jb (0 ≤ z ∧ z < 4))))) w := by
  refine zFn.of_run (lv := [some (.int (jI z))]) (by decide) rfl (Nat.le_of_ble_eq_true rfl) rfl (fun n9 g9 => ?_)
  refine zr_iload_n dX6_isGame_0 (rfl : 0 + 1 = 1) rfl ?_
  refine zr_if_lt (tgt := 13) dX6_isGame_1 (by decide) (rfl : 1 + 3 = 4) (jI_ltz (by first | omega | (simp only [bset, reduceIte, Nat.reduceEqDiff]; omega)) (by first | omega | (simp only [bset, reduceIte, Nat.reduceEqDiff]; omega))) (fun h1 => ?_) (fun h1 => ?_)
  · first
    | (exfalso; omega)
    | (
      refine zr_iconst dX6_isGame_13 (rfl : 13 + 1 = 14) ?_
      refine zr_iret dX6_isGame_14 rfl (by first | exact jb_nar | rfl) ?_ rfl rfl rfl
      first | rfl | rw [jb_pos (by first | assumption | omega)] | rw [jb_neg (by first | assumption | omega)] | rw [if_pos (by first | assumption | omega)] | rw [if_neg (by first | assumption | omega)])
  · first
    | (exfalso; omega)
    | (
      refine zr_iload_n dX6_isGame_4 (rfl : 4 + 1 = 5) rfl ?_
      refine zr_iconst dX6_isGame_5 (rfl : 5 + 1 = 6) ?_
      refine zr_icmp_ge (tgt := 13) dX6_isGame_6 (by decide) (rfl : 6 + 3 = 9) (jI_le (by first | omega | (simp only [bset, reduceIte, Nat.reduceEqDiff]; omega)) (by first | omega | (simp only [bset, reduceIte, Nat.reduceEqDiff]; omega)) (by first | omega | (simp only [bset, reduceIte, Nat.reduceEqDiff]; omega)) (by first | omega | (simp only [bset, reduceIte, Nat.reduceEqDiff]; omega))) (fun h6 => ?_) (fun h6 => ?_)
      · first
        | (exfalso; omega)
        | (
          refine zr_iconst dX6_isGame_13 (rfl : 13 + 1 = 14) ?_
          refine zr_iret dX6_isGame_14 rfl (by first | exact jb_nar | rfl) ?_ rfl rfl rfl
          first | rfl | rw [jb_pos (by first | assumption | omega)] | rw [jb_neg (by first | assumption | omega)] | rw [if_pos (by first | assumption | omega)] | rw [if_neg (by first | assumption | omega)])
      · first
        | (exfalso; omega)
        | (
          refine zr_iconst dX6_isGame_9 (rfl : 9 + 1 = 10) ?_
          refine zr_goto (tgt := 14) dX6_isGame_10 (by decide) ?_
          refine zr_iret dX6_isGame_14 rfl (by first | exact jb_nar | rfl) ?_ rfl rfl rfl
          first | rfl | rw [jb_pos (by first | assumption | omega)] | rw [jb_neg (by first | assumption | omega)] | rw [if_pos (by first | assumption | omega)] | rw [if_neg (by first | assumption | omega)]))
theorem s_isSetting (z : Int) (hz : -2147483648 ≤ z ∧ z < 2147483648) : zFn Γ md_X6_isSetting d [.int (jI z)] w (some (.int (jI (jb (0 ≤ z ∧ z < 3))))) w := by
  refine zFn.of_run (lv := [some (.int (jI z))]) (by decide) rfl (Nat.le_of_ble_eq_true rfl) rfl (fun n9 g9 => ?_)
  refine zr_iload_n dX6_isSetting_0 (rfl : 0 + 1 = 1) rfl ?_
  refine zr_if_lt (tgt := 13) dX6_isSetting_1 (by decide) (rfl : 1 + 3 = 4) (jI_ltz (by first | omega | (simp only [bset, reduceIte, Nat.reduceEqDiff]; omega)) (by first | omega | (simp only [bset, reduceIte, Nat.reduceEqDiff]; omega))) (fun h1 => ?_) (fun h1 => ?_)
  · first
    | (exfalso; omega)
    | (
      refine zr_iconst dX6_isSetting_13 (rfl : 13 + 1 = 14) ?_
      refine zr_iret dX6_isSetting_14 rfl (by first | exact jb_nar | rfl) ?_ rfl rfl rfl
      first | rfl | rw [jb_pos (by first | assumption | omega)] | rw [jb_neg (by first | assumption | omega)] | rw [if_pos (by first | assumption | omega)] | rw [if_neg (by first | assumption | omega)])
  · first
    | (exfalso; omega)
    | (
      refine zr_iload_n dX6_isSetting_4 (rfl : 4 + 1 = 5) rfl ?_
      refine zr_iconst dX6_isSetting_5 (rfl : 5 + 1 = 6) ?_
      refine zr_icmp_ge (tgt := 13) dX6_isSetting_6 (by decide) (rfl : 6 + 3 = 9) (jI_le (by first | omega | (simp only [bset, reduceIte, Nat.reduceEqDiff]; omega)) (by first | omega | (simp only [bset, reduceIte, Nat.reduceEqDiff]; omega)) (by first | omega | (simp only [bset, reduceIte, Nat.reduceEqDiff]; omega)) (by first | omega | (simp only [bset, reduceIte, Nat.reduceEqDiff]; omega))) (fun h6 => ?_) (fun h6 => ?_)
      · first
        | (exfalso; omega)
        | (
          refine zr_iconst dX6_isSetting_13 (rfl : 13 + 1 = 14) ?_
          refine zr_iret dX6_isSetting_14 rfl (by first | exact jb_nar | rfl) ?_ rfl rfl rfl
          first | rfl | rw [jb_pos (by first | assumption | omega)] | rw [jb_neg (by first | assumption | omega)] | rw [if_pos (by first | assumption | omega)] | rw [if_neg (by first | assumption | omega)])
      · first
        | (exfalso; omega)
        | (
          refine zr_iconst dX6_isSetting_9 (rfl : 9 + 1 = 10) ?_
          refine zr_goto (tgt := 14) dX6_isSetting_10 (by decide) ?_
          refine zr_iret dX6_isSetting_14 rfl (by first | exact jb_nar | rfl) ?_ rfl rfl rfl
          first | rfl | rw [jb_pos (by first | assumption | omega)] | rw [jb_neg (by first | assumption | omega)] | rw [if_pos (by first | assumption | omega)] | rw [if_neg (by first | assumption | omega)]))
theorem s_isSlot (z : Int) (hz : -2147483648 ≤ z ∧ z < 2147483648) : zFn Γ md_X6_isSlot d [.int (jI z)] w (some (.int (jI (jb (0 ≤ z ∧ z < 2))))) w := by
  refine zFn.of_run (lv := [some (.int (jI z))]) (by decide) rfl (Nat.le_of_ble_eq_true rfl) rfl (fun n9 g9 => ?_)
  refine zr_iload_n dX6_isSlot_0 (rfl : 0 + 1 = 1) rfl ?_
  refine zr_if_lt (tgt := 13) dX6_isSlot_1 (by decide) (rfl : 1 + 3 = 4) (jI_ltz (by first | omega | (simp only [bset, reduceIte, Nat.reduceEqDiff]; omega)) (by first | omega | (simp only [bset, reduceIte, Nat.reduceEqDiff]; omega))) (fun h1 => ?_) (fun h1 => ?_)
  · first
    | (exfalso; omega)
    | (
      refine zr_iconst dX6_isSlot_13 (rfl : 13 + 1 = 14) ?_
      refine zr_iret dX6_isSlot_14 rfl (by first | exact jb_nar | rfl) ?_ rfl rfl rfl
      first | rfl | rw [jb_pos (by first | assumption | omega)] | rw [jb_neg (by first | assumption | omega)] | rw [if_pos (by first | assumption | omega)] | rw [if_neg (by first | assumption | omega)])
  · first
    | (exfalso; omega)
    | (
      refine zr_iload_n dX6_isSlot_4 (rfl : 4 + 1 = 5) rfl ?_
      refine zr_iconst dX6_isSlot_5 (rfl : 5 + 1 = 6) ?_
      refine zr_icmp_ge (tgt := 13) dX6_isSlot_6 (by decide) (rfl : 6 + 3 = 9) (jI_le (by first | omega | (simp only [bset, reduceIte, Nat.reduceEqDiff]; omega)) (by first | omega | (simp only [bset, reduceIte, Nat.reduceEqDiff]; omega)) (by first | omega | (simp only [bset, reduceIte, Nat.reduceEqDiff]; omega)) (by first | omega | (simp only [bset, reduceIte, Nat.reduceEqDiff]; omega))) (fun h6 => ?_) (fun h6 => ?_)
      · first
        | (exfalso; omega)
        | (
          refine zr_iconst dX6_isSlot_13 (rfl : 13 + 1 = 14) ?_
          refine zr_iret dX6_isSlot_14 rfl (by first | exact jb_nar | rfl) ?_ rfl rfl rfl
          first | rfl | rw [jb_pos (by first | assumption | omega)] | rw [jb_neg (by first | assumption | omega)] | rw [if_pos (by first | assumption | omega)] | rw [if_neg (by first | assumption | omega)])
      · first
        | (exfalso; omega)
        | (
          refine zr_iconst dX6_isSlot_9 (rfl : 9 + 1 = 10) ?_
          refine zr_goto (tgt := 14) dX6_isSlot_10 (by decide) ?_
          refine zr_iret dX6_isSlot_14 rfl (by first | exact jb_nar | rfl) ?_ rfl rfl rfl
          first | rfl | rw [jb_pos (by first | assumption | omega)] | rw [jb_neg (by first | assumption | omega)] | rw [if_pos (by first | assumption | omega)] | rw [if_neg (by first | assumption | omega)]))
def jlot (x : Int) : Int := (x * 421 + 1663) % 10000
theorem s_lotAfter (z : Int) (hz : 0 ≤ z ∧ z < 10000) : zFn Γ md_X6_lotAfter d [.int (jI z)] w (some (.int (jI (jlot z)))) w := by
  refine zFn.of_run (lv := [some (.int (jI z))]) (by decide) rfl (Nat.le_of_ble_eq_true rfl) rfl (fun n9 g9 => ?_)
  refine zr_iload_n dX6_lotAfter_0 (rfl : 0 + 1 = 1) rfl ?_
  refine zr_sipush dX6_lotAfter_1 (rfl : 1 + 3 = 4) (by decide) ?_
  refine zr_imul dX6_lotAfter_4 (rfl : 4 + 1 = 5) (by first | exact jI_mul _ _ | rfl) ?_
  refine zr_sipush dX6_lotAfter_5 (rfl : 5 + 3 = 8) (by decide) ?_
  refine zr_iadd dX6_lotAfter_8 (rfl : 8 + 1 = 9) (by first | exact jI_add _ _ | rfl) ?_
  refine zr_sipush dX6_lotAfter_9 (rfl : 9 + 3 = 12) (by decide) ?_
  refine zr_irem dX6_lotAfter_12 (rfl : 12 + 1 = 13) (fun q => absurd ((jI_z (by first | omega | (simp only [bset, reduceIte, Nat.reduceEqDiff]; omega)) (by first | omega | (simp only [bset, reduceIte, Nat.reduceEqDiff]; omega))).mp q) (by first | omega | (simp only [bset, reduceIte, Nat.reduceEqDiff]; omega))) (jI_rem (by first | omega | (simp only [bset, reduceIte, Nat.reduceEqDiff]; omega)) (by first | omega | (simp only [bset, reduceIte, Nat.reduceEqDiff]; omega)) (by first | omega | (simp only [bset, reduceIte, Nat.reduceEqDiff]; omega)) (by first | omega | (simp only [bset, reduceIte, Nat.reduceEqDiff]; omega))) ?_
  refine zr_iret dX6_lotAfter_13 rfl rfl ?_ rfl rfl rfl
  first | rfl | rw [jb_pos (by first | assumption | omega)] | rw [jb_neg (by first | assumption | omega)] | rw [if_pos (by first | assumption | omega)] | rw [if_neg (by first | assumption | omega)]
theorem s_columnOf (n : Int) (hn : 0 ≤ n ∧ n ≤ 90) : zFn Γ md_X1_columnOf d [.int (jI n)] w (some (.int (jI (jcol n)))) w := by
  refine zFn.of_run (lv := [some (.int (jI n))]) (by decide) rfl (Nat.le_of_ble_eq_true rfl) rfl (fun n9 g9 => ?_)
  refine zr_iload_n dX1_columnOf_0 (rfl : 0 + 1 = 1) rfl ?_
  refine zr_bipush dX1_columnOf_1 (rfl : 1 + 2 = 3) (by decide) ?_
  refine zr_icmp_ne (tgt := 11) dX1_columnOf_3 (by decide) (rfl : 3 + 3 = 6) (jI_eq (by first | omega | (simp only [bset, reduceIte, Nat.reduceEqDiff]; omega)) (by first | omega | (simp only [bset, reduceIte, Nat.reduceEqDiff]; omega)) (by first | omega | (simp only [bset, reduceIte, Nat.reduceEqDiff]; omega)) (by first | omega | (simp only [bset, reduceIte, Nat.reduceEqDiff]; omega))) (fun h3 => ?_) (fun h3 => ?_)
  · first
    | (exfalso; omega)
    | (
      refine zr_iload_n dX1_columnOf_11 (rfl : 11 + 1 = 12) rfl ?_
      refine zr_bipush dX1_columnOf_12 (rfl : 12 + 2 = 14) (by decide) ?_
      refine zr_idiv dX1_columnOf_14 (rfl : 14 + 1 = 15) (fun q => absurd ((jI_z (by first | omega | (simp only [bset, reduceIte, Nat.reduceEqDiff]; omega)) (by first | omega | (simp only [bset, reduceIte, Nat.reduceEqDiff]; omega))).mp q) (by first | omega | (simp only [bset, reduceIte, Nat.reduceEqDiff]; omega))) (jI_div (by first | omega | (simp only [bset, reduceIte, Nat.reduceEqDiff]; omega)) (by first | omega | (simp only [bset, reduceIte, Nat.reduceEqDiff]; omega)) (by first | omega | (simp only [bset, reduceIte, Nat.reduceEqDiff]; omega)) (by first | omega | (simp only [bset, reduceIte, Nat.reduceEqDiff]; omega))) ?_
      refine zr_iret dX1_columnOf_15 rfl rfl ?_ rfl rfl rfl
      unfold jcol
      first | rw [if_pos h3] | rw [if_neg h3])
  · first
    | (exfalso; omega)
    | (
      refine zr_bipush dX1_columnOf_6 (rfl : 6 + 2 = 8) (by decide) ?_
      refine zr_goto (tgt := 15) dX1_columnOf_8 (by decide) ?_
      refine zr_iret dX1_columnOf_15 rfl rfl ?_ rfl rfl rfl
      unfold jcol
      first | rw [if_pos h3] | rw [if_neg h3])
theorem jcol_r {n : Int} (hn : 0 ≤ n ∧ n ≤ 90) : 0 ≤ jcol n ∧ jcol n < 9 := by
  unfold jcol
  split <;> omega
theorem s_numberIn (r c : Int) (hr : 0 ≤ r ∧ r < 18) (hc : 0 ≤ c ∧ c < 9) : zFn Γ md_X1_numberIn d [.ref (b + 1), .int (jI r), .int (jI c)] (bk b B w) (some (.int (jI (B 0 (r * 9 + c))))) (bk b B w) := by
  refine zFn.of_run (lv := [some (.ref (b + 1)), some (.int (jI r)), some (.int (jI c))]) (by decide) rfl (Nat.le_of_ble_eq_true rfl) rfl (fun n9 g9 => ?_)
  refine zr_aload_n dX1_numberIn_0 (rfl : 0 + 1 = 1) rfl ?_
  refine zr_getf dX1_numberIn_1 (rfl : 1 + 3 = 4) f_X1_9 (by first | assumption | exact mw_167 | exact mw_168 | exact mw_169 | exact mw_170 | exact bk_0 | exact bk_1 | exact bk_2 | exact bk_3 | exact bk_4 | exact bk_5 | exact bk_6 | exact bk_7 | exact bk_8 | exact bk_9 | exact bk_10 | exact bk_11 | exact bk_12 | exact bk_13 | exact bk_14 | exact bk_15 | exact bk_16 | exact zup_self | exact (zup_ne (by first | assumption | omega)).trans (by first | assumption | exact zup_self) | exact (zup_ne (by first | assumption | omega)).trans ((zup_ne (by first | assumption | omega)).trans (by first | assumption | exact zup_self)) | exact (bk_out (by first | omega | (simp only [bset, reduceIte, Nat.reduceEqDiff]; omega))).trans (by first | exact bk_0 | exact bk_1 | exact bk_2 | exact bk_3 | exact bk_4 | exact bk_5 | exact bk_6 | exact bk_7 | exact bk_8 | exact bk_9 | exact bk_10 | exact bk_11 | exact bk_12 | exact bk_13 | exact bk_14 | exact bk_15 | exact bk_16 | exact cr_5 | exact cr_23 | exact cr_24 | exact cr_25 | exact cr_26 | exact cr_27 | exact cr_28 | exact cr_29 | exact cr_30 | assumption)) rfl ?_
  refine zr_iload_n dX1_numberIn_4 (rfl : 4 + 1 = 5) rfl ?_
  refine zr_bipush dX1_numberIn_5 (rfl : 5 + 2 = 7) (by decide) ?_
  refine zr_imul dX1_numberIn_7 (rfl : 7 + 1 = 8) (by first | exact jI_mul _ _ | rfl) ?_
  refine zr_iload_n dX1_numberIn_8 (rfl : 8 + 1 = 9) rfl ?_
  refine zr_iadd dX1_numberIn_9 (rfl : 9 + 1 = 10) (by first | exact jI_add _ _ | rfl) ?_
  refine zr_iald dX1_numberIn_10 (rfl : 10 + 1 = 11) (by first | assumption | exact mw_167 | exact mw_168 | exact mw_169 | exact mw_170 | exact bk_0 | exact bk_1 | exact bk_2 | exact bk_3 | exact bk_4 | exact bk_5 | exact bk_6 | exact bk_7 | exact bk_8 | exact bk_9 | exact bk_10 | exact bk_11 | exact bk_12 | exact bk_13 | exact bk_14 | exact bk_15 | exact bk_16 | exact zup_self | exact (zup_ne (by first | assumption | omega)).trans (by first | assumption | exact zup_self) | exact (zup_ne (by first | assumption | omega)).trans ((zup_ne (by first | assumption | omega)).trans (by first | assumption | exact zup_self)) | exact (bk_out (by first | omega | (simp only [bset, reduceIte, Nat.reduceEqDiff]; omega))).trans (by first | exact bk_0 | exact bk_1 | exact bk_2 | exact bk_3 | exact bk_4 | exact bk_5 | exact bk_6 | exact bk_7 | exact bk_8 | exact bk_9 | exact bk_10 | exact bk_11 | exact bk_12 | exact bk_13 | exact bk_14 | exact bk_15 | exact bk_16 | exact cr_5 | exact cr_23 | exact cr_24 | exact cr_25 | exact cr_26 | exact cr_27 | exact cr_28 | exact cr_29 | exact cr_30 | assumption)) (by decide) (by first | omega | (simp only [bset, reduceIte, Nat.reduceEqDiff]; omega)) (by first | omega | (simp only [bset, reduceIte, Nat.reduceEqDiff]; omega)) ?_
  refine zr_iret dX1_numberIn_11 rfl rfl ?_ rfl rfl rfl
  first | rfl | rw [jb_pos (by first | assumption | omega)] | rw [jb_neg (by first | assumption | omega)] | rw [if_pos (by first | assumption | omega)] | rw [if_neg (by first | assumption | omega)]
theorem s_standsIn (c z : Int) (hz : -2147483648 ≤ z ∧ z < 2147483648) (hc : 0 ≤ c ∧ c < 6) (hR : ∀ z, -1 ≤ B 1 z ∧ B 1 z < 18) : zFn Γ md_X1_standsIn (d + 1) [.ref (b + 1), .int (jI c), .int (jI z)] (bk b B w) (some (.int (jI (jb ((1 ≤ z ∧ z ≤ 90) ∧ B 1 z ≠ -1 ∧ B 1 z / 3 = c))))) (bk b B w) := by
  refine zFn.of_run (lv := [some (.ref (b + 1)), some (.int (jI c)), some (.int (jI z))]) (by decide) rfl (Nat.le_of_ble_eq_true rfl) rfl (fun n9 g9 => ?_)
  have hz2 := hR z
  refine zr_iload_n dX1_standsIn_0 (rfl : 0 + 1 = 1) rfl ?_
  refine zr_fnSN dX1_standsIn_1 (rfl : 1 + 3 = 4) l_X1_34 (s_isNumber z hz) rfl rfl (Nat.le_of_ble_eq_true rfl) ?_
  refine zr_if_eq (tgt := 33) dX1_standsIn_4 (by decide) (rfl : 4 + 3 = 7) (by first | exact jb_iff | exact jI_z (by first | omega | (simp only [bset, reduceIte, Nat.reduceEqDiff]; omega)) (by first | omega | (simp only [bset, reduceIte, Nat.reduceEqDiff]; omega))) (fun h4 => ?_) (fun h4 => ?_)
  · first
    | (exfalso; omega)
    | (
      refine zr_iconst dX1_standsIn_33 (rfl : 33 + 1 = 34) ?_
      refine zr_iret dX1_standsIn_34 rfl (by first | exact jb_nar | rfl) ?_ rfl rfl rfl
      first | rfl | rw [jb_pos (by first | assumption | omega)] | rw [jb_neg (by first | assumption | omega)] | rw [if_pos (by first | assumption | omega)] | rw [if_neg (by first | assumption | omega)])
  · first
    | (exfalso; omega)
    | (
      refine zr_aload_n dX1_standsIn_7 (rfl : 7 + 1 = 8) rfl ?_
      refine zr_getf dX1_standsIn_8 (rfl : 8 + 3 = 11) f_X1_15 (by first | assumption | exact mw_167 | exact mw_168 | exact mw_169 | exact mw_170 | exact bk_0 | exact bk_1 | exact bk_2 | exact bk_3 | exact bk_4 | exact bk_5 | exact bk_6 | exact bk_7 | exact bk_8 | exact bk_9 | exact bk_10 | exact bk_11 | exact bk_12 | exact bk_13 | exact bk_14 | exact bk_15 | exact bk_16 | exact zup_self | exact (zup_ne (by first | assumption | omega)).trans (by first | assumption | exact zup_self) | exact (zup_ne (by first | assumption | omega)).trans ((zup_ne (by first | assumption | omega)).trans (by first | assumption | exact zup_self)) | exact (bk_out (by first | omega | (simp only [bset, reduceIte, Nat.reduceEqDiff]; omega))).trans (by first | exact bk_0 | exact bk_1 | exact bk_2 | exact bk_3 | exact bk_4 | exact bk_5 | exact bk_6 | exact bk_7 | exact bk_8 | exact bk_9 | exact bk_10 | exact bk_11 | exact bk_12 | exact bk_13 | exact bk_14 | exact bk_15 | exact bk_16 | exact cr_5 | exact cr_23 | exact cr_24 | exact cr_25 | exact cr_26 | exact cr_27 | exact cr_28 | exact cr_29 | exact cr_30 | assumption)) rfl ?_
      refine zr_iload_n dX1_standsIn_11 (rfl : 11 + 1 = 12) rfl ?_
      refine zr_iald dX1_standsIn_12 (rfl : 12 + 1 = 13) (by first | assumption | exact mw_167 | exact mw_168 | exact mw_169 | exact mw_170 | exact bk_0 | exact bk_1 | exact bk_2 | exact bk_3 | exact bk_4 | exact bk_5 | exact bk_6 | exact bk_7 | exact bk_8 | exact bk_9 | exact bk_10 | exact bk_11 | exact bk_12 | exact bk_13 | exact bk_14 | exact bk_15 | exact bk_16 | exact zup_self | exact (zup_ne (by first | assumption | omega)).trans (by first | assumption | exact zup_self) | exact (zup_ne (by first | assumption | omega)).trans ((zup_ne (by first | assumption | omega)).trans (by first | assumption | exact zup_self)) | exact (bk_out (by first | omega | (simp only [bset, reduceIte, Nat.reduceEqDiff]; omega))).trans (by first | exact bk_0 | exact bk_1 | exact bk_2 | exact bk_3 | exact bk_4 | exact bk_5 | exact bk_6 | exact bk_7 | exact bk_8 | exact bk_9 | exact bk_10 | exact bk_11 | exact bk_12 | exact bk_13 | exact bk_14 | exact bk_15 | exact bk_16 | exact cr_5 | exact cr_23 | exact cr_24 | exact cr_25 | exact cr_26 | exact cr_27 | exact cr_28 | exact cr_29 | exact cr_30 | assumption)) (by decide) (by first | omega | (simp only [bset, reduceIte, Nat.reduceEqDiff]; omega)) (by first | omega | (simp only [bset, reduceIte, Nat.reduceEqDiff]; omega)) ?_
      refine zr_iconst dX1_standsIn_13 (rfl : 13 + 1 = 14) ?_
      refine zr_icmp_eq (tgt := 33) dX1_standsIn_14 (by decide) (rfl : 14 + 3 = 17) (jI_eq (by first | omega | (simp only [bset, reduceIte, Nat.reduceEqDiff]; omega)) (by first | omega | (simp only [bset, reduceIte, Nat.reduceEqDiff]; omega)) (by first | omega | (simp only [bset, reduceIte, Nat.reduceEqDiff]; omega)) (by first | omega | (simp only [bset, reduceIte, Nat.reduceEqDiff]; omega))) (fun h14 => ?_) (fun h14 => ?_)
      · first
        | (exfalso; omega)
        | (
          refine zr_iconst dX1_standsIn_33 (rfl : 33 + 1 = 34) ?_
          refine zr_iret dX1_standsIn_34 rfl (by first | exact jb_nar | rfl) ?_ rfl rfl rfl
          first | rfl | rw [jb_pos (by first | assumption | omega)] | rw [jb_neg (by first | assumption | omega)] | rw [if_pos (by first | assumption | omega)] | rw [if_neg (by first | assumption | omega)])
      · first
        | (exfalso; omega)
        | (
          refine zr_aload_n dX1_standsIn_17 (rfl : 17 + 1 = 18) rfl ?_
          refine zr_getf dX1_standsIn_18 (rfl : 18 + 3 = 21) f_X1_15 (by first | assumption | exact mw_167 | exact mw_168 | exact mw_169 | exact mw_170 | exact bk_0 | exact bk_1 | exact bk_2 | exact bk_3 | exact bk_4 | exact bk_5 | exact bk_6 | exact bk_7 | exact bk_8 | exact bk_9 | exact bk_10 | exact bk_11 | exact bk_12 | exact bk_13 | exact bk_14 | exact bk_15 | exact bk_16 | exact zup_self | exact (zup_ne (by first | assumption | omega)).trans (by first | assumption | exact zup_self) | exact (zup_ne (by first | assumption | omega)).trans ((zup_ne (by first | assumption | omega)).trans (by first | assumption | exact zup_self)) | exact (bk_out (by first | omega | (simp only [bset, reduceIte, Nat.reduceEqDiff]; omega))).trans (by first | exact bk_0 | exact bk_1 | exact bk_2 | exact bk_3 | exact bk_4 | exact bk_5 | exact bk_6 | exact bk_7 | exact bk_8 | exact bk_9 | exact bk_10 | exact bk_11 | exact bk_12 | exact bk_13 | exact bk_14 | exact bk_15 | exact bk_16 | exact cr_5 | exact cr_23 | exact cr_24 | exact cr_25 | exact cr_26 | exact cr_27 | exact cr_28 | exact cr_29 | exact cr_30 | assumption)) rfl ?_
          refine zr_iload_n dX1_standsIn_21 (rfl : 21 + 1 = 22) rfl ?_
          refine zr_iald dX1_standsIn_22 (rfl : 22 + 1 = 23) (by first | assumption | exact mw_167 | exact mw_168 | exact mw_169 | exact mw_170 | exact bk_0 | exact bk_1 | exact bk_2 | exact bk_3 | exact bk_4 | exact bk_5 | exact bk_6 | exact bk_7 | exact bk_8 | exact bk_9 | exact bk_10 | exact bk_11 | exact bk_12 | exact bk_13 | exact bk_14 | exact bk_15 | exact bk_16 | exact zup_self | exact (zup_ne (by first | assumption | omega)).trans (by first | assumption | exact zup_self) | exact (zup_ne (by first | assumption | omega)).trans ((zup_ne (by first | assumption | omega)).trans (by first | assumption | exact zup_self)) | exact (bk_out (by first | omega | (simp only [bset, reduceIte, Nat.reduceEqDiff]; omega))).trans (by first | exact bk_0 | exact bk_1 | exact bk_2 | exact bk_3 | exact bk_4 | exact bk_5 | exact bk_6 | exact bk_7 | exact bk_8 | exact bk_9 | exact bk_10 | exact bk_11 | exact bk_12 | exact bk_13 | exact bk_14 | exact bk_15 | exact bk_16 | exact cr_5 | exact cr_23 | exact cr_24 | exact cr_25 | exact cr_26 | exact cr_27 | exact cr_28 | exact cr_29 | exact cr_30 | assumption)) (by decide) (by first | omega | (simp only [bset, reduceIte, Nat.reduceEqDiff]; omega)) (by first | omega | (simp only [bset, reduceIte, Nat.reduceEqDiff]; omega)) ?_
          refine zr_iconst dX1_standsIn_23 (rfl : 23 + 1 = 24) ?_
          refine zr_idiv dX1_standsIn_24 (rfl : 24 + 1 = 25) (fun q => absurd ((jI_z (by first | omega | (simp only [bset, reduceIte, Nat.reduceEqDiff]; omega)) (by first | omega | (simp only [bset, reduceIte, Nat.reduceEqDiff]; omega))).mp q) (by first | omega | (simp only [bset, reduceIte, Nat.reduceEqDiff]; omega))) (jI_div (by first | omega | (simp only [bset, reduceIte, Nat.reduceEqDiff]; omega)) (by first | omega | (simp only [bset, reduceIte, Nat.reduceEqDiff]; omega)) (by first | omega | (simp only [bset, reduceIte, Nat.reduceEqDiff]; omega)) (by first | omega | (simp only [bset, reduceIte, Nat.reduceEqDiff]; omega))) ?_
          refine zr_iload_n dX1_standsIn_25 (rfl : 25 + 1 = 26) rfl ?_
          refine zr_icmp_ne (tgt := 33) dX1_standsIn_26 (by decide) (rfl : 26 + 3 = 29) (jI_eq (by first | omega | (simp only [bset, reduceIte, Nat.reduceEqDiff]; omega)) (by first | omega | (simp only [bset, reduceIte, Nat.reduceEqDiff]; omega)) (by first | omega | (simp only [bset, reduceIte, Nat.reduceEqDiff]; omega)) (by first | omega | (simp only [bset, reduceIte, Nat.reduceEqDiff]; omega))) (fun h26 => ?_) (fun h26 => ?_)
          · first
            | (exfalso; omega)
            | (
              refine zr_iconst dX1_standsIn_33 (rfl : 33 + 1 = 34) ?_
              refine zr_iret dX1_standsIn_34 rfl (by first | exact jb_nar | rfl) ?_ rfl rfl rfl
              first | rfl | rw [jb_pos (by first | assumption | omega)] | rw [jb_neg (by first | assumption | omega)] | rw [if_pos (by first | assumption | omega)] | rw [if_neg (by first | assumption | omega)])
          · first
            | (exfalso; omega)
            | (
              refine zr_iconst dX1_standsIn_29 (rfl : 29 + 1 = 30) ?_
              refine zr_goto (tgt := 34) dX1_standsIn_30 (by decide) ?_
              refine zr_iret dX1_standsIn_34 rfl (by first | exact jb_nar | rfl) ?_ rfl rfl rfl
              first | rfl | rw [jb_pos (by first | assumption | omega)] | rw [jb_neg (by first | assumption | omega)] | rw [if_pos (by first | assumption | omega)] | rw [if_neg (by first | assumption | omega)])))
theorem s_stand (r n : Int) (hr : 0 ≤ r ∧ r < 18) (hn : 1 ≤ n ∧ n ≤ 90) : zFn Γ md_X1_stand (d + 1) [.ref (b + 1), .int (jI r), .int (jI n)] (bk b B w) none (bk b (bset (bset (bset B 0 (jup (B 0) (r * 9 + jcol n) n)) 1 (jup (B 1) n r)) 2 (fun _ => B 2 0 + 1)) w) := by
  refine zFn.of_run (lv := [some (.ref (b + 1)), some (.int (jI r)), some (.int (jI n))]) (by decide) rfl (Nat.le_of_ble_eq_true rfl) rfl (fun n9 g9 => ?_)
  have hcol := jcol_r (n := n) (by omega)
  refine zr_aload_n dX1_stand_0 (rfl : 0 + 1 = 1) rfl ?_
  refine zr_getf dX1_stand_1 (rfl : 1 + 3 = 4) f_X1_9 (by first | assumption | exact mw_167 | exact mw_168 | exact mw_169 | exact mw_170 | exact bk_0 | exact bk_1 | exact bk_2 | exact bk_3 | exact bk_4 | exact bk_5 | exact bk_6 | exact bk_7 | exact bk_8 | exact bk_9 | exact bk_10 | exact bk_11 | exact bk_12 | exact bk_13 | exact bk_14 | exact bk_15 | exact bk_16 | exact zup_self | exact (zup_ne (by first | assumption | omega)).trans (by first | assumption | exact zup_self) | exact (zup_ne (by first | assumption | omega)).trans ((zup_ne (by first | assumption | omega)).trans (by first | assumption | exact zup_self)) | exact (bk_out (by first | omega | (simp only [bset, reduceIte, Nat.reduceEqDiff]; omega))).trans (by first | exact bk_0 | exact bk_1 | exact bk_2 | exact bk_3 | exact bk_4 | exact bk_5 | exact bk_6 | exact bk_7 | exact bk_8 | exact bk_9 | exact bk_10 | exact bk_11 | exact bk_12 | exact bk_13 | exact bk_14 | exact bk_15 | exact bk_16 | exact cr_5 | exact cr_23 | exact cr_24 | exact cr_25 | exact cr_26 | exact cr_27 | exact cr_28 | exact cr_29 | exact cr_30 | assumption)) rfl ?_
  refine zr_iload_n dX1_stand_4 (rfl : 4 + 1 = 5) rfl ?_
  refine zr_bipush dX1_stand_5 (rfl : 5 + 2 = 7) (by decide) ?_
  refine zr_imul dX1_stand_7 (rfl : 7 + 1 = 8) (by first | exact jI_mul _ _ | rfl) ?_
  refine zr_iload_n dX1_stand_8 (rfl : 8 + 1 = 9) rfl ?_
  refine zr_fnS dX1_stand_9 (rfl : 9 + 3 = 12) l_X1_38 (s_columnOf n (by first | omega | (simp only [bset, reduceIte, Nat.reduceEqDiff]; omega))) rfl rfl (Nat.le_of_ble_eq_true rfl) ?_
  refine zr_iadd dX1_stand_12 (rfl : 12 + 1 = 13) (by first | exact jI_add _ _ | rfl) ?_
  refine zr_iload_n dX1_stand_13 (rfl : 13 + 1 = 14) rfl ?_
  refine zr_iast dX1_stand_14 (rfl : 14 + 1 = 15) (by first | assumption | exact mw_167 | exact mw_168 | exact mw_169 | exact mw_170 | exact bk_0 | exact bk_1 | exact bk_2 | exact bk_3 | exact bk_4 | exact bk_5 | exact bk_6 | exact bk_7 | exact bk_8 | exact bk_9 | exact bk_10 | exact bk_11 | exact bk_12 | exact bk_13 | exact bk_14 | exact bk_15 | exact bk_16 | exact zup_self | exact (zup_ne (by first | assumption | omega)).trans (by first | assumption | exact zup_self) | exact (zup_ne (by first | assumption | omega)).trans ((zup_ne (by first | assumption | omega)).trans (by first | assumption | exact zup_self)) | exact (bk_out (by first | omega | (simp only [bset, reduceIte, Nat.reduceEqDiff]; omega))).trans (by first | exact bk_0 | exact bk_1 | exact bk_2 | exact bk_3 | exact bk_4 | exact bk_5 | exact bk_6 | exact bk_7 | exact bk_8 | exact bk_9 | exact bk_10 | exact bk_11 | exact bk_12 | exact bk_13 | exact bk_14 | exact bk_15 | exact bk_16 | exact cr_5 | exact cr_23 | exact cr_24 | exact cr_25 | exact cr_26 | exact cr_27 | exact cr_28 | exact cr_29 | exact cr_30 | assumption)) (by decide) (by first | omega | (simp only [bset, reduceIte, Nat.reduceEqDiff]; omega)) (by first | omega | (simp only [bset, reduceIte, Nat.reduceEqDiff]; omega)) rfl ?_
  rw [bku_0]
  refine zr_aload_n dX1_stand_15 (rfl : 15 + 1 = 16) rfl ?_
  refine zr_getf dX1_stand_16 (rfl : 16 + 3 = 19) f_X1_15 (by first | assumption | exact mw_167 | exact mw_168 | exact mw_169 | exact mw_170 | exact bk_0 | exact bk_1 | exact bk_2 | exact bk_3 | exact bk_4 | exact bk_5 | exact bk_6 | exact bk_7 | exact bk_8 | exact bk_9 | exact bk_10 | exact bk_11 | exact bk_12 | exact bk_13 | exact bk_14 | exact bk_15 | exact bk_16 | exact zup_self | exact (zup_ne (by first | assumption | omega)).trans (by first | assumption | exact zup_self) | exact (zup_ne (by first | assumption | omega)).trans ((zup_ne (by first | assumption | omega)).trans (by first | assumption | exact zup_self)) | exact (bk_out (by first | omega | (simp only [bset, reduceIte, Nat.reduceEqDiff]; omega))).trans (by first | exact bk_0 | exact bk_1 | exact bk_2 | exact bk_3 | exact bk_4 | exact bk_5 | exact bk_6 | exact bk_7 | exact bk_8 | exact bk_9 | exact bk_10 | exact bk_11 | exact bk_12 | exact bk_13 | exact bk_14 | exact bk_15 | exact bk_16 | exact cr_5 | exact cr_23 | exact cr_24 | exact cr_25 | exact cr_26 | exact cr_27 | exact cr_28 | exact cr_29 | exact cr_30 | assumption)) rfl ?_
  refine zr_iload_n dX1_stand_19 (rfl : 19 + 1 = 20) rfl ?_
  refine zr_iload_n dX1_stand_20 (rfl : 20 + 1 = 21) rfl ?_
  refine zr_iast dX1_stand_21 (rfl : 21 + 1 = 22) (by first | assumption | exact mw_167 | exact mw_168 | exact mw_169 | exact mw_170 | exact bk_0 | exact bk_1 | exact bk_2 | exact bk_3 | exact bk_4 | exact bk_5 | exact bk_6 | exact bk_7 | exact bk_8 | exact bk_9 | exact bk_10 | exact bk_11 | exact bk_12 | exact bk_13 | exact bk_14 | exact bk_15 | exact bk_16 | exact zup_self | exact (zup_ne (by first | assumption | omega)).trans (by first | assumption | exact zup_self) | exact (zup_ne (by first | assumption | omega)).trans ((zup_ne (by first | assumption | omega)).trans (by first | assumption | exact zup_self)) | exact (bk_out (by first | omega | (simp only [bset, reduceIte, Nat.reduceEqDiff]; omega))).trans (by first | exact bk_0 | exact bk_1 | exact bk_2 | exact bk_3 | exact bk_4 | exact bk_5 | exact bk_6 | exact bk_7 | exact bk_8 | exact bk_9 | exact bk_10 | exact bk_11 | exact bk_12 | exact bk_13 | exact bk_14 | exact bk_15 | exact bk_16 | exact cr_5 | exact cr_23 | exact cr_24 | exact cr_25 | exact cr_26 | exact cr_27 | exact cr_28 | exact cr_29 | exact cr_30 | assumption)) (by decide) (by first | omega | (simp only [bset, reduceIte, Nat.reduceEqDiff]; omega)) (by first | omega | (simp only [bset, reduceIte, Nat.reduceEqDiff]; omega)) rfl ?_
  rw [bku_1]
  refine zr_aload_n dX1_stand_22 (rfl : 22 + 1 = 23) rfl ?_
  refine zr_dup dX1_stand_23 (rfl : 23 + 1 = 24) rfl ?_
  refine zr_getf dX1_stand_24 (rfl : 24 + 3 = 27) f_X1_30 (by first | assumption | exact mw_167 | exact mw_168 | exact mw_169 | exact mw_170 | exact bk_0 | exact bk_1 | exact bk_2 | exact bk_3 | exact bk_4 | exact bk_5 | exact bk_6 | exact bk_7 | exact bk_8 | exact bk_9 | exact bk_10 | exact bk_11 | exact bk_12 | exact bk_13 | exact bk_14 | exact bk_15 | exact bk_16 | exact zup_self | exact (zup_ne (by first | assumption | omega)).trans (by first | assumption | exact zup_self) | exact (zup_ne (by first | assumption | omega)).trans ((zup_ne (by first | assumption | omega)).trans (by first | assumption | exact zup_self)) | exact (bk_out (by first | omega | (simp only [bset, reduceIte, Nat.reduceEqDiff]; omega))).trans (by first | exact bk_0 | exact bk_1 | exact bk_2 | exact bk_3 | exact bk_4 | exact bk_5 | exact bk_6 | exact bk_7 | exact bk_8 | exact bk_9 | exact bk_10 | exact bk_11 | exact bk_12 | exact bk_13 | exact bk_14 | exact bk_15 | exact bk_16 | exact cr_5 | exact cr_23 | exact cr_24 | exact cr_25 | exact cr_26 | exact cr_27 | exact cr_28 | exact cr_29 | exact cr_30 | assumption)) rfl ?_
  refine zr_iconst dX1_stand_27 (rfl : 27 + 1 = 28) ?_
  refine zr_iadd dX1_stand_28 (rfl : 28 + 1 = 29) (by first | exact jI_add _ _ | rfl) ?_
  refine zr_putf (fs' := [_, _, _]) dX1_stand_29 (rfl : 29 + 3 = 32) f_X1_30 ft_1_2 (by first | assumption | exact mw_167 | exact mw_168 | exact mw_169 | exact mw_170 | exact bk_0 | exact bk_1 | exact bk_2 | exact bk_3 | exact bk_4 | exact bk_5 | exact bk_6 | exact bk_7 | exact bk_8 | exact bk_9 | exact bk_10 | exact bk_11 | exact bk_12 | exact bk_13 | exact bk_14 | exact bk_15 | exact bk_16 | exact zup_self | exact (zup_ne (by first | assumption | omega)).trans (by first | assumption | exact zup_self) | exact (zup_ne (by first | assumption | omega)).trans ((zup_ne (by first | assumption | omega)).trans (by first | assumption | exact zup_self)) | exact (bk_out (by first | omega | (simp only [bset, reduceIte, Nat.reduceEqDiff]; omega))).trans (by first | exact bk_0 | exact bk_1 | exact bk_2 | exact bk_3 | exact bk_4 | exact bk_5 | exact bk_6 | exact bk_7 | exact bk_8 | exact bk_9 | exact bk_10 | exact bk_11 | exact bk_12 | exact bk_13 | exact bk_14 | exact bk_15 | exact bk_16 | exact cr_5 | exact cr_23 | exact cr_24 | exact cr_25 | exact cr_26 | exact cr_27 | exact cr_28 | exact cr_29 | exact cr_30 | assumption)) (Nat.le_of_ble_eq_true rfl) rfl rfl rfl ?_
  rw [bku_2]
  exact zr_vret dX1_stand_32 rfl rfl rfl rfl
theorem s_lift (n : Int) (hn : 1 ≤ n ∧ n ≤ 90) (hr : 0 ≤ B 1 n ∧ B 1 n < 18) : zFn Γ md_X1_lift (d + 1) [.ref (b + 1), .int (jI n)] (bk b B w) none (bk b (bset (bset (bset B 0 (jup (B 0) (B 1 n * 9 + jcol n) 0)) 1 (jup (B 1) n (-1))) 2 (fun _ => B 2 0 - 1)) w) := by
  refine zFn.of_run (lv := [some (.ref (b + 1)), some (.int (jI n))]) (by decide) rfl (Nat.le_of_ble_eq_true rfl) rfl (fun n9 g9 => ?_)
  have hcol := jcol_r (n := n) (by omega)
  refine zr_aload_n dX1_lift_0 (rfl : 0 + 1 = 1) rfl ?_
  refine zr_getf dX1_lift_1 (rfl : 1 + 3 = 4) f_X1_9 (by first | assumption | exact mw_167 | exact mw_168 | exact mw_169 | exact mw_170 | exact bk_0 | exact bk_1 | exact bk_2 | exact bk_3 | exact bk_4 | exact bk_5 | exact bk_6 | exact bk_7 | exact bk_8 | exact bk_9 | exact bk_10 | exact bk_11 | exact bk_12 | exact bk_13 | exact bk_14 | exact bk_15 | exact bk_16 | exact zup_self | exact (zup_ne (by first | assumption | omega)).trans (by first | assumption | exact zup_self) | exact (zup_ne (by first | assumption | omega)).trans ((zup_ne (by first | assumption | omega)).trans (by first | assumption | exact zup_self)) | exact (bk_out (by first | omega | (simp only [bset, reduceIte, Nat.reduceEqDiff]; omega))).trans (by first | exact bk_0 | exact bk_1 | exact bk_2 | exact bk_3 | exact bk_4 | exact bk_5 | exact bk_6 | exact bk_7 | exact bk_8 | exact bk_9 | exact bk_10 | exact bk_11 | exact bk_12 | exact bk_13 | exact bk_14 | exact bk_15 | exact bk_16 | exact cr_5 | exact cr_23 | exact cr_24 | exact cr_25 | exact cr_26 | exact cr_27 | exact cr_28 | exact cr_29 | exact cr_30 | assumption)) rfl ?_
  refine zr_aload_n dX1_lift_4 (rfl : 4 + 1 = 5) rfl ?_
  refine zr_getf dX1_lift_5 (rfl : 5 + 3 = 8) f_X1_15 (by first | assumption | exact mw_167 | exact mw_168 | exact mw_169 | exact mw_170 | exact bk_0 | exact bk_1 | exact bk_2 | exact bk_3 | exact bk_4 | exact bk_5 | exact bk_6 | exact bk_7 | exact bk_8 | exact bk_9 | exact bk_10 | exact bk_11 | exact bk_12 | exact bk_13 | exact bk_14 | exact bk_15 | exact bk_16 | exact zup_self | exact (zup_ne (by first | assumption | omega)).trans (by first | assumption | exact zup_self) | exact (zup_ne (by first | assumption | omega)).trans ((zup_ne (by first | assumption | omega)).trans (by first | assumption | exact zup_self)) | exact (bk_out (by first | omega | (simp only [bset, reduceIte, Nat.reduceEqDiff]; omega))).trans (by first | exact bk_0 | exact bk_1 | exact bk_2 | exact bk_3 | exact bk_4 | exact bk_5 | exact bk_6 | exact bk_7 | exact bk_8 | exact bk_9 | exact bk_10 | exact bk_11 | exact bk_12 | exact bk_13 | exact bk_14 | exact bk_15 | exact bk_16 | exact cr_5 | exact cr_23 | exact cr_24 | exact cr_25 | exact cr_26 | exact cr_27 | exact cr_28 | exact cr_29 | exact cr_30 | assumption)) rfl ?_
  refine zr_iload_n dX1_lift_8 (rfl : 8 + 1 = 9) rfl ?_
  refine zr_iald dX1_lift_9 (rfl : 9 + 1 = 10) (by first | assumption | exact mw_167 | exact mw_168 | exact mw_169 | exact mw_170 | exact bk_0 | exact bk_1 | exact bk_2 | exact bk_3 | exact bk_4 | exact bk_5 | exact bk_6 | exact bk_7 | exact bk_8 | exact bk_9 | exact bk_10 | exact bk_11 | exact bk_12 | exact bk_13 | exact bk_14 | exact bk_15 | exact bk_16 | exact zup_self | exact (zup_ne (by first | assumption | omega)).trans (by first | assumption | exact zup_self) | exact (zup_ne (by first | assumption | omega)).trans ((zup_ne (by first | assumption | omega)).trans (by first | assumption | exact zup_self)) | exact (bk_out (by first | omega | (simp only [bset, reduceIte, Nat.reduceEqDiff]; omega))).trans (by first | exact bk_0 | exact bk_1 | exact bk_2 | exact bk_3 | exact bk_4 | exact bk_5 | exact bk_6 | exact bk_7 | exact bk_8 | exact bk_9 | exact bk_10 | exact bk_11 | exact bk_12 | exact bk_13 | exact bk_14 | exact bk_15 | exact bk_16 | exact cr_5 | exact cr_23 | exact cr_24 | exact cr_25 | exact cr_26 | exact cr_27 | exact cr_28 | exact cr_29 | exact cr_30 | assumption)) (by decide) (by first | omega | (simp only [bset, reduceIte, Nat.reduceEqDiff]; omega)) (by first | omega | (simp only [bset, reduceIte, Nat.reduceEqDiff]; omega)) ?_
  refine zr_bipush dX1_lift_10 (rfl : 10 + 2 = 12) (by decide) ?_
  refine zr_imul dX1_lift_12 (rfl : 12 + 1 = 13) (by first | exact jI_mul _ _ | rfl) ?_
  refine zr_iload_n dX1_lift_13 (rfl : 13 + 1 = 14) rfl ?_
  refine zr_fnS dX1_lift_14 (rfl : 14 + 3 = 17) l_X1_38 (s_columnOf n (by first | omega | (simp only [bset, reduceIte, Nat.reduceEqDiff]; omega))) rfl rfl (Nat.le_of_ble_eq_true rfl) ?_
  refine zr_iadd dX1_lift_17 (rfl : 17 + 1 = 18) (by first | exact jI_add _ _ | rfl) ?_
  refine zr_iconst dX1_lift_18 (rfl : 18 + 1 = 19) ?_
  refine zr_iast dX1_lift_19 (rfl : 19 + 1 = 20) (by first | assumption | exact mw_167 | exact mw_168 | exact mw_169 | exact mw_170 | exact bk_0 | exact bk_1 | exact bk_2 | exact bk_3 | exact bk_4 | exact bk_5 | exact bk_6 | exact bk_7 | exact bk_8 | exact bk_9 | exact bk_10 | exact bk_11 | exact bk_12 | exact bk_13 | exact bk_14 | exact bk_15 | exact bk_16 | exact zup_self | exact (zup_ne (by first | assumption | omega)).trans (by first | assumption | exact zup_self) | exact (zup_ne (by first | assumption | omega)).trans ((zup_ne (by first | assumption | omega)).trans (by first | assumption | exact zup_self)) | exact (bk_out (by first | omega | (simp only [bset, reduceIte, Nat.reduceEqDiff]; omega))).trans (by first | exact bk_0 | exact bk_1 | exact bk_2 | exact bk_3 | exact bk_4 | exact bk_5 | exact bk_6 | exact bk_7 | exact bk_8 | exact bk_9 | exact bk_10 | exact bk_11 | exact bk_12 | exact bk_13 | exact bk_14 | exact bk_15 | exact bk_16 | exact cr_5 | exact cr_23 | exact cr_24 | exact cr_25 | exact cr_26 | exact cr_27 | exact cr_28 | exact cr_29 | exact cr_30 | assumption)) (by decide) (by first | omega | (simp only [bset, reduceIte, Nat.reduceEqDiff]; omega)) (by first | omega | (simp only [bset, reduceIte, Nat.reduceEqDiff]; omega)) rfl ?_
  rw [bku_0]
  refine zr_aload_n dX1_lift_20 (rfl : 20 + 1 = 21) rfl ?_
  refine zr_getf dX1_lift_21 (rfl : 21 + 3 = 24) f_X1_15 (by first | assumption | exact mw_167 | exact mw_168 | exact mw_169 | exact mw_170 | exact bk_0 | exact bk_1 | exact bk_2 | exact bk_3 | exact bk_4 | exact bk_5 | exact bk_6 | exact bk_7 | exact bk_8 | exact bk_9 | exact bk_10 | exact bk_11 | exact bk_12 | exact bk_13 | exact bk_14 | exact bk_15 | exact bk_16 | exact zup_self | exact (zup_ne (by first | assumption | omega)).trans (by first | assumption | exact zup_self) | exact (zup_ne (by first | assumption | omega)).trans ((zup_ne (by first | assumption | omega)).trans (by first | assumption | exact zup_self)) | exact (bk_out (by first | omega | (simp only [bset, reduceIte, Nat.reduceEqDiff]; omega))).trans (by first | exact bk_0 | exact bk_1 | exact bk_2 | exact bk_3 | exact bk_4 | exact bk_5 | exact bk_6 | exact bk_7 | exact bk_8 | exact bk_9 | exact bk_10 | exact bk_11 | exact bk_12 | exact bk_13 | exact bk_14 | exact bk_15 | exact bk_16 | exact cr_5 | exact cr_23 | exact cr_24 | exact cr_25 | exact cr_26 | exact cr_27 | exact cr_28 | exact cr_29 | exact cr_30 | assumption)) rfl ?_
  refine zr_iload_n dX1_lift_24 (rfl : 24 + 1 = 25) rfl ?_
  refine zr_iconst dX1_lift_25 (rfl : 25 + 1 = 26) ?_
  refine zr_iast dX1_lift_26 (rfl : 26 + 1 = 27) (by first | assumption | exact mw_167 | exact mw_168 | exact mw_169 | exact mw_170 | exact bk_0 | exact bk_1 | exact bk_2 | exact bk_3 | exact bk_4 | exact bk_5 | exact bk_6 | exact bk_7 | exact bk_8 | exact bk_9 | exact bk_10 | exact bk_11 | exact bk_12 | exact bk_13 | exact bk_14 | exact bk_15 | exact bk_16 | exact zup_self | exact (zup_ne (by first | assumption | omega)).trans (by first | assumption | exact zup_self) | exact (zup_ne (by first | assumption | omega)).trans ((zup_ne (by first | assumption | omega)).trans (by first | assumption | exact zup_self)) | exact (bk_out (by first | omega | (simp only [bset, reduceIte, Nat.reduceEqDiff]; omega))).trans (by first | exact bk_0 | exact bk_1 | exact bk_2 | exact bk_3 | exact bk_4 | exact bk_5 | exact bk_6 | exact bk_7 | exact bk_8 | exact bk_9 | exact bk_10 | exact bk_11 | exact bk_12 | exact bk_13 | exact bk_14 | exact bk_15 | exact bk_16 | exact cr_5 | exact cr_23 | exact cr_24 | exact cr_25 | exact cr_26 | exact cr_27 | exact cr_28 | exact cr_29 | exact cr_30 | assumption)) (by decide) (by first | omega | (simp only [bset, reduceIte, Nat.reduceEqDiff]; omega)) (by first | omega | (simp only [bset, reduceIte, Nat.reduceEqDiff]; omega)) rfl ?_
  rw [bku_1]
  refine zr_aload_n dX1_lift_27 (rfl : 27 + 1 = 28) rfl ?_
  refine zr_dup dX1_lift_28 (rfl : 28 + 1 = 29) rfl ?_
  refine zr_getf dX1_lift_29 (rfl : 29 + 3 = 32) f_X1_30 (by first | assumption | exact mw_167 | exact mw_168 | exact mw_169 | exact mw_170 | exact bk_0 | exact bk_1 | exact bk_2 | exact bk_3 | exact bk_4 | exact bk_5 | exact bk_6 | exact bk_7 | exact bk_8 | exact bk_9 | exact bk_10 | exact bk_11 | exact bk_12 | exact bk_13 | exact bk_14 | exact bk_15 | exact bk_16 | exact zup_self | exact (zup_ne (by first | assumption | omega)).trans (by first | assumption | exact zup_self) | exact (zup_ne (by first | assumption | omega)).trans ((zup_ne (by first | assumption | omega)).trans (by first | assumption | exact zup_self)) | exact (bk_out (by first | omega | (simp only [bset, reduceIte, Nat.reduceEqDiff]; omega))).trans (by first | exact bk_0 | exact bk_1 | exact bk_2 | exact bk_3 | exact bk_4 | exact bk_5 | exact bk_6 | exact bk_7 | exact bk_8 | exact bk_9 | exact bk_10 | exact bk_11 | exact bk_12 | exact bk_13 | exact bk_14 | exact bk_15 | exact bk_16 | exact cr_5 | exact cr_23 | exact cr_24 | exact cr_25 | exact cr_26 | exact cr_27 | exact cr_28 | exact cr_29 | exact cr_30 | assumption)) rfl ?_
  refine zr_iconst dX1_lift_32 (rfl : 32 + 1 = 33) ?_
  refine zr_isub dX1_lift_33 (rfl : 33 + 1 = 34) (by first | exact jI_sub _ _ | rfl) ?_
  refine zr_putf (fs' := [_, _, _]) dX1_lift_34 (rfl : 34 + 3 = 37) f_X1_30 ft_1_2 (by first | assumption | exact mw_167 | exact mw_168 | exact mw_169 | exact mw_170 | exact bk_0 | exact bk_1 | exact bk_2 | exact bk_3 | exact bk_4 | exact bk_5 | exact bk_6 | exact bk_7 | exact bk_8 | exact bk_9 | exact bk_10 | exact bk_11 | exact bk_12 | exact bk_13 | exact bk_14 | exact bk_15 | exact bk_16 | exact zup_self | exact (zup_ne (by first | assumption | omega)).trans (by first | assumption | exact zup_self) | exact (zup_ne (by first | assumption | omega)).trans ((zup_ne (by first | assumption | omega)).trans (by first | assumption | exact zup_self)) | exact (bk_out (by first | omega | (simp only [bset, reduceIte, Nat.reduceEqDiff]; omega))).trans (by first | exact bk_0 | exact bk_1 | exact bk_2 | exact bk_3 | exact bk_4 | exact bk_5 | exact bk_6 | exact bk_7 | exact bk_8 | exact bk_9 | exact bk_10 | exact bk_11 | exact bk_12 | exact bk_13 | exact bk_14 | exact bk_15 | exact bk_16 | exact cr_5 | exact cr_23 | exact cr_24 | exact cr_25 | exact cr_26 | exact cr_27 | exact cr_28 | exact cr_29 | exact cr_30 | assumption)) (Nat.le_of_ble_eq_true rfl) rfl rfl rfl ?_
  rw [bku_2]
  exact zr_vret dX1_lift_37 rfl rfl rfl rfl
/-- how many numbers a row has, by columns -/
def jrs (P : Int → Int) (r : Int) : Int := jcnt 9 (fun c => decide (P (r * 9 + c) ≠ 0))
theorem jrs_r (P : Int → Int) (r : Int) : 0 ≤ jrs P r ∧ jrs P r ≤ 9 := jcnt_nn 9 _
theorem s_rowSize (r : Int) (hr : 0 ≤ r ∧ r < 18) (hP : ∀ z, 0 ≤ B 0 z ∧ B 0 z ≤ 90) : zFn Γ md_X1_rowSize d [.ref (b + 1), .int (jI r)] (bk b B w) (some (.int (jI (jrs (B 0) r)))) (bk b B w) := by
  refine zFn.of_run (lv := [some (.ref (b + 1)), some (.int (jI r)), none, none]) (by decide) rfl (Nat.le_of_ble_eq_true rfl) rfl (fun n9 g9 => ?_)
  refine zr_iconst dX1_rowSize_0 (rfl : 0 + 1 = 1) ?_
  refine zr_istore_n (lv' := [_, _, _, _]) dX1_rowSize_1 (rfl : 1 + 1 = 2) (Nat.le_of_ble_eq_true rfl) rfl ?_
  refine zr_iconst dX1_rowSize_2 (rfl : 2 + 1 = 3) ?_
  refine zr_istore_n (lv' := [_, _, _, _]) dX1_rowSize_3 (rfl : 3 + 1 = 4) (Nat.le_of_ble_eq_true rfl) rfl ?_
  refine zloop1 9 (fun i m => m = jcnt i.toNat (fun c => decide (B 0 (r * 9 + c) ≠ 0))) (fun i m => [some (.ref (b + 1)), some (.int (jI r)), some (.int (jI m)), some (.int (jI i))]) (fun _ _ => bk b B w) 0 rfl ?_ ?_
  · intro i m h0 h9 hm hk
    have hp := hP (r * 9 + i)
    have hj := jcnt_next (q := fun c => decide (B 0 (r * 9 + c) ≠ 0)) h0
    refine zr_iload_n dX1_rowSize_4 (rfl : 4 + 1 = 5) rfl ?_
    refine zr_bipush dX1_rowSize_5 (rfl : 5 + 2 = 7) (by decide) ?_
    refine zr_icmp_ge (tgt := 38) dX1_rowSize_7 (by decide) (rfl : 7 + 3 = 10) (jI_le (by first | omega | (simp only [bset, reduceIte, Nat.reduceEqDiff]; omega)) (by first | omega | (simp only [bset, reduceIte, Nat.reduceEqDiff]; omega)) (by first | omega | (simp only [bset, reduceIte, Nat.reduceEqDiff]; omega)) (by first | omega | (simp only [bset, reduceIte, Nat.reduceEqDiff]; omega))) (fun h7 => ?_) (fun h7 => ?_)
    · first
      | (exfalso; omega)
      | (
        refine zr_iload_n dX1_rowSize_38 (rfl : 38 + 1 = 39) rfl ?_
        refine zr_iret dX1_rowSize_39 rfl rfl ?_ rfl rfl rfl
        first | rfl | rw [jb_pos (by first | assumption | omega)] | rw [jb_neg (by first | assumption | omega)] | rw [if_pos (by first | assumption | omega)] | rw [if_neg (by first | assumption | omega)])
    · first
      | (exfalso; omega)
      | (
        refine zr_iload_n dX1_rowSize_10 (rfl : 10 + 1 = 11) rfl ?_
        refine zr_aload_n dX1_rowSize_11 (rfl : 11 + 1 = 12) rfl ?_
        refine zr_getf dX1_rowSize_12 (rfl : 12 + 3 = 15) f_X1_9 (by first | assumption | exact mw_167 | exact mw_168 | exact mw_169 | exact mw_170 | exact bk_0 | exact bk_1 | exact bk_2 | exact bk_3 | exact bk_4 | exact bk_5 | exact bk_6 | exact bk_7 | exact bk_8 | exact bk_9 | exact bk_10 | exact bk_11 | exact bk_12 | exact bk_13 | exact bk_14 | exact bk_15 | exact bk_16 | exact zup_self | exact (zup_ne (by first | assumption | omega)).trans (by first | assumption | exact zup_self) | exact (zup_ne (by first | assumption | omega)).trans ((zup_ne (by first | assumption | omega)).trans (by first | assumption | exact zup_self)) | exact (bk_out (by first | omega | (simp only [bset, reduceIte, Nat.reduceEqDiff]; omega))).trans (by first | exact bk_0 | exact bk_1 | exact bk_2 | exact bk_3 | exact bk_4 | exact bk_5 | exact bk_6 | exact bk_7 | exact bk_8 | exact bk_9 | exact bk_10 | exact bk_11 | exact bk_12 | exact bk_13 | exact bk_14 | exact bk_15 | exact bk_16 | exact cr_5 | exact cr_23 | exact cr_24 | exact cr_25 | exact cr_26 | exact cr_27 | exact cr_28 | exact cr_29 | exact cr_30 | assumption)) rfl ?_
        refine zr_iload_n dX1_rowSize_15 (rfl : 15 + 1 = 16) rfl ?_
        refine zr_bipush dX1_rowSize_16 (rfl : 16 + 2 = 18) (by decide) ?_
        refine zr_imul dX1_rowSize_18 (rfl : 18 + 1 = 19) (by first | exact jI_mul _ _ | rfl) ?_
        refine zr_iload_n dX1_rowSize_19 (rfl : 19 + 1 = 20) rfl ?_
        refine zr_iadd dX1_rowSize_20 (rfl : 20 + 1 = 21) (by first | exact jI_add _ _ | rfl) ?_
        refine zr_iald dX1_rowSize_21 (rfl : 21 + 1 = 22) (by first | assumption | exact mw_167 | exact mw_168 | exact mw_169 | exact mw_170 | exact bk_0 | exact bk_1 | exact bk_2 | exact bk_3 | exact bk_4 | exact bk_5 | exact bk_6 | exact bk_7 | exact bk_8 | exact bk_9 | exact bk_10 | exact bk_11 | exact bk_12 | exact bk_13 | exact bk_14 | exact bk_15 | exact bk_16 | exact zup_self | exact (zup_ne (by first | assumption | omega)).trans (by first | assumption | exact zup_self) | exact (zup_ne (by first | assumption | omega)).trans ((zup_ne (by first | assumption | omega)).trans (by first | assumption | exact zup_self)) | exact (bk_out (by first | omega | (simp only [bset, reduceIte, Nat.reduceEqDiff]; omega))).trans (by first | exact bk_0 | exact bk_1 | exact bk_2 | exact bk_3 | exact bk_4 | exact bk_5 | exact bk_6 | exact bk_7 | exact bk_8 | exact bk_9 | exact bk_10 | exact bk_11 | exact bk_12 | exact bk_13 | exact bk_14 | exact bk_15 | exact bk_16 | exact cr_5 | exact cr_23 | exact cr_24 | exact cr_25 | exact cr_26 | exact cr_27 | exact cr_28 | exact cr_29 | exact cr_30 | assumption)) (by decide) (by first | omega | (simp only [bset, reduceIte, Nat.reduceEqDiff]; omega)) (by first | omega | (simp only [bset, reduceIte, Nat.reduceEqDiff]; omega)) ?_
        refine zr_if_ne (tgt := 29) dX1_rowSize_22 (by decide) (rfl : 22 + 3 = 25) (by first | exact jb_iff | exact jI_z (by first | omega | (simp only [bset, reduceIte, Nat.reduceEqDiff]; omega)) (by first | omega | (simp only [bset, reduceIte, Nat.reduceEqDiff]; omega))) (fun h22 => ?_) (fun h22 => ?_)
        · first
          | (exfalso; omega)
          | (
            refine zr_iconst dX1_rowSize_29 (rfl : 29 + 1 = 30) ?_
            refine zr_iadd dX1_rowSize_30 (rfl : 30 + 1 = 31) (by first | exact jI_add _ _ | rfl) ?_
            refine zr_istore_n (lv' := [_, _, _, _]) dX1_rowSize_31 (rfl : 31 + 1 = 32) (Nat.le_of_ble_eq_true rfl) rfl ?_
            refine zr_iinc (lv' := [_, _, _, _]) dX1_rowSize_32 (rfl : 32 + 3 = 35) (Nat.le_of_ble_eq_true rfl) rfl (by first | exact jI_add _ _ | rfl) rfl ?_
            refine zr_goto (tgt := 4) dX1_rowSize_35 (by decide) ?_
            refine hk _ ?_
            rw [hj, hm]
            first | rw [jb_pos (by simpa using h22)] | rw [jb_neg (by simpa using h22)])
        · first
          | (exfalso; omega)
          | (
            refine zr_iconst dX1_rowSize_25 (rfl : 25 + 1 = 26) ?_
            refine zr_goto (tgt := 30) dX1_rowSize_26 (by decide) ?_
            refine zr_iadd dX1_rowSize_30 (rfl : 30 + 1 = 31) (by first | exact jI_add _ _ | rfl) ?_
            refine zr_istore_n (lv' := [_, _, _, _]) dX1_rowSize_31 (rfl : 31 + 1 = 32) (Nat.le_of_ble_eq_true rfl) rfl ?_
            refine zr_iinc (lv' := [_, _, _, _]) dX1_rowSize_32 (rfl : 32 + 3 = 35) (Nat.le_of_ble_eq_true rfl) rfl (by first | exact jI_add _ _ | rfl) rfl ?_
            refine zr_goto (tgt := 4) dX1_rowSize_35 (by decide) ?_
            refine hk _ ?_
            rw [hj, hm]
            first | rw [jb_pos (by simpa using h22)] | rw [jb_neg (by simpa using h22)]))
  · intro m hm
    refine zr_iload_n dX1_rowSize_4 (rfl : 4 + 1 = 5) rfl ?_
    refine zr_bipush dX1_rowSize_5 (rfl : 5 + 2 = 7) (by decide) ?_
    refine zr_icmp_ge (tgt := 38) dX1_rowSize_7 (by decide) (rfl : 7 + 3 = 10) (jI_le (by first | omega | (simp only [bset, reduceIte, Nat.reduceEqDiff]; omega)) (by first | omega | (simp only [bset, reduceIte, Nat.reduceEqDiff]; omega)) (by first | omega | (simp only [bset, reduceIte, Nat.reduceEqDiff]; omega)) (by first | omega | (simp only [bset, reduceIte, Nat.reduceEqDiff]; omega))) (fun h7 => ?_) (fun h7 => ?_)
    · first
      | (exfalso; omega)
      | (
        refine zr_iload_n dX1_rowSize_38 (rfl : 38 + 1 = 39) rfl ?_
        refine zr_iret dX1_rowSize_39 rfl rfl ?_ rfl rfl rfl
        rw [hm]; rfl)
    · first
      | (exfalso; omega)
      | (
        refine zr_iload_n dX1_rowSize_10 (rfl : 10 + 1 = 11) rfl ?_
        refine zr_aload_n dX1_rowSize_11 (rfl : 11 + 1 = 12) rfl ?_
        refine zr_getf dX1_rowSize_12 (rfl : 12 + 3 = 15) f_X1_9 (by first | assumption | exact mw_167 | exact mw_168 | exact mw_169 | exact mw_170 | exact bk_0 | exact bk_1 | exact bk_2 | exact bk_3 | exact bk_4 | exact bk_5 | exact bk_6 | exact bk_7 | exact bk_8 | exact bk_9 | exact bk_10 | exact bk_11 | exact bk_12 | exact bk_13 | exact bk_14 | exact bk_15 | exact bk_16 | exact zup_self | exact (zup_ne (by first | assumption | omega)).trans (by first | assumption | exact zup_self) | exact (zup_ne (by first | assumption | omega)).trans ((zup_ne (by first | assumption | omega)).trans (by first | assumption | exact zup_self)) | exact (bk_out (by first | omega | (simp only [bset, reduceIte, Nat.reduceEqDiff]; omega))).trans (by first | exact bk_0 | exact bk_1 | exact bk_2 | exact bk_3 | exact bk_4 | exact bk_5 | exact bk_6 | exact bk_7 | exact bk_8 | exact bk_9 | exact bk_10 | exact bk_11 | exact bk_12 | exact bk_13 | exact bk_14 | exact bk_15 | exact bk_16 | exact cr_5 | exact cr_23 | exact cr_24 | exact cr_25 | exact cr_26 | exact cr_27 | exact cr_28 | exact cr_29 | exact cr_30 | assumption)) rfl ?_
        refine zr_iload_n dX1_rowSize_15 (rfl : 15 + 1 = 16) rfl ?_
        refine zr_bipush dX1_rowSize_16 (rfl : 16 + 2 = 18) (by decide) ?_
        refine zr_imul dX1_rowSize_18 (rfl : 18 + 1 = 19) (by first | exact jI_mul _ _ | rfl) ?_
        refine zr_iload_n dX1_rowSize_19 (rfl : 19 + 1 = 20) rfl ?_
        refine zr_iadd dX1_rowSize_20 (rfl : 20 + 1 = 21) (by first | exact jI_add _ _ | rfl) ?_
        refine zr_iald dX1_rowSize_21 (rfl : 21 + 1 = 22) (by first | assumption | exact mw_167 | exact mw_168 | exact mw_169 | exact mw_170 | exact bk_0 | exact bk_1 | exact bk_2 | exact bk_3 | exact bk_4 | exact bk_5 | exact bk_6 | exact bk_7 | exact bk_8 | exact bk_9 | exact bk_10 | exact bk_11 | exact bk_12 | exact bk_13 | exact bk_14 | exact bk_15 | exact bk_16 | exact zup_self | exact (zup_ne (by first | assumption | omega)).trans (by first | assumption | exact zup_self) | exact (zup_ne (by first | assumption | omega)).trans ((zup_ne (by first | assumption | omega)).trans (by first | assumption | exact zup_self)) | exact (bk_out (by first | omega | (simp only [bset, reduceIte, Nat.reduceEqDiff]; omega))).trans (by first | exact bk_0 | exact bk_1 | exact bk_2 | exact bk_3 | exact bk_4 | exact bk_5 | exact bk_6 | exact bk_7 | exact bk_8 | exact bk_9 | exact bk_10 | exact bk_11 | exact bk_12 | exact bk_13 | exact bk_14 | exact bk_15 | exact bk_16 | exact cr_5 | exact cr_23 | exact cr_24 | exact cr_25 | exact cr_26 | exact cr_27 | exact cr_28 | exact cr_29 | exact cr_30 | assumption)) (by decide) (by first | omega | (simp only [bset, reduceIte, Nat.reduceEqDiff]; omega)) (by first | omega | (simp only [bset, reduceIte, Nat.reduceEqDiff]; omega)) ?_
        refine zr_if_ne (tgt := 29) dX1_rowSize_22 (by decide) (rfl : 22 + 3 = 25) (by first | exact jb_iff | exact jI_z (by first | omega | (simp only [bset, reduceIte, Nat.reduceEqDiff]; omega)) (by first | omega | (simp only [bset, reduceIte, Nat.reduceEqDiff]; omega))) (fun h22 => ?_) (fun h22 => ?_)
        · first
          | (exfalso; omega)
          | (
            refine zr_iconst dX1_rowSize_29 (rfl : 29 + 1 = 30) ?_
            refine zr_iadd dX1_rowSize_30 (rfl : 30 + 1 = 31) (by first | exact jI_add _ _ | rfl) ?_
            refine zr_istore_n (lv' := [_, _, _, _]) dX1_rowSize_31 (rfl : 31 + 1 = 32) (Nat.le_of_ble_eq_true rfl) rfl ?_
            refine zr_iinc (lv' := [_, _, _, _]) dX1_rowSize_32 (rfl : 32 + 3 = 35) (Nat.le_of_ble_eq_true rfl) rfl (by first | exact jI_add _ _ | rfl) rfl ?_
            refine zr_goto (tgt := 4) dX1_rowSize_35 (by decide) ?_
            exfalso; omega)
        · first
          | (exfalso; omega)
          | (
            refine zr_iconst dX1_rowSize_25 (rfl : 25 + 1 = 26) ?_
            refine zr_goto (tgt := 30) dX1_rowSize_26 (by decide) ?_
            refine zr_iadd dX1_rowSize_30 (rfl : 30 + 1 = 31) (by first | exact jI_add _ _ | rfl) ?_
            refine zr_istore_n (lv' := [_, _, _, _]) dX1_rowSize_31 (rfl : 31 + 1 = 32) (Nat.le_of_ble_eq_true rfl) rfl ?_
            refine zr_iinc (lv' := [_, _, _, _]) dX1_rowSize_32 (rfl : 32 + 3 = 35) (Nat.le_of_ble_eq_true rfl) rfl (by first | exact jI_add _ _ | rfl) rfl ?_
            refine zr_goto (tgt := 4) dX1_rowSize_35 (by decide) ?_
            exfalso; omega))
end CA

