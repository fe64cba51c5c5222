/-! THE REFERENCE: its four cells, over a world -/
abbrev zM : Type := (Int → Int) × Int × (Int → Int) × Int × (Int → Int) × Int
abbrev zM.S (μ : zM) : Int → Int := μ.1
abbrev zM.st (μ : zM) : Int := μ.2.1
abbrev zM.ik (μ : zM) : Int → Int := μ.2.2.1
abbrev zM.th (μ : zM) : Int := μ.2.2.2.1
abbrev zM.tx (μ : zM) : Int → Int := μ.2.2.2.2.1
abbrev zM.ty (μ : zM) : Int := μ.2.2.2.2.2
abbrev zMo (st th ty : Int) : va_E := .inr (7, [.ref 168, .int (jI st), .ref 169, .int (jI th), .ref 170, .int (jI ty)])
def mw (S : Int → Int) (st : Int) (ik : Int → Int) (th : Int) (tx : Int → Int) (ty : Int) (w : zW) : zW := fun j =>
  if j = 167 then some (zMo st th ty) else if j = 168 then some (zia 4940 S) else if j = 169 then some (zba 2 ik) else if j = 170 then some (zca_ 60 tx) else w j
section MW
variable {S : Int → Int} {st : Int} {ik : Int → Int} {th : Int} {tx : Int → Int} {ty : Int} {w : zW}
theorem mw_167 : mw S st ik th tx ty w 167 = some (.inr (7, [.ref 168, .int (jI st), .ref 169, .int (jI th), .ref 170, .int (jI ty)])) := rfl
theorem mw_168 : mw S st ik th tx ty w 168 = some (zia 4940 S) := rfl
theorem mw_169 : mw S st ik th tx ty w 169 = some (zba 2 ik) := rfl
theorem mw_170 : mw S st ik th tx ty w 170 = some (zca_ 60 tx) := rfl
theorem mw_out {j : Nat} (h : j < 167 ∨ 170 < j) : mw S st ik th tx ty w j = w j := by
  unfold mw
  rw [if_neg (by omega), if_neg (by omega), if_neg (by omega), if_neg (by omega)]
theorem mwu_o {a b c : Int} : zup (mw S st ik th tx ty w) 167 (zMo a b c) = mw S a ik b tx c w := by
  funext j
  unfold zup mw
  by_cases h : j = 167
  · rw [if_pos h, if_pos h]
  · rw [if_neg h, if_neg h, if_neg h]
theorem mwu_S {p : Int → Int} : zup (mw S st ik th tx ty w) 168 (zia 4940 p) = mw p st ik th tx ty w := by
  funext j
  unfold zup mw
  by_cases h : j = 168
  · rw [if_pos h, h]
    rfl
  · rw [if_neg h, if_neg h, if_neg h]
theorem mwu_k {p : Int → Int} : zup (mw S st ik th tx ty w) 169 (zba 2 p) = mw S st p th tx ty w := by
  funext j
  unfold zup mw
  by_cases h : j = 169
  · rw [if_pos h, h]
    rfl
  · rw [if_neg h, if_neg h, if_neg h]
theorem mwu_t {p : Int → Int} : zup (mw S st ik th tx ty w) 170 (zca_ 60 p) = mw S st ik th p ty w := by
  funext j
  unfold zup mw
  by_cases h : j = 170
  · rw [if_pos h, h]
    rfl
  · rw [if_neg h, if_neg h, if_neg h]
end MW
section M0
variable {Γ : zΓ} {d : Nat} {S : Int → Int} {st : Int} {ik : Int → Int} {th : Int} {tx : Int → Int} {ty : Int} {w : zW}
theorem m_in (z lo hi : Int) (hz : j32 z) (hl : j32 lo) (hh : j32 hi) : zFn Γ md_X7_in d [.int (jI z), .int (jI lo), .int (jI hi)] w (some (.int (jI (jb (lo ≤ z ∧ z ≤ hi))))) w := by
  refine zFn.of_run (lv := [some (.int (jI z)), some (.int (jI lo)), some (.int (jI hi))]) (by decide) rfl (Nat.le_of_ble_eq_true rfl) rfl (fun n9 g9 => ?_)
  refine zr_iload_n dX7_in_0 (rfl : 0 + 1 = 1) rfl ?_
  refine zr_iload_n dX7_in_1 (rfl : 1 + 1 = 2) rfl ?_
  refine zr_icmp_lt (tgt := 14) dX7_in_2 (by decide) (rfl : 2 + 3 = 5) (jI_lt (by first | omega | (simp only [bset, reduceIte, Nat.reduceEqDiff]; omega)) (by first | omega | (simp only [bset, reduceIte, Nat.reduceEqDiff]; omega)) (by first | omega | (simp only [bset, reduceIte, Nat.reduceEqDiff]; omega)) (by first | omega | (simp only [bset, reduceIte, Nat.reduceEqDiff]; omega))) (fun h2 => ?_) (fun h2 => ?_)
  · first
    | (exfalso; omega)
    | (
      refine zr_iconst dX7_in_14 (rfl : 14 + 1 = 15) ?_
      refine zr_iret dX7_in_15 rfl (by first | rfl | exact jb_nar) ?_ rfl rfl rfl
      first | rfl | rw [jb_pos (by first | assumption | omega)] | rw [jb_neg (by first | assumption | omega)] | rw [if_pos (by first | assumption | omega)] | rw [if_neg (by first | assumption | omega)])
  · first
    | (exfalso; omega)
    | (
      refine zr_iload_n dX7_in_5 (rfl : 5 + 1 = 6) rfl ?_
      refine zr_iload_n dX7_in_6 (rfl : 6 + 1 = 7) rfl ?_
      refine zr_icmp_gt (tgt := 14) dX7_in_7 (by decide) (rfl : 7 + 3 = 10) (jI_lt (by first | omega | (simp only [bset, reduceIte, Nat.reduceEqDiff]; omega)) (by first | omega | (simp only [bset, reduceIte, Nat.reduceEqDiff]; omega)) (by first | omega | (simp only [bset, reduceIte, Nat.reduceEqDiff]; omega)) (by first | omega | (simp only [bset, reduceIte, Nat.reduceEqDiff]; omega))) (fun h7 => ?_) (fun h7 => ?_)
      · first
        | (exfalso; omega)
        | (
          refine zr_iconst dX7_in_14 (rfl : 14 + 1 = 15) ?_
          refine zr_iret dX7_in_15 rfl (by first | rfl | exact jb_nar) ?_ rfl rfl rfl
          first | rfl | rw [jb_pos (by first | assumption | omega)] | rw [jb_neg (by first | assumption | omega)] | rw [if_pos (by first | assumption | omega)] | rw [if_neg (by first | assumption | omega)])
      · first
        | (exfalso; omega)
        | (
          refine zr_iconst dX7_in_10 (rfl : 10 + 1 = 11) ?_
          refine zr_goto (tgt := 15) dX7_in_11 (by decide) ?_
          refine zr_iret dX7_in_15 rfl (by first | rfl | exact jb_nar) ?_ rfl rfl rfl
          first | rfl | rw [jb_pos (by first | assumption | omega)] | rw [jb_neg (by first | assumption | omega)] | rw [if_pos (by first | assumption | omega)] | rw [if_neg (by first | assumption | omega)]))
theorem m_isCard (z : Int) (hz : j32 z) : zFn Γ md_X7_isCard (d + 1) [.int (jI z)] w (some (.int (jI (jb (0 ≤ z ∧ z ≤ 5))))) w := by
  refine zFn.of_run (lv := [some (.int (jI z))]) (by decide) rfl (Nat.le_of_ble_eq_true rfl) rfl (fun n9 g9 => ?_)
  refine zr_iload_n dX7_isCard_0 (rfl : 0 + 1 = 1) rfl ?_
  refine zr_iconst dX7_isCard_1 (rfl : 1 + 1 = 2) ?_
  refine zr_iconst dX7_isCard_2 (rfl : 2 + 1 = 3) ?_
  refine zr_fnS dX7_isCard_3 (rfl : 3 + 3 = 6) l_X7_32 (m_in z 0 5 hz (by first | omega | (simp only [bset, reduceIte, Nat.reduceEqDiff]; omega)) (by first | omega | (simp only [bset, reduceIte, Nat.reduceEqDiff]; omega))) rfl rfl (Nat.le_of_ble_eq_true rfl) ?_
  refine zr_iret dX7_isCard_6 rfl (by first | rfl | exact jb_nar) ?_ rfl rfl rfl
  first | rfl | rw [jb_pos (by first | assumption | omega)] | rw [jb_neg (by first | assumption | omega)] | rw [if_pos (by first | assumption | omega)] | rw [if_neg (by first | assumption | omega)]
theorem m_isRow (z : Int) (hz : j32 z) : zFn Γ md_X7_isRow (d + 1) [.int (jI z)] w (some (.int (jI (jb (0 ≤ z ∧ z ≤ 2))))) w := by
  refine zFn.of_run (lv := [some (.int (jI z))]) (by decide) rfl (Nat.le_of_ble_eq_true rfl) rfl (fun n9 g9 => ?_)
  refine zr_iload_n dX7_isRow_0 (rfl : 0 + 1 = 1) rfl ?_
  refine zr_iconst dX7_isRow_1 (rfl : 1 + 1 = 2) ?_
  refine zr_iconst dX7_isRow_2 (rfl : 2 + 1 = 3) ?_
  refine zr_fnS dX7_isRow_3 (rfl : 3 + 3 = 6) l_X7_32 (m_in z 0 2 hz (by first | omega | (simp only [bset, reduceIte, Nat.reduceEqDiff]; omega)) (by first | omega | (simp only [bset, reduceIte, Nat.reduceEqDiff]; omega))) rfl rfl (Nat.le_of_ble_eq_true rfl) ?_
  refine zr_iret dX7_isRow_6 rfl (by first | rfl | exact jb_nar) ?_ rfl rfl rfl
  first | rfl | rw [jb_pos (by first | assumption | omega)] | rw [jb_neg (by first | assumption | omega)] | rw [if_pos (by first | assumption | omega)] | rw [if_neg (by first | assumption | omega)]
theorem m_isNumber (z : Int) (hz : j32 z) : zFn Γ md_X7_isNumber (d + 1) [.int (jI z)] w (some (.int (jI (jb (1 ≤ z ∧ z ≤ 90))))) w := by
  refine zFn.of_run (lv := [some (.int (jI z))]) (by decide) rfl (Nat.le_of_ble_eq_true rfl) rfl (fun n9 g9 => ?_)
  refine zr_iload_n dX7_isNumber_0 (rfl : 0 + 1 = 1) rfl ?_
  refine zr_iconst dX7_isNumber_1 (rfl : 1 + 1 = 2) ?_
  refine zr_bipush dX7_isNumber_2 (rfl : 2 + 2 = 4) (by decide) ?_
  refine zr_fnS dX7_isNumber_4 (rfl : 4 + 3 = 7) l_X7_32 (m_in z 1 90 hz (by first | omega | (simp only [bset, reduceIte, Nat.reduceEqDiff]; omega)) (by first | omega | (simp only [bset, reduceIte, Nat.reduceEqDiff]; omega))) rfl rfl (Nat.le_of_ble_eq_true rfl) ?_
  refine zr_iret dX7_isNumber_7 rfl (by first | rfl | exact jb_nar) ?_ rfl rfl rfl
  first | rfl | rw [jb_pos (by first | assumption | omega)] | rw [jb_neg (by first | assumption | omega)] | rw [if_pos (by first | assumption | omega)] | rw [if_neg (by first | assumption | omega)]
theorem m_column (n : Int) (hn : 0 ≤ n ∧ n ≤ 90) : zFn Γ md_X7_column d [.int (jI n)] w (some (.int (jI (jcol n)))) w := by
  refine zFn.of_run (lv := [some (.int (jI n))]) (by decide) rfl (Nat.le_of_ble_eq_true rfl) rfl (fun n9 g9 => ?_)
  refine zr_iload_n dX7_column_0 (rfl : 0 + 1 = 1) rfl ?_
  refine zr_bipush dX7_column_1 (rfl : 1 + 2 = 3) (by decide) ?_
  refine zr_icmp_ne (tgt := 11) dX7_column_3 (by decide) (rfl : 3 + 3 = 6) (jI_eq (by first | omega | (simp only [bset, reduceIte, Nat.reduceEqDiff]; omega)) (by first | omega | (simp only [bset, reduceIte, Nat.reduceEqDiff]; omega)) (by first | omega | (simp only [bset, reduceIte, Nat.reduceEqDiff]; omega)) (by first | omega | (simp only [bset, reduceIte, Nat.reduceEqDiff]; omega))) (fun h3 => ?_) (fun h3 => ?_)
  · first
    | (exfalso; omega)
    | (
      refine zr_iload_n dX7_column_11 (rfl : 11 + 1 = 12) rfl ?_
      refine zr_bipush dX7_column_12 (rfl : 12 + 2 = 14) (by decide) ?_
      refine zr_idiv dX7_column_14 (rfl : 14 + 1 = 15) (fun q => absurd ((jI_z (by first | omega | (simp only [bset, reduceIte, Nat.reduceEqDiff]; omega)) (by first | omega | (simp only [bset, reduceIte, Nat.reduceEqDiff]; omega))).mp q) (by first | omega | (simp only [bset, reduceIte, Nat.reduceEqDiff]; omega))) (jI_div (by first | omega | (simp only [bset, reduceIte, Nat.reduceEqDiff]; omega)) (by first | omega | (simp only [bset, reduceIte, Nat.reduceEqDiff]; omega)) (by first | omega | (simp only [bset, reduceIte, Nat.reduceEqDiff]; omega)) (by first | omega | (simp only [bset, reduceIte, Nat.reduceEqDiff]; omega))) ?_
      refine zr_iret dX7_column_15 rfl (by first | rfl | exact jb_nar) ?_ rfl rfl rfl
      unfold jcol
      first | rw [if_pos h3] | rw [if_neg h3] | rw [if_pos (by omega)])
  · first
    | (exfalso; omega)
    | (
      refine zr_bipush dX7_column_6 (rfl : 6 + 2 = 8) (by decide) ?_
      refine zr_goto (tgt := 15) dX7_column_8 (by decide) ?_
      refine zr_iret dX7_column_15 rfl (by first | rfl | exact jb_nar) ?_ rfl rfl rfl
      unfold jcol
      first | rw [if_pos h3] | rw [if_neg h3] | rw [if_pos (by omega)])
theorem m_go : zFn Γ md_X7_goes d [.ref 167, .int (jI 1), .int (jI 1), .int (jI 1)] (mw S st ik th tx ty w) (some (.int (jI 1))) (mw S st ik 0 tx ty w) := by
  refine zFn.of_run (lv := [some (.ref 167), some (.int (jI 1)), some (.int (jI 1)), some (.int (jI 1))]) (by decide) rfl (Nat.le_of_ble_eq_true rfl) rfl (fun n9 g9 => ?_)
  refine zr_aload_n dX7_goes_0 (rfl : 0 + 1 = 1) rfl ?_
  refine zr_iload_n dX7_goes_1 (rfl : 1 + 1 = 2) rfl ?_
  refine zr_if_ne (tgt := 9) dX7_goes_2 (by decide) (rfl : 2 + 3 = 5) (by first | exact jb_iff | exact jI_z (by first | omega | (simp only [bset, reduceIte, Nat.reduceEqDiff]; omega)) (by first | omega | (simp only [bset, reduceIte, Nat.reduceEqDiff]; omega))) (fun h2 => ?_) (fun h2 => ?_)
  · first
    | (exfalso; omega)
    | (
      refine zr_iload_n dX7_goes_9 (rfl : 9 + 1 = 10) rfl ?_
      refine zr_if_ne (tgt := 17) dX7_goes_10 (by decide) (rfl : 10 + 3 = 13) (by first | exact jb_iff | exact jI_z (by first | omega | (simp only [bset, reduceIte, Nat.reduceEqDiff]; omega)) (by first | omega | (simp only [bset, reduceIte, Nat.reduceEqDiff]; omega))) (fun h10 => ?_) (fun h10 => ?_)
      · first
        | (exfalso; omega)
        | (
          refine zr_iload_n dX7_goes_17 (rfl : 17 + 1 = 18) rfl ?_
          refine zr_if_ne (tgt := 25) dX7_goes_18 (by decide) (rfl : 18 + 3 = 21) (by first | exact jb_iff | exact jI_z (by first | omega | (simp only [bset, reduceIte, Nat.reduceEqDiff]; omega)) (by first | omega | (simp only [bset, reduceIte, Nat.reduceEqDiff]; omega))) (fun h18 => ?_) (fun h18 => ?_)
          · first
            | (exfalso; omega)
            | (
              refine zr_iconst dX7_goes_25 (rfl : 25 + 1 = 26) ?_
              refine zr_putf (fs' := [_, _, _, _, _, _]) dX7_goes_26 (rfl : 26 + 3 = 29) f_X7_21 ft_7_3 (by first | assumption | exact mw_167 | exact mw_168 | exact mw_169 | exact mw_170 | exact bk_0 | exact bk_1 | exact bk_2 | exact bk_3 | exact bk_4 | exact bk_5 | exact bk_6 | exact bk_7 | exact bk_8 | exact bk_9 | exact bk_10 | exact bk_11 | exact bk_12 | exact bk_13 | exact bk_14 | exact bk_15 | exact bk_16 | exact zup_self | exact (zup_ne (by first | assumption | omega)).trans (by first | assumption | exact zup_self) | exact (zup_ne (by first | assumption | omega)).trans ((zup_ne (by first | assumption | omega)).trans (by first | assumption | exact zup_self)) | exact (bk_out (by first | omega | (simp only [bset, reduceIte, Nat.reduceEqDiff]; omega))).trans (by first | exact bk_0 | exact bk_1 | exact bk_2 | exact bk_3 | exact bk_4 | exact bk_5 | exact bk_6 | exact bk_7 | exact bk_8 | exact bk_9 | exact bk_10 | exact bk_11 | exact bk_12 | exact bk_13 | exact bk_14 | exact bk_15 | exact bk_16 | exact cr_5 | exact cr_23 | exact cr_24 | exact cr_25 | exact cr_26 | exact cr_27 | exact cr_28 | exact cr_29 | exact cr_30 | assumption)) (Nat.le_of_ble_eq_true rfl) rfl rfl rfl ?_
              rw [mwu_o]
              refine zr_aload_n dX7_goes_29 (rfl : 29 + 1 = 30) rfl ?_
              refine zr_getf dX7_goes_30 (rfl : 30 + 3 = 33) f_X7_21 (by first | assumption | exact mw_167 | exact mw_168 | exact mw_169 | exact mw_170 | exact bk_0 | exact bk_1 | exact bk_2 | exact bk_3 | exact bk_4 | exact bk_5 | exact bk_6 | exact bk_7 | exact bk_8 | exact bk_9 | exact bk_10 | exact bk_11 | exact bk_12 | exact bk_13 | exact bk_14 | exact bk_15 | exact bk_16 | exact zup_self | exact (zup_ne (by first | assumption | omega)).trans (by first | assumption | exact zup_self) | exact (zup_ne (by first | assumption | omega)).trans ((zup_ne (by first | assumption | omega)).trans (by first | assumption | exact zup_self)) | exact (bk_out (by first | omega | (simp only [bset, reduceIte, Nat.reduceEqDiff]; omega))).trans (by first | exact bk_0 | exact bk_1 | exact bk_2 | exact bk_3 | exact bk_4 | exact bk_5 | exact bk_6 | exact bk_7 | exact bk_8 | exact bk_9 | exact bk_10 | exact bk_11 | exact bk_12 | exact bk_13 | exact bk_14 | exact bk_15 | exact bk_16 | exact cr_5 | exact cr_23 | exact cr_24 | exact cr_25 | exact cr_26 | exact cr_27 | exact cr_28 | exact cr_29 | exact cr_30 | assumption)) rfl ?_
              refine zr_if_ne (tgt := 40) dX7_goes_33 (by decide) (rfl : 33 + 3 = 36) (by first | exact jb_iff | exact jI_z (by first | omega | (simp only [bset, reduceIte, Nat.reduceEqDiff]; omega)) (by first | omega | (simp only [bset, reduceIte, Nat.reduceEqDiff]; omega))) (fun h33 => ?_) (fun h33 => ?_)
              · first
                | (exfalso; omega)
                | (
                  refine zr_iconst dX7_goes_40 (rfl : 40 + 1 = 41) ?_
                  refine zr_iret dX7_goes_41 rfl (by first | rfl | exact jb_nar) ?_ rfl rfl rfl
                  first | rfl | rw [jb_pos (by first | assumption | omega)] | rw [jb_neg (by first | assumption | omega)] | rw [if_pos (by first | assumption | omega)] | rw [if_neg (by first | assumption | omega)])
              · first
                | (exfalso; omega)
                | (
                  refine zr_iconst dX7_goes_36 (rfl : 36 + 1 = 37) ?_
                  refine zr_goto (tgt := 41) dX7_goes_37 (by decide) ?_
                  refine zr_iret dX7_goes_41 rfl (by first | rfl | exact jb_nar) ?_ rfl rfl rfl
                  first | rfl | rw [jb_pos (by first | assumption | omega)] | rw [jb_neg (by first | assumption | omega)] | rw [if_pos (by first | assumption | omega)] | rw [if_neg (by first | assumption | omega)]))
          · first
            | (exfalso; omega)
            | (
              refine zr_iconst dX7_goes_21 (rfl : 21 + 1 = 22) ?_
              refine zr_goto (tgt := 26) dX7_goes_22 (by decide) ?_
              refine zr_putf (fs' := [_, _, _, _, _, _]) dX7_goes_26 (rfl : 26 + 3 = 29) f_X7_21 ft_7_3 (by first | assumption | exact mw_167 | exact mw_168 | exact mw_169 | exact mw_170 | exact bk_0 | exact bk_1 | exact bk_2 | exact bk_3 | exact bk_4 | exact bk_5 | exact bk_6 | exact bk_7 | exact bk_8 | exact bk_9 | exact bk_10 | exact bk_11 | exact bk_12 | exact bk_13 | exact bk_14 | exact bk_15 | exact bk_16 | exact zup_self | exact (zup_ne (by first | assumption | omega)).trans (by first | assumption | exact zup_self) | exact (zup_ne (by first | assumption | omega)).trans ((zup_ne (by first | assumption | omega)).trans (by first | assumption | exact zup_self)) | exact (bk_out (by first | omega | (simp only [bset, reduceIte, Nat.reduceEqDiff]; omega))).trans (by first | exact bk_0 | exact bk_1 | exact bk_2 | exact bk_3 | exact bk_4 | exact bk_5 | exact bk_6 | exact bk_7 | exact bk_8 | exact bk_9 | exact bk_10 | exact bk_11 | exact bk_12 | exact bk_13 | exact bk_14 | exact bk_15 | exact bk_16 | exact cr_5 | exact cr_23 | exact cr_24 | exact cr_25 | exact cr_26 | exact cr_27 | exact cr_28 | exact cr_29 | exact cr_30 | assumption)) (Nat.le_of_ble_eq_true rfl) rfl rfl rfl ?_
              rw [mwu_o]
              refine zr_aload_n dX7_goes_29 (rfl : 29 + 1 = 30) rfl ?_
              refine zr_getf dX7_goes_30 (rfl : 30 + 3 = 33) f_X7_21 (by first | assumption | exact mw_167 | exact mw_168 | exact mw_169 | exact mw_170 | exact bk_0 | exact bk_1 | exact bk_2 | exact bk_3 | exact bk_4 | exact bk_5 | exact bk_6 | exact bk_7 | exact bk_8 | exact bk_9 | exact bk_10 | exact bk_11 | exact bk_12 | exact bk_13 | exact bk_14 | exact bk_15 | exact bk_16 | exact zup_self | exact (zup_ne (by first | assumption | omega)).trans (by first | assumption | exact zup_self) | exact (zup_ne (by first | assumption | omega)).trans ((zup_ne (by first | assumption | omega)).trans (by first | assumption | exact zup_self)) | exact (bk_out (by first | omega | (simp only [bset, reduceIte, Nat.reduceEqDiff]; omega))).trans (by first | exact bk_0 | exact bk_1 | exact bk_2 | exact bk_3 | exact bk_4 | exact bk_5 | exact bk_6 | exact bk_7 | exact bk_8 | exact bk_9 | exact bk_10 | exact bk_11 | exact bk_12 | exact bk_13 | exact bk_14 | exact bk_15 | exact bk_16 | exact cr_5 | exact cr_23 | exact cr_24 | exact cr_25 | exact cr_26 | exact cr_27 | exact cr_28 | exact cr_29 | exact cr_30 | assumption)) rfl ?_
              refine zr_if_ne (tgt := 40) dX7_goes_33 (by decide) (rfl : 33 + 3 = 36) (by first | exact jb_iff | exact jI_z (by first | omega | (simp only [bset, reduceIte, Nat.reduceEqDiff]; omega)) (by first | omega | (simp only [bset, reduceIte, Nat.reduceEqDiff]; omega))) (fun h33 => ?_) (fun h33 => ?_)
              · first
                | (exfalso; omega)
                | (
                  refine zr_iconst dX7_goes_40 (rfl : 40 + 1 = 41) ?_
                  refine zr_iret dX7_goes_41 rfl (by first | rfl | exact jb_nar) ?_ rfl rfl rfl
                  first | rfl | rw [jb_pos (by first | assumption | omega)] | rw [jb_neg (by first | assumption | omega)] | rw [if_pos (by first | assumption | omega)] | rw [if_neg (by first | assumption | omega)])
              · first
                | (exfalso; omega)
                | (
                  refine zr_iconst dX7_goes_36 (rfl : 36 + 1 = 37) ?_
                  refine zr_goto (tgt := 41) dX7_goes_37 (by decide) ?_
                  refine zr_iret dX7_goes_41 rfl (by first | rfl | exact jb_nar) ?_ rfl rfl rfl
                  first | rfl | rw [jb_pos (by first | assumption | omega)] | rw [jb_neg (by first | assumption | omega)] | rw [if_pos (by first | assumption | omega)] | rw [if_neg (by first | assumption | omega)])))
      · first
        | (exfalso; omega)
        | (
          refine zr_iconst dX7_goes_13 (rfl : 13 + 1 = 14) ?_
          refine zr_goto (tgt := 26) dX7_goes_14 (by decide) ?_
          refine zr_putf (fs' := [_, _, _, _, _, _]) dX7_goes_26 (rfl : 26 + 3 = 29) f_X7_21 ft_7_3 (by first | assumption | exact mw_167 | exact mw_168 | exact mw_169 | exact mw_170 | exact bk_0 | exact bk_1 | exact bk_2 | exact bk_3 | exact bk_4 | exact bk_5 | exact bk_6 | exact bk_7 | exact bk_8 | exact bk_9 | exact bk_10 | exact bk_11 | exact bk_12 | exact bk_13 | exact bk_14 | exact bk_15 | exact bk_16 | exact zup_self | exact (zup_ne (by first | assumption | omega)).trans (by first | assumption | exact zup_self) | exact (zup_ne (by first | assumption | omega)).trans ((zup_ne (by first | assumption | omega)).trans (by first | assumption | exact zup_self)) | exact (bk_out (by first | omega | (simp only [bset, reduceIte, Nat.reduceEqDiff]; omega))).trans (by first | exact bk_0 | exact bk_1 | exact bk_2 | exact bk_3 | exact bk_4 | exact bk_5 | exact bk_6 | exact bk_7 | exact bk_8 | exact bk_9 | exact bk_10 | exact bk_11 | exact bk_12 | exact bk_13 | exact bk_14 | exact bk_15 | exact bk_16 | exact cr_5 | exact cr_23 | exact cr_24 | exact cr_25 | exact cr_26 | exact cr_27 | exact cr_28 | exact cr_29 | exact cr_30 | assumption)) (Nat.le_of_ble_eq_true rfl) rfl rfl rfl ?_
          rw [mwu_o]
          refine zr_aload_n dX7_goes_29 (rfl : 29 + 1 = 30) rfl ?_
          refine zr_getf dX7_goes_30 (rfl : 30 + 3 = 33) f_X7_21 (by first | assumption | exact mw_167 | exact mw_168 | exact mw_169 | exact mw_170 | exact bk_0 | exact bk_1 | exact bk_2 | exact bk_3 | exact bk_4 | exact bk_5 | exact bk_6 | exact bk_7 | exact bk_8 | exact bk_9 | exact bk_10 | exact bk_11 | exact bk_12 | exact bk_13 | exact bk_14 | exact bk_15 | exact bk_16 | exact zup_self | exact (zup_ne (by first | assumption | omega)).trans (by first | assumption | exact zup_self) | exact (zup_ne (by first | assumption | omega)).trans ((zup_ne (by first | assumption | omega)).trans (by first | assumption | exact zup_self)) | exact (bk_out (by first | omega | (simp only [bset, reduceIte, Nat.reduceEqDiff]; omega))).trans (by first | exact bk_0 | exact bk_1 | exact bk_2 | exact bk_3 | exact bk_4 | exact bk_5 | exact bk_6 | exact bk_7 | exact bk_8 | exact bk_9 | exact bk_10 | exact bk_11 | exact bk_12 | exact bk_13 | exact bk_14 | exact bk_15 | exact bk_16 | exact cr_5 | exact cr_23 | exact cr_24 | exact cr_25 | exact cr_26 | exact cr_27 | exact cr_28 | exact cr_29 | exact cr_30 | assumption)) rfl ?_
          refine zr_if_ne (tgt := 40) dX7_goes_33 (by decide) (rfl : 33 + 3 = 36) (by first | exact jb_iff | exact jI_z (by first | omega | (simp only [bset, reduceIte, Nat.reduceEqDiff]; omega)) (by first | omega | (simp only [bset, reduceIte, Nat.reduceEqDiff]; omega))) (fun h33 => ?_) (fun h33 => ?_)
          · first
            | (exfalso; omega)
            | (
              refine zr_iconst dX7_goes_40 (rfl : 40 + 1 = 41) ?_
              refine zr_iret dX7_goes_41 rfl (by first | rfl | exact jb_nar) ?_ rfl rfl rfl
              first | rfl | rw [jb_pos (by first | assumption | omega)] | rw [jb_neg (by first | assumption | omega)] | rw [if_pos (by first | assumption | omega)] | rw [if_neg (by first | assumption | omega)])
          · first
            | (exfalso; omega)
            | (
              refine zr_iconst dX7_goes_36 (rfl : 36 + 1 = 37) ?_
              refine zr_goto (tgt := 41) dX7_goes_37 (by decide) ?_
              refine zr_iret dX7_goes_41 rfl (by first | rfl | exact jb_nar) ?_ rfl rfl rfl
              first | rfl | rw [jb_pos (by first | assumption | omega)] | rw [jb_neg (by first | assumption | omega)] | rw [if_pos (by first | assumption | omega)] | rw [if_neg (by first | assumption | omega)])))
  · first
    | (exfalso; omega)
    | (
      refine zr_iconst dX7_goes_5 (rfl : 5 + 1 = 6) ?_
      refine zr_goto (tgt := 26) dX7_goes_6 (by decide) ?_
      refine zr_putf (fs' := [_, _, _, _, _, _]) dX7_goes_26 (rfl : 26 + 3 = 29) f_X7_21 ft_7_3 (by first | assumption | exact mw_167 | exact mw_168 | exact mw_169 | exact mw_170 | exact bk_0 | exact bk_1 | exact bk_2 | exact bk_3 | exact bk_4 | exact bk_5 | exact bk_6 | exact bk_7 | exact bk_8 | exact bk_9 | exact bk_10 | exact bk_11 | exact bk_12 | exact bk_13 | exact bk_14 | exact bk_15 | exact bk_16 | exact zup_self | exact (zup_ne (by first | assumption | omega)).trans (by first | assumption | exact zup_self) | exact (zup_ne (by first | assumption | omega)).trans ((zup_ne (by first | assumption | omega)).trans (by first | assumption | exact zup_self)) | exact (bk_out (by first | omega | (simp only [bset, reduceIte, Nat.reduceEqDiff]; omega))).trans (by first | exact bk_0 | exact bk_1 | exact bk_2 | exact bk_3 | exact bk_4 | exact bk_5 | exact bk_6 | exact bk_7 | exact bk_8 | exact bk_9 | exact bk_10 | exact bk_11 | exact bk_12 | exact bk_13 | exact bk_14 | exact bk_15 | exact bk_16 | exact cr_5 | exact cr_23 | exact cr_24 | exact cr_25 | exact cr_26 | exact cr_27 | exact cr_28 | exact cr_29 | exact cr_30 | assumption)) (Nat.le_of_ble_eq_true rfl) rfl rfl rfl ?_
      rw [mwu_o]
      refine zr_aload_n dX7_goes_29 (rfl : 29 + 1 = 30) rfl ?_
      refine zr_getf dX7_goes_30 (rfl : 30 + 3 = 33) f_X7_21 (by first | assumption | exact mw_167 | exact mw_168 | exact mw_169 | exact mw_170 | exact bk_0 | exact bk_1 | exact bk_2 | exact bk_3 | exact bk_4 | exact bk_5 | exact bk_6 | exact bk_7 | exact bk_8 | exact bk_9 | exact bk_10 | exact bk_11 | exact bk_12 | exact bk_13 | exact bk_14 | exact bk_15 | exact bk_16 | exact zup_self | exact (zup_ne (by first | assumption | omega)).trans (by first | assumption | exact zup_self) | exact (zup_ne (by first | assumption | omega)).trans ((zup_ne (by first | assumption | omega)).trans (by first | assumption | exact zup_self)) | exact (bk_out (by first | omega | (simp only [bset, reduceIte, Nat.reduceEqDiff]; omega))).trans (by first | exact bk_0 | exact bk_1 | exact bk_2 | exact bk_3 | exact bk_4 | exact bk_5 | exact bk_6 | exact bk_7 | exact bk_8 | exact bk_9 | exact bk_10 | exact bk_11 | exact bk_12 | exact bk_13 | exact bk_14 | exact bk_15 | exact bk_16 | exact cr_5 | exact cr_23 | exact cr_24 | exact cr_25 | exact cr_26 | exact cr_27 | exact cr_28 | exact cr_29 | exact cr_30 | assumption)) rfl ?_
      refine zr_if_ne (tgt := 40) dX7_goes_33 (by decide) (rfl : 33 + 3 = 36) (by first | exact jb_iff | exact jI_z (by first | omega | (simp only [bset, reduceIte, Nat.reduceEqDiff]; omega)) (by first | omega | (simp only [bset, reduceIte, Nat.reduceEqDiff]; omega))) (fun h33 => ?_) (fun h33 => ?_)
      · first
        | (exfalso; omega)
        | (
          refine zr_iconst dX7_goes_40 (rfl : 40 + 1 = 41) ?_
          refine zr_iret dX7_goes_41 rfl (by first | rfl | exact jb_nar) ?_ rfl rfl rfl
          first | rfl | rw [jb_pos (by first | assumption | omega)] | rw [jb_neg (by first | assumption | omega)] | rw [if_pos (by first | assumption | omega)] | rw [if_neg (by first | assumption | omega)])
      · first
        | (exfalso; omega)
        | (
          refine zr_iconst dX7_goes_36 (rfl : 36 + 1 = 37) ?_
          refine zr_goto (tgt := 41) dX7_goes_37 (by decide) ?_
          refine zr_iret dX7_goes_41 rfl (by first | rfl | exact jb_nar) ?_ rfl rfl rfl
          first | rfl | rw [jb_pos (by first | assumption | omega)] | rw [jb_neg (by first | assumption | omega)] | rw [if_pos (by first | assumption | omega)] | rw [if_neg (by first | assumption | omega)]))
theorem m_go1 (x y : Int32) : zFn Γ md_X7_goes d [.ref 167, .int (jI 0), .int x, .int y] (mw S st ik th tx ty w) (some (.int (jI 0))) (mw S st ik 1 tx ty w) := by
  refine zFn.of_run (lv := [some (.ref 167), some (.int (jI 0)), some (.int x), some (.int y)]) (by decide) rfl (Nat.le_of_ble_eq_true rfl) rfl (fun n9 g9 => ?_)
  refine zr_aload_n dX7_goes_0 (rfl : 0 + 1 = 1) rfl ?_
  refine zr_iload_n dX7_goes_1 (rfl : 1 + 1 = 2) rfl ?_
  refine zr_if_ne (tgt := 9) dX7_goes_2 (by decide) (rfl : 2 + 3 = 5) (by first | exact jb_iff | exact jI_z (by first | omega | (simp only [bset, reduceIte, Nat.reduceEqDiff]; omega)) (by first | omega | (simp only [bset, reduceIte, Nat.reduceEqDiff]; omega))) (fun h2 => ?_) (fun h2 => ?_)
  · first
    | (exfalso; omega)
    | (
      exfalso
      omega)
  · first
    | (exfalso; omega)
    | (
      refine zr_iconst dX7_goes_5 (rfl : 5 + 1 = 6) ?_
      refine zr_goto (tgt := 26) dX7_goes_6 (by decide) ?_
      refine zr_putf (fs' := [_, _, _, _, _, _]) dX7_goes_26 (rfl : 26 + 3 = 29) f_X7_21 ft_7_3 (by first | assumption | exact mw_167 | exact mw_168 | exact mw_169 | exact mw_170 | exact bk_0 | exact bk_1 | exact bk_2 | exact bk_3 | exact bk_4 | exact bk_5 | exact bk_6 | exact bk_7 | exact bk_8 | exact bk_9 | exact bk_10 | exact bk_11 | exact bk_12 | exact bk_13 | exact bk_14 | exact bk_15 | exact bk_16 | exact zup_self | exact (zup_ne (by first | assumption | omega)).trans (by first | assumption | exact zup_self) | exact (zup_ne (by first | assumption | omega)).trans ((zup_ne (by first | assumption | omega)).trans (by first | assumption | exact zup_self)) | exact (bk_out (by first | omega | (simp only [bset, reduceIte, Nat.reduceEqDiff]; omega))).trans (by first | exact bk_0 | exact bk_1 | exact bk_2 | exact bk_3 | exact bk_4 | exact bk_5 | exact bk_6 | exact bk_7 | exact bk_8 | exact bk_9 | exact bk_10 | exact bk_11 | exact bk_12 | exact bk_13 | exact bk_14 | exact bk_15 | exact bk_16 | exact cr_5 | exact cr_23 | exact cr_24 | exact cr_25 | exact cr_26 | exact cr_27 | exact cr_28 | exact cr_29 | exact cr_30 | assumption)) (Nat.le_of_ble_eq_true rfl) rfl rfl rfl ?_
      rw [mwu_o]
      refine zr_aload_n dX7_goes_29 (rfl : 29 + 1 = 30) rfl ?_
      refine zr_getf dX7_goes_30 (rfl : 30 + 3 = 33) f_X7_21 (by first | assumption | exact mw_167 | exact mw_168 | exact mw_169 | exact mw_170 | exact bk_0 | exact bk_1 | exact bk_2 | exact bk_3 | exact bk_4 | exact bk_5 | exact bk_6 | exact bk_7 | exact bk_8 | exact bk_9 | exact bk_10 | exact bk_11 | exact bk_12 | exact bk_13 | exact bk_14 | exact bk_15 | exact bk_16 | exact zup_self | exact (zup_ne (by first | assumption | omega)).trans (by first | assumption | exact zup_self) | exact (zup_ne (by first | assumption | omega)).trans ((zup_ne (by first | assumption | omega)).trans (by first | assumption | exact zup_self)) | exact (bk_out (by first | omega | (simp only [bset, reduceIte, Nat.reduceEqDiff]; omega))).trans (by first | exact bk_0 | exact bk_1 | exact bk_2 | exact bk_3 | exact bk_4 | exact bk_5 | exact bk_6 | exact bk_7 | exact bk_8 | exact bk_9 | exact bk_10 | exact bk_11 | exact bk_12 | exact bk_13 | exact bk_14 | exact bk_15 | exact bk_16 | exact cr_5 | exact cr_23 | exact cr_24 | exact cr_25 | exact cr_26 | exact cr_27 | exact cr_28 | exact cr_29 | exact cr_30 | assumption)) rfl ?_
      refine zr_if_ne (tgt := 40) dX7_goes_33 (by decide) (rfl : 33 + 3 = 36) (by first | exact jb_iff | exact jI_z (by first | omega | (simp only [bset, reduceIte, Nat.reduceEqDiff]; omega)) (by first | omega | (simp only [bset, reduceIte, Nat.reduceEqDiff]; omega))) (fun h33 => ?_) (fun h33 => ?_)
      · first
        | (exfalso; omega)
        | (
          refine zr_iconst dX7_goes_40 (rfl : 40 + 1 = 41) ?_
          refine zr_iret dX7_goes_41 rfl (by first | rfl | exact jb_nar) ?_ rfl rfl rfl
          first | rfl | rw [jb_pos (by first | assumption | omega)] | rw [jb_neg (by first | assumption | omega)] | rw [if_pos (by first | assumption | omega)] | rw [if_neg (by first | assumption | omega)])
      · first
        | (exfalso; omega)
        | (
          refine zr_iconst dX7_goes_36 (rfl : 36 + 1 = 37) ?_
          refine zr_goto (tgt := 41) dX7_goes_37 (by decide) ?_
          refine zr_iret dX7_goes_41 rfl (by first | rfl | exact jb_nar) ?_ rfl rfl rfl
          first | rfl | rw [jb_pos (by first | assumption | omega)] | rw [jb_neg (by first | assumption | omega)] | rw [if_pos (by first | assumption | omega)] | rw [if_neg (by first | assumption | omega)]))
theorem m_go2 (y : Int32) : zFn Γ md_X7_goes d [.ref 167, .int (jI 1), .int (jI 0), .int y] (mw S st ik th tx ty w) (some (.int (jI 0))) (mw S st ik 2 tx ty w) := by
  refine zFn.of_run (lv := [some (.ref 167), some (.int (jI 1)), some (.int (jI 0)), some (.int y)]) (by decide) rfl (Nat.le_of_ble_eq_true rfl) rfl (fun n9 g9 => ?_)
  refine zr_aload_n dX7_goes_0 (rfl : 0 + 1 = 1) rfl ?_
  refine zr_iload_n dX7_goes_1 (rfl : 1 + 1 = 2) rfl ?_
  refine zr_if_ne (tgt := 9) dX7_goes_2 (by decide) (rfl : 2 + 3 = 5) (by first | exact jb_iff | exact jI_z (by first | omega | (simp only [bset, reduceIte, Nat.reduceEqDiff]; omega)) (by first | omega | (simp only [bset, reduceIte, Nat.reduceEqDiff]; omega))) (fun h2 => ?_) (fun h2 => ?_)
  · first
    | (exfalso; omega)
    | (
      refine zr_iload_n dX7_goes_9 (rfl : 9 + 1 = 10) rfl ?_
      refine zr_if_ne (tgt := 17) dX7_goes_10 (by decide) (rfl : 10 + 3 = 13) (by first | exact jb_iff | exact jI_z (by first | omega | (simp only [bset, reduceIte, Nat.reduceEqDiff]; omega)) (by first | omega | (simp only [bset, reduceIte, Nat.reduceEqDiff]; omega))) (fun h10 => ?_) (fun h10 => ?_)
      · first
        | (exfalso; omega)
        | (
          exfalso
          omega)
      · first
        | (exfalso; omega)
        | (
          refine zr_iconst dX7_goes_13 (rfl : 13 + 1 = 14) ?_
          refine zr_goto (tgt := 26) dX7_goes_14 (by decide) ?_
          refine zr_putf (fs' := [_, _, _, _, _, _]) dX7_goes_26 (rfl : 26 + 3 = 29) f_X7_21 ft_7_3 (by first | assumption | exact mw_167 | exact mw_168 | exact mw_169 | exact mw_170 | exact bk_0 | exact bk_1 | exact bk_2 | exact bk_3 | exact bk_4 | exact bk_5 | exact bk_6 | exact bk_7 | exact bk_8 | exact bk_9 | exact bk_10 | exact bk_11 | exact bk_12 | exact bk_13 | exact bk_14 | exact bk_15 | exact bk_16 | exact zup_self | exact (zup_ne (by first | assumption | omega)).trans (by first | assumption | exact zup_self) | exact (zup_ne (by first | assumption | omega)).trans ((zup_ne (by first | assumption | omega)).trans (by first | assumption | exact zup_self)) | exact (bk_out (by first | omega | (simp only [bset, reduceIte, Nat.reduceEqDiff]; omega))).trans (by first | exact bk_0 | exact bk_1 | exact bk_2 | exact bk_3 | exact bk_4 | exact bk_5 | exact bk_6 | exact bk_7 | exact bk_8 | exact bk_9 | exact bk_10 | exact bk_11 | exact bk_12 | exact bk_13 | exact bk_14 | exact bk_15 | exact bk_16 | exact cr_5 | exact cr_23 | exact cr_24 | exact cr_25 | exact cr_26 | exact cr_27 | exact cr_28 | exact cr_29 | exact cr_30 | assumption)) (Nat.le_of_ble_eq_true rfl) rfl rfl rfl ?_
          rw [mwu_o]
          refine zr_aload_n dX7_goes_29 (rfl : 29 + 1 = 30) rfl ?_
          refine zr_getf dX7_goes_30 (rfl : 30 + 3 = 33) f_X7_21 (by first | assumption | exact mw_167 | exact mw_168 | exact mw_169 | exact mw_170 | exact bk_0 | exact bk_1 | exact bk_2 | exact bk_3 | exact bk_4 | exact bk_5 | exact bk_6 | exact bk_7 | exact bk_8 | exact bk_9 | exact bk_10 | exact bk_11 | exact bk_12 | exact bk_13 | exact bk_14 | exact bk_15 | exact bk_16 | exact zup_self | exact (zup_ne (by first | assumption | omega)).trans (by first | assumption | exact zup_self) | exact (zup_ne (by first | assumption | omega)).trans ((zup_ne (by first | assumption | omega)).trans (by first | assumption | exact zup_self)) | exact (bk_out (by first | omega | (simp only [bset, reduceIte, Nat.reduceEqDiff]; omega))).trans (by first | exact bk_0 | exact bk_1 | exact bk_2 | exact bk_3 | exact bk_4 | exact bk_5 | exact bk_6 | exact bk_7 | exact bk_8 | exact bk_9 | exact bk_10 | exact bk_11 | exact bk_12 | exact bk_13 | exact bk_14 | exact bk_15 | exact bk_16 | exact cr_5 | exact cr_23 | exact cr_24 | exact cr_25 | exact cr_26 | exact cr_27 | exact cr_28 | exact cr_29 | exact cr_30 | assumption)) rfl ?_
          refine zr_if_ne (tgt := 40) dX7_goes_33 (by decide) (rfl : 33 + 3 = 36) (by first | exact jb_iff | exact jI_z (by first | omega | (simp only [bset, reduceIte, Nat.reduceEqDiff]; omega)) (by first | omega | (simp only [bset, reduceIte, Nat.reduceEqDiff]; omega))) (fun h33 => ?_) (fun h33 => ?_)
          · first
            | (exfalso; omega)
            | (
              refine zr_iconst dX7_goes_40 (rfl : 40 + 1 = 41) ?_
              refine zr_iret dX7_goes_41 rfl (by first | rfl | exact jb_nar) ?_ rfl rfl rfl
              first | rfl | rw [jb_pos (by first | assumption | omega)] | rw [jb_neg (by first | assumption | omega)] | rw [if_pos (by first | assumption | omega)] | rw [if_neg (by first | assumption | omega)])
          · first
            | (exfalso; omega)
            | (
              refine zr_iconst dX7_goes_36 (rfl : 36 + 1 = 37) ?_
              refine zr_goto (tgt := 41) dX7_goes_37 (by decide) ?_
              refine zr_iret dX7_goes_41 rfl (by first | rfl | exact jb_nar) ?_ rfl rfl rfl
              first | rfl | rw [jb_pos (by first | assumption | omega)] | rw [jb_neg (by first | assumption | omega)] | rw [if_pos (by first | assumption | omega)] | rw [if_neg (by first | assumption | omega)])))
  · first
    | (exfalso; omega)
    | (
      refine zr_iconst dX7_goes_5 (rfl : 5 + 1 = 6) ?_
      refine zr_goto (tgt := 26) dX7_goes_6 (by decide) ?_
      refine zr_putf (fs' := [_, _, _, _, _, _]) dX7_goes_26 (rfl : 26 + 3 = 29) f_X7_21 ft_7_3 (by first | assumption | exact mw_167 | exact mw_168 | exact mw_169 | exact mw_170 | exact bk_0 | exact bk_1 | exact bk_2 | exact bk_3 | exact bk_4 | exact bk_5 | exact bk_6 | exact bk_7 | exact bk_8 | exact bk_9 | exact bk_10 | exact bk_11 | exact bk_12 | exact bk_13 | exact bk_14 | exact bk_15 | exact bk_16 | exact zup_self | exact (zup_ne (by first | assumption | omega)).trans (by first | assumption | exact zup_self) | exact (zup_ne (by first | assumption | omega)).trans ((zup_ne (by first | assumption | omega)).trans (by first | assumption | exact zup_self)) | exact (bk_out (by first | omega | (simp only [bset, reduceIte, Nat.reduceEqDiff]; omega))).trans (by first | exact bk_0 | exact bk_1 | exact bk_2 | exact bk_3 | exact bk_4 | exact bk_5 | exact bk_6 | exact bk_7 | exact bk_8 | exact bk_9 | exact bk_10 | exact bk_11 | exact bk_12 | exact bk_13 | exact bk_14 | exact bk_15 | exact bk_16 | exact cr_5 | exact cr_23 | exact cr_24 | exact cr_25 | exact cr_26 | exact cr_27 | exact cr_28 | exact cr_29 | exact cr_30 | assumption)) (Nat.le_of_ble_eq_true rfl) rfl rfl rfl ?_
      rw [mwu_o]
      refine zr_aload_n dX7_goes_29 (rfl : 29 + 1 = 30) rfl ?_
      refine zr_getf dX7_goes_30 (rfl : 30 + 3 = 33) f_X7_21 (by first | assumption | exact mw_167 | exact mw_168 | exact mw_169 | exact mw_170 | exact bk_0 | exact bk_1 | exact bk_2 | exact bk_3 | exact bk_4 | exact bk_5 | exact bk_6 | exact bk_7 | exact bk_8 | exact bk_9 | exact bk_10 | exact bk_11 | exact bk_12 | exact bk_13 | exact bk_14 | exact bk_15 | exact bk_16 | exact zup_self | exact (zup_ne (by first | assumption | omega)).trans (by first | assumption | exact zup_self) | exact (zup_ne (by first | assumption | omega)).trans ((zup_ne (by first | assumption | omega)).trans (by first | assumption | exact zup_self)) | exact (bk_out (by first | omega | (simp only [bset, reduceIte, Nat.reduceEqDiff]; omega))).trans (by first | exact bk_0 | exact bk_1 | exact bk_2 | exact bk_3 | exact bk_4 | exact bk_5 | exact bk_6 | exact bk_7 | exact bk_8 | exact bk_9 | exact bk_10 | exact bk_11 | exact bk_12 | exact bk_13 | exact bk_14 | exact bk_15 | exact bk_16 | exact cr_5 | exact cr_23 | exact cr_24 | exact cr_25 | exact cr_26 | exact cr_27 | exact cr_28 | exact cr_29 | exact cr_30 | assumption)) rfl ?_
      refine zr_if_ne (tgt := 40) dX7_goes_33 (by decide) (rfl : 33 + 3 = 36) (by first | exact jb_iff | exact jI_z (by first | omega | (simp only [bset, reduceIte, Nat.reduceEqDiff]; omega)) (by first | omega | (simp only [bset, reduceIte, Nat.reduceEqDiff]; omega))) (fun h33 => ?_) (fun h33 => ?_)
      · first
        | (exfalso; omega)
        | (
          refine zr_iconst dX7_goes_40 (rfl : 40 + 1 = 41) ?_
          refine zr_iret dX7_goes_41 rfl (by first | rfl | exact jb_nar) ?_ rfl rfl rfl
          first | rfl | rw [jb_pos (by first | assumption | omega)] | rw [jb_neg (by first | assumption | omega)] | rw [if_pos (by first | assumption | omega)] | rw [if_neg (by first | assumption | omega)])
      · first
        | (exfalso; omega)
        | (
          refine zr_iconst dX7_goes_36 (rfl : 36 + 1 = 37) ?_
          refine zr_goto (tgt := 41) dX7_goes_37 (by decide) ?_
          refine zr_iret dX7_goes_41 rfl (by first | rfl | exact jb_nar) ?_ rfl rfl rfl
          first | rfl | rw [jb_pos (by first | assumption | omega)] | rw [jb_neg (by first | assumption | omega)] | rw [if_pos (by first | assumption | omega)] | rw [if_neg (by first | assumption | omega)]))
theorem m_go3 : zFn Γ md_X7_goes d [.ref 167, .int (jI 1), .int (jI 1), .int (jI 0)] (mw S st ik th tx ty w) (some (.int (jI 0))) (mw S st ik 3 tx ty w) := by
  refine zFn.of_run (lv := [some (.ref 167), some (.int (jI 1)), some (.int (jI 1)), some (.int (jI 0))]) (by decide) rfl (Nat.le_of_ble_eq_true rfl) rfl (fun n9 g9 => ?_)
  refine zr_aload_n dX7_goes_0 (rfl : 0 + 1 = 1) rfl ?_
  refine zr_iload_n dX7_goes_1 (rfl : 1 + 1 = 2) rfl ?_
  refine zr_if_ne (tgt := 9) dX7_goes_2 (by decide) (rfl : 2 + 3 = 5) (by first | exact jb_iff | exact jI_z (by first | omega | (simp only [bset, reduceIte, Nat.reduceEqDiff]; omega)) (by first | omega | (simp only [bset, reduceIte, Nat.reduceEqDiff]; omega))) (fun h2 => ?_) (fun h2 => ?_)
  · first
    | (exfalso; omega)
    | (
      refine zr_iload_n dX7_goes_9 (rfl : 9 + 1 = 10) rfl ?_
      refine zr_if_ne (tgt := 17) dX7_goes_10 (by decide) (rfl : 10 + 3 = 13) (by first | exact jb_iff | exact jI_z (by first | omega | (simp only [bset, reduceIte, Nat.reduceEqDiff]; omega)) (by first | omega | (simp only [bset, reduceIte, Nat.reduceEqDiff]; omega))) (fun h10 => ?_) (fun h10 => ?_)
      · first
        | (exfalso; omega)
        | (
          refine zr_iload_n dX7_goes_17 (rfl : 17 + 1 = 18) rfl ?_
          refine zr_if_ne (tgt := 25) dX7_goes_18 (by decide) (rfl : 18 + 3 = 21) (by first | exact jb_iff | exact jI_z (by first | omega | (simp only [bset, reduceIte, Nat.reduceEqDiff]; omega)) (by first | omega | (simp only [bset, reduceIte, Nat.reduceEqDiff]; omega))) (fun h18 => ?_) (fun h18 => ?_)
          · first
            | (exfalso; omega)
            | (
              refine zr_iconst dX7_goes_25 (rfl : 25 + 1 = 26) ?_
              refine zr_putf (fs' := [_, _, _, _, _, _]) dX7_goes_26 (rfl : 26 + 3 = 29) f_X7_21 ft_7_3 (by first | assumption | exact mw_167 | exact mw_168 | exact mw_169 | exact mw_170 | exact bk_0 | exact bk_1 | exact bk_2 | exact bk_3 | exact bk_4 | exact bk_5 | exact bk_6 | exact bk_7 | exact bk_8 | exact bk_9 | exact bk_10 | exact bk_11 | exact bk_12 | exact bk_13 | exact bk_14 | exact bk_15 | exact bk_16 | exact zup_self | exact (zup_ne (by first | assumption | omega)).trans (by first | assumption | exact zup_self) | exact (zup_ne (by first | assumption | omega)).trans ((zup_ne (by first | assumption | omega)).trans (by first | assumption | exact zup_self)) | exact (bk_out (by first | omega | (simp only [bset, reduceIte, Nat.reduceEqDiff]; omega))).trans (by first | exact bk_0 | exact bk_1 | exact bk_2 | exact bk_3 | exact bk_4 | exact bk_5 | exact bk_6 | exact bk_7 | exact bk_8 | exact bk_9 | exact bk_10 | exact bk_11 | exact bk_12 | exact bk_13 | exact bk_14 | exact bk_15 | exact bk_16 | exact cr_5 | exact cr_23 | exact cr_24 | exact cr_25 | exact cr_26 | exact cr_27 | exact cr_28 | exact cr_29 | exact cr_30 | assumption)) (Nat.le_of_ble_eq_true rfl) rfl rfl rfl ?_
              rw [mwu_o]
              refine zr_aload_n dX7_goes_29 (rfl : 29 + 1 = 30) rfl ?_
              refine zr_getf dX7_goes_30 (rfl : 30 + 3 = 33) f_X7_21 (by first | assumption | exact mw_167 | exact mw_168 | exact mw_169 | exact mw_170 | exact bk_0 | exact bk_1 | exact bk_2 | exact bk_3 | exact bk_4 | exact bk_5 | exact bk_6 | exact bk_7 | exact bk_8 | exact bk_9 | exact bk_10 | exact bk_11 | exact bk_12 | exact bk_13 | exact bk_14 | exact bk_15 | exact bk_16 | exact zup_self | exact (zup_ne (by first | assumption | omega)).trans (by first | assumption | exact zup_self) | exact (zup_ne (by first | assumption | omega)).trans ((zup_ne (by first | assumption | omega)).trans (by first | assumption | exact zup_self)) | exact (bk_out (by first | omega | (simp only [bset, reduceIte, Nat.reduceEqDiff]; omega))).trans (by first | exact bk_0 | exact bk_1 | exact bk_2 | exact bk_3 | exact bk_4 | exact bk_5 | exact bk_6 | exact bk_7 | exact bk_8 | exact bk_9 | exact bk_10 | exact bk_11 | exact bk_12 | exact bk_13 | exact bk_14 | exact bk_15 | exact bk_16 | exact cr_5 | exact cr_23 | exact cr_24 | exact cr_25 | exact cr_26 | exact cr_27 | exact cr_28 | exact cr_29 | exact cr_30 | assumption)) rfl ?_
              refine zr_if_ne (tgt := 40) dX7_goes_33 (by decide) (rfl : 33 + 3 = 36) (by first | exact jb_iff | exact jI_z (by first | omega | (simp only [bset, reduceIte, Nat.reduceEqDiff]; omega)) (by first | omega | (simp only [bset, reduceIte, Nat.reduceEqDiff]; omega))) (fun h33 => ?_) (fun h33 => ?_)
              · first
                | (exfalso; omega)
                | (
                  refine zr_iconst dX7_goes_40 (rfl : 40 + 1 = 41) ?_
                  refine zr_iret dX7_goes_41 rfl (by first | rfl | exact jb_nar) ?_ rfl rfl rfl
                  first | rfl | rw [jb_pos (by first | assumption | omega)] | rw [jb_neg (by first | assumption | omega)] | rw [if_pos (by first | assumption | omega)] | rw [if_neg (by first | assumption | omega)])
              · first
                | (exfalso; omega)
                | (
                  refine zr_iconst dX7_goes_36 (rfl : 36 + 1 = 37) ?_
                  refine zr_goto (tgt := 41) dX7_goes_37 (by decide) ?_
                  refine zr_iret dX7_goes_41 rfl (by first | rfl | exact jb_nar) ?_ rfl rfl rfl
                  first | rfl | rw [jb_pos (by first | assumption | omega)] | rw [jb_neg (by first | assumption | omega)] | rw [if_pos (by first | assumption | omega)] | rw [if_neg (by first | assumption | omega)]))
          · first
            | (exfalso; omega)
            | (
              refine zr_iconst dX7_goes_21 (rfl : 21 + 1 = 22) ?_
              refine zr_goto (tgt := 26) dX7_goes_22 (by decide) ?_
              refine zr_putf (fs' := [_, _, _, _, _, _]) dX7_goes_26 (rfl : 26 + 3 = 29) f_X7_21 ft_7_3 (by first | assumption | exact mw_167 | exact mw_168 | exact mw_169 | exact mw_170 | exact bk_0 | exact bk_1 | exact bk_2 | exact bk_3 | exact bk_4 | exact bk_5 | exact bk_6 | exact bk_7 | exact bk_8 | exact bk_9 | exact bk_10 | exact bk_11 | exact bk_12 | exact bk_13 | exact bk_14 | exact bk_15 | exact bk_16 | exact zup_self | exact (zup_ne (by first | assumption | omega)).trans (by first | assumption | exact zup_self) | exact (zup_ne (by first | assumption | omega)).trans ((zup_ne (by first | assumption | omega)).trans (by first | assumption | exact zup_self)) | exact (bk_out (by first | omega | (simp only [bset, reduceIte, Nat.reduceEqDiff]; omega))).trans (by first | exact bk_0 | exact bk_1 | exact bk_2 | exact bk_3 | exact bk_4 | exact bk_5 | exact bk_6 | exact bk_7 | exact bk_8 | exact bk_9 | exact bk_10 | exact bk_11 | exact bk_12 | exact bk_13 | exact bk_14 | exact bk_15 | exact bk_16 | exact cr_5 | exact cr_23 | exact cr_24 | exact cr_25 | exact cr_26 | exact cr_27 | exact cr_28 | exact cr_29 | exact cr_30 | assumption)) (Nat.le_of_ble_eq_true rfl) rfl rfl rfl ?_
              rw [mwu_o]
              refine zr_aload_n dX7_goes_29 (rfl : 29 + 1 = 30) rfl ?_
              refine zr_getf dX7_goes_30 (rfl : 30 + 3 = 33) f_X7_21 (by first | assumption | exact mw_167 | exact mw_168 | exact mw_169 | exact mw_170 | exact bk_0 | exact bk_1 | exact bk_2 | exact bk_3 | exact bk_4 | exact bk_5 | exact bk_6 | exact bk_7 | exact bk_8 | exact bk_9 | exact bk_10 | exact bk_11 | exact bk_12 | exact bk_13 | exact bk_14 | exact bk_15 | exact bk_16 | exact zup_self | exact (zup_ne (by first | assumption | omega)).trans (by first | assumption | exact zup_self) | exact (zup_ne (by first | assumption | omega)).trans ((zup_ne (by first | assumption | omega)).trans (by first | assumption | exact zup_self)) | exact (bk_out (by first | omega | (simp only [bset, reduceIte, Nat.reduceEqDiff]; omega))).trans (by first | exact bk_0 | exact bk_1 | exact bk_2 | exact bk_3 | exact bk_4 | exact bk_5 | exact bk_6 | exact bk_7 | exact bk_8 | exact bk_9 | exact bk_10 | exact bk_11 | exact bk_12 | exact bk_13 | exact bk_14 | exact bk_15 | exact bk_16 | exact cr_5 | exact cr_23 | exact cr_24 | exact cr_25 | exact cr_26 | exact cr_27 | exact cr_28 | exact cr_29 | exact cr_30 | assumption)) rfl ?_
              refine zr_if_ne (tgt := 40) dX7_goes_33 (by decide) (rfl : 33 + 3 = 36) (by first | exact jb_iff | exact jI_z (by first | omega | (simp only [bset, reduceIte, Nat.reduceEqDiff]; omega)) (by first | omega | (simp only [bset, reduceIte, Nat.reduceEqDiff]; omega))) (fun h33 => ?_) (fun h33 => ?_)
              · first
                | (exfalso; omega)
                | (
                  refine zr_iconst dX7_goes_40 (rfl : 40 + 1 = 41) ?_
                  refine zr_iret dX7_goes_41 rfl (by first | rfl | exact jb_nar) ?_ rfl rfl rfl
                  first | rfl | rw [jb_pos (by first | assumption | omega)] | rw [jb_neg (by first | assumption | omega)] | rw [if_pos (by first | assumption | omega)] | rw [if_neg (by first | assumption | omega)])
              · first
                | (exfalso; omega)
                | (
                  refine zr_iconst dX7_goes_36 (rfl : 36 + 1 = 37) ?_
                  refine zr_goto (tgt := 41) dX7_goes_37 (by decide) ?_
                  refine zr_iret dX7_goes_41 rfl (by first | rfl | exact jb_nar) ?_ rfl rfl rfl
                  first | rfl | rw [jb_pos (by first | assumption | omega)] | rw [jb_neg (by first | assumption | omega)] | rw [if_pos (by first | assumption | omega)] | rw [if_neg (by first | assumption | omega)])))
      · first
        | (exfalso; omega)
        | (
          refine zr_iconst dX7_goes_13 (rfl : 13 + 1 = 14) ?_
          refine zr_goto (tgt := 26) dX7_goes_14 (by decide) ?_
          refine zr_putf (fs' := [_, _, _, _, _, _]) dX7_goes_26 (rfl : 26 + 3 = 29) f_X7_21 ft_7_3 (by first | assumption | exact mw_167 | exact mw_168 | exact mw_169 | exact mw_170 | exact bk_0 | exact bk_1 | exact bk_2 | exact bk_3 | exact bk_4 | exact bk_5 | exact bk_6 | exact bk_7 | exact bk_8 | exact bk_9 | exact bk_10 | exact bk_11 | exact bk_12 | exact bk_13 | exact bk_14 | exact bk_15 | exact bk_16 | exact zup_self | exact (zup_ne (by first | assumption | omega)).trans (by first | assumption | exact zup_self) | exact (zup_ne (by first | assumption | omega)).trans ((zup_ne (by first | assumption | omega)).trans (by first | assumption | exact zup_self)) | exact (bk_out (by first | omega | (simp only [bset, reduceIte, Nat.reduceEqDiff]; omega))).trans (by first | exact bk_0 | exact bk_1 | exact bk_2 | exact bk_3 | exact bk_4 | exact bk_5 | exact bk_6 | exact bk_7 | exact bk_8 | exact bk_9 | exact bk_10 | exact bk_11 | exact bk_12 | exact bk_13 | exact bk_14 | exact bk_15 | exact bk_16 | exact cr_5 | exact cr_23 | exact cr_24 | exact cr_25 | exact cr_26 | exact cr_27 | exact cr_28 | exact cr_29 | exact cr_30 | assumption)) (Nat.le_of_ble_eq_true rfl) rfl rfl rfl ?_
          rw [mwu_o]
          refine zr_aload_n dX7_goes_29 (rfl : 29 + 1 = 30) rfl ?_
          refine zr_getf dX7_goes_30 (rfl : 30 + 3 = 33) f_X7_21 (by first | assumption | exact mw_167 | exact mw_168 | exact mw_169 | exact mw_170 | exact bk_0 | exact bk_1 | exact bk_2 | exact bk_3 | exact bk_4 | exact bk_5 | exact bk_6 | exact bk_7 | exact bk_8 | exact bk_9 | exact bk_10 | exact bk_11 | exact bk_12 | exact bk_13 | exact bk_14 | exact bk_15 | exact bk_16 | exact zup_self | exact (zup_ne (by first | assumption | omega)).trans (by first | assumption | exact zup_self) | exact (zup_ne (by first | assumption | omega)).trans ((zup_ne (by first | assumption | omega)).trans (by first | assumption | exact zup_self)) | exact (bk_out (by first | omega | (simp only [bset, reduceIte, Nat.reduceEqDiff]; omega))).trans (by first | exact bk_0 | exact bk_1 | exact bk_2 | exact bk_3 | exact bk_4 | exact bk_5 | exact bk_6 | exact bk_7 | exact bk_8 | exact bk_9 | exact bk_10 | exact bk_11 | exact bk_12 | exact bk_13 | exact bk_14 | exact bk_15 | exact bk_16 | exact cr_5 | exact cr_23 | exact cr_24 | exact cr_25 | exact cr_26 | exact cr_27 | exact cr_28 | exact cr_29 | exact cr_30 | assumption)) rfl ?_
          refine zr_if_ne (tgt := 40) dX7_goes_33 (by decide) (rfl : 33 + 3 = 36) (by first | exact jb_iff | exact jI_z (by first | omega | (simp only [bset, reduceIte, Nat.reduceEqDiff]; omega)) (by first | omega | (simp only [bset, reduceIte, Nat.reduceEqDiff]; omega))) (fun h33 => ?_) (fun h33 => ?_)
          · first
            | (exfalso; omega)
            | (
              refine zr_iconst dX7_goes_40 (rfl : 40 + 1 = 41) ?_
              refine zr_iret dX7_goes_41 rfl (by first | rfl | exact jb_nar) ?_ rfl rfl rfl
              first | rfl | rw [jb_pos (by first | assumption | omega)] | rw [jb_neg (by first | assumption | omega)] | rw [if_pos (by first | assumption | omega)] | rw [if_neg (by first | assumption | omega)])
          · first
            | (exfalso; omega)
            | (
              refine zr_iconst dX7_goes_36 (rfl : 36 + 1 = 37) ?_
              refine zr_goto (tgt := 41) dX7_goes_37 (by decide) ?_
              refine zr_iret dX7_goes_41 rfl (by first | rfl | exact jb_nar) ?_ rfl rfl rfl
              first | rfl | rw [jb_pos (by first | assumption | omega)] | rw [jb_neg (by first | assumption | omega)] | rw [if_pos (by first | assumption | omega)] | rw [if_neg (by first | assumption | omega)])))
  · first
    | (exfalso; omega)
    | (
      refine zr_iconst dX7_goes_5 (rfl : 5 + 1 = 6) ?_
      refine zr_goto (tgt := 26) dX7_goes_6 (by decide) ?_
      refine zr_putf (fs' := [_, _, _, _, _, _]) dX7_goes_26 (rfl : 26 + 3 = 29) f_X7_21 ft_7_3 (by first | assumption | exact mw_167 | exact mw_168 | exact mw_169 | exact mw_170 | exact bk_0 | exact bk_1 | exact bk_2 | exact bk_3 | exact bk_4 | exact bk_5 | exact bk_6 | exact bk_7 | exact bk_8 | exact bk_9 | exact bk_10 | exact bk_11 | exact bk_12 | exact bk_13 | exact bk_14 | exact bk_15 | exact bk_16 | exact zup_self | exact (zup_ne (by first | assumption | omega)).trans (by first | assumption | exact zup_self) | exact (zup_ne (by first | assumption | omega)).trans ((zup_ne (by first | assumption | omega)).trans (by first | assumption | exact zup_self)) | exact (bk_out (by first | omega | (simp only [bset, reduceIte, Nat.reduceEqDiff]; omega))).trans (by first | exact bk_0 | exact bk_1 | exact bk_2 | exact bk_3 | exact bk_4 | exact bk_5 | exact bk_6 | exact bk_7 | exact bk_8 | exact bk_9 | exact bk_10 | exact bk_11 | exact bk_12 | exact bk_13 | exact bk_14 | exact bk_15 | exact bk_16 | exact cr_5 | exact cr_23 | exact cr_24 | exact cr_25 | exact cr_26 | exact cr_27 | exact cr_28 | exact cr_29 | exact cr_30 | assumption)) (Nat.le_of_ble_eq_true rfl) rfl rfl rfl ?_
      rw [mwu_o]
      refine zr_aload_n dX7_goes_29 (rfl : 29 + 1 = 30) rfl ?_
      refine zr_getf dX7_goes_30 (rfl : 30 + 3 = 33) f_X7_21 (by first | assumption | exact mw_167 | exact mw_168 | exact mw_169 | exact mw_170 | exact bk_0 | exact bk_1 | exact bk_2 | exact bk_3 | exact bk_4 | exact bk_5 | exact bk_6 | exact bk_7 | exact bk_8 | exact bk_9 | exact bk_10 | exact bk_11 | exact bk_12 | exact bk_13 | exact bk_14 | exact bk_15 | exact bk_16 | exact zup_self | exact (zup_ne (by first | assumption | omega)).trans (by first | assumption | exact zup_self) | exact (zup_ne (by first | assumption | omega)).trans ((zup_ne (by first | assumption | omega)).trans (by first | assumption | exact zup_self)) | exact (bk_out (by first | omega | (simp only [bset, reduceIte, Nat.reduceEqDiff]; omega))).trans (by first | exact bk_0 | exact bk_1 | exact bk_2 | exact bk_3 | exact bk_4 | exact bk_5 | exact bk_6 | exact bk_7 | exact bk_8 | exact bk_9 | exact bk_10 | exact bk_11 | exact bk_12 | exact bk_13 | exact bk_14 | exact bk_15 | exact bk_16 | exact cr_5 | exact cr_23 | exact cr_24 | exact cr_25 | exact cr_26 | exact cr_27 | exact cr_28 | exact cr_29 | exact cr_30 | assumption)) rfl ?_
      refine zr_if_ne (tgt := 40) dX7_goes_33 (by decide) (rfl : 33 + 3 = 36) (by first | exact jb_iff | exact jI_z (by first | omega | (simp only [bset, reduceIte, Nat.reduceEqDiff]; omega)) (by first | omega | (simp only [bset, reduceIte, Nat.reduceEqDiff]; omega))) (fun h33 => ?_) (fun h33 => ?_)
      · first
        | (exfalso; omega)
        | (
          refine zr_iconst dX7_goes_40 (rfl : 40 + 1 = 41) ?_
          refine zr_iret dX7_goes_41 rfl (by first | rfl | exact jb_nar) ?_ rfl rfl rfl
          first | rfl | rw [jb_pos (by first | assumption | omega)] | rw [jb_neg (by first | assumption | omega)] | rw [if_pos (by first | assumption | omega)] | rw [if_neg (by first | assumption | omega)])
      · first
        | (exfalso; omega)
        | (
          refine zr_iconst dX7_goes_36 (rfl : 36 + 1 = 37) ?_
          refine zr_goto (tgt := 41) dX7_goes_37 (by decide) ?_
          refine zr_iret dX7_goes_41 rfl (by first | rfl | exact jb_nar) ?_ rfl rfl rfl
          first | rfl | rw [jb_pos (by first | assumption | omega)] | rw [jb_neg (by first | assumption | omega)] | rw [if_pos (by first | assumption | omega)] | rw [if_neg (by first | assumption | omega)]))
theorem m_thrown : zFn Γ md_X7_thrown d [.ref 167] (mw S st ik th tx ty w) (some (.int (jI th))) (mw S st ik th tx ty w) := by
  refine zFn.of_run (lv := [some (.ref 167)]) (by decide) rfl (Nat.le_of_ble_eq_true rfl) rfl (fun n9 g9 => ?_)
  refine zr_aload_n dX7_thrown_0 (rfl : 0 + 1 = 1) rfl ?_
  refine zr_getf dX7_thrown_1 (rfl : 1 + 3 = 4) f_X7_21 (by first | assumption | exact mw_167 | exact mw_168 | exact mw_169 | exact mw_170 | exact bk_0 | exact bk_1 | exact bk_2 | exact bk_3 | exact bk_4 | exact bk_5 | exact bk_6 | exact bk_7 | exact bk_8 | exact bk_9 | exact bk_10 | exact bk_11 | exact bk_12 | exact bk_13 | exact bk_14 | exact bk_15 | exact bk_16 | exact zup_self | exact (zup_ne (by first | assumption | omega)).trans (by first | assumption | exact zup_self) | exact (zup_ne (by first | assumption | omega)).trans ((zup_ne (by first | assumption | omega)).trans (by first | assumption | exact zup_self)) | exact (bk_out (by first | omega | (simp only [bset, reduceIte, Nat.reduceEqDiff]; omega))).trans (by first | exact bk_0 | exact bk_1 | exact bk_2 | exact bk_3 | exact bk_4 | exact bk_5 | exact bk_6 | exact bk_7 | exact bk_8 | exact bk_9 | exact bk_10 | exact bk_11 | exact bk_12 | exact bk_13 | exact bk_14 | exact bk_15 | exact bk_16 | exact cr_5 | exact cr_23 | exact cr_24 | exact cr_25 | exact cr_26 | exact cr_27 | exact cr_28 | exact cr_29 | exact cr_30 | assumption)) rfl ?_
  refine zr_iret dX7_thrown_4 rfl (by first | rfl | exact jb_nar) ?_ rfl rfl rfl
  first | rfl | rw [jb_pos (by first | assumption | omega)] | rw [jb_neg (by first | assumption | omega)] | rw [if_pos (by first | assumption | omega)] | rw [if_neg (by first | assumption | omega)]
theorem m_copies (a b : Int) (ha : 0 ≤ a ∧ a ≤ 9) (hb : 0 ≤ b ∧ b ≤ 9) (hab : a ≠ b) : zFn Γ md_X7_copies d [.ref 167, .int (jI a), .int (jI b)] (mw S st ik th tx ty w) none (mw (jcpy S S (494 * a) (494 * b) 494) st ik th tx ty w) := by
  refine zFn.of_run (lv := [some (.ref 167), some (.int (jI a)), some (.int (jI b)), none]) (by decide) rfl (Nat.le_of_ble_eq_true rfl) rfl (fun n9 g9 => ?_)
  refine zr_iconst dX7_copies_0 (rfl : 0 + 1 = 1) ?_
  refine zr_istore_n (lv' := [_, _, _, _]) dX7_copies_1 (rfl : 1 + 1 = 2) (Nat.le_of_ble_eq_true rfl) rfl ?_
  have key : zRun Γ md_X7_copies d none 2 [some (.ref 167), some (.int (jI a)), some (.int (jI b)), some (.int (jI 0))] [] (n9, g9, 0, 0) (mw (jcpy S S (494 * a) (494 * b) 0) st ik th tx ty w) (zDone md_X7_copies none (mw (jcpy S S (494 * a) (494 * b) 494) st ik th tx ty w) n9 g9) := by
    refine zfor1 0 494 (fun _ _ => True) (fun k (_ : Unit) => [some (.ref 167), some (.int (jI a)), some (.int (jI b)), some (.int (jI k))]) (fun k _ => mw (jcpy S S (494 * a) (494 * b) k) st ik th tx ty w) () trivial ?_ ?_
    · intro k _ k0 k1 _ hk
      have hk := hk () trivial
      have e : jup (jcpy S S (494 * a) (494 * b) k) (494 * b + k) (jcpy S S (494 * a) (494 * b) k (494 * a + k)) = jcpy S S (494 * a) (494 * b) (k + 1) := by
        funext z
        have e1 : jcpy S S (494 * a) (494 * b) k (494 * a + k) = S (494 * a + k) := by
          unfold jcpy
          rw [if_neg (by omega)]
        rw [e1]
        unfold jup jcpy
        by_cases hz : z = 494 * b + k
        · rw [if_pos hz, if_pos (by omega), show 494 * a + (z - 494 * b) = 494 * a + k by omega]
        · rw [if_neg hz]
          by_cases hz2 : 494 * b ≤ z ∧ z < 494 * b + k
          · rw [if_pos hz2, if_pos (by omega)]
          · rw [if_neg hz2, if_neg (by omega)]
      refine zr_iload_n dX7_copies_2 (rfl : 2 + 1 = 3) rfl ?_
      refine zr_sipush dX7_copies_3 (rfl : 3 + 3 = 6) (by decide) ?_
      refine zr_icmp_ge (tgt := 39) dX7_copies_6 (by decide) (rfl : 6 + 3 = 9) (jI_le (by first | omega | (simp only [bset, reduceIte, Nat.reduceEqDiff]; omega)) (by first | omega | (simp only [bset, reduceIte, Nat.reduceEqDiff]; omega)) (by first | omega | (simp only [bset, reduceIte, Nat.reduceEqDiff]; omega)) (by first | omega | (simp only [bset, reduceIte, Nat.reduceEqDiff]; omega))) (fun h6 => ?_) (fun h6 => ?_)
      · exfalso; omega
      · refine zr_aload_n dX7_copies_9 (rfl : 9 + 1 = 10) rfl ?_
        refine zr_getf dX7_copies_10 (rfl : 10 + 3 = 13) f_X7_7 (by first | assumption | exact mw_167 | exact mw_168 | exact mw_169 | exact mw_170 | exact bk_0 | exact bk_1 | exact bk_2 | exact bk_3 | exact bk_4 | exact bk_5 | exact bk_6 | exact bk_7 | exact bk_8 | exact bk_9 | exact bk_10 | exact bk_11 | exact bk_12 | exact bk_13 | exact bk_14 | exact bk_15 | exact bk_16 | exact zup_self | exact (zup_ne (by first | assumption | omega)).trans (by first | assumption | exact zup_self) | exact (zup_ne (by first | assumption | omega)).trans ((zup_ne (by first | assumption | omega)).trans (by first | assumption | exact zup_self)) | exact (bk_out (by first | omega | (simp only [bset, reduceIte, Nat.reduceEqDiff]; omega))).trans (by first | exact bk_0 | exact bk_1 | exact bk_2 | exact bk_3 | exact bk_4 | exact bk_5 | exact bk_6 | exact bk_7 | exact bk_8 | exact bk_9 | exact bk_10 | exact bk_11 | exact bk_12 | exact bk_13 | exact bk_14 | exact bk_15 | exact bk_16 | exact cr_5 | exact cr_23 | exact cr_24 | exact cr_25 | exact cr_26 | exact cr_27 | exact cr_28 | exact cr_29 | exact cr_30 | assumption)) rfl ?_
        refine zr_sipush dX7_copies_13 (rfl : 13 + 3 = 16) (by decide) ?_
        refine zr_iload_n dX7_copies_16 (rfl : 16 + 1 = 17) rfl ?_
        refine zr_imul dX7_copies_17 (rfl : 17 + 1 = 18) (by first | exact jI_mul _ _ | rfl) ?_
        refine zr_iload_n dX7_copies_18 (rfl : 18 + 1 = 19) rfl ?_
        refine zr_iadd dX7_copies_19 (rfl : 19 + 1 = 20) (by first | exact jI_add _ _ | rfl) ?_
        refine zr_aload_n dX7_copies_20 (rfl : 20 + 1 = 21) rfl ?_
        refine zr_getf dX7_copies_21 (rfl : 21 + 3 = 24) f_X7_7 (by first | assumption | exact mw_167 | exact mw_168 | exact mw_169 | exact mw_170 | exact bk_0 | exact bk_1 | exact bk_2 | exact bk_3 | exact bk_4 | exact bk_5 | exact bk_6 | exact bk_7 | exact bk_8 | exact bk_9 | exact bk_10 | exact bk_11 | exact bk_12 | exact bk_13 | exact bk_14 | exact bk_15 | exact bk_16 | exact zup_self | exact (zup_ne (by first | assumption | omega)).trans (by first | assumption | exact zup_self) | exact (zup_ne (by first | assumption | omega)).trans ((zup_ne (by first | assumption | omega)).trans (by first | assumption | exact zup_self)) | exact (bk_out (by first | omega | (simp only [bset, reduceIte, Nat.reduceEqDiff]; omega))).trans (by first | exact bk_0 | exact bk_1 | exact bk_2 | exact bk_3 | exact bk_4 | exact bk_5 | exact bk_6 | exact bk_7 | exact bk_8 | exact bk_9 | exact bk_10 | exact bk_11 | exact bk_12 | exact bk_13 | exact bk_14 | exact bk_15 | exact bk_16 | exact cr_5 | exact cr_23 | exact cr_24 | exact cr_25 | exact cr_26 | exact cr_27 | exact cr_28 | exact cr_29 | exact cr_30 | assumption)) rfl ?_
        refine zr_sipush dX7_copies_24 (rfl : 24 + 3 = 27) (by decide) ?_
        refine zr_iload_n dX7_copies_27 (rfl : 27 + 1 = 28) rfl ?_
        refine zr_imul dX7_copies_28 (rfl : 28 + 1 = 29) (by first | exact jI_mul _ _ | rfl) ?_
        refine zr_iload_n dX7_copies_29 (rfl : 29 + 1 = 30) rfl ?_
        refine zr_iadd dX7_copies_30 (rfl : 30 + 1 = 31) (by first | exact jI_add _ _ | rfl) ?_
        refine zr_iald dX7_copies_31 (rfl : 31 + 1 = 32) (by first | assumption | exact mw_167 | exact mw_168 | exact mw_169 | exact mw_170 | exact bk_0 | exact bk_1 | exact bk_2 | exact bk_3 | exact bk_4 | exact bk_5 | exact bk_6 | exact bk_7 | exact bk_8 | exact bk_9 | exact bk_10 | exact bk_11 | exact bk_12 | exact bk_13 | exact bk_14 | exact bk_15 | exact bk_16 | exact zup_self | exact (zup_ne (by first | assumption | omega)).trans (by first | assumption | exact zup_self) | exact (zup_ne (by first | assumption | omega)).trans ((zup_ne (by first | assumption | omega)).trans (by first | assumption | exact zup_self)) | exact (bk_out (by first | omega | (simp only [bset, reduceIte, Nat.reduceEqDiff]; omega))).trans (by first | exact bk_0 | exact bk_1 | exact bk_2 | exact bk_3 | exact bk_4 | exact bk_5 | exact bk_6 | exact bk_7 | exact bk_8 | exact bk_9 | exact bk_10 | exact bk_11 | exact bk_12 | exact bk_13 | exact bk_14 | exact bk_15 | exact bk_16 | exact cr_5 | exact cr_23 | exact cr_24 | exact cr_25 | exact cr_26 | exact cr_27 | exact cr_28 | exact cr_29 | exact cr_30 | assumption)) (by decide) (by first | omega | (simp only [bset, reduceIte, Nat.reduceEqDiff]; omega)) (by first | omega | (simp only [bset, reduceIte, Nat.reduceEqDiff]; omega)) ?_
        refine zr_iast dX7_copies_32 (rfl : 32 + 1 = 33) (by first | assumption | exact mw_167 | exact mw_168 | exact mw_169 | exact mw_170 | exact bk_0 | exact bk_1 | exact bk_2 | exact bk_3 | exact bk_4 | exact bk_5 | exact bk_6 | exact bk_7 | exact bk_8 | exact bk_9 | exact bk_10 | exact bk_11 | exact bk_12 | exact bk_13 | exact bk_14 | exact bk_15 | exact bk_16 | exact zup_self | exact (zup_ne (by first | assumption | omega)).trans (by first | assumption | exact zup_self) | exact (zup_ne (by first | assumption | omega)).trans ((zup_ne (by first | assumption | omega)).trans (by first | assumption | exact zup_self)) | exact (bk_out (by first | omega | (simp only [bset, reduceIte, Nat.reduceEqDiff]; omega))).trans (by first | exact bk_0 | exact bk_1 | exact bk_2 | exact bk_3 | exact bk_4 | exact bk_5 | exact bk_6 | exact bk_7 | exact bk_8 | exact bk_9 | exact bk_10 | exact bk_11 | exact bk_12 | exact bk_13 | exact bk_14 | exact bk_15 | exact bk_16 | exact cr_5 | exact cr_23 | exact cr_24 | exact cr_25 | exact cr_26 | exact cr_27 | exact cr_28 | exact cr_29 | exact cr_30 | assumption)) (by decide) (by first | omega | (simp only [bset, reduceIte, Nat.reduceEqDiff]; omega)) (by first | omega | (simp only [bset, reduceIte, Nat.reduceEqDiff]; omega)) rfl ?_
        rw [mwu_S, e]
        refine zr_iinc (lv' := [_, _, _, _]) dX7_copies_33 (rfl : 33 + 3 = 36) (Nat.le_of_ble_eq_true rfl) rfl (by first | exact jI_add _ _ | rfl) rfl ?_
        refine zr_goto (tgt := 2) dX7_copies_36 (by decide) ?_
        exact hk
    · intro _ _
      refine zr_iload_n dX7_copies_2 (rfl : 2 + 1 = 3) rfl ?_
      refine zr_sipush dX7_copies_3 (rfl : 3 + 3 = 6) (by decide) ?_
      refine zr_icmp_ge (tgt := 39) dX7_copies_6 (by decide) (rfl : 6 + 3 = 9) (jI_le (by first | omega | (simp only [bset, reduceIte, Nat.reduceEqDiff]; omega)) (by first | omega | (simp only [bset, reduceIte, Nat.reduceEqDiff]; omega)) (by first | omega | (simp only [bset, reduceIte, Nat.reduceEqDiff]; omega)) (by first | omega | (simp only [bset, reduceIte, Nat.reduceEqDiff]; omega))) (fun h6 => ?_) (fun h6 => ?_)
      · first
        | (exfalso; omega)
        | (
          exact zr_vret dX7_copies_39 rfl rfl rfl rfl)
      · first
        | (exfalso; omega)
        | (
          exfalso
          omega)
  have e0 : jcpy S S (494 * a) (494 * b) 0 = S := by
    funext z
    unfold jcpy
    rw [if_neg (by omega)]
  rw [e0] at key
  exact key
/-- a block is as another was -/
def jbq (S' : Int → Int) (a : Int) (S : Int → Int) (b : Int) : Prop := ∀ k, 0 ≤ k → k < 494 → S' (494 * a + k) = S (494 * b + k)
theorem jbq_cpy {a b : Int} : jbq (jcpy S S (494 * a) (494 * b) 494) b S a := by
  intro k k0 k1
  unfold jcpy
  rw [if_pos (by omega), show 494 * a + (494 * b + k - 494 * b) = 494 * a + k by omega]
theorem jbq_cpyn {a b c : Int} (h : c ≠ b) : jbq (jcpy S S (494 * a) (494 * b) 494) c S c := by
  intro k k0 k1
  unfold jcpy
  rw [if_neg (by omega)]
theorem jbq.trans {S1 S2 S3 : Int → Int} {a b c : Int} (h1 : jbq S1 a S2 b) (h2 : jbq S2 b S3 c) : jbq S1 a S3 c := fun k k0 k1 => (h1 k k0 k1).trans (h2 k k0 k1)
def jst2 (st : Int) : Int := if st = 6 then 5 else st
/-- five copies in a row -/
def jsh1 (S : Int → Int) : Nat → Int → Int
  | 0 => S
  | n + 1 => jcpy (jsh1 S n) (jsh1 S n) (494 * ((n : Int) + 2)) (494 * ((n : Int) + 1)) 494
theorem jsh1_q : ∀ n : Nat, n ≤ 5 → (∀ i : Int, 1 ≤ i → i ≤ n → jbq (jsh1 S n) i S (i + 1)) ∧ (∀ i : Int, i < 1 ∨ (n : Int) < i → jbq (jsh1 S n) i S i)
  | 0, _ => ⟨fun i i0 i1 => absurd i1 (by omega), fun i _ k _ _ => rfl⟩
  | n + 1, h => by
    have ih := jsh1_q n (by omega)
    refine ⟨fun i i0 i1 => ?_, fun i hi => ?_⟩
    · by_cases hi : i = (n : Int) + 1
      · rw [hi]
        exact (jbq_cpy (S := jsh1 S n) (a := (n : Int) + 2) (b := (n : Int) + 1)).trans (by rw [show (n : Int) + 1 + 1 = (n : Int) + 2 by omega]; exact ih.2 _ (Or.inr (by omega)))
      · exact (jbq_cpyn (S := jsh1 S n) (a := (n : Int) + 2) (b := (n : Int) + 1) hi).trans (ih.1 i i0 (by omega))
    · exact (jbq_cpyn (S := jsh1 S n) (a := (n : Int) + 2) (b := (n : Int) + 1) (by omega)).trans (ih.2 i (by omega))
def jsv2 (S : Int → Int) (st : Int) : Int → Int := jcpy (if st = 6 then jsh1 S 5 else S) (if st = 6 then jsh1 S 5 else S) (494 * 0) (494 * (jst2 st + 1)) 494
theorem m_saves (hst : 0 ≤ st ∧ st ≤ 6) : zFn Γ md_X7_saves (d + 1) [.ref 167] (mw S st ik th tx ty w) none (mw (jsv2 S st) (jst2 st + 1) ik th tx ty w) := by
  refine zFn.of_run (lv := [some (.ref 167), none]) (by decide) rfl (Nat.le_of_ble_eq_true rfl) rfl (fun n9 g9 => ?_)
  have fin : ∀ (S1 : Int → Int) (o : Option Value) (s1 : Int), s1 = jst2 st → S1 = (if st = 6 then jsh1 S 5 else S) → zRun Γ md_X7_saves (d + 1) none 41 [some (.ref 167), o] [] (n9, g9, 0, 0) (mw S1 s1 ik th tx ty w) (zDone md_X7_saves none (mw (jsv2 S st) (jst2 st + 1) ik th tx ty w) n9 g9) := by
    intro S1 o s1 e1 e2
    have hr : 0 ≤ jst2 st ∧ jst2 st ≤ 5 := by
      unfold jst2
      split <;> omega
    unfold jsv2
    rw [← e2, ← e1]
    rw [← e1] at hr
    refine zr_aload_n dX7_saves_41 (rfl : 41 + 1 = 42) rfl ?_
    refine zr_dup dX7_saves_42 (rfl : 42 + 1 = 43) rfl ?_
    refine zr_getf dX7_saves_43 (rfl : 43 + 3 = 46) f_X7_25 (by first | assumption | exact mw_167 | exact mw_168 | exact mw_169 | exact mw_170 | exact bk_0 | exact bk_1 | exact bk_2 | exact bk_3 | exact bk_4 | exact bk_5 | exact bk_6 | exact bk_7 | exact bk_8 | exact bk_9 | exact bk_10 | exact bk_11 | exact bk_12 | exact bk_13 | exact bk_14 | exact bk_15 | exact bk_16 | exact zup_self | exact (zup_ne (by first | assumption | omega)).trans (by first | assumption | exact zup_self) | exact (zup_ne (by first | assumption | omega)).trans ((zup_ne (by first | assumption | omega)).trans (by first | assumption | exact zup_self)) | exact (bk_out (by first | omega | (simp only [bset, reduceIte, Nat.reduceEqDiff]; omega))).trans (by first | exact bk_0 | exact bk_1 | exact bk_2 | exact bk_3 | exact bk_4 | exact bk_5 | exact bk_6 | exact bk_7 | exact bk_8 | exact bk_9 | exact bk_10 | exact bk_11 | exact bk_12 | exact bk_13 | exact bk_14 | exact bk_15 | exact bk_16 | exact cr_5 | exact cr_23 | exact cr_24 | exact cr_25 | exact cr_26 | exact cr_27 | exact cr_28 | exact cr_29 | exact cr_30 | assumption)) rfl ?_
    refine zr_iconst dX7_saves_46 (rfl : 46 + 1 = 47) ?_
    refine zr_iadd dX7_saves_47 (rfl : 47 + 1 = 48) (by first | exact jI_add _ _ | rfl) ?_
    refine zr_putf (fs' := [_, _, _, _, _, _]) dX7_saves_48 (rfl : 48 + 3 = 51) f_X7_25 ft_7_1 (by first | assumption | exact mw_167 | exact mw_168 | exact mw_169 | exact mw_170 | exact bk_0 | exact bk_1 | exact bk_2 | exact bk_3 | exact bk_4 | exact bk_5 | exact bk_6 | exact bk_7 | exact bk_8 | exact bk_9 | exact bk_10 | exact bk_11 | exact bk_12 | exact bk_13 | exact bk_14 | exact bk_15 | exact bk_16 | exact zup_self | exact (zup_ne (by first | assumption | omega)).trans (by first | assumption | exact zup_self) | exact (zup_ne (by first | assumption | omega)).trans ((zup_ne (by first | assumption | omega)).trans (by first | assumption | exact zup_self)) | exact (bk_out (by first | omega | (simp only [bset, reduceIte, Nat.reduceEqDiff]; omega))).trans (by first | exact bk_0 | exact bk_1 | exact bk_2 | exact bk_3 | exact bk_4 | exact bk_5 | exact bk_6 | exact bk_7 | exact bk_8 | exact bk_9 | exact bk_10 | exact bk_11 | exact bk_12 | exact bk_13 | exact bk_14 | exact bk_15 | exact bk_16 | exact cr_5 | exact cr_23 | exact cr_24 | exact cr_25 | exact cr_26 | exact cr_27 | exact cr_28 | exact cr_29 | exact cr_30 | assumption)) (Nat.le_of_ble_eq_true rfl) rfl rfl rfl ?_
    rw [mwu_o]
    refine zr_aload_n dX7_saves_51 (rfl : 51 + 1 = 52) rfl ?_
    refine zr_iconst dX7_saves_52 (rfl : 52 + 1 = 53) ?_
    refine zr_aload_n dX7_saves_53 (rfl : 53 + 1 = 54) rfl ?_
    refine zr_getf dX7_saves_54 (rfl : 54 + 3 = 57) f_X7_25 (by first | assumption | exact mw_167 | exact mw_168 | exact mw_169 | exact mw_170 | exact bk_0 | exact bk_1 | exact bk_2 | exact bk_3 | exact bk_4 | exact bk_5 | exact bk_6 | exact bk_7 | exact bk_8 | exact bk_9 | exact bk_10 | exact bk_11 | exact bk_12 | exact bk_13 | exact bk_14 | exact bk_15 | exact bk_16 | exact zup_self | exact (zup_ne (by first | assumption | omega)).trans (by first | assumption | exact zup_self) | exact (zup_ne (by first | assumption | omega)).trans ((zup_ne (by first | assumption | omega)).trans (by first | assumption | exact zup_self)) | exact (bk_out (by first | omega | (simp only [bset, reduceIte, Nat.reduceEqDiff]; omega))).trans (by first | exact bk_0 | exact bk_1 | exact bk_2 | exact bk_3 | exact bk_4 | exact bk_5 | exact bk_6 | exact bk_7 | exact bk_8 | exact bk_9 | exact bk_10 | exact bk_11 | exact bk_12 | exact bk_13 | exact bk_14 | exact bk_15 | exact bk_16 | exact cr_5 | exact cr_23 | exact cr_24 | exact cr_25 | exact cr_26 | exact cr_27 | exact cr_28 | exact cr_29 | exact cr_30 | assumption)) rfl ?_
    refine zr_fnV dX7_saves_57 (rfl : 57 + 3 = 60) l_X7_28 (m_copies 0 (s1 + 1) (by decide) (by first | omega | (simp only [bset, reduceIte, Nat.reduceEqDiff]; omega)) (by first | omega | (simp only [bset, reduceIte, Nat.reduceEqDiff]; omega))) (by first | assumption | exact mw_167 | exact mw_168 | exact mw_169 | exact mw_170 | exact bk_0 | exact bk_1 | exact bk_2 | exact bk_3 | exact bk_4 | exact bk_5 | exact bk_6 | exact bk_7 | exact bk_8 | exact bk_9 | exact bk_10 | exact bk_11 | exact bk_12 | exact bk_13 | exact bk_14 | exact bk_15 | exact bk_16 | exact zup_self | exact (zup_ne (by first | assumption | omega)).trans (by first | assumption | exact zup_self) | exact (zup_ne (by first | assumption | omega)).trans ((zup_ne (by first | assumption | omega)).trans (by first | assumption | exact zup_self)) | exact (bk_out (by first | omega | (simp only [bset, reduceIte, Nat.reduceEqDiff]; omega))).trans (by first | exact bk_0 | exact bk_1 | exact bk_2 | exact bk_3 | exact bk_4 | exact bk_5 | exact bk_6 | exact bk_7 | exact bk_8 | exact bk_9 | exact bk_10 | exact bk_11 | exact bk_12 | exact bk_13 | exact bk_14 | exact bk_15 | exact bk_16 | exact cr_5 | exact cr_23 | exact cr_24 | exact cr_25 | exact cr_26 | exact cr_27 | exact cr_28 | exact cr_29 | exact cr_30 | assumption)) rfl rfl rfl (Nat.le_of_ble_eq_true rfl) ?_
    exact zr_vret dX7_saves_60 rfl rfl rfl rfl
  by_cases h6 : st = 6
  · refine zr_aload_n dX7_saves_0 (rfl : 0 + 1 = 1) rfl ?_
    refine zr_getf dX7_saves_1 (rfl : 1 + 3 = 4) f_X7_25 (by first | assumption | exact mw_167 | exact mw_168 | exact mw_169 | exact mw_170 | exact bk_0 | exact bk_1 | exact bk_2 | exact bk_3 | exact bk_4 | exact bk_5 | exact bk_6 | exact bk_7 | exact bk_8 | exact bk_9 | exact bk_10 | exact bk_11 | exact bk_12 | exact bk_13 | exact bk_14 | exact bk_15 | exact bk_16 | exact zup_self | exact (zup_ne (by first | assumption | omega)).trans (by first | assumption | exact zup_self) | exact (zup_ne (by first | assumption | omega)).trans ((zup_ne (by first | assumption | omega)).trans (by first | assumption | exact zup_self)) | exact (bk_out (by first | omega | (simp only [bset, reduceIte, Nat.reduceEqDiff]; omega))).trans (by first | exact bk_0 | exact bk_1 | exact bk_2 | exact bk_3 | exact bk_4 | exact bk_5 | exact bk_6 | exact bk_7 | exact bk_8 | exact bk_9 | exact bk_10 | exact bk_11 | exact bk_12 | exact bk_13 | exact bk_14 | exact bk_15 | exact bk_16 | exact cr_5 | exact cr_23 | exact cr_24 | exact cr_25 | exact cr_26 | exact cr_27 | exact cr_28 | exact cr_29 | exact cr_30 | assumption)) rfl ?_
    refine zr_bipush dX7_saves_4 (rfl : 4 + 2 = 6) (by decide) ?_
    refine zr_icmp_ne (tgt := 41) dX7_saves_6 (by decide) (rfl : 6 + 3 = 9) (jI_eq (by first | omega | (simp only [bset, reduceIte, Nat.reduceEqDiff]; omega)) (by first | omega | (simp only [bset, reduceIte, Nat.reduceEqDiff]; omega)) (by first | omega | (simp only [bset, reduceIte, Nat.reduceEqDiff]; omega)) (by first | omega | (simp only [bset, reduceIte, Nat.reduceEqDiff]; omega))) (fun h => ?_) (fun h => ?_)
    · exfalso; omega
    · refine zr_iconst dX7_saves_9 (rfl : 9 + 1 = 10) ?_
      refine zr_istore_n (lv' := [_, _]) dX7_saves_10 (rfl : 10 + 1 = 11) (Nat.le_of_ble_eq_true rfl) rfl ?_
      have key : zRun Γ md_X7_saves (d + 1) none 11 [some (.ref 167), some (.int (jI 1))] [] (n9, g9, 0, 0) (mw (jsh1 S ((1 : Int) - 1).toNat) st ik th tx ty w) (zDone md_X7_saves none (mw (jsv2 S st) (jst2 st + 1) ik th tx ty w) n9 g9) := by
        refine zfor1 1 5 (fun _ _ => True) (fun k (_ : Unit) => [some (.ref 167), some (.int (jI k))]) (fun k _ => mw (jsh1 S (k - 1).toNat) st ik th tx ty w) () trivial ?_ ?_
        · intro k _ k0 k1 _ hk
          have hk := hk () trivial
          rw [show (k + 1 - 1).toNat = (k - 1).toNat + 1 by omega] at hk
          have e : jsh1 S ((k - 1).toNat + 1) = jcpy (jsh1 S (k - 1).toNat) (jsh1 S (k - 1).toNat) (494 * (k + 1)) (494 * k) 494 := by
            show jcpy _ _ (494 * (((k - 1).toNat : Int) + 2)) (494 * (((k - 1).toNat : Int) + 1)) 494 = _
            rw [show (((k - 1).toNat : Int) + 2) = k + 1 by omega, show (((k - 1).toNat : Int) + 1) = k by omega]
          rw [e] at hk
          refine zr_iload_n dX7_saves_11 (rfl : 11 + 1 = 12) rfl ?_
          refine zr_bipush dX7_saves_12 (rfl : 12 + 2 = 14) (by decide) ?_
          refine zr_icmp_ge (tgt := 31) dX7_saves_14 (by decide) (rfl : 14 + 3 = 17) (jI_le (by first | omega | (simp only [bset, reduceIte, Nat.reduceEqDiff]; omega)) (by first | omega | (simp only [bset, reduceIte, Nat.reduceEqDiff]; omega)) (by first | omega | (simp only [bset, reduceIte, Nat.reduceEqDiff]; omega)) (by first | omega | (simp only [bset, reduceIte, Nat.reduceEqDiff]; omega))) (fun h14 => ?_) (fun h14 => ?_)
          · exfalso; omega
          · refine zr_aload_n dX7_saves_17 (rfl : 17 + 1 = 18) rfl ?_
            refine zr_iload_n dX7_saves_18 (rfl : 18 + 1 = 19) rfl ?_
            refine zr_iconst dX7_saves_19 (rfl : 19 + 1 = 20) ?_
            refine zr_iadd dX7_saves_20 (rfl : 20 + 1 = 21) (by first | exact jI_add _ _ | rfl) ?_
            refine zr_iload_n dX7_saves_21 (rfl : 21 + 1 = 22) rfl ?_
            refine zr_fnV dX7_saves_22 (rfl : 22 + 3 = 25) l_X7_28 (m_copies (k + 1) k (by first | omega | (simp only [bset, reduceIte, Nat.reduceEqDiff]; omega)) (by first | omega | (simp only [bset, reduceIte, Nat.reduceEqDiff]; omega)) (by first | omega | (simp only [bset, reduceIte, Nat.reduceEqDiff]; omega))) (by first | assumption | exact mw_167 | exact mw_168 | exact mw_169 | exact mw_170 | exact bk_0 | exact bk_1 | exact bk_2 | exact bk_3 | exact bk_4 | exact bk_5 | exact bk_6 | exact bk_7 | exact bk_8 | exact bk_9 | exact bk_10 | exact bk_11 | exact bk_12 | exact bk_13 | exact bk_14 | exact bk_15 | exact bk_16 | exact zup_self | exact (zup_ne (by first | assumption | omega)).trans (by first | assumption | exact zup_self) | exact (zup_ne (by first | assumption | omega)).trans ((zup_ne (by first | assumption | omega)).trans (by first | assumption | exact zup_self)) | exact (bk_out (by first | omega | (simp only [bset, reduceIte, Nat.reduceEqDiff]; omega))).trans (by first | exact bk_0 | exact bk_1 | exact bk_2 | exact bk_3 | exact bk_4 | exact bk_5 | exact bk_6 | exact bk_7 | exact bk_8 | exact bk_9 | exact bk_10 | exact bk_11 | exact bk_12 | exact bk_13 | exact bk_14 | exact bk_15 | exact bk_16 | exact cr_5 | exact cr_23 | exact cr_24 | exact cr_25 | exact cr_26 | exact cr_27 | exact cr_28 | exact cr_29 | exact cr_30 | assumption)) rfl rfl rfl (Nat.le_of_ble_eq_true rfl) ?_
            refine zr_iinc (lv' := [_, _]) dX7_saves_25 (rfl : 25 + 3 = 28) (Nat.le_of_ble_eq_true rfl) rfl (by first | exact jI_add _ _ | rfl) rfl ?_
            refine zr_goto (tgt := 11) dX7_saves_28 (by decide) ?_
            exact hk
        · intro _ _
          refine zr_iload_n dX7_saves_11 (rfl : 11 + 1 = 12) rfl ?_
          refine zr_bipush dX7_saves_12 (rfl : 12 + 2 = 14) (by decide) ?_
          refine zr_icmp_ge (tgt := 31) dX7_saves_14 (by decide) (rfl : 14 + 3 = 17) (jI_le (by first | omega | (simp only [bset, reduceIte, Nat.reduceEqDiff]; omega)) (by first | omega | (simp only [bset, reduceIte, Nat.reduceEqDiff]; omega)) (by first | omega | (simp only [bset, reduceIte, Nat.reduceEqDiff]; omega)) (by first | omega | (simp only [bset, reduceIte, Nat.reduceEqDiff]; omega))) (fun h14 => ?_) (fun h14 => ?_)
          · refine zr_aload_n dX7_saves_31 (rfl : 31 + 1 = 32) rfl ?_
            refine zr_dup dX7_saves_32 (rfl : 32 + 1 = 33) rfl ?_
            refine zr_getf dX7_saves_33 (rfl : 33 + 3 = 36) f_X7_25 (by first | assumption | exact mw_167 | exact mw_168 | exact mw_169 | exact mw_170 | exact bk_0 | exact bk_1 | exact bk_2 | exact bk_3 | exact bk_4 | exact bk_5 | exact bk_6 | exact bk_7 | exact bk_8 | exact bk_9 | exact bk_10 | exact bk_11 | exact bk_12 | exact bk_13 | exact bk_14 | exact bk_15 | exact bk_16 | exact zup_self | exact (zup_ne (by first | assumption | omega)).trans (by first | assumption | exact zup_self) | exact (zup_ne (by first | assumption | omega)).trans ((zup_ne (by first | assumption | omega)).trans (by first | assumption | exact zup_self)) | exact (bk_out (by first | omega | (simp only [bset, reduceIte, Nat.reduceEqDiff]; omega))).trans (by first | exact bk_0 | exact bk_1 | exact bk_2 | exact bk_3 | exact bk_4 | exact bk_5 | exact bk_6 | exact bk_7 | exact bk_8 | exact bk_9 | exact bk_10 | exact bk_11 | exact bk_12 | exact bk_13 | exact bk_14 | exact bk_15 | exact bk_16 | exact cr_5 | exact cr_23 | exact cr_24 | exact cr_25 | exact cr_26 | exact cr_27 | exact cr_28 | exact cr_29 | exact cr_30 | assumption)) rfl ?_
            refine zr_iconst dX7_saves_36 (rfl : 36 + 1 = 37) ?_
            refine zr_isub dX7_saves_37 (rfl : 37 + 1 = 38) (by first | exact jI_sub _ _ | rfl) ?_
            refine zr_putf (fs' := [_, _, _, _, _, _]) dX7_saves_38 (rfl : 38 + 3 = 41) f_X7_25 ft_7_1 (by first | assumption | exact mw_167 | exact mw_168 | exact mw_169 | exact mw_170 | exact bk_0 | exact bk_1 | exact bk_2 | exact bk_3 | exact bk_4 | exact bk_5 | exact bk_6 | exact bk_7 | exact bk_8 | exact bk_9 | exact bk_10 | exact bk_11 | exact bk_12 | exact bk_13 | exact bk_14 | exact bk_15 | exact bk_16 | exact zup_self | exact (zup_ne (by first | assumption | omega)).trans (by first | assumption | exact zup_self) | exact (zup_ne (by first | assumption | omega)).trans ((zup_ne (by first | assumption | omega)).trans (by first | assumption | exact zup_self)) | exact (bk_out (by first | omega | (simp only [bset, reduceIte, Nat.reduceEqDiff]; omega))).trans (by first | exact bk_0 | exact bk_1 | exact bk_2 | exact bk_3 | exact bk_4 | exact bk_5 | exact bk_6 | exact bk_7 | exact bk_8 | exact bk_9 | exact bk_10 | exact bk_11 | exact bk_12 | exact bk_13 | exact bk_14 | exact bk_15 | exact bk_16 | exact cr_5 | exact cr_23 | exact cr_24 | exact cr_25 | exact cr_26 | exact cr_27 | exact cr_28 | exact cr_29 | exact cr_30 | assumption)) (Nat.le_of_ble_eq_true rfl) rfl rfl rfl ?_
            rw [mwu_o]
            exact fin _ _ _ (by unfold jst2; rw [if_pos h6]; omega) (by rw [if_pos h6]; rfl)
          · exfalso; omega
      rw [show jsh1 S ((1 : Int) - 1).toNat = S from rfl] at key
      exact key
  · refine zr_aload_n dX7_saves_0 (rfl : 0 + 1 = 1) rfl ?_
    refine zr_getf dX7_saves_1 (rfl : 1 + 3 = 4) f_X7_25 (by first | assumption | exact mw_167 | exact mw_168 | exact mw_169 | exact mw_170 | exact bk_0 | exact bk_1 | exact bk_2 | exact bk_3 | exact bk_4 | exact bk_5 | exact bk_6 | exact bk_7 | exact bk_8 | exact bk_9 | exact bk_10 | exact bk_11 | exact bk_12 | exact bk_13 | exact bk_14 | exact bk_15 | exact bk_16 | exact zup_self | exact (zup_ne (by first | assumption | omega)).trans (by first | assumption | exact zup_self) | exact (zup_ne (by first | assumption | omega)).trans ((zup_ne (by first | assumption | omega)).trans (by first | assumption | exact zup_self)) | exact (bk_out (by first | omega | (simp only [bset, reduceIte, Nat.reduceEqDiff]; omega))).trans (by first | exact bk_0 | exact bk_1 | exact bk_2 | exact bk_3 | exact bk_4 | exact bk_5 | exact bk_6 | exact bk_7 | exact bk_8 | exact bk_9 | exact bk_10 | exact bk_11 | exact bk_12 | exact bk_13 | exact bk_14 | exact bk_15 | exact bk_16 | exact cr_5 | exact cr_23 | exact cr_24 | exact cr_25 | exact cr_26 | exact cr_27 | exact cr_28 | exact cr_29 | exact cr_30 | assumption)) rfl ?_
    refine zr_bipush dX7_saves_4 (rfl : 4 + 2 = 6) (by decide) ?_
    refine zr_icmp_ne (tgt := 41) dX7_saves_6 (by decide) (rfl : 6 + 3 = 9) (jI_eq (by first | omega | (simp only [bset, reduceIte, Nat.reduceEqDiff]; omega)) (by first | omega | (simp only [bset, reduceIte, Nat.reduceEqDiff]; omega)) (by first | omega | (simp only [bset, reduceIte, Nat.reduceEqDiff]; omega)) (by first | omega | (simp only [bset, reduceIte, Nat.reduceEqDiff]; omega))) (fun h => ?_) (fun h => ?_)
    · exact fin _ _ _ (by unfold jst2; rw [if_neg h6]) (by rw [if_neg h6])
    · exfalso; omega
theorem jsv2_q (hst : 0 ≤ st ∧ st ≤ 6) : jbq (jsv2 S st) 0 S 0 ∧ jbq (jsv2 S st) (jst2 st + 1) S 0 ∧ (∀ i, 1 ≤ i → i ≤ jst2 st → jbq (jsv2 S st) i S (if st = 6 then i + 1 else i)) ∧ ∀ i, 7 ≤ i → jbq (jsv2 S st) i S i := by
  have hr : 0 ≤ jst2 st ∧ jst2 st ≤ 5 := by
    unfold jst2
    split <;> omega
  have h5 := jsh1_q (S := S) 5 (by omega)
  have b0 : ∀ i : Int, i < 1 ∨ 6 < i → jbq (if st = 6 then jsh1 S 5 else S) i S i := by
    intro i hi
    split
    · exact h5.2 i (by omega)
    · exact fun _ _ _ => rfl
  unfold jsv2
  refine ⟨(jbq_cpyn (by omega)).trans (b0 0 (by omega)), jbq_cpy.trans (b0 0 (by omega)), fun i i0 i1 => (jbq_cpyn (by omega)).trans ?_, fun i hi => (jbq_cpyn (by omega)).trans (b0 i (by omega))⟩
  unfold jst2 at i1
  by_cases h6 : st = 6
  · rw [if_pos h6, if_pos h6]
    rw [if_pos h6] at i1
    exact h5.1 i i0 (by omega)
  · rw [if_neg h6, if_neg h6]
    exact fun _ _ _ => rfl
end M0

