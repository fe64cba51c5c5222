/-! the reference: the buffer, orders, a text that is done -/
theorem jch_c {x : Int} (h : 33 ≤ x ∧ x ≤ 126) : ((jI x).toUInt32 % 65536).toInt32 = jI x ∧ vp_nar .char (jI x) = jI x := by
  have key : ∀ y : Fin 127, ((jI ((y.val : Nat) : Int)).toUInt32 % 65536).toInt32 = jI ((y.val : Nat) : Int) ∧ vp_nar .char (jI ((y.val : Nat) : Int)) = jI ((y.val : Nat) : Int) := by decide +kernel
  obtain ⟨y, rfl⟩ := jfin (N := 127) (m := x) (by omega)
  exact key y
def jgre (l p b : Int) : Int := if l = 112 then (if p = 1 then 5 else if p = 2 then 2 else if p = 3 then 9 else if p = 4 then (if b = 9 then 0 else 9) else -1) else if l = 99 then (if p = 1 then 5 else if p = 2 then 3 else -1) else if 1 < p then -1 else if l = 98 then 5 else 9
def jlea (l p b : Int) : Int := if l = 100 ∨ (l = 112 ∧ p = 4 ∧ b = 0) then 1 else 0
theorem jgre_r (l p b : Int) : -1 ≤ jgre l p b ∧ jgre l p b ≤ 9 := by
  unfold jgre
  repeat' split
  all_goals omega
/-- the price is at least 1 -/
def jpk (B : zB) : Prop := 1 ≤ B 23 0
section RT
variable {Γ : zΓ} {d : Nat} {S : Int → Int} {st : Int} {ik : Int → Int} {th : Int} {tx : Int → Int} {ty : Int} {w : zW} {B : zB}
theorem m_greatest (l p b : Int) (hl : 0 ≤ l ∧ l ≤ 126) (hp : 0 ≤ p ∧ p ≤ 90) (hb : -99 ≤ b ∧ b ≤ 99) : zFn Γ md_X7_greatest d [.int (jI l), .int (jI p), .int (jI b)] w (some (.int (jI (jgre l p b)))) w := by
  refine zFn.of_run (lv := [some (.int (jI l)), some (.int (jI p)), some (.int (jI b))]) (by decide) rfl (Nat.le_of_ble_eq_true rfl) rfl (fun n9 g9 => ?_)
  refine zr_iload_n dX7_greatest_0 (rfl : 0 + 1 = 1) rfl ?_
  refine zr_bipush dX7_greatest_1 (rfl : 1 + 2 = 3) (by decide) ?_
  refine zr_icmp_ne (tgt := 56) dX7_greatest_3 (by decide) (rfl : 3 + 3 = 6) (jI_eq (by first | omega | (simp only [bset, reduceIte, Nat.reduceEqDiff]; omega)) (by first | omega | (simp only [bset, reduceIte, Nat.reduceEqDiff]; omega)) (by first | omega | (simp only [bset, reduceIte, Nat.reduceEqDiff]; omega)) (by first | omega | (simp only [bset, reduceIte, Nat.reduceEqDiff]; omega))) (fun h3 => ?_) (fun h3 => ?_)
  · first
    | (exfalso; omega)
    | (
      refine zr_iload_n dX7_greatest_56 (rfl : 56 + 1 = 57) rfl ?_
      refine zr_bipush dX7_greatest_57 (rfl : 57 + 2 = 59) (by decide) ?_
      refine zr_icmp_ne (tgt := 82) dX7_greatest_59 (by decide) (rfl : 59 + 3 = 62) (jI_eq (by first | omega | (simp only [bset, reduceIte, Nat.reduceEqDiff]; omega)) (by first | omega | (simp only [bset, reduceIte, Nat.reduceEqDiff]; omega)) (by first | omega | (simp only [bset, reduceIte, Nat.reduceEqDiff]; omega)) (by first | omega | (simp only [bset, reduceIte, Nat.reduceEqDiff]; omega))) (fun h59 => ?_) (fun h59 => ?_)
      · first
        | (exfalso; omega)
        | (
          refine zr_iload_n dX7_greatest_82 (rfl : 82 + 1 = 83) rfl ?_
          refine zr_iconst dX7_greatest_83 (rfl : 83 + 1 = 84) ?_
          refine zr_icmp_le (tgt := 91) dX7_greatest_84 (by decide) (rfl : 84 + 3 = 87) (jI_le (by first | omega | (simp only [bset, reduceIte, Nat.reduceEqDiff]; omega)) (by first | omega | (simp only [bset, reduceIte, Nat.reduceEqDiff]; omega)) (by first | omega | (simp only [bset, reduceIte, Nat.reduceEqDiff]; omega)) (by first | omega | (simp only [bset, reduceIte, Nat.reduceEqDiff]; omega))) (fun h84 => ?_) (fun h84 => ?_)
          · first
            | (exfalso; omega)
            | (
              refine zr_iload_n dX7_greatest_91 (rfl : 91 + 1 = 92) rfl ?_
              refine zr_bipush dX7_greatest_92 (rfl : 92 + 2 = 94) (by decide) ?_
              refine zr_icmp_ne (tgt := 101) dX7_greatest_94 (by decide) (rfl : 94 + 3 = 97) (jI_eq (by first | omega | (simp only [bset, reduceIte, Nat.reduceEqDiff]; omega)) (by first | omega | (simp only [bset, reduceIte, Nat.reduceEqDiff]; omega)) (by first | omega | (simp only [bset, reduceIte, Nat.reduceEqDiff]; omega)) (by first | omega | (simp only [bset, reduceIte, Nat.reduceEqDiff]; omega))) (fun h94 => ?_) (fun h94 => ?_)
              · first
                | (exfalso; omega)
                | (
                  refine zr_bipush dX7_greatest_101 (rfl : 101 + 2 = 103) (by decide) ?_
                  refine zr_iret dX7_greatest_103 rfl rfl ?_ rfl rfl rfl
                  (unfold jgre; repeat (first | rw [if_pos (by omega)] | rw [if_neg (by omega)])))
              · first
                | (exfalso; omega)
                | (
                  refine zr_iconst dX7_greatest_97 (rfl : 97 + 1 = 98) ?_
                  refine zr_goto (tgt := 103) dX7_greatest_98 (by decide) ?_
                  refine zr_iret dX7_greatest_103 rfl rfl ?_ rfl rfl rfl
                  (unfold jgre; repeat (first | rw [if_pos (by omega)] | rw [if_neg (by omega)]))))
          · first
            | (exfalso; omega)
            | (
              refine zr_iconst dX7_greatest_87 (rfl : 87 + 1 = 88) ?_
              refine zr_goto (tgt := 103) dX7_greatest_88 (by decide) ?_
              refine zr_iret dX7_greatest_103 rfl rfl ?_ rfl rfl rfl
              (unfold jgre; repeat (first | rw [if_pos (by omega)] | rw [if_neg (by omega)]))))
      · first
        | (exfalso; omega)
        | (
          refine zr_iload_n dX7_greatest_62 (rfl : 62 + 1 = 63) rfl ?_
          refine zr_iconst dX7_greatest_63 (rfl : 63 + 1 = 64) ?_
          refine zr_icmp_ne (tgt := 71) dX7_greatest_64 (by decide) (rfl : 64 + 3 = 67) (jI_eq (by first | omega | (simp only [bset, reduceIte, Nat.reduceEqDiff]; omega)) (by first | omega | (simp only [bset, reduceIte, Nat.reduceEqDiff]; omega)) (by first | omega | (simp only [bset, reduceIte, Nat.reduceEqDiff]; omega)) (by first | omega | (simp only [bset, reduceIte, Nat.reduceEqDiff]; omega))) (fun h64 => ?_) (fun h64 => ?_)
          · first
            | (exfalso; omega)
            | (
              refine zr_iload_n dX7_greatest_71 (rfl : 71 + 1 = 72) rfl ?_
              refine zr_iconst dX7_greatest_72 (rfl : 72 + 1 = 73) ?_
              refine zr_icmp_ne (tgt := 80) dX7_greatest_73 (by decide) (rfl : 73 + 3 = 76) (jI_eq (by first | omega | (simp only [bset, reduceIte, Nat.reduceEqDiff]; omega)) (by first | omega | (simp only [bset, reduceIte, Nat.reduceEqDiff]; omega)) (by first | omega | (simp only [bset, reduceIte, Nat.reduceEqDiff]; omega)) (by first | omega | (simp only [bset, reduceIte, Nat.reduceEqDiff]; omega))) (fun h73 => ?_) (fun h73 => ?_)
              · first
                | (exfalso; omega)
                | (
                  refine zr_iconst dX7_greatest_80 (rfl : 80 + 1 = 81) ?_
                  refine zr_iret dX7_greatest_81 rfl rfl ?_ rfl rfl rfl
                  (unfold jgre; repeat (first | rw [if_pos (by omega)] | rw [if_neg (by omega)])))
              · first
                | (exfalso; omega)
                | (
                  refine zr_iconst dX7_greatest_76 (rfl : 76 + 1 = 77) ?_
                  refine zr_goto (tgt := 81) dX7_greatest_77 (by decide) ?_
                  refine zr_iret dX7_greatest_81 rfl rfl ?_ rfl rfl rfl
                  (unfold jgre; repeat (first | rw [if_pos (by omega)] | rw [if_neg (by omega)]))))
          · first
            | (exfalso; omega)
            | (
              refine zr_iconst dX7_greatest_67 (rfl : 67 + 1 = 68) ?_
              refine zr_goto (tgt := 81) dX7_greatest_68 (by decide) ?_
              refine zr_iret dX7_greatest_81 rfl rfl ?_ rfl rfl rfl
              (unfold jgre; repeat (first | rw [if_pos (by omega)] | rw [if_neg (by omega)])))))
  · first
    | (exfalso; omega)
    | (
      refine zr_iload_n dX7_greatest_6 (rfl : 6 + 1 = 7) rfl ?_
      refine zr_iconst dX7_greatest_7 (rfl : 7 + 1 = 8) ?_
      refine zr_icmp_ne (tgt := 15) dX7_greatest_8 (by decide) (rfl : 8 + 3 = 11) (jI_eq (by first | omega | (simp only [bset, reduceIte, Nat.reduceEqDiff]; omega)) (by first | omega | (simp only [bset, reduceIte, Nat.reduceEqDiff]; omega)) (by first | omega | (simp only [bset, reduceIte, Nat.reduceEqDiff]; omega)) (by first | omega | (simp only [bset, reduceIte, Nat.reduceEqDiff]; omega))) (fun h8 => ?_) (fun h8 => ?_)
      · first
        | (exfalso; omega)
        | (
          refine zr_iload_n dX7_greatest_15 (rfl : 15 + 1 = 16) rfl ?_
          refine zr_iconst dX7_greatest_16 (rfl : 16 + 1 = 17) ?_
          refine zr_icmp_ne (tgt := 24) dX7_greatest_17 (by decide) (rfl : 17 + 3 = 20) (jI_eq (by first | omega | (simp only [bset, reduceIte, Nat.reduceEqDiff]; omega)) (by first | omega | (simp only [bset, reduceIte, Nat.reduceEqDiff]; omega)) (by first | omega | (simp only [bset, reduceIte, Nat.reduceEqDiff]; omega)) (by first | omega | (simp only [bset, reduceIte, Nat.reduceEqDiff]; omega))) (fun h17 => ?_) (fun h17 => ?_)
          · first
            | (exfalso; omega)
            | (
              refine zr_iload_n dX7_greatest_24 (rfl : 24 + 1 = 25) rfl ?_
              refine zr_iconst dX7_greatest_25 (rfl : 25 + 1 = 26) ?_
              refine zr_icmp_ne (tgt := 34) dX7_greatest_26 (by decide) (rfl : 26 + 3 = 29) (jI_eq (by first | omega | (simp only [bset, reduceIte, Nat.reduceEqDiff]; omega)) (by first | omega | (simp only [bset, reduceIte, Nat.reduceEqDiff]; omega)) (by first | omega | (simp only [bset, reduceIte, Nat.reduceEqDiff]; omega)) (by first | omega | (simp only [bset, reduceIte, Nat.reduceEqDiff]; omega))) (fun h26 => ?_) (fun h26 => ?_)
              · first
                | (exfalso; omega)
                | (
                  refine zr_iload_n dX7_greatest_34 (rfl : 34 + 1 = 35) rfl ?_
                  refine zr_iconst dX7_greatest_35 (rfl : 35 + 1 = 36) ?_
                  refine zr_icmp_ne (tgt := 54) dX7_greatest_36 (by decide) (rfl : 36 + 3 = 39) (jI_eq (by first | omega | (simp only [bset, reduceIte, Nat.reduceEqDiff]; omega)) (by first | omega | (simp only [bset, reduceIte, Nat.reduceEqDiff]; omega)) (by first | omega | (simp only [bset, reduceIte, Nat.reduceEqDiff]; omega)) (by first | omega | (simp only [bset, reduceIte, Nat.reduceEqDiff]; omega))) (fun h36 => ?_) (fun h36 => ?_)
                  · first
                    | (exfalso; omega)
                    | (
                      refine zr_iconst dX7_greatest_54 (rfl : 54 + 1 = 55) ?_
                      refine zr_iret dX7_greatest_55 rfl rfl ?_ rfl rfl rfl
                      (unfold jgre; repeat (first | rw [if_pos (by omega)] | rw [if_neg (by omega)])))
                  · first
                    | (exfalso; omega)
                    | (
                      refine zr_iload_n dX7_greatest_39 (rfl : 39 + 1 = 40) rfl ?_
                      refine zr_bipush dX7_greatest_40 (rfl : 40 + 2 = 42) (by decide) ?_
                      refine zr_icmp_ne (tgt := 49) dX7_greatest_42 (by decide) (rfl : 42 + 3 = 45) (jI_eq (by first | omega | (simp only [bset, reduceIte, Nat.reduceEqDiff]; omega)) (by first | omega | (simp only [bset, reduceIte, Nat.reduceEqDiff]; omega)) (by first | omega | (simp only [bset, reduceIte, Nat.reduceEqDiff]; omega)) (by first | omega | (simp only [bset, reduceIte, Nat.reduceEqDiff]; omega))) (fun h42 => ?_) (fun h42 => ?_)
                      · first
                        | (exfalso; omega)
                        | (
                          refine zr_bipush dX7_greatest_49 (rfl : 49 + 2 = 51) (by decide) ?_
                          refine zr_goto (tgt := 55) dX7_greatest_51 (by decide) ?_
                          refine zr_iret dX7_greatest_55 rfl rfl ?_ rfl rfl rfl
                          (unfold jgre; repeat (first | rw [if_pos (by omega)] | rw [if_neg (by omega)])))
                      · first
                        | (exfalso; omega)
                        | (
                          refine zr_iconst dX7_greatest_45 (rfl : 45 + 1 = 46) ?_
                          refine zr_goto (tgt := 55) dX7_greatest_46 (by decide) ?_
                          refine zr_iret dX7_greatest_55 rfl rfl ?_ rfl rfl rfl
                          (unfold jgre; repeat (first | rw [if_pos (by omega)] | rw [if_neg (by omega)])))))
              · first
                | (exfalso; omega)
                | (
                  refine zr_bipush dX7_greatest_29 (rfl : 29 + 2 = 31) (by decide) ?_
                  refine zr_goto (tgt := 55) dX7_greatest_31 (by decide) ?_
                  refine zr_iret dX7_greatest_55 rfl rfl ?_ rfl rfl rfl
                  (unfold jgre; repeat (first | rw [if_pos (by omega)] | rw [if_neg (by omega)]))))
          · first
            | (exfalso; omega)
            | (
              refine zr_iconst dX7_greatest_20 (rfl : 20 + 1 = 21) ?_
              refine zr_goto (tgt := 55) dX7_greatest_21 (by decide) ?_
              refine zr_iret dX7_greatest_55 rfl rfl ?_ rfl rfl rfl
              (unfold jgre; repeat (first | rw [if_pos (by omega)] | rw [if_neg (by omega)]))))
      · first
        | (exfalso; omega)
        | (
          refine zr_iconst dX7_greatest_11 (rfl : 11 + 1 = 12) ?_
          refine zr_goto (tgt := 55) dX7_greatest_12 (by decide) ?_
          refine zr_iret dX7_greatest_55 rfl rfl ?_ rfl rfl rfl
          (unfold jgre; repeat (first | rw [if_pos (by omega)] | rw [if_neg (by omega)]))))
theorem m_leastFigure (l p b : Int) (hl : 0 ≤ l ∧ l ≤ 126) (hp : 0 ≤ p ∧ p ≤ 90) (hb : -99 ≤ b ∧ b ≤ 99) : zFn Γ md_X7_leastFigure d [.int (jI l), .int (jI p), .int (jI b)] w (some (.int (jI (jlea l p b)))) w := by
  refine zFn.of_run (lv := [some (.int (jI l)), some (.int (jI p)), some (.int (jI b))]) (by decide) rfl (Nat.le_of_ble_eq_true rfl) rfl (fun n9 g9 => ?_)
  refine zr_iload_n dX7_leastFigure_0 (rfl : 0 + 1 = 1) rfl ?_
  refine zr_bipush dX7_leastFigure_1 (rfl : 1 + 2 = 3) (by decide) ?_
  refine zr_icmp_eq (tgt := 21) dX7_leastFigure_3 (by decide) (rfl : 3 + 3 = 6) (jI_eq (by first | omega | (simp only [bset, reduceIte, Nat.reduceEqDiff]; omega)) (by first | omega | (simp only [bset, reduceIte, Nat.reduceEqDiff]; omega)) (by first | omega | (simp only [bset, reduceIte, Nat.reduceEqDiff]; omega)) (by first | omega | (simp only [bset, reduceIte, Nat.reduceEqDiff]; omega))) (fun h3 => ?_) (fun h3 => ?_)
  · first
    | (exfalso; omega)
    | (
      refine zr_iconst dX7_leastFigure_21 (rfl : 21 + 1 = 22) ?_
      refine zr_goto (tgt := 26) dX7_leastFigure_22 (by decide) ?_
      refine zr_iret dX7_leastFigure_26 rfl rfl ?_ rfl rfl rfl
      (unfold jlea; first | rw [if_pos (by omega)] | rw [if_neg (by omega)]))
  · first
    | (exfalso; omega)
    | (
      refine zr_iload_n dX7_leastFigure_6 (rfl : 6 + 1 = 7) rfl ?_
      refine zr_bipush dX7_leastFigure_7 (rfl : 7 + 2 = 9) (by decide) ?_
      refine zr_icmp_ne (tgt := 25) dX7_leastFigure_9 (by decide) (rfl : 9 + 3 = 12) (jI_eq (by first | omega | (simp only [bset, reduceIte, Nat.reduceEqDiff]; omega)) (by first | omega | (simp only [bset, reduceIte, Nat.reduceEqDiff]; omega)) (by first | omega | (simp only [bset, reduceIte, Nat.reduceEqDiff]; omega)) (by first | omega | (simp only [bset, reduceIte, Nat.reduceEqDiff]; omega))) (fun h9 => ?_) (fun h9 => ?_)
      · first
        | (exfalso; omega)
        | (
          refine zr_iconst dX7_leastFigure_25 (rfl : 25 + 1 = 26) ?_
          refine zr_iret dX7_leastFigure_26 rfl rfl ?_ rfl rfl rfl
          (unfold jlea; first | rw [if_pos (by omega)] | rw [if_neg (by omega)]))
      · first
        | (exfalso; omega)
        | (
          refine zr_iload_n dX7_leastFigure_12 (rfl : 12 + 1 = 13) rfl ?_
          refine zr_iconst dX7_leastFigure_13 (rfl : 13 + 1 = 14) ?_
          refine zr_icmp_ne (tgt := 25) dX7_leastFigure_14 (by decide) (rfl : 14 + 3 = 17) (jI_eq (by first | omega | (simp only [bset, reduceIte, Nat.reduceEqDiff]; omega)) (by first | omega | (simp only [bset, reduceIte, Nat.reduceEqDiff]; omega)) (by first | omega | (simp only [bset, reduceIte, Nat.reduceEqDiff]; omega)) (by first | omega | (simp only [bset, reduceIte, Nat.reduceEqDiff]; omega))) (fun h14 => ?_) (fun h14 => ?_)
          · first
            | (exfalso; omega)
            | (
              refine zr_iconst dX7_leastFigure_25 (rfl : 25 + 1 = 26) ?_
              refine zr_iret dX7_leastFigure_26 rfl rfl ?_ rfl rfl rfl
              (unfold jlea; first | rw [if_pos (by omega)] | rw [if_neg (by omega)]))
          · first
            | (exfalso; omega)
            | (
              refine zr_iload_n dX7_leastFigure_17 (rfl : 17 + 1 = 18) rfl ?_
              refine zr_if_ne (tgt := 25) dX7_leastFigure_18 (by decide) (rfl : 18 + 3 = 21) (by first | exact jb_iff | exact jI_z (by first | omega | (simp only [bset, reduceIte, Nat.reduceEqDiff]; omega)) (by first | omega | (simp only [bset, reduceIte, Nat.reduceEqDiff]; omega))) (fun h18 => ?_) (fun h18 => ?_)
              · first
                | (exfalso; omega)
                | (
                  refine zr_iconst dX7_leastFigure_25 (rfl : 25 + 1 = 26) ?_
                  refine zr_iret dX7_leastFigure_26 rfl rfl ?_ rfl rfl rfl
                  (unfold jlea; first | rw [if_pos (by omega)] | rw [if_neg (by omega)]))
              · first
                | (exfalso; omega)
                | (
                  refine zr_iconst dX7_leastFigure_21 (rfl : 21 + 1 = 22) ?_
                  refine zr_goto (tgt := 26) dX7_leastFigure_22 (by decide) ?_
                  refine zr_iret dX7_leastFigure_26 rfl rfl ?_ rfl rfl rfl
                  (unfold jlea; first | rw [if_pos (by omega)] | rw [if_neg (by omega)])))))
theorem m_figure (i : Int) (hi : 0 ≤ i ∧ i < ty) (hy : 0 ≤ ty ∧ ty ≤ 60) : zFn Γ md_X7_figure d [.ref 167, .int (jI i)] (mw S st ik th tx ty w) (some (.int (jI (jca tx ty i - 48)))) (mw S st ik th tx ty w) := by
  have e : jca tx ty i = tx i := if_pos hi
  rw [e]
  refine zFn.of_run (lv := [some (.ref 167), some (.int (jI i))]) (by decide) rfl (Nat.le_of_ble_eq_true rfl) rfl (fun n9 g9 => ?_)
  refine zr_aload_n dX7_figure_0 (rfl : 0 + 1 = 1) rfl ?_
  refine zr_getf dX7_figure_1 (rfl : 1 + 3 = 4) f_X7_17 (by first | assumption | exact mw_167 | exact mw_168 | exact mw_169 | exact mw_170 | exact bk_0 | exact bk_1 | exact bk_2 | exact bk_3 | exact bk_4 | exact bk_5 | exact bk_6 | exact bk_7 | exact bk_8 | exact bk_9 | exact bk_10 | exact bk_11 | exact bk_12 | exact bk_13 | exact bk_14 | exact bk_15 | exact bk_16 | exact zup_self | exact (zup_ne (by first | assumption | omega)).trans (by first | assumption | exact zup_self) | exact (zup_ne (by first | assumption | omega)).trans ((zup_ne (by first | assumption | omega)).trans (by first | assumption | exact zup_self)) | exact (bk_out (by first | omega | (simp only [bset, reduceIte, Nat.reduceEqDiff]; omega))).trans (by first | exact bk_0 | exact bk_1 | exact bk_2 | exact bk_3 | exact bk_4 | exact bk_5 | exact bk_6 | exact bk_7 | exact bk_8 | exact bk_9 | exact bk_10 | exact bk_11 | exact bk_12 | exact bk_13 | exact bk_14 | exact bk_15 | exact bk_16 | exact cr_5 | exact cr_23 | exact cr_24 | exact cr_25 | exact cr_26 | exact cr_27 | exact cr_28 | exact cr_29 | exact cr_30 | assumption)) rfl ?_
  refine zr_iload_n dX7_figure_4 (rfl : 4 + 1 = 5) rfl ?_
  refine zr_cald dX7_figure_5 (rfl : 5 + 1 = 6) (by first | assumption | exact mw_167 | exact mw_168 | exact mw_169 | exact mw_170 | exact bk_0 | exact bk_1 | exact bk_2 | exact bk_3 | exact bk_4 | exact bk_5 | exact bk_6 | exact bk_7 | exact bk_8 | exact bk_9 | exact bk_10 | exact bk_11 | exact bk_12 | exact bk_13 | exact bk_14 | exact bk_15 | exact bk_16 | exact zup_self | exact (zup_ne (by first | assumption | omega)).trans (by first | assumption | exact zup_self) | exact (zup_ne (by first | assumption | omega)).trans ((zup_ne (by first | assumption | omega)).trans (by first | assumption | exact zup_self)) | exact (bk_out (by first | omega | (simp only [bset, reduceIte, Nat.reduceEqDiff]; omega))).trans (by first | exact bk_0 | exact bk_1 | exact bk_2 | exact bk_3 | exact bk_4 | exact bk_5 | exact bk_6 | exact bk_7 | exact bk_8 | exact bk_9 | exact bk_10 | exact bk_11 | exact bk_12 | exact bk_13 | exact bk_14 | exact bk_15 | exact bk_16 | exact cr_5 | exact cr_23 | exact cr_24 | exact cr_25 | exact cr_26 | exact cr_27 | exact cr_28 | exact cr_29 | exact cr_30 | assumption)) (by decide) (by first | omega | (simp only [bset, reduceIte, Nat.reduceEqDiff]; omega)) (by first | omega | (simp only [bset, reduceIte, Nat.reduceEqDiff]; omega)) ?_
  refine zr_bipush dX7_figure_6 (rfl : 6 + 2 = 8) (by decide) ?_
  refine zr_isub dX7_figure_8 (rfl : 8 + 1 = 9) (by first | exact jI_sub _ _ | rfl) ?_
  refine zr_iret dX7_figure_9 rfl rfl ?_ rfl rfl rfl
  first | rfl | rw [jb_pos (by first | assumption | omega)] | rw [jb_neg (by first | assumption | omega)] | rw [if_pos (by first | assumption | omega)] | rw [if_neg (by first | assumption | omega)]
/-- one figure of an order -/
theorem jfit_fig {T : Int → Int} {L s i b : Int} (hs : s < i) (hL : 0 < jol (jca T L s)) (hi : i - s < jol (jca T L s)) (hb : b = if i = s + 1 then 0 else jca T L (i - 1) - 48) (hb2 : 0 ≤ b ∧ b ≤ 9) : (jfit T L s i = 1) ↔ (jlea (jca T L s) (i - s) b ≤ jca T L i - 48 ∧ jca T L i - 48 ≤ jgre (jca T L s) (i - s) b) := by
  have hlet : jca T L s = 98 ∨ jca T L s = 99 ∨ jca T L s = 100 ∨ jca T L s = 112 := by
    unfold jol at hL
    by_cases a1 : jca T L s = 98
    · exact Or.inl a1
    · rw [if_neg a1] at hL
      by_cases a2 : jca T L s = 99
      · exact Or.inr (Or.inl a2)
      · rw [if_neg a2] at hL
        by_cases a3 : jca T L s = 100
        · exact Or.inr (Or.inr (Or.inl a3))
        · rw [if_neg a3] at hL
          by_cases a4 : jca T L s = 112
          · exact Or.inr (Or.inr (Or.inr a4))
          · rw [if_neg a4] at hL
            omega
  unfold jfit
  rw [if_neg (by omega)]
  generalize hc : jca T L i - 48 = C
  have hj01 : ∀ P : Prop, [Decidable P] → ((jb P = 1) ↔ P) := fun P _ => ⟨jb_1, jb_pos⟩
  rcases hlet with e | e | e | e
  · rw [e] at hi ⊢
    have hi1 : i - s = 1 := by have : jol 98 = 2 := rfl; omega
    rw [hi1]
    have g1 : jgre 98 1 b = 5 := rfl
    have l1 : jlea 98 1 b = 0 := if_neg (by omega)
    rw [g1, l1]
    by_cases hd : C < 0 ∨ 9 < C
    · rw [if_pos hd]
      omega
    · rw [if_neg hd, if_neg (by decide), if_pos rfl, hj01]
      omega
  · rw [e] at hi ⊢
    have h3 : jol 99 = 3 := rfl
    rcases (by omega : i - s = 1 ∨ i - s = 2) with hi1 | hi1
    · rw [hi1]
      have g1 : jgre 99 1 b = 5 := rfl
      have l1 : jlea 99 1 b = 0 := if_neg (by omega)
      rw [g1, l1]
      by_cases hd : C < 0 ∨ 9 < C
      · rw [if_pos hd]
        omega
      · rw [if_neg hd, if_neg (by decide), if_pos rfl, hj01]
        omega
    · rw [hi1]
      have g1 : jgre 99 2 b = 3 := rfl
      have l1 : jlea 99 2 b = 0 := if_neg (by omega)
      rw [g1, l1]
      by_cases hd : C < 0 ∨ 9 < C
      · rw [if_pos hd]
        omega
      · rw [if_neg hd, if_neg (by decide), if_neg (by decide), if_pos rfl, if_pos rfl, hj01]
        omega
  · rw [e] at hi ⊢
    have hi1 : i - s = 1 := by have : jol 100 = 2 := rfl; omega
    rw [hi1]
    have g1 : jgre 100 1 b = 9 := rfl
    have l1 : jlea 100 1 b = 1 := if_pos (Or.inl rfl)
    rw [g1, l1]
    by_cases hd : C < 0 ∨ 9 < C
    · rw [if_pos hd]
      omega
    · rw [if_neg hd, if_pos rfl, hj01]
      omega
  · rw [e] at hi ⊢
    have h5 : jol 112 = 5 := rfl
    rcases (by omega : i - s = 1 ∨ i - s = 2 ∨ i - s = 3 ∨ i - s = 4) with hi1 | hi1 | hi1 | hi1
    · rw [hi1]
      have g1 : jgre 112 1 b = 5 := rfl
      have l1 : jlea 112 1 b = 0 := if_neg (by omega)
      rw [g1, l1]
      by_cases hd : C < 0 ∨ 9 < C
      · rw [if_pos hd]
        omega
      · rw [if_neg hd, if_neg (by decide), if_pos rfl, hj01]
        omega
    · rw [hi1]
      have g1 : jgre 112 2 b = 2 := rfl
      have l1 : jlea 112 2 b = 0 := if_neg (by omega)
      rw [g1, l1]
      by_cases hd : C < 0 ∨ 9 < C
      · rw [if_pos hd]
        omega
      · rw [if_neg hd, if_neg (by decide), if_neg (by decide), if_pos rfl, if_neg (by decide), hj01]
        omega
    · rw [hi1]
      have g1 : jgre 112 3 b = 9 := rfl
      have l1 : jlea 112 3 b = 0 := if_neg (by omega)
      rw [g1, l1]
      by_cases hd : C < 0 ∨ 9 < C
      · rw [if_pos hd]
        omega
      · rw [if_neg hd, if_neg (by decide), if_neg (by decide), if_neg (by decide), if_pos rfl]
        omega
    · rw [hi1]
      have g1 : jgre 112 4 b = if b = 9 then 0 else 9 := rfl
      have l1 : jlea 112 4 b = if b = 0 then 1 else 0 := by
        unfold jlea
        by_cases hb0 : b = 0
        · rw [if_pos (by omega), if_pos hb0]
        · rw [if_neg (by omega), if_neg hb0]
      rw [if_neg (by omega)] at hb
      rw [g1, l1, ← hb]
      by_cases hd : C < 0 ∨ 9 < C
      · rw [if_pos hd]
        split <;> split <;> omega
      · rw [if_neg hd, if_neg (by decide), if_neg (by decide), if_neg (by decide), if_neg (by decide), hj01]
        split <;> split <;> omega
theorem jgre_end {l p b : Int} (hl : 0 < jol l) (hp : 1 ≤ p) : (0 ≤ jgre l p b) ↔ p < jol l := by
  unfold jol at hl ⊢
  unfold jgre
  by_cases a1 : l = 98
  · rw [if_pos a1, if_neg (by omega), if_neg (by omega)]
    split
    · omega
    · omega
  · rw [if_neg a1] at hl ⊢
    by_cases a2 : l = 99
    · rw [if_pos a2, if_neg (by omega), if_pos a2]
      split
      · omega
      · split <;> omega
    · rw [if_neg a2] at hl ⊢
      by_cases a3 : l = 100
      · rw [if_pos a3, if_neg (by omega), if_neg a2]
        split
        · omega
        · omega
      · rw [if_neg a3] at hl ⊢
        by_cases a4 : l = 112
        · rw [if_pos a4, if_pos a4]
          split
          · omega
          · split
            · omega
            · split
              · omega
              · split
                · split <;> omega
                · omega
        · rw [if_neg a4] at hl
          omega
theorem jbp_lt (T : Int → Int) (L s : Int) (n : Nat) (i : Int) : jbp T L s (n + 1) i = if i < L ∧ jfit T L s i = 1 then jbp T L s n (i + 1) else -1 - i := rfl
theorem m_orderEnd (s : Int) (hs : 0 ≤ s ∧ s ≤ ty) (hy : 0 ≤ ty ∧ ty ≤ 60) (hT : ∀ z, 0 ≤ tx z ∧ tx z ≤ 126) : zFn Γ md_X7_orderEnd (d + 1) [.ref 167, .int (jI s)] (mw S st ik th tx ty w) (some (.int (jI (joe tx ty s)))) (mw S st ik th tx ty w) := by
  refine zFn.of_run (lv := [some (.ref 167), some (.int (jI s)), none, none, none]) (by decide) rfl (Nat.le_of_ble_eq_true rfl) rfl (fun n9 g9 => ?_)
  unfold joe
  have hTs := hT s
  by_cases hJ : 0 < jol (jca tx ty s)
  · rw [if_pos hJ]
    obtain ⟨hlt, -⟩ := jca_lt hJ
    have e : jca tx ty s = tx s := if_pos ⟨hs.1, hlt⟩
    have hJr := jol_r (jca tx ty s)
    have hlet : tx s = 98 ∨ tx s = 99 ∨ tx s = 100 ∨ tx s = 112 := by
      rw [e] at hJ
      unfold jol at hJ
      by_cases a1 : tx s = 98
      · exact Or.inl a1
      · rw [if_neg a1] at hJ
        by_cases a2 : tx s = 99
        · exact Or.inr (Or.inl a2)
        · rw [if_neg a2] at hJ
          by_cases a3 : tx s = 100
          · exact Or.inr (Or.inr (Or.inl a3))
          · rw [if_neg a3] at hJ
            by_cases a4 : tx s = 112
            · exact Or.inr (Or.inr (Or.inr a4))
            · rw [if_neg a4] at hJ
              omega
    generalize hR : jbp tx ty s (jol (jca tx ty s) - 1).toNat (s + 1) = R
    have key : zRun Γ md_X7_orderEnd (d + 1) none 62 [some (.ref 167), some (.int (jI s)), some (.int (jI (s + 1 + 0))), some (.int (jI 0)), none] [] (n9, g9, 0, 0) (mw S st ik th tx ty w) (zDone md_X7_orderEnd (some (.int (jI R))) (mw S st ik th tx ty w) n9 g9) := by
      refine zfor2 0 (jol (jca tx ty s) - 1).toNat (fun i b _ => jbp tx ty s (jol (jca tx ty s) - 1 - i).toNat (s + 1 + i) = R ∧ s + 1 + i ≤ ty ∧ 0 ≤ b ∧ b ≤ 9 ∧ b = (if s + 1 + i = s + 1 then 0 else jca tx ty (s + 1 + i - 1) - 48)) (fun i b o4 => [some (.ref 167), some (.int (jI s)), some (.int (jI (s + 1 + i))), some (.int (jI b)), o4]) (fun _ _ _ => (mw S st ik th tx ty w)) 0 none ⟨by rw [← hR, Int.sub_zero, Int.add_zero], by omega, by decide, by decide, by rw [if_pos (by omega)]⟩ ?_ ?_
      · intro i b o4 i0 i1 hI hk
        obtain ⟨hj, hat, b0, b9, hb⟩ := hI
        have hge := jgre_end (l := jca tx ty s) (p := s + 1 + i - s) (b := b) hJ (by omega)
        have hgr := jgre_r (jca tx ty s) (s + 1 + i - s) b
        have hfi := jfit_fig (T := tx) (L := ty) (s := s) (i := s + 1 + i) (b := b) (by omega) hJ (by omega) hb ⟨b0, b9⟩
        have hle : 0 ≤ jlea (jca tx ty s) (s + 1 + i - s) b ∧ jlea (jca tx ty s) (s + 1 + i - s) b ≤ 1 := by
          unfold jlea
          split <;> omega
        have sg := m_greatest (Γ := Γ) (d := d) (w := (mw S st ik th tx ty w)) (jca tx ty s) (s + 1 + i - s) b (by omega) (by omega) (by omega)
        have sl := m_leastFigure (Γ := Γ) (d := d) (w := (mw S st ik th tx ty w)) (jca tx ty s) (s + 1 + i - s) b (by omega) (by omega) (by omega)
        rw [e] at hge hgr hfi hle sg sl
        rw [show (jol (jca tx ty s) - 1 - i).toNat = (jol (jca tx ty s) - 1 - (i + 1)).toNat + 1 by omega, jbp_lt] at hj
        have hTi := hT (s + 1 + i)
        have hpl : s + 1 + i - s < jol (tx s) := by rw [← e]; omega
        refine zr_aload_n dX7_orderEnd_62 (rfl : 62 + 1 = 63) rfl ?_
        refine zr_getf dX7_orderEnd_63 (rfl : 63 + 3 = 66) f_X7_17 (by first | assumption | exact mw_167 | exact mw_168 | exact mw_169 | exact mw_170 | exact bk_0 | exact bk_1 | exact bk_2 | exact bk_3 | exact bk_4 | exact bk_5 | exact bk_6 | exact bk_7 | exact bk_8 | exact bk_9 | exact bk_10 | exact bk_11 | exact bk_12 | exact bk_13 | exact bk_14 | exact bk_15 | exact bk_16 | exact zup_self | exact (zup_ne (by first | assumption | omega)).trans (by first | assumption | exact zup_self) | exact (zup_ne (by first | assumption | omega)).trans ((zup_ne (by first | assumption | omega)).trans (by first | assumption | exact zup_self)) | exact (bk_out (by first | omega | (simp only [bset, reduceIte, Nat.reduceEqDiff]; omega))).trans (by first | exact bk_0 | exact bk_1 | exact bk_2 | exact bk_3 | exact bk_4 | exact bk_5 | exact bk_6 | exact bk_7 | exact bk_8 | exact bk_9 | exact bk_10 | exact bk_11 | exact bk_12 | exact bk_13 | exact bk_14 | exact bk_15 | exact bk_16 | exact cr_5 | exact cr_23 | exact cr_24 | exact cr_25 | exact cr_26 | exact cr_27 | exact cr_28 | exact cr_29 | exact cr_30 | assumption)) rfl ?_
        refine zr_iload_n dX7_orderEnd_66 (rfl : 66 + 1 = 67) rfl ?_
        refine zr_cald dX7_orderEnd_67 (rfl : 67 + 1 = 68) (by first | assumption | exact mw_167 | exact mw_168 | exact mw_169 | exact mw_170 | exact bk_0 | exact bk_1 | exact bk_2 | exact bk_3 | exact bk_4 | exact bk_5 | exact bk_6 | exact bk_7 | exact bk_8 | exact bk_9 | exact bk_10 | exact bk_11 | exact bk_12 | exact bk_13 | exact bk_14 | exact bk_15 | exact bk_16 | exact zup_self | exact (zup_ne (by first | assumption | omega)).trans (by first | assumption | exact zup_self) | exact (zup_ne (by first | assumption | omega)).trans ((zup_ne (by first | assumption | omega)).trans (by first | assumption | exact zup_self)) | exact (bk_out (by first | omega | (simp only [bset, reduceIte, Nat.reduceEqDiff]; omega))).trans (by first | exact bk_0 | exact bk_1 | exact bk_2 | exact bk_3 | exact bk_4 | exact bk_5 | exact bk_6 | exact bk_7 | exact bk_8 | exact bk_9 | exact bk_10 | exact bk_11 | exact bk_12 | exact bk_13 | exact bk_14 | exact bk_15 | exact bk_16 | exact cr_5 | exact cr_23 | exact cr_24 | exact cr_25 | exact cr_26 | exact cr_27 | exact cr_28 | exact cr_29 | exact cr_30 | assumption)) (by decide) (by first | omega | (simp only [bset, reduceIte, Nat.reduceEqDiff]; omega)) (by first | omega | (simp only [bset, reduceIte, Nat.reduceEqDiff]; omega)) ?_
        refine zr_iload_n dX7_orderEnd_68 (rfl : 68 + 1 = 69) rfl ?_
        refine zr_iload_n dX7_orderEnd_69 (rfl : 69 + 1 = 70) rfl ?_
        refine zr_isub dX7_orderEnd_70 (rfl : 70 + 1 = 71) (by first | exact jI_sub _ _ | rfl) ?_
        refine zr_iload_n dX7_orderEnd_71 (rfl : 71 + 1 = 72) rfl ?_
        refine zr_fnS dX7_orderEnd_72 (rfl : 72 + 3 = 75) l_X7_124 (sg) rfl rfl (Nat.le_of_ble_eq_true rfl) ?_
        refine zr_if_lt (tgt := 151) dX7_orderEnd_75 (by decide) (rfl : 75 + 3 = 78) (jI_ltz (by first | omega | (simp only [bset, reduceIte, Nat.reduceEqDiff]; omega)) (by first | omega | (simp only [bset, reduceIte, Nat.reduceEqDiff]; omega))) (fun h75 => ?_) (fun h75 => ?_)
        · exfalso; omega
        · refine zr_aload_n dX7_orderEnd_78 (rfl : 78 + 1 = 79) rfl ?_
          refine zr_getf dX7_orderEnd_79 (rfl : 79 + 3 = 82) f_X7_17 (by first | assumption | exact mw_167 | exact mw_168 | exact mw_169 | exact mw_170 | exact bk_0 | exact bk_1 | exact bk_2 | exact bk_3 | exact bk_4 | exact bk_5 | exact bk_6 | exact bk_7 | exact bk_8 | exact bk_9 | exact bk_10 | exact bk_11 | exact bk_12 | exact bk_13 | exact bk_14 | exact bk_15 | exact bk_16 | exact zup_self | exact (zup_ne (by first | assumption | omega)).trans (by first | assumption | exact zup_self) | exact (zup_ne (by first | assumption | omega)).trans ((zup_ne (by first | assumption | omega)).trans (by first | assumption | exact zup_self)) | exact (bk_out (by first | omega | (simp only [bset, reduceIte, Nat.reduceEqDiff]; omega))).trans (by first | exact bk_0 | exact bk_1 | exact bk_2 | exact bk_3 | exact bk_4 | exact bk_5 | exact bk_6 | exact bk_7 | exact bk_8 | exact bk_9 | exact bk_10 | exact bk_11 | exact bk_12 | exact bk_13 | exact bk_14 | exact bk_15 | exact bk_16 | exact cr_5 | exact cr_23 | exact cr_24 | exact cr_25 | exact cr_26 | exact cr_27 | exact cr_28 | exact cr_29 | exact cr_30 | assumption)) rfl ?_
          refine zr_iload_n dX7_orderEnd_82 (rfl : 82 + 1 = 83) rfl ?_
          refine zr_cald dX7_orderEnd_83 (rfl : 83 + 1 = 84) (by first | assumption | exact mw_167 | exact mw_168 | exact mw_169 | exact mw_170 | exact bk_0 | exact bk_1 | exact bk_2 | exact bk_3 | exact bk_4 | exact bk_5 | exact bk_6 | exact bk_7 | exact bk_8 | exact bk_9 | exact bk_10 | exact bk_11 | exact bk_12 | exact bk_13 | exact bk_14 | exact bk_15 | exact bk_16 | exact zup_self | exact (zup_ne (by first | assumption | omega)).trans (by first | assumption | exact zup_self) | exact (zup_ne (by first | assumption | omega)).trans ((zup_ne (by first | assumption | omega)).trans (by first | assumption | exact zup_self)) | exact (bk_out (by first | omega | (simp only [bset, reduceIte, Nat.reduceEqDiff]; omega))).trans (by first | exact bk_0 | exact bk_1 | exact bk_2 | exact bk_3 | exact bk_4 | exact bk_5 | exact bk_6 | exact bk_7 | exact bk_8 | exact bk_9 | exact bk_10 | exact bk_11 | exact bk_12 | exact bk_13 | exact bk_14 | exact bk_15 | exact bk_16 | exact cr_5 | exact cr_23 | exact cr_24 | exact cr_25 | exact cr_26 | exact cr_27 | exact cr_28 | exact cr_29 | exact cr_30 | assumption)) (by decide) (by first | omega | (simp only [bset, reduceIte, Nat.reduceEqDiff]; omega)) (by first | omega | (simp only [bset, reduceIte, Nat.reduceEqDiff]; omega)) ?_
          refine zr_iload_n dX7_orderEnd_84 (rfl : 84 + 1 = 85) rfl ?_
          refine zr_iload_n dX7_orderEnd_85 (rfl : 85 + 1 = 86) rfl ?_
          refine zr_isub dX7_orderEnd_86 (rfl : 86 + 1 = 87) (by first | exact jI_sub _ _ | rfl) ?_
          refine zr_iload_n dX7_orderEnd_87 (rfl : 87 + 1 = 88) rfl ?_
          refine zr_fnS dX7_orderEnd_88 (rfl : 88 + 3 = 91) l_X7_128 (sl) rfl rfl (Nat.le_of_ble_eq_true rfl) ?_
          refine zr_istore (lv' := [_, _, _, _, _]) dX7_orderEnd_91 (rfl : 91 + 2 = 93) (Nat.le_of_ble_eq_true rfl) rfl ?_
          refine zr_iload_n dX7_orderEnd_93 (rfl : 93 + 1 = 94) rfl ?_
          refine zr_aload_n dX7_orderEnd_94 (rfl : 94 + 1 = 95) rfl ?_
          refine zr_getf dX7_orderEnd_95 (rfl : 95 + 3 = 98) f_X7_121 (by first | assumption | exact mw_167 | exact mw_168 | exact mw_169 | exact mw_170 | exact bk_0 | exact bk_1 | exact bk_2 | exact bk_3 | exact bk_4 | exact bk_5 | exact bk_6 | exact bk_7 | exact bk_8 | exact bk_9 | exact bk_10 | exact bk_11 | exact bk_12 | exact bk_13 | exact bk_14 | exact bk_15 | exact bk_16 | exact zup_self | exact (zup_ne (by first | assumption | omega)).trans (by first | assumption | exact zup_self) | exact (zup_ne (by first | assumption | omega)).trans ((zup_ne (by first | assumption | omega)).trans (by first | assumption | exact zup_self)) | exact (bk_out (by first | omega | (simp only [bset, reduceIte, Nat.reduceEqDiff]; omega))).trans (by first | exact bk_0 | exact bk_1 | exact bk_2 | exact bk_3 | exact bk_4 | exact bk_5 | exact bk_6 | exact bk_7 | exact bk_8 | exact bk_9 | exact bk_10 | exact bk_11 | exact bk_12 | exact bk_13 | exact bk_14 | exact bk_15 | exact bk_16 | exact cr_5 | exact cr_23 | exact cr_24 | exact cr_25 | exact cr_26 | exact cr_27 | exact cr_28 | exact cr_29 | exact cr_30 | assumption)) rfl ?_
          by_cases hL : s + 1 + i < ty
          · have ei : jca tx ty (s + 1 + i) = tx (s + 1 + i) := if_pos ⟨by omega, hL⟩
            rw [ei] at hfi
            have sin := m_in (Γ := Γ) (d := d) (w := (mw S st ik th tx ty w)) (tx (s + 1 + i) - 48) (jlea (tx s) (s + 1 + i - s) b) (jgre (tx s) (s + 1 + i - s) b) (by omega) (by omega) (by omega)
            generalize jlea (tx s) (s + 1 + i - s) b = LE at hfi hle sl sin ⊢
            generalize jgre (tx s) (s + 1 + i - s) b = GE at hge hgr hfi sg sin
            refine zr_icmp_eq (tgt := 131) dX7_orderEnd_98 (by decide) (rfl : 98 + 3 = 101) (jI_eq (by first | omega | (simp only [bset, reduceIte, Nat.reduceEqDiff]; omega)) (by first | omega | (simp only [bset, reduceIte, Nat.reduceEqDiff]; omega)) (by first | omega | (simp only [bset, reduceIte, Nat.reduceEqDiff]; omega)) (by first | omega | (simp only [bset, reduceIte, Nat.reduceEqDiff]; omega))) (fun h98 => ?_) (fun h98 => ?_)
            · exfalso; omega
            · refine zr_aload_n dX7_orderEnd_101 (rfl : 101 + 1 = 102) rfl ?_
              refine zr_getf dX7_orderEnd_102 (rfl : 102 + 3 = 105) f_X7_17 (by first | assumption | exact mw_167 | exact mw_168 | exact mw_169 | exact mw_170 | exact bk_0 | exact bk_1 | exact bk_2 | exact bk_3 | exact bk_4 | exact bk_5 | exact bk_6 | exact bk_7 | exact bk_8 | exact bk_9 | exact bk_10 | exact bk_11 | exact bk_12 | exact bk_13 | exact bk_14 | exact bk_15 | exact bk_16 | exact zup_self | exact (zup_ne (by first | assumption | omega)).trans (by first | assumption | exact zup_self) | exact (zup_ne (by first | assumption | omega)).trans ((zup_ne (by first | assumption | omega)).trans (by first | assumption | exact zup_self)) | exact (bk_out (by first | omega | (simp only [bset, reduceIte, Nat.reduceEqDiff]; omega))).trans (by first | exact bk_0 | exact bk_1 | exact bk_2 | exact bk_3 | exact bk_4 | exact bk_5 | exact bk_6 | exact bk_7 | exact bk_8 | exact bk_9 | exact bk_10 | exact bk_11 | exact bk_12 | exact bk_13 | exact bk_14 | exact bk_15 | exact bk_16 | exact cr_5 | exact cr_23 | exact cr_24 | exact cr_25 | exact cr_26 | exact cr_27 | exact cr_28 | exact cr_29 | exact cr_30 | assumption)) rfl ?_
              refine zr_iload_n dX7_orderEnd_105 (rfl : 105 + 1 = 106) rfl ?_
              refine zr_cald dX7_orderEnd_106 (rfl : 106 + 1 = 107) (by first | assumption | exact mw_167 | exact mw_168 | exact mw_169 | exact mw_170 | exact bk_0 | exact bk_1 | exact bk_2 | exact bk_3 | exact bk_4 | exact bk_5 | exact bk_6 | exact bk_7 | exact bk_8 | exact bk_9 | exact bk_10 | exact bk_11 | exact bk_12 | exact bk_13 | exact bk_14 | exact bk_15 | exact bk_16 | exact zup_self | exact (zup_ne (by first | assumption | omega)).trans (by first | assumption | exact zup_self) | exact (zup_ne (by first | assumption | omega)).trans ((zup_ne (by first | assumption | omega)).trans (by first | assumption | exact zup_self)) | exact (bk_out (by first | omega | (simp only [bset, reduceIte, Nat.reduceEqDiff]; omega))).trans (by first | exact bk_0 | exact bk_1 | exact bk_2 | exact bk_3 | exact bk_4 | exact bk_5 | exact bk_6 | exact bk_7 | exact bk_8 | exact bk_9 | exact bk_10 | exact bk_11 | exact bk_12 | exact bk_13 | exact bk_14 | exact bk_15 | exact bk_16 | exact cr_5 | exact cr_23 | exact cr_24 | exact cr_25 | exact cr_26 | exact cr_27 | exact cr_28 | exact cr_29 | exact cr_30 | assumption)) (by decide) (by first | omega | (simp only [bset, reduceIte, Nat.reduceEqDiff]; omega)) (by first | omega | (simp only [bset, reduceIte, Nat.reduceEqDiff]; omega)) ?_
              refine zr_bipush dX7_orderEnd_107 (rfl : 107 + 2 = 109) (by decide) ?_
              refine zr_isub dX7_orderEnd_109 (rfl : 109 + 1 = 110) (by first | exact jI_sub _ _ | rfl) ?_
              refine zr_iload dX7_orderEnd_110 (rfl : 110 + 2 = 112) rfl ?_
              refine zr_aload_n dX7_orderEnd_112 (rfl : 112 + 1 = 113) rfl ?_
              refine zr_getf dX7_orderEnd_113 (rfl : 113 + 3 = 116) f_X7_17 (by first | assumption | exact mw_167 | exact mw_168 | exact mw_169 | exact mw_170 | exact bk_0 | exact bk_1 | exact bk_2 | exact bk_3 | exact bk_4 | exact bk_5 | exact bk_6 | exact bk_7 | exact bk_8 | exact bk_9 | exact bk_10 | exact bk_11 | exact bk_12 | exact bk_13 | exact bk_14 | exact bk_15 | exact bk_16 | exact zup_self | exact (zup_ne (by first | assumption | omega)).trans (by first | assumption | exact zup_self) | exact (zup_ne (by first | assumption | omega)).trans ((zup_ne (by first | assumption | omega)).trans (by first | assumption | exact zup_self)) | exact (bk_out (by first | omega | (simp only [bset, reduceIte, Nat.reduceEqDiff]; omega))).trans (by first | exact bk_0 | exact bk_1 | exact bk_2 | exact bk_3 | exact bk_4 | exact bk_5 | exact bk_6 | exact bk_7 | exact bk_8 | exact bk_9 | exact bk_10 | exact bk_11 | exact bk_12 | exact bk_13 | exact bk_14 | exact bk_15 | exact bk_16 | exact cr_5 | exact cr_23 | exact cr_24 | exact cr_25 | exact cr_26 | exact cr_27 | exact cr_28 | exact cr_29 | exact cr_30 | assumption)) rfl ?_
              refine zr_iload_n dX7_orderEnd_116 (rfl : 116 + 1 = 117) rfl ?_
              refine zr_cald dX7_orderEnd_117 (rfl : 117 + 1 = 118) (by first | assumption | exact mw_167 | exact mw_168 | exact mw_169 | exact mw_170 | exact bk_0 | exact bk_1 | exact bk_2 | exact bk_3 | exact bk_4 | exact bk_5 | exact bk_6 | exact bk_7 | exact bk_8 | exact bk_9 | exact bk_10 | exact bk_11 | exact bk_12 | exact bk_13 | exact bk_14 | exact bk_15 | exact bk_16 | exact zup_self | exact (zup_ne (by first | assumption | omega)).trans (by first | assumption | exact zup_self) | exact (zup_ne (by first | assumption | omega)).trans ((zup_ne (by first | assumption | omega)).trans (by first | assumption | exact zup_self)) | exact (bk_out (by first | omega | (simp only [bset, reduceIte, Nat.reduceEqDiff]; omega))).trans (by first | exact bk_0 | exact bk_1 | exact bk_2 | exact bk_3 | exact bk_4 | exact bk_5 | exact bk_6 | exact bk_7 | exact bk_8 | exact bk_9 | exact bk_10 | exact bk_11 | exact bk_12 | exact bk_13 | exact bk_14 | exact bk_15 | exact bk_16 | exact cr_5 | exact cr_23 | exact cr_24 | exact cr_25 | exact cr_26 | exact cr_27 | exact cr_28 | exact cr_29 | exact cr_30 | assumption)) (by decide) (by first | omega | (simp only [bset, reduceIte, Nat.reduceEqDiff]; omega)) (by first | omega | (simp only [bset, reduceIte, Nat.reduceEqDiff]; omega)) ?_
              refine zr_iload_n dX7_orderEnd_118 (rfl : 118 + 1 = 119) rfl ?_
              refine zr_iload_n dX7_orderEnd_119 (rfl : 119 + 1 = 120) rfl ?_
              refine zr_isub dX7_orderEnd_120 (rfl : 120 + 1 = 121) (by first | exact jI_sub _ _ | rfl) ?_
              refine zr_iload_n dX7_orderEnd_121 (rfl : 121 + 1 = 122) rfl ?_
              refine zr_fnS dX7_orderEnd_122 (rfl : 122 + 3 = 125) l_X7_124 (sg) rfl rfl (Nat.le_of_ble_eq_true rfl) ?_
              refine zr_fnS dX7_orderEnd_125 (rfl : 125 + 3 = 128) l_X7_32 (sin) rfl rfl (Nat.le_of_ble_eq_true rfl) ?_
              refine zr_if_ne (tgt := 135) dX7_orderEnd_128 (by decide) (rfl : 128 + 3 = 131) (by first | exact jb_iff | exact jI_z (by first | omega | (simp only [bset, reduceIte, Nat.reduceEqDiff]; omega)) (by first | omega | (simp only [bset, reduceIte, Nat.reduceEqDiff]; omega))) (fun h128 => ?_) (fun h128 => ?_)
              · have hin : LE ≤ tx (s + 1 + i) - 48 ∧ tx (s + 1 + i) - 48 ≤ GE := Decidable.not_not.mp h128
                rw [if_pos ⟨hL, hfi.mpr hin⟩] at hj
                refine zr_aload_n dX7_orderEnd_135 (rfl : 135 + 1 = 136) rfl ?_
                refine zr_getf dX7_orderEnd_136 (rfl : 136 + 3 = 139) f_X7_17 (by first | assumption | exact mw_167 | exact mw_168 | exact mw_169 | exact mw_170 | exact bk_0 | exact bk_1 | exact bk_2 | exact bk_3 | exact bk_4 | exact bk_5 | exact bk_6 | exact bk_7 | exact bk_8 | exact bk_9 | exact bk_10 | exact bk_11 | exact bk_12 | exact bk_13 | exact bk_14 | exact bk_15 | exact bk_16 | exact zup_self | exact (zup_ne (by first | assumption | omega)).trans (by first | assumption | exact zup_self) | exact (zup_ne (by first | assumption | omega)).trans ((zup_ne (by first | assumption | omega)).trans (by first | assumption | exact zup_self)) | exact (bk_out (by first | omega | (simp only [bset, reduceIte, Nat.reduceEqDiff]; omega))).trans (by first | exact bk_0 | exact bk_1 | exact bk_2 | exact bk_3 | exact bk_4 | exact bk_5 | exact bk_6 | exact bk_7 | exact bk_8 | exact bk_9 | exact bk_10 | exact bk_11 | exact bk_12 | exact bk_13 | exact bk_14 | exact bk_15 | exact bk_16 | exact cr_5 | exact cr_23 | exact cr_24 | exact cr_25 | exact cr_26 | exact cr_27 | exact cr_28 | exact cr_29 | exact cr_30 | assumption)) rfl ?_
                refine zr_iload_n dX7_orderEnd_139 (rfl : 139 + 1 = 140) rfl ?_
                refine zr_cald dX7_orderEnd_140 (rfl : 140 + 1 = 141) (by first | assumption | exact mw_167 | exact mw_168 | exact mw_169 | exact mw_170 | exact bk_0 | exact bk_1 | exact bk_2 | exact bk_3 | exact bk_4 | exact bk_5 | exact bk_6 | exact bk_7 | exact bk_8 | exact bk_9 | exact bk_10 | exact bk_11 | exact bk_12 | exact bk_13 | exact bk_14 | exact bk_15 | exact bk_16 | exact zup_self | exact (zup_ne (by first | assumption | omega)).trans (by first | assumption | exact zup_self) | exact (zup_ne (by first | assumption | omega)).trans ((zup_ne (by first | assumption | omega)).trans (by first | assumption | exact zup_self)) | exact (bk_out (by first | omega | (simp only [bset, reduceIte, Nat.reduceEqDiff]; omega))).trans (by first | exact bk_0 | exact bk_1 | exact bk_2 | exact bk_3 | exact bk_4 | exact bk_5 | exact bk_6 | exact bk_7 | exact bk_8 | exact bk_9 | exact bk_10 | exact bk_11 | exact bk_12 | exact bk_13 | exact bk_14 | exact bk_15 | exact bk_16 | exact cr_5 | exact cr_23 | exact cr_24 | exact cr_25 | exact cr_26 | exact cr_27 | exact cr_28 | exact cr_29 | exact cr_30 | assumption)) (by decide) (by first | omega | (simp only [bset, reduceIte, Nat.reduceEqDiff]; omega)) (by first | omega | (simp only [bset, reduceIte, Nat.reduceEqDiff]; omega)) ?_
                refine zr_bipush dX7_orderEnd_141 (rfl : 141 + 2 = 143) (by decide) ?_
                refine zr_isub dX7_orderEnd_143 (rfl : 143 + 1 = 144) (by first | exact jI_sub _ _ | rfl) ?_
                refine zr_istore_n (lv' := [_, _, _, _, _]) dX7_orderEnd_144 (rfl : 144 + 1 = 145) (Nat.le_of_ble_eq_true rfl) rfl ?_
                refine zr_iinc (lv' := [_, _, _, _, _]) dX7_orderEnd_145 (rfl : 145 + 3 = 148) (Nat.le_of_ble_eq_true rfl) rfl (by first | exact jI_add _ _ | rfl) rfl ?_
                refine zr_goto (tgt := 62) dX7_orderEnd_148 (by decide) ?_
                rw [show s + 1 + i + 1 = s + 1 + (i + 1) by omega] at hj ⊢
                refine hk _ _ ⟨hj, by omega, by omega, by omega, ?_⟩
                rw [if_neg (by omega), show s + 1 + (i + 1) - 1 = s + 1 + i by omega, ei]
              · have hni : ¬ (LE ≤ tx (s + 1 + i) - 48 ∧ tx (s + 1 + i) - 48 ≤ GE) := h128
                rw [if_neg (fun q => hni (hfi.mp q.2))] at hj
                rw [← hj]
                refine zr_iconst dX7_orderEnd_131 (rfl : 131 + 1 = 132) ?_
                refine zr_iload_n dX7_orderEnd_132 (rfl : 132 + 1 = 133) rfl ?_
                refine zr_isub dX7_orderEnd_133 (rfl : 133 + 1 = 134) (by first | exact jI_sub _ _ | rfl) ?_
                refine zr_iret dX7_orderEnd_134 rfl rfl ?_ rfl rfl rfl
                first | rfl | rw [jb_pos (by first | assumption | omega)] | rw [jb_neg (by first | assumption | omega)] | rw [if_pos (by first | assumption | omega)] | rw [if_neg (by first | assumption | omega)]
          · rw [if_neg (fun q => hL q.1)] at hj
            rw [← hj]
            refine zr_icmp_eq (tgt := 131) dX7_orderEnd_98 (by decide) (rfl : 98 + 3 = 101) (jI_eq (by first | omega | (simp only [bset, reduceIte, Nat.reduceEqDiff]; omega)) (by first | omega | (simp only [bset, reduceIte, Nat.reduceEqDiff]; omega)) (by first | omega | (simp only [bset, reduceIte, Nat.reduceEqDiff]; omega)) (by first | omega | (simp only [bset, reduceIte, Nat.reduceEqDiff]; omega))) (fun h98 => ?_) (fun h98 => ?_)
            · refine zr_iconst dX7_orderEnd_131 (rfl : 131 + 1 = 132) ?_
              refine zr_iload_n dX7_orderEnd_132 (rfl : 132 + 1 = 133) rfl ?_
              refine zr_isub dX7_orderEnd_133 (rfl : 133 + 1 = 134) (by first | exact jI_sub _ _ | rfl) ?_
              refine zr_iret dX7_orderEnd_134 rfl rfl ?_ rfl rfl rfl
              first | rfl | rw [jb_pos (by first | assumption | omega)] | rw [jb_neg (by first | assumption | omega)] | rw [if_pos (by first | assumption | omega)] | rw [if_neg (by first | assumption | omega)]
            · exfalso; omega
      · intro b o4 hI
        obtain ⟨hj, hat, b0, b9, hb⟩ := hI
        rw [show (0 : Int) + ((jol (jca tx ty s) - 1).toNat : Int) = jol (jca tx ty s) - 1 by omega] at hj hat ⊢
        have hj : s + 1 + (jol (jca tx ty s) - 1) = R := by
          rw [show (jol (jca tx ty s) - 1 - (jol (jca tx ty s) - 1)).toNat = 0 by omega] at hj
          exact hj
        rw [hj]
        have hge := jgre_end (l := jca tx ty s) (p := R - s) (b := b) hJ (by omega)
        have hgr := jgre_r (jca tx ty s) (R - s) b
        have sg := m_greatest (Γ := Γ) (d := d) (w := (mw S st ik th tx ty w)) (jca tx ty s) (R - s) b (by omega) (by omega) (by omega)
        rw [e] at hge hgr sg hj
        refine zr_aload_n dX7_orderEnd_62 (rfl : 62 + 1 = 63) rfl ?_
        refine zr_getf dX7_orderEnd_63 (rfl : 63 + 3 = 66) f_X7_17 (by first | assumption | exact mw_167 | exact mw_168 | exact mw_169 | exact mw_170 | exact bk_0 | exact bk_1 | exact bk_2 | exact bk_3 | exact bk_4 | exact bk_5 | exact bk_6 | exact bk_7 | exact bk_8 | exact bk_9 | exact bk_10 | exact bk_11 | exact bk_12 | exact bk_13 | exact bk_14 | exact bk_15 | exact bk_16 | exact zup_self | exact (zup_ne (by first | assumption | omega)).trans (by first | assumption | exact zup_self) | exact (zup_ne (by first | assumption | omega)).trans ((zup_ne (by first | assumption | omega)).trans (by first | assumption | exact zup_self)) | exact (bk_out (by first | omega | (simp only [bset, reduceIte, Nat.reduceEqDiff]; omega))).trans (by first | exact bk_0 | exact bk_1 | exact bk_2 | exact bk_3 | exact bk_4 | exact bk_5 | exact bk_6 | exact bk_7 | exact bk_8 | exact bk_9 | exact bk_10 | exact bk_11 | exact bk_12 | exact bk_13 | exact bk_14 | exact bk_15 | exact bk_16 | exact cr_5 | exact cr_23 | exact cr_24 | exact cr_25 | exact cr_26 | exact cr_27 | exact cr_28 | exact cr_29 | exact cr_30 | assumption)) rfl ?_
        refine zr_iload_n dX7_orderEnd_66 (rfl : 66 + 1 = 67) rfl ?_
        refine zr_cald dX7_orderEnd_67 (rfl : 67 + 1 = 68) (by first | assumption | exact mw_167 | exact mw_168 | exact mw_169 | exact mw_170 | exact bk_0 | exact bk_1 | exact bk_2 | exact bk_3 | exact bk_4 | exact bk_5 | exact bk_6 | exact bk_7 | exact bk_8 | exact bk_9 | exact bk_10 | exact bk_11 | exact bk_12 | exact bk_13 | exact bk_14 | exact bk_15 | exact bk_16 | exact zup_self | exact (zup_ne (by first | assumption | omega)).trans (by first | assumption | exact zup_self) | exact (zup_ne (by first | assumption | omega)).trans ((zup_ne (by first | assumption | omega)).trans (by first | assumption | exact zup_self)) | exact (bk_out (by first | omega | (simp only [bset, reduceIte, Nat.reduceEqDiff]; omega))).trans (by first | exact bk_0 | exact bk_1 | exact bk_2 | exact bk_3 | exact bk_4 | exact bk_5 | exact bk_6 | exact bk_7 | exact bk_8 | exact bk_9 | exact bk_10 | exact bk_11 | exact bk_12 | exact bk_13 | exact bk_14 | exact bk_15 | exact bk_16 | exact cr_5 | exact cr_23 | exact cr_24 | exact cr_25 | exact cr_26 | exact cr_27 | exact cr_28 | exact cr_29 | exact cr_30 | assumption)) (by decide) (by first | omega | (simp only [bset, reduceIte, Nat.reduceEqDiff]; omega)) (by first | omega | (simp only [bset, reduceIte, Nat.reduceEqDiff]; omega)) ?_
        refine zr_iload_n dX7_orderEnd_68 (rfl : 68 + 1 = 69) rfl ?_
        refine zr_iload_n dX7_orderEnd_69 (rfl : 69 + 1 = 70) rfl ?_
        refine zr_isub dX7_orderEnd_70 (rfl : 70 + 1 = 71) (by first | exact jI_sub _ _ | rfl) ?_
        refine zr_iload_n dX7_orderEnd_71 (rfl : 71 + 1 = 72) rfl ?_
        refine zr_fnS dX7_orderEnd_72 (rfl : 72 + 3 = 75) l_X7_124 (sg) rfl rfl (Nat.le_of_ble_eq_true rfl) ?_
        refine zr_if_lt (tgt := 151) dX7_orderEnd_75 (by decide) (rfl : 75 + 3 = 78) (jI_ltz (by first | omega | (simp only [bset, reduceIte, Nat.reduceEqDiff]; omega)) (by first | omega | (simp only [bset, reduceIte, Nat.reduceEqDiff]; omega))) (fun h75 => ?_) (fun h75 => ?_)
        · refine zr_iload_n dX7_orderEnd_151 (rfl : 151 + 1 = 152) rfl ?_
          refine zr_iret dX7_orderEnd_152 rfl rfl ?_ rfl rfl rfl
          first | rfl | rw [jb_pos (by first | assumption | omega)] | rw [jb_neg (by first | assumption | omega)] | rw [if_pos (by first | assumption | omega)] | rw [if_neg (by first | assumption | omega)]
        · exfalso; omega
    rw [show s + 1 + 0 = s + 1 by omega] at key
    refine zr_iload_n dX7_orderEnd_0 (rfl : 0 + 1 = 1) rfl ?_
    refine zr_aload_n dX7_orderEnd_1 (rfl : 1 + 1 = 2) rfl ?_
    refine zr_getf dX7_orderEnd_2 (rfl : 2 + 3 = 5) f_X7_121 (by first | assumption | exact mw_167 | exact mw_168 | exact mw_169 | exact mw_170 | exact bk_0 | exact bk_1 | exact bk_2 | exact bk_3 | exact bk_4 | exact bk_5 | exact bk_6 | exact bk_7 | exact bk_8 | exact bk_9 | exact bk_10 | exact bk_11 | exact bk_12 | exact bk_13 | exact bk_14 | exact bk_15 | exact bk_16 | exact zup_self | exact (zup_ne (by first | assumption | omega)).trans (by first | assumption | exact zup_self) | exact (zup_ne (by first | assumption | omega)).trans ((zup_ne (by first | assumption | omega)).trans (by first | assumption | exact zup_self)) | exact (bk_out (by first | omega | (simp only [bset, reduceIte, Nat.reduceEqDiff]; omega))).trans (by first | exact bk_0 | exact bk_1 | exact bk_2 | exact bk_3 | exact bk_4 | exact bk_5 | exact bk_6 | exact bk_7 | exact bk_8 | exact bk_9 | exact bk_10 | exact bk_11 | exact bk_12 | exact bk_13 | exact bk_14 | exact bk_15 | exact bk_16 | exact cr_5 | exact cr_23 | exact cr_24 | exact cr_25 | exact cr_26 | exact cr_27 | exact cr_28 | exact cr_29 | exact cr_30 | assumption)) rfl ?_
    refine zr_icmp_eq (tgt := 52) dX7_orderEnd_5 (by decide) (rfl : 5 + 3 = 8) (jI_eq (by first | omega | (simp only [bset, reduceIte, Nat.reduceEqDiff]; omega)) (by first | omega | (simp only [bset, reduceIte, Nat.reduceEqDiff]; omega)) (by first | omega | (simp only [bset, reduceIte, Nat.reduceEqDiff]; omega)) (by first | omega | (simp only [bset, reduceIte, Nat.reduceEqDiff]; omega))) (fun h5 => ?_) (fun h5 => ?_)
    · first
      | (exfalso; omega)
      | (
        exfalso
        omega)
    · first
      | (exfalso; omega)
      | (
        refine zr_aload_n dX7_orderEnd_8 (rfl : 8 + 1 = 9) rfl ?_
        refine zr_getf dX7_orderEnd_9 (rfl : 9 + 3 = 12) f_X7_17 (by first | assumption | exact mw_167 | exact mw_168 | exact mw_169 | exact mw_170 | exact bk_0 | exact bk_1 | exact bk_2 | exact bk_3 | exact bk_4 | exact bk_5 | exact bk_6 | exact bk_7 | exact bk_8 | exact bk_9 | exact bk_10 | exact bk_11 | exact bk_12 | exact bk_13 | exact bk_14 | exact bk_15 | exact bk_16 | exact zup_self | exact (zup_ne (by first | assumption | omega)).trans (by first | assumption | exact zup_self) | exact (zup_ne (by first | assumption | omega)).trans ((zup_ne (by first | assumption | omega)).trans (by first | assumption | exact zup_self)) | exact (bk_out (by first | omega | (simp only [bset, reduceIte, Nat.reduceEqDiff]; omega))).trans (by first | exact bk_0 | exact bk_1 | exact bk_2 | exact bk_3 | exact bk_4 | exact bk_5 | exact bk_6 | exact bk_7 | exact bk_8 | exact bk_9 | exact bk_10 | exact bk_11 | exact bk_12 | exact bk_13 | exact bk_14 | exact bk_15 | exact bk_16 | exact cr_5 | exact cr_23 | exact cr_24 | exact cr_25 | exact cr_26 | exact cr_27 | exact cr_28 | exact cr_29 | exact cr_30 | assumption)) rfl ?_
        refine zr_iload_n dX7_orderEnd_12 (rfl : 12 + 1 = 13) rfl ?_
        refine zr_cald dX7_orderEnd_13 (rfl : 13 + 1 = 14) (by first | assumption | exact mw_167 | exact mw_168 | exact mw_169 | exact mw_170 | exact bk_0 | exact bk_1 | exact bk_2 | exact bk_3 | exact bk_4 | exact bk_5 | exact bk_6 | exact bk_7 | exact bk_8 | exact bk_9 | exact bk_10 | exact bk_11 | exact bk_12 | exact bk_13 | exact bk_14 | exact bk_15 | exact bk_16 | exact zup_self | exact (zup_ne (by first | assumption | omega)).trans (by first | assumption | exact zup_self) | exact (zup_ne (by first | assumption | omega)).trans ((zup_ne (by first | assumption | omega)).trans (by first | assumption | exact zup_self)) | exact (bk_out (by first | omega | (simp only [bset, reduceIte, Nat.reduceEqDiff]; omega))).trans (by first | exact bk_0 | exact bk_1 | exact bk_2 | exact bk_3 | exact bk_4 | exact bk_5 | exact bk_6 | exact bk_7 | exact bk_8 | exact bk_9 | exact bk_10 | exact bk_11 | exact bk_12 | exact bk_13 | exact bk_14 | exact bk_15 | exact bk_16 | exact cr_5 | exact cr_23 | exact cr_24 | exact cr_25 | exact cr_26 | exact cr_27 | exact cr_28 | exact cr_29 | exact cr_30 | assumption)) (by decide) (by first | omega | (simp only [bset, reduceIte, Nat.reduceEqDiff]; omega)) (by first | omega | (simp only [bset, reduceIte, Nat.reduceEqDiff]; omega)) ?_
        refine zr_bipush dX7_orderEnd_14 (rfl : 14 + 2 = 16) (by decide) ?_
        refine zr_icmp_eq (tgt := 56) dX7_orderEnd_16 (by decide) (rfl : 16 + 3 = 19) (jI_eq (by first | omega | (simp only [bset, reduceIte, Nat.reduceEqDiff]; omega)) (by first | omega | (simp only [bset, reduceIte, Nat.reduceEqDiff]; omega)) (by first | omega | (simp only [bset, reduceIte, Nat.reduceEqDiff]; omega)) (by first | omega | (simp only [bset, reduceIte, Nat.reduceEqDiff]; omega))) (fun h16 => ?_) (fun h16 => ?_)
        · first
          | (exfalso; omega)
          | (
            refine zr_iload_n dX7_orderEnd_56 (rfl : 56 + 1 = 57) rfl ?_
            refine zr_iconst dX7_orderEnd_57 (rfl : 57 + 1 = 58) ?_
            refine zr_iadd dX7_orderEnd_58 (rfl : 58 + 1 = 59) (by first | exact jI_add _ _ | rfl) ?_
            refine zr_istore_n (lv' := [_, _, _, _, _]) dX7_orderEnd_59 (rfl : 59 + 1 = 60) (Nat.le_of_ble_eq_true rfl) rfl ?_
            refine zr_iconst dX7_orderEnd_60 (rfl : 60 + 1 = 61) ?_
            refine zr_istore_n (lv' := [_, _, _, _, _]) dX7_orderEnd_61 (rfl : 61 + 1 = 62) (Nat.le_of_ble_eq_true rfl) rfl ?_
            exact key)
        · first
          | (exfalso; omega)
          | (
            refine zr_aload_n dX7_orderEnd_19 (rfl : 19 + 1 = 20) rfl ?_
            refine zr_getf dX7_orderEnd_20 (rfl : 20 + 3 = 23) f_X7_17 (by first | assumption | exact mw_167 | exact mw_168 | exact mw_169 | exact mw_170 | exact bk_0 | exact bk_1 | exact bk_2 | exact bk_3 | exact bk_4 | exact bk_5 | exact bk_6 | exact bk_7 | exact bk_8 | exact bk_9 | exact bk_10 | exact bk_11 | exact bk_12 | exact bk_13 | exact bk_14 | exact bk_15 | exact bk_16 | exact zup_self | exact (zup_ne (by first | assumption | omega)).trans (by first | assumption | exact zup_self) | exact (zup_ne (by first | assumption | omega)).trans ((zup_ne (by first | assumption | omega)).trans (by first | assumption | exact zup_self)) | exact (bk_out (by first | omega | (simp only [bset, reduceIte, Nat.reduceEqDiff]; omega))).trans (by first | exact bk_0 | exact bk_1 | exact bk_2 | exact bk_3 | exact bk_4 | exact bk_5 | exact bk_6 | exact bk_7 | exact bk_8 | exact bk_9 | exact bk_10 | exact bk_11 | exact bk_12 | exact bk_13 | exact bk_14 | exact bk_15 | exact bk_16 | exact cr_5 | exact cr_23 | exact cr_24 | exact cr_25 | exact cr_26 | exact cr_27 | exact cr_28 | exact cr_29 | exact cr_30 | assumption)) rfl ?_
            refine zr_iload_n dX7_orderEnd_23 (rfl : 23 + 1 = 24) rfl ?_
            refine zr_cald dX7_orderEnd_24 (rfl : 24 + 1 = 25) (by first | assumption | exact mw_167 | exact mw_168 | exact mw_169 | exact mw_170 | exact bk_0 | exact bk_1 | exact bk_2 | exact bk_3 | exact bk_4 | exact bk_5 | exact bk_6 | exact bk_7 | exact bk_8 | exact bk_9 | exact bk_10 | exact bk_11 | exact bk_12 | exact bk_13 | exact bk_14 | exact bk_15 | exact bk_16 | exact zup_self | exact (zup_ne (by first | assumption | omega)).trans (by first | assumption | exact zup_self) | exact (zup_ne (by first | assumption | omega)).trans ((zup_ne (by first | assumption | omega)).trans (by first | assumption | exact zup_self)) | exact (bk_out (by first | omega | (simp only [bset, reduceIte, Nat.reduceEqDiff]; omega))).trans (by first | exact bk_0 | exact bk_1 | exact bk_2 | exact bk_3 | exact bk_4 | exact bk_5 | exact bk_6 | exact bk_7 | exact bk_8 | exact bk_9 | exact bk_10 | exact bk_11 | exact bk_12 | exact bk_13 | exact bk_14 | exact bk_15 | exact bk_16 | exact cr_5 | exact cr_23 | exact cr_24 | exact cr_25 | exact cr_26 | exact cr_27 | exact cr_28 | exact cr_29 | exact cr_30 | assumption)) (by decide) (by first | omega | (simp only [bset, reduceIte, Nat.reduceEqDiff]; omega)) (by first | omega | (simp only [bset, reduceIte, Nat.reduceEqDiff]; omega)) ?_
            refine zr_bipush dX7_orderEnd_25 (rfl : 25 + 2 = 27) (by decide) ?_
            refine zr_icmp_eq (tgt := 56) dX7_orderEnd_27 (by decide) (rfl : 27 + 3 = 30) (jI_eq (by first | omega | (simp only [bset, reduceIte, Nat.reduceEqDiff]; omega)) (by first | omega | (simp only [bset, reduceIte, Nat.reduceEqDiff]; omega)) (by first | omega | (simp only [bset, reduceIte, Nat.reduceEqDiff]; omega)) (by first | omega | (simp only [bset, reduceIte, Nat.reduceEqDiff]; omega))) (fun h27 => ?_) (fun h27 => ?_)
            · first
              | (exfalso; omega)
              | (
                refine zr_iload_n dX7_orderEnd_56 (rfl : 56 + 1 = 57) rfl ?_
                refine zr_iconst dX7_orderEnd_57 (rfl : 57 + 1 = 58) ?_
                refine zr_iadd dX7_orderEnd_58 (rfl : 58 + 1 = 59) (by first | exact jI_add _ _ | rfl) ?_
                refine zr_istore_n (lv' := [_, _, _, _, _]) dX7_orderEnd_59 (rfl : 59 + 1 = 60) (Nat.le_of_ble_eq_true rfl) rfl ?_
                refine zr_iconst dX7_orderEnd_60 (rfl : 60 + 1 = 61) ?_
                refine zr_istore_n (lv' := [_, _, _, _, _]) dX7_orderEnd_61 (rfl : 61 + 1 = 62) (Nat.le_of_ble_eq_true rfl) rfl ?_
                exact key)
            · first
              | (exfalso; omega)
              | (
                refine zr_aload_n dX7_orderEnd_30 (rfl : 30 + 1 = 31) rfl ?_
                refine zr_getf dX7_orderEnd_31 (rfl : 31 + 3 = 34) f_X7_17 (by first | assumption | exact mw_167 | exact mw_168 | exact mw_169 | exact mw_170 | exact bk_0 | exact bk_1 | exact bk_2 | exact bk_3 | exact bk_4 | exact bk_5 | exact bk_6 | exact bk_7 | exact bk_8 | exact bk_9 | exact bk_10 | exact bk_11 | exact bk_12 | exact bk_13 | exact bk_14 | exact bk_15 | exact bk_16 | exact zup_self | exact (zup_ne (by first | assumption | omega)).trans (by first | assumption | exact zup_self) | exact (zup_ne (by first | assumption | omega)).trans ((zup_ne (by first | assumption | omega)).trans (by first | assumption | exact zup_self)) | exact (bk_out (by first | omega | (simp only [bset, reduceIte, Nat.reduceEqDiff]; omega))).trans (by first | exact bk_0 | exact bk_1 | exact bk_2 | exact bk_3 | exact bk_4 | exact bk_5 | exact bk_6 | exact bk_7 | exact bk_8 | exact bk_9 | exact bk_10 | exact bk_11 | exact bk_12 | exact bk_13 | exact bk_14 | exact bk_15 | exact bk_16 | exact cr_5 | exact cr_23 | exact cr_24 | exact cr_25 | exact cr_26 | exact cr_27 | exact cr_28 | exact cr_29 | exact cr_30 | assumption)) rfl ?_
                refine zr_iload_n dX7_orderEnd_34 (rfl : 34 + 1 = 35) rfl ?_
                refine zr_cald dX7_orderEnd_35 (rfl : 35 + 1 = 36) (by first | assumption | exact mw_167 | exact mw_168 | exact mw_169 | exact mw_170 | exact bk_0 | exact bk_1 | exact bk_2 | exact bk_3 | exact bk_4 | exact bk_5 | exact bk_6 | exact bk_7 | exact bk_8 | exact bk_9 | exact bk_10 | exact bk_11 | exact bk_12 | exact bk_13 | exact bk_14 | exact bk_15 | exact bk_16 | exact zup_self | exact (zup_ne (by first | assumption | omega)).trans (by first | assumption | exact zup_self) | exact (zup_ne (by first | assumption | omega)).trans ((zup_ne (by first | assumption | omega)).trans (by first | assumption | exact zup_self)) | exact (bk_out (by first | omega | (simp only [bset, reduceIte, Nat.reduceEqDiff]; omega))).trans (by first | exact bk_0 | exact bk_1 | exact bk_2 | exact bk_3 | exact bk_4 | exact bk_5 | exact bk_6 | exact bk_7 | exact bk_8 | exact bk_9 | exact bk_10 | exact bk_11 | exact bk_12 | exact bk_13 | exact bk_14 | exact bk_15 | exact bk_16 | exact cr_5 | exact cr_23 | exact cr_24 | exact cr_25 | exact cr_26 | exact cr_27 | exact cr_28 | exact cr_29 | exact cr_30 | assumption)) (by decide) (by first | omega | (simp only [bset, reduceIte, Nat.reduceEqDiff]; omega)) (by first | omega | (simp only [bset, reduceIte, Nat.reduceEqDiff]; omega)) ?_
                refine zr_bipush dX7_orderEnd_36 (rfl : 36 + 2 = 38) (by decide) ?_
                refine zr_icmp_eq (tgt := 56) dX7_orderEnd_38 (by decide) (rfl : 38 + 3 = 41) (jI_eq (by first | omega | (simp only [bset, reduceIte, Nat.reduceEqDiff]; omega)) (by first | omega | (simp only [bset, reduceIte, Nat.reduceEqDiff]; omega)) (by first | omega | (simp only [bset, reduceIte, Nat.reduceEqDiff]; omega)) (by first | omega | (simp only [bset, reduceIte, Nat.reduceEqDiff]; omega))) (fun h38 => ?_) (fun h38 => ?_)
                · first
                  | (exfalso; omega)
                  | (
                    refine zr_iload_n dX7_orderEnd_56 (rfl : 56 + 1 = 57) rfl ?_
                    refine zr_iconst dX7_orderEnd_57 (rfl : 57 + 1 = 58) ?_
                    refine zr_iadd dX7_orderEnd_58 (rfl : 58 + 1 = 59) (by first | exact jI_add _ _ | rfl) ?_
                    refine zr_istore_n (lv' := [_, _, _, _, _]) dX7_orderEnd_59 (rfl : 59 + 1 = 60) (Nat.le_of_ble_eq_true rfl) rfl ?_
                    refine zr_iconst dX7_orderEnd_60 (rfl : 60 + 1 = 61) ?_
                    refine zr_istore_n (lv' := [_, _, _, _, _]) dX7_orderEnd_61 (rfl : 61 + 1 = 62) (Nat.le_of_ble_eq_true rfl) rfl ?_
                    exact key)
                · first
                  | (exfalso; omega)
                  | (
                    refine zr_aload_n dX7_orderEnd_41 (rfl : 41 + 1 = 42) rfl ?_
                    refine zr_getf dX7_orderEnd_42 (rfl : 42 + 3 = 45) f_X7_17 (by first | assumption | exact mw_167 | exact mw_168 | exact mw_169 | exact mw_170 | exact bk_0 | exact bk_1 | exact bk_2 | exact bk_3 | exact bk_4 | exact bk_5 | exact bk_6 | exact bk_7 | exact bk_8 | exact bk_9 | exact bk_10 | exact bk_11 | exact bk_12 | exact bk_13 | exact bk_14 | exact bk_15 | exact bk_16 | exact zup_self | exact (zup_ne (by first | assumption | omega)).trans (by first | assumption | exact zup_self) | exact (zup_ne (by first | assumption | omega)).trans ((zup_ne (by first | assumption | omega)).trans (by first | assumption | exact zup_self)) | exact (bk_out (by first | omega | (simp only [bset, reduceIte, Nat.reduceEqDiff]; omega))).trans (by first | exact bk_0 | exact bk_1 | exact bk_2 | exact bk_3 | exact bk_4 | exact bk_5 | exact bk_6 | exact bk_7 | exact bk_8 | exact bk_9 | exact bk_10 | exact bk_11 | exact bk_12 | exact bk_13 | exact bk_14 | exact bk_15 | exact bk_16 | exact cr_5 | exact cr_23 | exact cr_24 | exact cr_25 | exact cr_26 | exact cr_27 | exact cr_28 | exact cr_29 | exact cr_30 | assumption)) rfl ?_
                    refine zr_iload_n dX7_orderEnd_45 (rfl : 45 + 1 = 46) rfl ?_
                    refine zr_cald dX7_orderEnd_46 (rfl : 46 + 1 = 47) (by first | assumption | exact mw_167 | exact mw_168 | exact mw_169 | exact mw_170 | exact bk_0 | exact bk_1 | exact bk_2 | exact bk_3 | exact bk_4 | exact bk_5 | exact bk_6 | exact bk_7 | exact bk_8 | exact bk_9 | exact bk_10 | exact bk_11 | exact bk_12 | exact bk_13 | exact bk_14 | exact bk_15 | exact bk_16 | exact zup_self | exact (zup_ne (by first | assumption | omega)).trans (by first | assumption | exact zup_self) | exact (zup_ne (by first | assumption | omega)).trans ((zup_ne (by first | assumption | omega)).trans (by first | assumption | exact zup_self)) | exact (bk_out (by first | omega | (simp only [bset, reduceIte, Nat.reduceEqDiff]; omega))).trans (by first | exact bk_0 | exact bk_1 | exact bk_2 | exact bk_3 | exact bk_4 | exact bk_5 | exact bk_6 | exact bk_7 | exact bk_8 | exact bk_9 | exact bk_10 | exact bk_11 | exact bk_12 | exact bk_13 | exact bk_14 | exact bk_15 | exact bk_16 | exact cr_5 | exact cr_23 | exact cr_24 | exact cr_25 | exact cr_26 | exact cr_27 | exact cr_28 | exact cr_29 | exact cr_30 | assumption)) (by decide) (by first | omega | (simp only [bset, reduceIte, Nat.reduceEqDiff]; omega)) (by first | omega | (simp only [bset, reduceIte, Nat.reduceEqDiff]; omega)) ?_
                    refine zr_bipush dX7_orderEnd_47 (rfl : 47 + 2 = 49) (by decide) ?_
                    refine zr_icmp_eq (tgt := 56) dX7_orderEnd_49 (by decide) (rfl : 49 + 3 = 52) (jI_eq (by first | omega | (simp only [bset, reduceIte, Nat.reduceEqDiff]; omega)) (by first | omega | (simp only [bset, reduceIte, Nat.reduceEqDiff]; omega)) (by first | omega | (simp only [bset, reduceIte, Nat.reduceEqDiff]; omega)) (by first | omega | (simp only [bset, reduceIte, Nat.reduceEqDiff]; omega))) (fun h49 => ?_) (fun h49 => ?_)
                    · first
                      | (exfalso; omega)
                      | (
                        refine zr_iload_n dX7_orderEnd_56 (rfl : 56 + 1 = 57) rfl ?_
                        refine zr_iconst dX7_orderEnd_57 (rfl : 57 + 1 = 58) ?_
                        refine zr_iadd dX7_orderEnd_58 (rfl : 58 + 1 = 59) (by first | exact jI_add _ _ | rfl) ?_
                        refine zr_istore_n (lv' := [_, _, _, _, _]) dX7_orderEnd_59 (rfl : 59 + 1 = 60) (Nat.le_of_ble_eq_true rfl) rfl ?_
                        refine zr_iconst dX7_orderEnd_60 (rfl : 60 + 1 = 61) ?_
                        refine zr_istore_n (lv' := [_, _, _, _, _]) dX7_orderEnd_61 (rfl : 61 + 1 = 62) (Nat.le_of_ble_eq_true rfl) rfl ?_
                        exact key)
                    · first
                      | (exfalso; omega)
                      | (
                        exfalso
                        omega)))))
  · rw [if_neg hJ]
    by_cases hlt : s < ty
    · have e : jca tx ty s = tx s := if_pos ⟨hs.1, hlt⟩
      have hn : ¬ (tx s = 98 ∨ tx s = 99 ∨ tx s = 100 ∨ tx s = 112) := by
        intro q
        rw [e] at hJ
        rcases q with q | q | q | q <;> rw [q] at hJ <;> exact hJ (by decide)
      refine zr_iload_n dX7_orderEnd_0 (rfl : 0 + 1 = 1) rfl ?_
      refine zr_aload_n dX7_orderEnd_1 (rfl : 1 + 1 = 2) rfl ?_
      refine zr_getf dX7_orderEnd_2 (rfl : 2 + 3 = 5) f_X7_121 (by first | assumption | exact mw_167 | exact mw_168 | exact mw_169 | exact mw_170 | exact bk_0 | exact bk_1 | exact bk_2 | exact bk_3 | exact bk_4 | exact bk_5 | exact bk_6 | exact bk_7 | exact bk_8 | exact bk_9 | exact bk_10 | exact bk_11 | exact bk_12 | exact bk_13 | exact bk_14 | exact bk_15 | exact bk_16 | exact zup_self | exact (zup_ne (by first | assumption | omega)).trans (by first | assumption | exact zup_self) | exact (zup_ne (by first | assumption | omega)).trans ((zup_ne (by first | assumption | omega)).trans (by first | assumption | exact zup_self)) | exact (bk_out (by first | omega | (simp only [bset, reduceIte, Nat.reduceEqDiff]; omega))).trans (by first | exact bk_0 | exact bk_1 | exact bk_2 | exact bk_3 | exact bk_4 | exact bk_5 | exact bk_6 | exact bk_7 | exact bk_8 | exact bk_9 | exact bk_10 | exact bk_11 | exact bk_12 | exact bk_13 | exact bk_14 | exact bk_15 | exact bk_16 | exact cr_5 | exact cr_23 | exact cr_24 | exact cr_25 | exact cr_26 | exact cr_27 | exact cr_28 | exact cr_29 | exact cr_30 | assumption)) rfl ?_
      refine zr_icmp_eq (tgt := 52) dX7_orderEnd_5 (by decide) (rfl : 5 + 3 = 8) (jI_eq (by first | omega | (simp only [bset, reduceIte, Nat.reduceEqDiff]; omega)) (by first | omega | (simp only [bset, reduceIte, Nat.reduceEqDiff]; omega)) (by first | omega | (simp only [bset, reduceIte, Nat.reduceEqDiff]; omega)) (by first | omega | (simp only [bset, reduceIte, Nat.reduceEqDiff]; omega))) (fun h5 => ?_) (fun h5 => ?_)
      · first
        | (exfalso; omega)
        | (
          refine zr_iconst dX7_orderEnd_52 (rfl : 52 + 1 = 53) ?_
          refine zr_iload_n dX7_orderEnd_53 (rfl : 53 + 1 = 54) rfl ?_
          refine zr_isub dX7_orderEnd_54 (rfl : 54 + 1 = 55) (by first | exact jI_sub _ _ | rfl) ?_
          refine zr_iret dX7_orderEnd_55 rfl rfl ?_ rfl rfl rfl
          first | rfl | rw [jb_pos (by first | assumption | omega)] | rw [jb_neg (by first | assumption | omega)] | rw [if_pos (by first | assumption | omega)] | rw [if_neg (by first | assumption | omega)])
      · first
        | (exfalso; omega)
        | (
          refine zr_aload_n dX7_orderEnd_8 (rfl : 8 + 1 = 9) rfl ?_
          refine zr_getf dX7_orderEnd_9 (rfl : 9 + 3 = 12) f_X7_17 (by first | assumption | exact mw_167 | exact mw_168 | exact mw_169 | exact mw_170 | exact bk_0 | exact bk_1 | exact bk_2 | exact bk_3 | exact bk_4 | exact bk_5 | exact bk_6 | exact bk_7 | exact bk_8 | exact bk_9 | exact bk_10 | exact bk_11 | exact bk_12 | exact bk_13 | exact bk_14 | exact bk_15 | exact bk_16 | exact zup_self | exact (zup_ne (by first | assumption | omega)).trans (by first | assumption | exact zup_self) | exact (zup_ne (by first | assumption | omega)).trans ((zup_ne (by first | assumption | omega)).trans (by first | assumption | exact zup_self)) | exact (bk_out (by first | omega | (simp only [bset, reduceIte, Nat.reduceEqDiff]; omega))).trans (by first | exact bk_0 | exact bk_1 | exact bk_2 | exact bk_3 | exact bk_4 | exact bk_5 | exact bk_6 | exact bk_7 | exact bk_8 | exact bk_9 | exact bk_10 | exact bk_11 | exact bk_12 | exact bk_13 | exact bk_14 | exact bk_15 | exact bk_16 | exact cr_5 | exact cr_23 | exact cr_24 | exact cr_25 | exact cr_26 | exact cr_27 | exact cr_28 | exact cr_29 | exact cr_30 | assumption)) rfl ?_
          refine zr_iload_n dX7_orderEnd_12 (rfl : 12 + 1 = 13) rfl ?_
          refine zr_cald dX7_orderEnd_13 (rfl : 13 + 1 = 14) (by first | assumption | exact mw_167 | exact mw_168 | exact mw_169 | exact mw_170 | exact bk_0 | exact bk_1 | exact bk_2 | exact bk_3 | exact bk_4 | exact bk_5 | exact bk_6 | exact bk_7 | exact bk_8 | exact bk_9 | exact bk_10 | exact bk_11 | exact bk_12 | exact bk_13 | exact bk_14 | exact bk_15 | exact bk_16 | exact zup_self | exact (zup_ne (by first | assumption | omega)).trans (by first | assumption | exact zup_self) | exact (zup_ne (by first | assumption | omega)).trans ((zup_ne (by first | assumption | omega)).trans (by first | assumption | exact zup_self)) | exact (bk_out (by first | omega | (simp only [bset, reduceIte, Nat.reduceEqDiff]; omega))).trans (by first | exact bk_0 | exact bk_1 | exact bk_2 | exact bk_3 | exact bk_4 | exact bk_5 | exact bk_6 | exact bk_7 | exact bk_8 | exact bk_9 | exact bk_10 | exact bk_11 | exact bk_12 | exact bk_13 | exact bk_14 | exact bk_15 | exact bk_16 | exact cr_5 | exact cr_23 | exact cr_24 | exact cr_25 | exact cr_26 | exact cr_27 | exact cr_28 | exact cr_29 | exact cr_30 | assumption)) (by decide) (by first | omega | (simp only [bset, reduceIte, Nat.reduceEqDiff]; omega)) (by first | omega | (simp only [bset, reduceIte, Nat.reduceEqDiff]; omega)) ?_
          refine zr_bipush dX7_orderEnd_14 (rfl : 14 + 2 = 16) (by decide) ?_
          refine zr_icmp_eq (tgt := 56) dX7_orderEnd_16 (by decide) (rfl : 16 + 3 = 19) (jI_eq (by first | omega | (simp only [bset, reduceIte, Nat.reduceEqDiff]; omega)) (by first | omega | (simp only [bset, reduceIte, Nat.reduceEqDiff]; omega)) (by first | omega | (simp only [bset, reduceIte, Nat.reduceEqDiff]; omega)) (by first | omega | (simp only [bset, reduceIte, Nat.reduceEqDiff]; omega))) (fun h16 => ?_) (fun h16 => ?_)
          · first
            | (exfalso; omega)
            | (
              exfalso
              omega)
          · first
            | (exfalso; omega)
            | (
              refine zr_aload_n dX7_orderEnd_19 (rfl : 19 + 1 = 20) rfl ?_
              refine zr_getf dX7_orderEnd_20 (rfl : 20 + 3 = 23) f_X7_17 (by first | assumption | exact mw_167 | exact mw_168 | exact mw_169 | exact mw_170 | exact bk_0 | exact bk_1 | exact bk_2 | exact bk_3 | exact bk_4 | exact bk_5 | exact bk_6 | exact bk_7 | exact bk_8 | exact bk_9 | exact bk_10 | exact bk_11 | exact bk_12 | exact bk_13 | exact bk_14 | exact bk_15 | exact bk_16 | exact zup_self | exact (zup_ne (by first | assumption | omega)).trans (by first | assumption | exact zup_self) | exact (zup_ne (by first | assumption | omega)).trans ((zup_ne (by first | assumption | omega)).trans (by first | assumption | exact zup_self)) | exact (bk_out (by first | omega | (simp only [bset, reduceIte, Nat.reduceEqDiff]; omega))).trans (by first | exact bk_0 | exact bk_1 | exact bk_2 | exact bk_3 | exact bk_4 | exact bk_5 | exact bk_6 | exact bk_7 | exact bk_8 | exact bk_9 | exact bk_10 | exact bk_11 | exact bk_12 | exact bk_13 | exact bk_14 | exact bk_15 | exact bk_16 | exact cr_5 | exact cr_23 | exact cr_24 | exact cr_25 | exact cr_26 | exact cr_27 | exact cr_28 | exact cr_29 | exact cr_30 | assumption)) rfl ?_
              refine zr_iload_n dX7_orderEnd_23 (rfl : 23 + 1 = 24) rfl ?_
              refine zr_cald dX7_orderEnd_24 (rfl : 24 + 1 = 25) (by first | assumption | exact mw_167 | exact mw_168 | exact mw_169 | exact mw_170 | exact bk_0 | exact bk_1 | exact bk_2 | exact bk_3 | exact bk_4 | exact bk_5 | exact bk_6 | exact bk_7 | exact bk_8 | exact bk_9 | exact bk_10 | exact bk_11 | exact bk_12 | exact bk_13 | exact bk_14 | exact bk_15 | exact bk_16 | exact zup_self | exact (zup_ne (by first | assumption | omega)).trans (by first | assumption | exact zup_self) | exact (zup_ne (by first | assumption | omega)).trans ((zup_ne (by first | assumption | omega)).trans (by first | assumption | exact zup_self)) | exact (bk_out (by first | omega | (simp only [bset, reduceIte, Nat.reduceEqDiff]; omega))).trans (by first | exact bk_0 | exact bk_1 | exact bk_2 | exact bk_3 | exact bk_4 | exact bk_5 | exact bk_6 | exact bk_7 | exact bk_8 | exact bk_9 | exact bk_10 | exact bk_11 | exact bk_12 | exact bk_13 | exact bk_14 | exact bk_15 | exact bk_16 | exact cr_5 | exact cr_23 | exact cr_24 | exact cr_25 | exact cr_26 | exact cr_27 | exact cr_28 | exact cr_29 | exact cr_30 | assumption)) (by decide) (by first | omega | (simp only [bset, reduceIte, Nat.reduceEqDiff]; omega)) (by first | omega | (simp only [bset, reduceIte, Nat.reduceEqDiff]; omega)) ?_
              refine zr_bipush dX7_orderEnd_25 (rfl : 25 + 2 = 27) (by decide) ?_
              refine zr_icmp_eq (tgt := 56) dX7_orderEnd_27 (by decide) (rfl : 27 + 3 = 30) (jI_eq (by first | omega | (simp only [bset, reduceIte, Nat.reduceEqDiff]; omega)) (by first | omega | (simp only [bset, reduceIte, Nat.reduceEqDiff]; omega)) (by first | omega | (simp only [bset, reduceIte, Nat.reduceEqDiff]; omega)) (by first | omega | (simp only [bset, reduceIte, Nat.reduceEqDiff]; omega))) (fun h27 => ?_) (fun h27 => ?_)
              · first
                | (exfalso; omega)
                | (
                  exfalso
                  omega)
              · first
                | (exfalso; omega)
                | (
                  refine zr_aload_n dX7_orderEnd_30 (rfl : 30 + 1 = 31) rfl ?_
                  refine zr_getf dX7_orderEnd_31 (rfl : 31 + 3 = 34) f_X7_17 (by first | assumption | exact mw_167 | exact mw_168 | exact mw_169 | exact mw_170 | exact bk_0 | exact bk_1 | exact bk_2 | exact bk_3 | exact bk_4 | exact bk_5 | exact bk_6 | exact bk_7 | exact bk_8 | exact bk_9 | exact bk_10 | exact bk_11 | exact bk_12 | exact bk_13 | exact bk_14 | exact bk_15 | exact bk_16 | exact zup_self | exact (zup_ne (by first | assumption | omega)).trans (by first | assumption | exact zup_self) | exact (zup_ne (by first | assumption | omega)).trans ((zup_ne (by first | assumption | omega)).trans (by first | assumption | exact zup_self)) | exact (bk_out (by first | omega | (simp only [bset, reduceIte, Nat.reduceEqDiff]; omega))).trans (by first | exact bk_0 | exact bk_1 | exact bk_2 | exact bk_3 | exact bk_4 | exact bk_5 | exact bk_6 | exact bk_7 | exact bk_8 | exact bk_9 | exact bk_10 | exact bk_11 | exact bk_12 | exact bk_13 | exact bk_14 | exact bk_15 | exact bk_16 | exact cr_5 | exact cr_23 | exact cr_24 | exact cr_25 | exact cr_26 | exact cr_27 | exact cr_28 | exact cr_29 | exact cr_30 | assumption)) rfl ?_
                  refine zr_iload_n dX7_orderEnd_34 (rfl : 34 + 1 = 35) rfl ?_
                  refine zr_cald dX7_orderEnd_35 (rfl : 35 + 1 = 36) (by first | assumption | exact mw_167 | exact mw_168 | exact mw_169 | exact mw_170 | exact bk_0 | exact bk_1 | exact bk_2 | exact bk_3 | exact bk_4 | exact bk_5 | exact bk_6 | exact bk_7 | exact bk_8 | exact bk_9 | exact bk_10 | exact bk_11 | exact bk_12 | exact bk_13 | exact bk_14 | exact bk_15 | exact bk_16 | exact zup_self | exact (zup_ne (by first | assumption | omega)).trans (by first | assumption | exact zup_self) | exact (zup_ne (by first | assumption | omega)).trans ((zup_ne (by first | assumption | omega)).trans (by first | assumption | exact zup_self)) | exact (bk_out (by first | omega | (simp only [bset, reduceIte, Nat.reduceEqDiff]; omega))).trans (by first | exact bk_0 | exact bk_1 | exact bk_2 | exact bk_3 | exact bk_4 | exact bk_5 | exact bk_6 | exact bk_7 | exact bk_8 | exact bk_9 | exact bk_10 | exact bk_11 | exact bk_12 | exact bk_13 | exact bk_14 | exact bk_15 | exact bk_16 | exact cr_5 | exact cr_23 | exact cr_24 | exact cr_25 | exact cr_26 | exact cr_27 | exact cr_28 | exact cr_29 | exact cr_30 | assumption)) (by decide) (by first | omega | (simp only [bset, reduceIte, Nat.reduceEqDiff]; omega)) (by first | omega | (simp only [bset, reduceIte, Nat.reduceEqDiff]; omega)) ?_
                  refine zr_bipush dX7_orderEnd_36 (rfl : 36 + 2 = 38) (by decide) ?_
                  refine zr_icmp_eq (tgt := 56) dX7_orderEnd_38 (by decide) (rfl : 38 + 3 = 41) (jI_eq (by first | omega | (simp only [bset, reduceIte, Nat.reduceEqDiff]; omega)) (by first | omega | (simp only [bset, reduceIte, Nat.reduceEqDiff]; omega)) (by first | omega | (simp only [bset, reduceIte, Nat.reduceEqDiff]; omega)) (by first | omega | (simp only [bset, reduceIte, Nat.reduceEqDiff]; omega))) (fun h38 => ?_) (fun h38 => ?_)
                  · first
                    | (exfalso; omega)
                    | (
                      exfalso
                      omega)
                  · first
                    | (exfalso; omega)
                    | (
                      refine zr_aload_n dX7_orderEnd_41 (rfl : 41 + 1 = 42) rfl ?_
                      refine zr_getf dX7_orderEnd_42 (rfl : 42 + 3 = 45) f_X7_17 (by first | assumption | exact mw_167 | exact mw_168 | exact mw_169 | exact mw_170 | exact bk_0 | exact bk_1 | exact bk_2 | exact bk_3 | exact bk_4 | exact bk_5 | exact bk_6 | exact bk_7 | exact bk_8 | exact bk_9 | exact bk_10 | exact bk_11 | exact bk_12 | exact bk_13 | exact bk_14 | exact bk_15 | exact bk_16 | exact zup_self | exact (zup_ne (by first | assumption | omega)).trans (by first | assumption | exact zup_self) | exact (zup_ne (by first | assumption | omega)).trans ((zup_ne (by first | assumption | omega)).trans (by first | assumption | exact zup_self)) | exact (bk_out (by first | omega | (simp only [bset, reduceIte, Nat.reduceEqDiff]; omega))).trans (by first | exact bk_0 | exact bk_1 | exact bk_2 | exact bk_3 | exact bk_4 | exact bk_5 | exact bk_6 | exact bk_7 | exact bk_8 | exact bk_9 | exact bk_10 | exact bk_11 | exact bk_12 | exact bk_13 | exact bk_14 | exact bk_15 | exact bk_16 | exact cr_5 | exact cr_23 | exact cr_24 | exact cr_25 | exact cr_26 | exact cr_27 | exact cr_28 | exact cr_29 | exact cr_30 | assumption)) rfl ?_
                      refine zr_iload_n dX7_orderEnd_45 (rfl : 45 + 1 = 46) rfl ?_
                      refine zr_cald dX7_orderEnd_46 (rfl : 46 + 1 = 47) (by first | assumption | exact mw_167 | exact mw_168 | exact mw_169 | exact mw_170 | exact bk_0 | exact bk_1 | exact bk_2 | exact bk_3 | exact bk_4 | exact bk_5 | exact bk_6 | exact bk_7 | exact bk_8 | exact bk_9 | exact bk_10 | exact bk_11 | exact bk_12 | exact bk_13 | exact bk_14 | exact bk_15 | exact bk_16 | exact zup_self | exact (zup_ne (by first | assumption | omega)).trans (by first | assumption | exact zup_self) | exact (zup_ne (by first | assumption | omega)).trans ((zup_ne (by first | assumption | omega)).trans (by first | assumption | exact zup_self)) | exact (bk_out (by first | omega | (simp only [bset, reduceIte, Nat.reduceEqDiff]; omega))).trans (by first | exact bk_0 | exact bk_1 | exact bk_2 | exact bk_3 | exact bk_4 | exact bk_5 | exact bk_6 | exact bk_7 | exact bk_8 | exact bk_9 | exact bk_10 | exact bk_11 | exact bk_12 | exact bk_13 | exact bk_14 | exact bk_15 | exact bk_16 | exact cr_5 | exact cr_23 | exact cr_24 | exact cr_25 | exact cr_26 | exact cr_27 | exact cr_28 | exact cr_29 | exact cr_30 | assumption)) (by decide) (by first | omega | (simp only [bset, reduceIte, Nat.reduceEqDiff]; omega)) (by first | omega | (simp only [bset, reduceIte, Nat.reduceEqDiff]; omega)) ?_
                      refine zr_bipush dX7_orderEnd_47 (rfl : 47 + 2 = 49) (by decide) ?_
                      refine zr_icmp_eq (tgt := 56) dX7_orderEnd_49 (by decide) (rfl : 49 + 3 = 52) (jI_eq (by first | omega | (simp only [bset, reduceIte, Nat.reduceEqDiff]; omega)) (by first | omega | (simp only [bset, reduceIte, Nat.reduceEqDiff]; omega)) (by first | omega | (simp only [bset, reduceIte, Nat.reduceEqDiff]; omega)) (by first | omega | (simp only [bset, reduceIte, Nat.reduceEqDiff]; omega))) (fun h49 => ?_) (fun h49 => ?_)
                      · first
                        | (exfalso; omega)
                        | (
                          exfalso
                          omega)
                      · first
                        | (exfalso; omega)
                        | (
                          refine zr_iconst dX7_orderEnd_52 (rfl : 52 + 1 = 53) ?_
                          refine zr_iload_n dX7_orderEnd_53 (rfl : 53 + 1 = 54) rfl ?_
                          refine zr_isub dX7_orderEnd_54 (rfl : 54 + 1 = 55) (by first | exact jI_sub _ _ | rfl) ?_
                          refine zr_iret dX7_orderEnd_55 rfl rfl ?_ rfl rfl rfl
                          first | rfl | rw [jb_pos (by first | assumption | omega)] | rw [jb_neg (by first | assumption | omega)] | rw [if_pos (by first | assumption | omega)] | rw [if_neg (by first | assumption | omega)])))))
    · refine zr_iload_n dX7_orderEnd_0 (rfl : 0 + 1 = 1) rfl ?_
      refine zr_aload_n dX7_orderEnd_1 (rfl : 1 + 1 = 2) rfl ?_
      refine zr_getf dX7_orderEnd_2 (rfl : 2 + 3 = 5) f_X7_121 (by first | assumption | exact mw_167 | exact mw_168 | exact mw_169 | exact mw_170 | exact bk_0 | exact bk_1 | exact bk_2 | exact bk_3 | exact bk_4 | exact bk_5 | exact bk_6 | exact bk_7 | exact bk_8 | exact bk_9 | exact bk_10 | exact bk_11 | exact bk_12 | exact bk_13 | exact bk_14 | exact bk_15 | exact bk_16 | exact zup_self | exact (zup_ne (by first | assumption | omega)).trans (by first | assumption | exact zup_self) | exact (zup_ne (by first | assumption | omega)).trans ((zup_ne (by first | assumption | omega)).trans (by first | assumption | exact zup_self)) | exact (bk_out (by first | omega | (simp only [bset, reduceIte, Nat.reduceEqDiff]; omega))).trans (by first | exact bk_0 | exact bk_1 | exact bk_2 | exact bk_3 | exact bk_4 | exact bk_5 | exact bk_6 | exact bk_7 | exact bk_8 | exact bk_9 | exact bk_10 | exact bk_11 | exact bk_12 | exact bk_13 | exact bk_14 | exact bk_15 | exact bk_16 | exact cr_5 | exact cr_23 | exact cr_24 | exact cr_25 | exact cr_26 | exact cr_27 | exact cr_28 | exact cr_29 | exact cr_30 | assumption)) rfl ?_
      refine zr_icmp_eq (tgt := 52) dX7_orderEnd_5 (by decide) (rfl : 5 + 3 = 8) (jI_eq (by first | omega | (simp only [bset, reduceIte, Nat.reduceEqDiff]; omega)) (by first | omega | (simp only [bset, reduceIte, Nat.reduceEqDiff]; omega)) (by first | omega | (simp only [bset, reduceIte, Nat.reduceEqDiff]; omega)) (by first | omega | (simp only [bset, reduceIte, Nat.reduceEqDiff]; omega))) (fun h5 => ?_) (fun h5 => ?_)
      · first
        | (exfalso; omega)
        | (
          refine zr_iconst dX7_orderEnd_52 (rfl : 52 + 1 = 53) ?_
          refine zr_iload_n dX7_orderEnd_53 (rfl : 53 + 1 = 54) rfl ?_
          refine zr_isub dX7_orderEnd_54 (rfl : 54 + 1 = 55) (by first | exact jI_sub _ _ | rfl) ?_
          refine zr_iret dX7_orderEnd_55 rfl rfl ?_ rfl rfl rfl
          first | rfl | rw [jb_pos (by first | assumption | omega)] | rw [jb_neg (by first | assumption | omega)] | rw [if_pos (by first | assumption | omega)] | rw [if_neg (by first | assumption | omega)])
      · first
        | (exfalso; omega)
        | (
          exfalso
          omega)
theorem m_error (hy : 0 ≤ ty ∧ ty ≤ 60) (hT : ∀ z, 0 ≤ tx z ∧ tx z ≤ 126) : zFn Γ md_X7_error (d + 2) [.ref 167] (mw S st ik th tx ty w) (some (.int (jI (jer tx ty 61 0)))) (mw S st ik th tx ty w) := by
  refine zFn.of_run (lv := [some (.ref 167), none, none]) (by decide) rfl (Nat.le_of_ble_eq_true rfl) rfl (fun n9 g9 => ?_)
  refine zr_iconst dX7_error_0 (rfl : 0 + 1 = 1) ?_
  refine zr_istore_n (lv' := [_, _, _]) dX7_error_1 (rfl : 1 + 1 = 2) (Nat.le_of_ble_eq_true rfl) rfl ?_
  refine zfor2 0 61 (fun i s _ => jer tx ty (61 - i).toNat s = jer tx ty 61 0 ∧ 0 ≤ s ∧ s ≤ ty ∧ ty - s < 61 - i) (fun _ s o => [some (.ref 167), some (.int (jI s)), o]) (fun _ _ _ => (mw S st ik th tx ty w)) 0 none ⟨rfl, by decide, hy.1, by omega⟩ ?_ ?_
  · intro i s o i0 i1 hI hk
    obtain ⟨hj, s0, s1, hf⟩ := hI
    rw [show (61 - i).toNat = (61 - (i + 1)).toNat + 1 by omega, jer_succ] at hj
    have hoe := m_orderEnd (Γ := Γ) (d := d) (S := S) (st := st) (ik := ik) (th := th) (w := w) s ⟨s0, s1⟩ hy hT
    have hor : -62 ≤ joe tx ty s ∧ joe tx ty s ≤ 65 := by
      by_cases hn : joe tx ty s < 0
      · have hh : -1 - joe tx ty s ≤ 65 ∨ True := Or.inr trivial
        unfold joe at hn ⊢
        by_cases hJ : 0 < jol (jca tx ty s)
        · rw [if_pos hJ] at hn ⊢
          have hJr := jol_r (jca tx ty s)
          have hlt := jca_lt hJ
          have h2 : ∀ (n : Nat) (i : Int), 0 ≤ i → i ≤ ty → -1 - ty ≤ jbp tx ty s n i ∧ jbp tx ty s n i ≤ 60 := by
            intro n
            induction n with
            | zero => exact fun i q0 q1 => ⟨by show -1 - ty ≤ i; omega, by show i ≤ 60; omega⟩
            | succ n ih =>
              intro i q0 q1
              rw [jbp_lt]
              by_cases hc : i < ty ∧ jfit tx ty s i = 1
              · rw [if_pos hc]
                exact ih (i + 1) (by omega) (by omega)
              · rw [if_neg hc]
                omega
          have := h2 (jol (jca tx ty s) - 1).toNat (s + 1) (by omega) (by omega)
          omega
        · rw [if_neg hJ]
          omega
      · obtain ⟨hg, he⟩ := joe_nn s0 (by omega : 0 ≤ joe tx ty s)
        have := hg.2.1
        omega
    refine zr_aload_n dX7_error_2 (rfl : 2 + 1 = 3) rfl ?_
    refine zr_iload_n dX7_error_3 (rfl : 3 + 1 = 4) rfl ?_
    refine zr_fnV dX7_error_4 (rfl : 4 + 3 = 7) l_X7_131 (hoe) (by first | assumption | exact mw_167 | exact mw_168 | exact mw_169 | exact mw_170 | exact bk_0 | exact bk_1 | exact bk_2 | exact bk_3 | exact bk_4 | exact bk_5 | exact bk_6 | exact bk_7 | exact bk_8 | exact bk_9 | exact bk_10 | exact bk_11 | exact bk_12 | exact bk_13 | exact bk_14 | exact bk_15 | exact bk_16 | exact zup_self | exact (zup_ne (by first | assumption | omega)).trans (by first | assumption | exact zup_self) | exact (zup_ne (by first | assumption | omega)).trans ((zup_ne (by first | assumption | omega)).trans (by first | assumption | exact zup_self)) | exact (bk_out (by first | omega | (simp only [bset, reduceIte, Nat.reduceEqDiff]; omega))).trans (by first | exact bk_0 | exact bk_1 | exact bk_2 | exact bk_3 | exact bk_4 | exact bk_5 | exact bk_6 | exact bk_7 | exact bk_8 | exact bk_9 | exact bk_10 | exact bk_11 | exact bk_12 | exact bk_13 | exact bk_14 | exact bk_15 | exact bk_16 | exact cr_5 | exact cr_23 | exact cr_24 | exact cr_25 | exact cr_26 | exact cr_27 | exact cr_28 | exact cr_29 | exact cr_30 | assumption)) rfl rfl rfl (Nat.le_of_ble_eq_true rfl) ?_
    refine zr_istore_n (lv' := [_, _, _]) dX7_error_7 (rfl : 7 + 1 = 8) (Nat.le_of_ble_eq_true rfl) rfl ?_
    refine zr_iload_n dX7_error_8 (rfl : 8 + 1 = 9) rfl ?_
    refine zr_if_ge (tgt := 16) dX7_error_9 (by decide) (rfl : 9 + 3 = 12) (jI_gez (by first | omega | (simp only [bset, reduceIte, Nat.reduceEqDiff]; omega)) (by first | omega | (simp only [bset, reduceIte, Nat.reduceEqDiff]; omega))) (fun h9 => ?_) (fun h9 => ?_)
    · rw [if_neg (by omega)] at hj
      obtain ⟨hg, he⟩ := joe_nn s0 (by omega : 0 ≤ joe tx ty s)
      have hg1 := hg.1
      have hg2 := hg.2.1
      refine zr_iload_n dX7_error_16 (rfl : 16 + 1 = 17) rfl ?_
      refine zr_istore_n (lv' := [_, _, _]) dX7_error_17 (rfl : 17 + 1 = 18) (Nat.le_of_ble_eq_true rfl) rfl ?_
      refine zr_iload_n dX7_error_18 (rfl : 18 + 1 = 19) rfl ?_
      refine zr_aload_n dX7_error_19 (rfl : 19 + 1 = 20) rfl ?_
      refine zr_getf dX7_error_20 (rfl : 20 + 3 = 23) f_X7_121 (by first | assumption | exact mw_167 | exact mw_168 | exact mw_169 | exact mw_170 | exact bk_0 | exact bk_1 | exact bk_2 | exact bk_3 | exact bk_4 | exact bk_5 | exact bk_6 | exact bk_7 | exact bk_8 | exact bk_9 | exact bk_10 | exact bk_11 | exact bk_12 | exact bk_13 | exact bk_14 | exact bk_15 | exact bk_16 | exact zup_self | exact (zup_ne (by first | assumption | omega)).trans (by first | assumption | exact zup_self) | exact (zup_ne (by first | assumption | omega)).trans ((zup_ne (by first | assumption | omega)).trans (by first | assumption | exact zup_self)) | exact (bk_out (by first | omega | (simp only [bset, reduceIte, Nat.reduceEqDiff]; omega))).trans (by first | exact bk_0 | exact bk_1 | exact bk_2 | exact bk_3 | exact bk_4 | exact bk_5 | exact bk_6 | exact bk_7 | exact bk_8 | exact bk_9 | exact bk_10 | exact bk_11 | exact bk_12 | exact bk_13 | exact bk_14 | exact bk_15 | exact bk_16 | exact cr_5 | exact cr_23 | exact cr_24 | exact cr_25 | exact cr_26 | exact cr_27 | exact cr_28 | exact cr_29 | exact cr_30 | assumption)) rfl ?_
      refine zr_icmp_lt (tgt := 2) dX7_error_23 (by decide) (rfl : 23 + 3 = 26) (jI_lt (by first | omega | (simp only [bset, reduceIte, Nat.reduceEqDiff]; omega)) (by first | omega | (simp only [bset, reduceIte, Nat.reduceEqDiff]; omega)) (by first | omega | (simp only [bset, reduceIte, Nat.reduceEqDiff]; omega)) (by first | omega | (simp only [bset, reduceIte, Nat.reduceEqDiff]; omega))) (fun h23 => ?_) (fun h23 => ?_)
      · rw [if_pos h23] at hj
        exact hk _ _ ⟨hj, by omega, by omega, by omega⟩
      · rw [if_neg h23] at hj
        rw [← hj]
        refine zr_iconst dX7_error_26 (rfl : 26 + 1 = 27) ?_
        refine zr_iret dX7_error_27 rfl rfl ?_ rfl rfl rfl
        first | rfl | rw [jb_pos (by first | assumption | omega)] | rw [jb_neg (by first | assumption | omega)] | rw [if_pos (by first | assumption | omega)] | rw [if_neg (by first | assumption | omega)]
    · rw [if_pos (by omega)] at hj
      rw [← hj]
      refine zr_iconst dX7_error_12 (rfl : 12 + 1 = 13) ?_
      refine zr_iload_n dX7_error_13 (rfl : 13 + 1 = 14) rfl ?_
      refine zr_isub dX7_error_14 (rfl : 14 + 1 = 15) (by first | exact jI_sub _ _ | rfl) ?_
      refine zr_iret dX7_error_15 rfl rfl ?_ rfl rfl rfl
      first | rfl | rw [jb_pos (by first | assumption | omega)] | rw [jb_neg (by first | assumption | omega)] | rw [if_pos (by first | assumption | omega)] | rw [if_neg (by first | assumption | omega)]
  · intro s o hI
    obtain ⟨hj, s0, s1, hf⟩ := hI
    exfalso
    omega
theorem m_firstError (hy : 0 ≤ ty ∧ ty ≤ 60) (hT : ∀ z, 0 ≤ tx z ∧ tx z ≤ 126) : zFn Γ md_X7_firstError (d + 3) [.ref 167] (mw S st ik th tx ty w) (some (.int (jI (jfw tx ty ty.toNat 0 0)))) (mw S st ik 0 tx ty w) := by
  have hr := jfw_r (T := tx) (L := ty) ty.toNat 0 0 (by omega) (by omega) hy.1
  rw [jfw_all hy] at hr ⊢
  have hjr : -1 ≤ jer tx ty 61 0 ∧ jer tx ty 61 0 ≤ 60 := by
    by_cases hn : jer tx ty 61 0 < 0
    · refine ⟨?_, by omega⟩
      have h2 : ∀ (n : Nat) (s : Int), 0 ≤ s → -1 ≤ jer tx ty n s := by
        intro n
        induction n with
        | zero => exact fun s _ => by show -1 ≤ ty; omega
        | succ n ih =>
          intro s hs
          rw [jer_succ]
          split
          · omega
          · split
            · exact ih _ (by omega)
            · decide
      exact h2 61 0 (by decide)
    · rw [if_neg hn] at hr
      omega
  refine zFn.of_run (lv := [some (.ref 167), none]) (by decide) rfl (Nat.le_of_ble_eq_true rfl) rfl (fun n9 g9 => ?_)
  refine zr_aload_n dX7_firstError_0 (rfl : 0 + 1 = 1) rfl ?_
  refine zr_iconst dX7_firstError_1 (rfl : 1 + 1 = 2) ?_
  refine zr_putf (fs' := [_, _, _, _, _, _]) dX7_firstError_2 (rfl : 2 + 3 = 5) f_X7_21 ft_7_3 (by first | assumption | exact mw_167 | exact mw_168 | exact mw_169 | exact mw_170 | exact bk_0 | exact bk_1 | exact bk_2 | exact bk_3 | exact bk_4 | exact bk_5 | exact bk_6 | exact bk_7 | exact bk_8 | exact bk_9 | exact bk_10 | exact bk_11 | exact bk_12 | exact bk_13 | exact bk_14 | exact bk_15 | exact bk_16 | exact zup_self | exact (zup_ne (by first | assumption | omega)).trans (by first | assumption | exact zup_self) | exact (zup_ne (by first | assumption | omega)).trans ((zup_ne (by first | assumption | omega)).trans (by first | assumption | exact zup_self)) | exact (bk_out (by first | omega | (simp only [bset, reduceIte, Nat.reduceEqDiff]; omega))).trans (by first | exact bk_0 | exact bk_1 | exact bk_2 | exact bk_3 | exact bk_4 | exact bk_5 | exact bk_6 | exact bk_7 | exact bk_8 | exact bk_9 | exact bk_10 | exact bk_11 | exact bk_12 | exact bk_13 | exact bk_14 | exact bk_15 | exact bk_16 | exact cr_5 | exact cr_23 | exact cr_24 | exact cr_25 | exact cr_26 | exact cr_27 | exact cr_28 | exact cr_29 | exact cr_30 | assumption)) (Nat.le_of_ble_eq_true rfl) rfl rfl rfl ?_
  rw [mwu_o]
  refine zr_aload_n dX7_firstError_5 (rfl : 5 + 1 = 6) rfl ?_
  refine zr_fnV dX7_firstError_6 (rfl : 6 + 3 = 9) l_X7_134 (m_error hy hT) (by first | assumption | exact mw_167 | exact mw_168 | exact mw_169 | exact mw_170 | exact bk_0 | exact bk_1 | exact bk_2 | exact bk_3 | exact bk_4 | exact bk_5 | exact bk_6 | exact bk_7 | exact bk_8 | exact bk_9 | exact bk_10 | exact bk_11 | exact bk_12 | exact bk_13 | exact bk_14 | exact bk_15 | exact bk_16 | exact zup_self | exact (zup_ne (by first | assumption | omega)).trans (by first | assumption | exact zup_self) | exact (zup_ne (by first | assumption | omega)).trans ((zup_ne (by first | assumption | omega)).trans (by first | assumption | exact zup_self)) | exact (bk_out (by first | omega | (simp only [bset, reduceIte, Nat.reduceEqDiff]; omega))).trans (by first | exact bk_0 | exact bk_1 | exact bk_2 | exact bk_3 | exact bk_4 | exact bk_5 | exact bk_6 | exact bk_7 | exact bk_8 | exact bk_9 | exact bk_10 | exact bk_11 | exact bk_12 | exact bk_13 | exact bk_14 | exact bk_15 | exact bk_16 | exact cr_5 | exact cr_23 | exact cr_24 | exact cr_25 | exact cr_26 | exact cr_27 | exact cr_28 | exact cr_29 | exact cr_30 | assumption)) rfl rfl rfl (Nat.le_of_ble_eq_true rfl) ?_
  refine zr_istore_n (lv' := [_, _]) dX7_firstError_9 (rfl : 9 + 1 = 10) (Nat.le_of_ble_eq_true rfl) rfl ?_
  generalize jer tx ty 61 0 = E at hr hjr ⊢
  refine zr_iload_n dX7_firstError_10 (rfl : 10 + 1 = 11) rfl ?_
  refine zr_if_ge (tgt := 21) dX7_firstError_11 (by decide) (rfl : 11 + 3 = 14) (jI_gez (by first | omega | (simp only [bset, reduceIte, Nat.reduceEqDiff]; omega)) (by first | omega | (simp only [bset, reduceIte, Nat.reduceEqDiff]; omega))) (fun h11 => ?_) (fun h11 => ?_)
  · first
    | (exfalso; omega)
    | (
      refine zr_iload_n dX7_firstError_21 (rfl : 21 + 1 = 22) rfl ?_
      refine zr_iret dX7_firstError_22 rfl rfl ?_ rfl rfl rfl
      first | (rw [if_pos (by omega)]; done) | (rw [if_neg (by omega)]; done))
  · first
    | (exfalso; omega)
    | (
      refine zr_aload_n dX7_firstError_14 (rfl : 14 + 1 = 15) rfl ?_
      refine zr_getf dX7_firstError_15 (rfl : 15 + 3 = 18) f_X7_121 (by first | assumption | exact mw_167 | exact mw_168 | exact mw_169 | exact mw_170 | exact bk_0 | exact bk_1 | exact bk_2 | exact bk_3 | exact bk_4 | exact bk_5 | exact bk_6 | exact bk_7 | exact bk_8 | exact bk_9 | exact bk_10 | exact bk_11 | exact bk_12 | exact bk_13 | exact bk_14 | exact bk_15 | exact bk_16 | exact zup_self | exact (zup_ne (by first | assumption | omega)).trans (by first | assumption | exact zup_self) | exact (zup_ne (by first | assumption | omega)).trans ((zup_ne (by first | assumption | omega)).trans (by first | assumption | exact zup_self)) | exact (bk_out (by first | omega | (simp only [bset, reduceIte, Nat.reduceEqDiff]; omega))).trans (by first | exact bk_0 | exact bk_1 | exact bk_2 | exact bk_3 | exact bk_4 | exact bk_5 | exact bk_6 | exact bk_7 | exact bk_8 | exact bk_9 | exact bk_10 | exact bk_11 | exact bk_12 | exact bk_13 | exact bk_14 | exact bk_15 | exact bk_16 | exact cr_5 | exact cr_23 | exact cr_24 | exact cr_25 | exact cr_26 | exact cr_27 | exact cr_28 | exact cr_29 | exact cr_30 | assumption)) rfl ?_
      refine zr_goto (tgt := 22) dX7_firstError_18 (by decide) ?_
      refine zr_iret dX7_firstError_22 rfl rfl ?_ rfl rfl rfl
      first | (rw [if_pos (by omega)]; done) | (rw [if_neg (by omega)]; done))
/-! orders that are done -/
theorem jpk_fl1 {c k : Int} (h : jpk B) : jpk (jfl1 c B k).1 := by
  unfold jfl1
  split
  · exact h
  · split
    · exact h
    · exact h
theorem jpk_flB {c : Int} (h : jpk B) : ∀ n : Nat, jpk (jflB c n B).1
  | 0 => h
  | n + 1 => by rw [jflB_succ]; exact jpk_fl1 (jpk_flB h n)
theorem jpk_pl {r n : Int} (h : jpk B) : jpk (jpl B r n) := by
  unfold jpl
  split
  · exact h
  · exact h
theorem jpk_drs (h : jpk B) : ∀ n : Nat, jpk (jdrs n B)
  | 0 => h
  | n + 1 => by
    show jpk (jdr1 (jdrs n B))
    have ih := jpk_drs h n
    unfold jdr1
    split
    · exact ih
    · exact ih
theorem jpk_sc {c g : Int} (h : jpk B) : jpk (jsc B c g) := by
  unfold jsc
  split
  · exact h
  · exact h
theorem jpk_end (h : jpk B) : jpk (jend B) := by
  have e : jend B 23 = B 23 := jpo_ne (by decide) (by decide) B 4
  show 1 ≤ jend B 23 0
  rw [e]
  exact h
theorem jpk_cp {B2 : zB} (h : jpk B2) : jpk (jcp B B2) := by
  have e : jcp B B2 23 = jcpy (B2 23) (B 23) 0 0 3 := rfl
  show 1 ≤ jcp B B2 23 0
  rw [e, jcpy_at (by decide)]
  exact h
theorem jpk_do {T : Int → Int} {L s : Int} (h : jpk B) : jpk (jdo T L s B).1 := by
  unfold jdo
  by_cases a1 : jca T L s = 98
  · rw [if_pos a1]
    split
    · exact h
    · exact h
  · rw [if_neg a1]
    by_cases a2 : jca T L s = 100
    · rw [if_pos a2]
      split
      · exact jpk_drs h _
      · exact h
    · rw [if_neg a2]
      by_cases a3 : jca T L s = 112
      · rw [if_pos a3]
        exact jpk_pl h
      · rw [if_neg a3]
        split
        · exact jpk_sc h
        · exact h
theorem jlk_do {T : Int → Int} {L s : Int} (hg : jgo T L s) (h0 : 0 ≤ s) (ok : jok B) (lk : jlk B) : jlk (jdo T L s B).1 := by
  unfold jdo
  rcases jgo_1 hg h0 with hc | hc | hc | hc
  · have hb := jgo_b hg hc
    rw [if_pos hc]
    split
    · rename_i hf
      exact jlk_sell ok lk hb hf
    · exact lk
  · have hb := jgo_c hg hc
    rw [if_neg (by omega), if_neg (by omega), if_neg (by omega)]
    split
    · rename_i hf
      exact jlk_sc ok lk hb.1 hb.2 hf
    · exact lk
  · have hb := jgo_d hg hc
    rw [if_neg (by omega), if_pos hc]
    split
    · have := ok.ds
      exact jlk_drs ok lk _ (by omega)
    · exact lk
  · have hb := jgo_p hg hc
    rw [if_neg (by omega), if_neg (by omega), if_pos hc]
    exact jlk_pl ok lk (by omega) hb.2.2.2.2
theorem m_does (s : Int) (hg : jgo tx ty s) (hs : 0 ≤ s) (hy : 0 ≤ ty ∧ ty ≤ 60) (hT : ∀ z, 0 ≤ tx z ∧ tx z ≤ 126) (h : mr S 0 B) (ok : jok B) (lk : jlk B) (pk : jpk B) : zFe Γ md_X7_does (d + 5) [.ref 167, .int (jI s)] (mw S st ik th tx ty w) (zMP (some (.int (jI (jdo tx ty s B).2))) (fun S' => jagb 0 S' S ∧ mr S' 0 (jdo tx ty s B).1) st ik th tx ty w) := by
  have hl := hg.2.1
  have hl1 := hg.1
  have hTs := hT s
  have e : jca tx ty s = tx s := if_pos ⟨hs, by omega⟩
  have hca := h.ca0
  have hco := ok.ca
  have hds := ok.ds
  have hpk : 1 ≤ B 23 0 := pk
  have hpo := ok.po2
  have hse := ok.se 0
  have q1 := jca_r (L := ty) hT (s + 1)
  have q2 := jca_r (L := ty) hT (s + 2)
  unfold jdo
  rcases jgo_1 hg hs with hc | hc | hc | hc
  · have hb := jgo_b hg hc
    have h2 : jol (jca tx ty s) = 2 := by rw [hc]; rfl
    rw [if_pos hc]
    rw [e] at hc
    generalize hD : jca tx ty (s + 1) - 48 = D at hb ⊢
    have hfig := m_figure (Γ := Γ) (d := d + 4) (S := S) (st := st) (ik := ik) (th := th) (tx := tx) (w := w) (s + 1) ⟨by omega, by omega⟩ hy
    rw [hD] at hfig
    by_cases hf : jfs B D
    · rw [if_pos hf]
      refine zFe.of_run (lv := [some (.ref 167), some (.int (jI s)), none]) (by decide) rfl (Nat.le_of_ble_eq_true rfl) rfl (fun n9 g9 => ?_)
      refine zr_aload_n dX7_does_0 (rfl : 0 + 1 = 1) rfl ?_
      refine zr_iload_n dX7_does_1 (rfl : 1 + 1 = 2) rfl ?_
      refine zr_iconst dX7_does_2 (rfl : 2 + 1 = 3) ?_
      refine zr_iadd dX7_does_3 (rfl : 3 + 1 = 4) (by first | exact jI_add _ _ | rfl) ?_
      refine zr_fnV dX7_does_4 (rfl : 4 + 3 = 7) l_X7_137 (hfig) (by first | assumption | exact mw_167 | exact mw_168 | exact mw_169 | exact mw_170 | exact bk_0 | exact bk_1 | exact bk_2 | exact bk_3 | exact bk_4 | exact bk_5 | exact bk_6 | exact bk_7 | exact bk_8 | exact bk_9 | exact bk_10 | exact bk_11 | exact bk_12 | exact bk_13 | exact bk_14 | exact bk_15 | exact bk_16 | exact zup_self | exact (zup_ne (by first | assumption | omega)).trans (by first | assumption | exact zup_self) | exact (zup_ne (by first | assumption | omega)).trans ((zup_ne (by first | assumption | omega)).trans (by first | assumption | exact zup_self)) | exact (bk_out (by first | omega | (simp only [bset, reduceIte, Nat.reduceEqDiff]; omega))).trans (by first | exact bk_0 | exact bk_1 | exact bk_2 | exact bk_3 | exact bk_4 | exact bk_5 | exact bk_6 | exact bk_7 | exact bk_8 | exact bk_9 | exact bk_10 | exact bk_11 | exact bk_12 | exact bk_13 | exact bk_14 | exact bk_15 | exact bk_16 | exact cr_5 | exact cr_23 | exact cr_24 | exact cr_25 | exact cr_26 | exact cr_27 | exact cr_28 | exact cr_29 | exact cr_30 | assumption)) rfl rfl rfl (Nat.le_of_ble_eq_true rfl) ?_
      refine zr_istore_n (lv' := [_, _, _]) dX7_does_7 (rfl : 7 + 1 = 8) (Nat.le_of_ble_eq_true rfl) rfl ?_
      refine zr_aload_n dX7_does_8 (rfl : 8 + 1 = 9) rfl ?_
      refine zr_getf dX7_does_9 (rfl : 9 + 3 = 12) f_X7_17 (by first | assumption | exact mw_167 | exact mw_168 | exact mw_169 | exact mw_170 | exact bk_0 | exact bk_1 | exact bk_2 | exact bk_3 | exact bk_4 | exact bk_5 | exact bk_6 | exact bk_7 | exact bk_8 | exact bk_9 | exact bk_10 | exact bk_11 | exact bk_12 | exact bk_13 | exact bk_14 | exact bk_15 | exact bk_16 | exact zup_self | exact (zup_ne (by first | assumption | omega)).trans (by first | assumption | exact zup_self) | exact (zup_ne (by first | assumption | omega)).trans ((zup_ne (by first | assumption | omega)).trans (by first | assumption | exact zup_self)) | exact (bk_out (by first | omega | (simp only [bset, reduceIte, Nat.reduceEqDiff]; omega))).trans (by first | exact bk_0 | exact bk_1 | exact bk_2 | exact bk_3 | exact bk_4 | exact bk_5 | exact bk_6 | exact bk_7 | exact bk_8 | exact bk_9 | exact bk_10 | exact bk_11 | exact bk_12 | exact bk_13 | exact bk_14 | exact bk_15 | exact bk_16 | exact cr_5 | exact cr_23 | exact cr_24 | exact cr_25 | exact cr_26 | exact cr_27 | exact cr_28 | exact cr_29 | exact cr_30 | assumption)) rfl ?_
      refine zr_iload_n dX7_does_12 (rfl : 12 + 1 = 13) rfl ?_
      refine zr_cald dX7_does_13 (rfl : 13 + 1 = 14) (by first | assumption | exact mw_167 | exact mw_168 | exact mw_169 | exact mw_170 | exact bk_0 | exact bk_1 | exact bk_2 | exact bk_3 | exact bk_4 | exact bk_5 | exact bk_6 | exact bk_7 | exact bk_8 | exact bk_9 | exact bk_10 | exact bk_11 | exact bk_12 | exact bk_13 | exact bk_14 | exact bk_15 | exact bk_16 | exact zup_self | exact (zup_ne (by first | assumption | omega)).trans (by first | assumption | exact zup_self) | exact (zup_ne (by first | assumption | omega)).trans ((zup_ne (by first | assumption | omega)).trans (by first | assumption | exact zup_self)) | exact (bk_out (by first | omega | (simp only [bset, reduceIte, Nat.reduceEqDiff]; omega))).trans (by first | exact bk_0 | exact bk_1 | exact bk_2 | exact bk_3 | exact bk_4 | exact bk_5 | exact bk_6 | exact bk_7 | exact bk_8 | exact bk_9 | exact bk_10 | exact bk_11 | exact bk_12 | exact bk_13 | exact bk_14 | exact bk_15 | exact bk_16 | exact cr_5 | exact cr_23 | exact cr_24 | exact cr_25 | exact cr_26 | exact cr_27 | exact cr_28 | exact cr_29 | exact cr_30 | assumption)) (by decide) (by first | omega | (simp only [bset, reduceIte, Nat.reduceEqDiff]; omega)) (by first | omega | (simp only [bset, reduceIte, Nat.reduceEqDiff]; omega)) ?_
      refine zr_bipush dX7_does_14 (rfl : 14 + 2 = 16) (by decide) ?_
      refine zr_icmp_ne (tgt := 58) dX7_does_16 (by decide) (rfl : 16 + 3 = 19) (jI_eq (by first | omega | (simp only [bset, reduceIte, Nat.reduceEqDiff]; omega)) (by first | omega | (simp only [bset, reduceIte, Nat.reduceEqDiff]; omega)) (by first | omega | (simp only [bset, reduceIte, Nat.reduceEqDiff]; omega)) (by first | omega | (simp only [bset, reduceIte, Nat.reduceEqDiff]; omega))) (fun h16 => ?_) (fun h16 => ?_)
      · first
        | (exfalso; omega)
        | (
          refine zr_aload_n dX7_does_58 (rfl : 58 + 1 = 59) rfl ?_
          refine zr_getf dX7_does_59 (rfl : 59 + 3 = 62) f_X7_17 (by first | assumption | exact mw_167 | exact mw_168 | exact mw_169 | exact mw_170 | exact bk_0 | exact bk_1 | exact bk_2 | exact bk_3 | exact bk_4 | exact bk_5 | exact bk_6 | exact bk_7 | exact bk_8 | exact bk_9 | exact bk_10 | exact bk_11 | exact bk_12 | exact bk_13 | exact bk_14 | exact bk_15 | exact bk_16 | exact zup_self | exact (zup_ne (by first | assumption | omega)).trans (by first | assumption | exact zup_self) | exact (zup_ne (by first | assumption | omega)).trans ((zup_ne (by first | assumption | omega)).trans (by first | assumption | exact zup_self)) | exact (bk_out (by first | omega | (simp only [bset, reduceIte, Nat.reduceEqDiff]; omega))).trans (by first | exact bk_0 | exact bk_1 | exact bk_2 | exact bk_3 | exact bk_4 | exact bk_5 | exact bk_6 | exact bk_7 | exact bk_8 | exact bk_9 | exact bk_10 | exact bk_11 | exact bk_12 | exact bk_13 | exact bk_14 | exact bk_15 | exact bk_16 | exact cr_5 | exact cr_23 | exact cr_24 | exact cr_25 | exact cr_26 | exact cr_27 | exact cr_28 | exact cr_29 | exact cr_30 | assumption)) rfl ?_
          refine zr_iload_n dX7_does_62 (rfl : 62 + 1 = 63) rfl ?_
          refine zr_cald dX7_does_63 (rfl : 63 + 1 = 64) (by first | assumption | exact mw_167 | exact mw_168 | exact mw_169 | exact mw_170 | exact bk_0 | exact bk_1 | exact bk_2 | exact bk_3 | exact bk_4 | exact bk_5 | exact bk_6 | exact bk_7 | exact bk_8 | exact bk_9 | exact bk_10 | exact bk_11 | exact bk_12 | exact bk_13 | exact bk_14 | exact bk_15 | exact bk_16 | exact zup_self | exact (zup_ne (by first | assumption | omega)).trans (by first | assumption | exact zup_self) | exact (zup_ne (by first | assumption | omega)).trans ((zup_ne (by first | assumption | omega)).trans (by first | assumption | exact zup_self)) | exact (bk_out (by first | omega | (simp only [bset, reduceIte, Nat.reduceEqDiff]; omega))).trans (by first | exact bk_0 | exact bk_1 | exact bk_2 | exact bk_3 | exact bk_4 | exact bk_5 | exact bk_6 | exact bk_7 | exact bk_8 | exact bk_9 | exact bk_10 | exact bk_11 | exact bk_12 | exact bk_13 | exact bk_14 | exact bk_15 | exact bk_16 | exact cr_5 | exact cr_23 | exact cr_24 | exact cr_25 | exact cr_26 | exact cr_27 | exact cr_28 | exact cr_29 | exact cr_30 | assumption)) (by decide) (by first | omega | (simp only [bset, reduceIte, Nat.reduceEqDiff]; omega)) (by first | omega | (simp only [bset, reduceIte, Nat.reduceEqDiff]; omega)) ?_
          refine zr_bipush dX7_does_64 (rfl : 64 + 2 = 66) (by decide) ?_
          refine zr_icmp_ne (tgt := 91) dX7_does_66 (by decide) (rfl : 66 + 3 = 69) (jI_eq (by first | omega | (simp only [bset, reduceIte, Nat.reduceEqDiff]; omega)) (by first | omega | (simp only [bset, reduceIte, Nat.reduceEqDiff]; omega)) (by first | omega | (simp only [bset, reduceIte, Nat.reduceEqDiff]; omega)) (by first | omega | (simp only [bset, reduceIte, Nat.reduceEqDiff]; omega))) (fun h66 => ?_) (fun h66 => ?_)
          · first
            | (exfalso; omega)
            | (
              exfalso
              omega)
          · first
            | (exfalso; omega)
            | (
              refine zr_aload_n dX7_does_69 (rfl : 69 + 1 = 70) rfl ?_
              refine zr_iload_n dX7_does_70 (rfl : 70 + 1 = 71) rfl ?_
              refine zr_fnV dX7_does_71 (rfl : 71 + 3 = 74) l_X7_84 (m_canBuy D hb h ok lk) (by first | assumption | exact mw_167 | exact mw_168 | exact mw_169 | exact mw_170 | exact bk_0 | exact bk_1 | exact bk_2 | exact bk_3 | exact bk_4 | exact bk_5 | exact bk_6 | exact bk_7 | exact bk_8 | exact bk_9 | exact bk_10 | exact bk_11 | exact bk_12 | exact bk_13 | exact bk_14 | exact bk_15 | exact bk_16 | exact zup_self | exact (zup_ne (by first | assumption | omega)).trans (by first | assumption | exact zup_self) | exact (zup_ne (by first | assumption | omega)).trans ((zup_ne (by first | assumption | omega)).trans (by first | assumption | exact zup_self)) | exact (bk_out (by first | omega | (simp only [bset, reduceIte, Nat.reduceEqDiff]; omega))).trans (by first | exact bk_0 | exact bk_1 | exact bk_2 | exact bk_3 | exact bk_4 | exact bk_5 | exact bk_6 | exact bk_7 | exact bk_8 | exact bk_9 | exact bk_10 | exact bk_11 | exact bk_12 | exact bk_13 | exact bk_14 | exact bk_15 | exact bk_16 | exact cr_5 | exact cr_23 | exact cr_24 | exact cr_25 | exact cr_26 | exact cr_27 | exact cr_28 | exact cr_29 | exact cr_30 | assumption)) rfl rfl rfl (Nat.le_of_ble_eq_true rfl) ?_
              refine zr_if_eq (tgt := 89) dX7_does_74 (by decide) (rfl : 74 + 3 = 77) (by first | exact jb_iff | exact jI_z (by first | omega | (simp only [bset, reduceIte, Nat.reduceEqDiff]; omega)) (by first | omega | (simp only [bset, reduceIte, Nat.reduceEqDiff]; omega))) (fun h74 => ?_) (fun h74 => ?_)
              · first
                | (exfalso; omega)
                | (
                  refine zr_iconst dX7_does_89 (rfl : 89 + 1 = 90) ?_
                  refine zr_ireE dX7_does_90 rfl (by first | exact jb_nar | rfl) ?_
                  first | (exfalso; omega) | exact ⟨rfl, _, hS79, rfl⟩)
              · first
                | (exfalso; omega)
                | (
                  refine zr_aload_n dX7_does_77 (rfl : 77 + 1 = 78) rfl ?_
                  refine zr_iload_n dX7_does_78 (rfl : 78 + 1 = 79) rfl ?_
                  refine zr_feV dX7_does_79 (rfl : 79 + 3 = 82) l_X7_87 (m_buys D hb h ok) (by first | assumption | exact mw_167 | exact mw_168 | exact mw_169 | exact mw_170 | exact bk_0 | exact bk_1 | exact bk_2 | exact bk_3 | exact bk_4 | exact bk_5 | exact bk_6 | exact bk_7 | exact bk_8 | exact bk_9 | exact bk_10 | exact bk_11 | exact bk_12 | exact bk_13 | exact bk_14 | exact bk_15 | exact bk_16 | exact zup_self | exact (zup_ne (by first | assumption | omega)).trans (by first | assumption | exact zup_self) | exact (zup_ne (by first | assumption | omega)).trans ((zup_ne (by first | assumption | omega)).trans (by first | assumption | exact zup_self)) | exact (bk_out (by first | omega | (simp only [bset, reduceIte, Nat.reduceEqDiff]; omega))).trans (by first | exact bk_0 | exact bk_1 | exact bk_2 | exact bk_3 | exact bk_4 | exact bk_5 | exact bk_6 | exact bk_7 | exact bk_8 | exact bk_9 | exact bk_10 | exact bk_11 | exact bk_12 | exact bk_13 | exact bk_14 | exact bk_15 | exact bk_16 | exact cr_5 | exact cr_23 | exact cr_24 | exact cr_25 | exact cr_26 | exact cr_27 | exact cr_28 | exact cr_29 | exact cr_30 | assumption)) rfl rfl rfl (Nat.le_of_ble_eq_true rfl) ?_
                  rintro _ _ ⟨rfl, S79, hS79, rfl⟩
                  refine zr_if_le (tgt := 89) dX7_does_82 (by decide) (rfl : 82 + 3 = 85) (jI_lez (by first | omega | (simp only [bset, reduceIte, Nat.reduceEqDiff]; omega)) (by first | omega | (simp only [bset, reduceIte, Nat.reduceEqDiff]; omega))) (fun h82 => ?_) (fun h82 => ?_)
                  · first
                    | (exfalso; omega)
                    | (
                      refine zr_iconst dX7_does_89 (rfl : 89 + 1 = 90) ?_
                      refine zr_ireE dX7_does_90 rfl (by first | exact jb_nar | rfl) ?_
                      first | (exfalso; omega) | exact ⟨rfl, _, hS79, rfl⟩)
                  · first
                    | (exfalso; omega)
                    | (
                      refine zr_iconst dX7_does_85 (rfl : 85 + 1 = 86) ?_
                      refine zr_goto (tgt := 90) dX7_does_86 (by decide) ?_
                      refine zr_ireE dX7_does_90 rfl (by first | exact jb_nar | rfl) ?_
                      first | (exfalso; omega) | exact ⟨rfl, _, hS79, rfl⟩))))
      · first
        | (exfalso; omega)
        | (
          exfalso
          omega)
    · rw [if_neg hf]
      refine zFe.of_run (lv := [some (.ref 167), some (.int (jI s)), none]) (by decide) rfl (Nat.le_of_ble_eq_true rfl) rfl (fun n9 g9 => ?_)
      refine zr_aload_n dX7_does_0 (rfl : 0 + 1 = 1) rfl ?_
      refine zr_iload_n dX7_does_1 (rfl : 1 + 1 = 2) rfl ?_
      refine zr_iconst dX7_does_2 (rfl : 2 + 1 = 3) ?_
      refine zr_iadd dX7_does_3 (rfl : 3 + 1 = 4) (by first | exact jI_add _ _ | rfl) ?_
      refine zr_fnV dX7_does_4 (rfl : 4 + 3 = 7) l_X7_137 (hfig) (by first | assumption | exact mw_167 | exact mw_168 | exact mw_169 | exact mw_170 | exact bk_0 | exact bk_1 | exact bk_2 | exact bk_3 | exact bk_4 | exact bk_5 | exact bk_6 | exact bk_7 | exact bk_8 | exact bk_9 | exact bk_10 | exact bk_11 | exact bk_12 | exact bk_13 | exact bk_14 | exact bk_15 | exact bk_16 | exact zup_self | exact (zup_ne (by first | assumption | omega)).trans (by first | assumption | exact zup_self) | exact (zup_ne (by first | assumption | omega)).trans ((zup_ne (by first | assumption | omega)).trans (by first | assumption | exact zup_self)) | exact (bk_out (by first | omega | (simp only [bset, reduceIte, Nat.reduceEqDiff]; omega))).trans (by first | exact bk_0 | exact bk_1 | exact bk_2 | exact bk_3 | exact bk_4 | exact bk_5 | exact bk_6 | exact bk_7 | exact bk_8 | exact bk_9 | exact bk_10 | exact bk_11 | exact bk_12 | exact bk_13 | exact bk_14 | exact bk_15 | exact bk_16 | exact cr_5 | exact cr_23 | exact cr_24 | exact cr_25 | exact cr_26 | exact cr_27 | exact cr_28 | exact cr_29 | exact cr_30 | assumption)) rfl rfl rfl (Nat.le_of_ble_eq_true rfl) ?_
      refine zr_istore_n (lv' := [_, _, _]) dX7_does_7 (rfl : 7 + 1 = 8) (Nat.le_of_ble_eq_true rfl) rfl ?_
      refine zr_aload_n dX7_does_8 (rfl : 8 + 1 = 9) rfl ?_
      refine zr_getf dX7_does_9 (rfl : 9 + 3 = 12) f_X7_17 (by first | assumption | exact mw_167 | exact mw_168 | exact mw_169 | exact mw_170 | exact bk_0 | exact bk_1 | exact bk_2 | exact bk_3 | exact bk_4 | exact bk_5 | exact bk_6 | exact bk_7 | exact bk_8 | exact bk_9 | exact bk_10 | exact bk_11 | exact bk_12 | exact bk_13 | exact bk_14 | exact bk_15 | exact bk_16 | exact zup_self | exact (zup_ne (by first | assumption | omega)).trans (by first | assumption | exact zup_self) | exact (zup_ne (by first | assumption | omega)).trans ((zup_ne (by first | assumption | omega)).trans (by first | assumption | exact zup_self)) | exact (bk_out (by first | omega | (simp only [bset, reduceIte, Nat.reduceEqDiff]; omega))).trans (by first | exact bk_0 | exact bk_1 | exact bk_2 | exact bk_3 | exact bk_4 | exact bk_5 | exact bk_6 | exact bk_7 | exact bk_8 | exact bk_9 | exact bk_10 | exact bk_11 | exact bk_12 | exact bk_13 | exact bk_14 | exact bk_15 | exact bk_16 | exact cr_5 | exact cr_23 | exact cr_24 | exact cr_25 | exact cr_26 | exact cr_27 | exact cr_28 | exact cr_29 | exact cr_30 | assumption)) rfl ?_
      refine zr_iload_n dX7_does_12 (rfl : 12 + 1 = 13) rfl ?_
      refine zr_cald dX7_does_13 (rfl : 13 + 1 = 14) (by first | assumption | exact mw_167 | exact mw_168 | exact mw_169 | exact mw_170 | exact bk_0 | exact bk_1 | exact bk_2 | exact bk_3 | exact bk_4 | exact bk_5 | exact bk_6 | exact bk_7 | exact bk_8 | exact bk_9 | exact bk_10 | exact bk_11 | exact bk_12 | exact bk_13 | exact bk_14 | exact bk_15 | exact bk_16 | exact zup_self | exact (zup_ne (by first | assumption | omega)).trans (by first | assumption | exact zup_self) | exact (zup_ne (by first | assumption | omega)).trans ((zup_ne (by first | assumption | omega)).trans (by first | assumption | exact zup_self)) | exact (bk_out (by first | omega | (simp only [bset, reduceIte, Nat.reduceEqDiff]; omega))).trans (by first | exact bk_0 | exact bk_1 | exact bk_2 | exact bk_3 | exact bk_4 | exact bk_5 | exact bk_6 | exact bk_7 | exact bk_8 | exact bk_9 | exact bk_10 | exact bk_11 | exact bk_12 | exact bk_13 | exact bk_14 | exact bk_15 | exact bk_16 | exact cr_5 | exact cr_23 | exact cr_24 | exact cr_25 | exact cr_26 | exact cr_27 | exact cr_28 | exact cr_29 | exact cr_30 | assumption)) (by decide) (by first | omega | (simp only [bset, reduceIte, Nat.reduceEqDiff]; omega)) (by first | omega | (simp only [bset, reduceIte, Nat.reduceEqDiff]; omega)) ?_
      refine zr_bipush dX7_does_14 (rfl : 14 + 2 = 16) (by decide) ?_
      refine zr_icmp_ne (tgt := 58) dX7_does_16 (by decide) (rfl : 16 + 3 = 19) (jI_eq (by first | omega | (simp only [bset, reduceIte, Nat.reduceEqDiff]; omega)) (by first | omega | (simp only [bset, reduceIte, Nat.reduceEqDiff]; omega)) (by first | omega | (simp only [bset, reduceIte, Nat.reduceEqDiff]; omega)) (by first | omega | (simp only [bset, reduceIte, Nat.reduceEqDiff]; omega))) (fun h16 => ?_) (fun h16 => ?_)
      · first
        | (exfalso; omega)
        | (
          refine zr_aload_n dX7_does_58 (rfl : 58 + 1 = 59) rfl ?_
          refine zr_getf dX7_does_59 (rfl : 59 + 3 = 62) f_X7_17 (by first | assumption | exact mw_167 | exact mw_168 | exact mw_169 | exact mw_170 | exact bk_0 | exact bk_1 | exact bk_2 | exact bk_3 | exact bk_4 | exact bk_5 | exact bk_6 | exact bk_7 | exact bk_8 | exact bk_9 | exact bk_10 | exact bk_11 | exact bk_12 | exact bk_13 | exact bk_14 | exact bk_15 | exact bk_16 | exact zup_self | exact (zup_ne (by first | assumption | omega)).trans (by first | assumption | exact zup_self) | exact (zup_ne (by first | assumption | omega)).trans ((zup_ne (by first | assumption | omega)).trans (by first | assumption | exact zup_self)) | exact (bk_out (by first | omega | (simp only [bset, reduceIte, Nat.reduceEqDiff]; omega))).trans (by first | exact bk_0 | exact bk_1 | exact bk_2 | exact bk_3 | exact bk_4 | exact bk_5 | exact bk_6 | exact bk_7 | exact bk_8 | exact bk_9 | exact bk_10 | exact bk_11 | exact bk_12 | exact bk_13 | exact bk_14 | exact bk_15 | exact bk_16 | exact cr_5 | exact cr_23 | exact cr_24 | exact cr_25 | exact cr_26 | exact cr_27 | exact cr_28 | exact cr_29 | exact cr_30 | assumption)) rfl ?_
          refine zr_iload_n dX7_does_62 (rfl : 62 + 1 = 63) rfl ?_
          refine zr_cald dX7_does_63 (rfl : 63 + 1 = 64) (by first | assumption | exact mw_167 | exact mw_168 | exact mw_169 | exact mw_170 | exact bk_0 | exact bk_1 | exact bk_2 | exact bk_3 | exact bk_4 | exact bk_5 | exact bk_6 | exact bk_7 | exact bk_8 | exact bk_9 | exact bk_10 | exact bk_11 | exact bk_12 | exact bk_13 | exact bk_14 | exact bk_15 | exact bk_16 | exact zup_self | exact (zup_ne (by first | assumption | omega)).trans (by first | assumption | exact zup_self) | exact (zup_ne (by first | assumption | omega)).trans ((zup_ne (by first | assumption | omega)).trans (by first | assumption | exact zup_self)) | exact (bk_out (by first | omega | (simp only [bset, reduceIte, Nat.reduceEqDiff]; omega))).trans (by first | exact bk_0 | exact bk_1 | exact bk_2 | exact bk_3 | exact bk_4 | exact bk_5 | exact bk_6 | exact bk_7 | exact bk_8 | exact bk_9 | exact bk_10 | exact bk_11 | exact bk_12 | exact bk_13 | exact bk_14 | exact bk_15 | exact bk_16 | exact cr_5 | exact cr_23 | exact cr_24 | exact cr_25 | exact cr_26 | exact cr_27 | exact cr_28 | exact cr_29 | exact cr_30 | assumption)) (by decide) (by first | omega | (simp only [bset, reduceIte, Nat.reduceEqDiff]; omega)) (by first | omega | (simp only [bset, reduceIte, Nat.reduceEqDiff]; omega)) ?_
          refine zr_bipush dX7_does_64 (rfl : 64 + 2 = 66) (by decide) ?_
          refine zr_icmp_ne (tgt := 91) dX7_does_66 (by decide) (rfl : 66 + 3 = 69) (jI_eq (by first | omega | (simp only [bset, reduceIte, Nat.reduceEqDiff]; omega)) (by first | omega | (simp only [bset, reduceIte, Nat.reduceEqDiff]; omega)) (by first | omega | (simp only [bset, reduceIte, Nat.reduceEqDiff]; omega)) (by first | omega | (simp only [bset, reduceIte, Nat.reduceEqDiff]; omega))) (fun h66 => ?_) (fun h66 => ?_)
          · first
            | (exfalso; omega)
            | (
              exfalso
              omega)
          · first
            | (exfalso; omega)
            | (
              refine zr_aload_n dX7_does_69 (rfl : 69 + 1 = 70) rfl ?_
              refine zr_iload_n dX7_does_70 (rfl : 70 + 1 = 71) rfl ?_
              refine zr_fnV dX7_does_71 (rfl : 71 + 3 = 74) l_X7_84 (m_canBuy D hb h ok lk) (by first | assumption | exact mw_167 | exact mw_168 | exact mw_169 | exact mw_170 | exact bk_0 | exact bk_1 | exact bk_2 | exact bk_3 | exact bk_4 | exact bk_5 | exact bk_6 | exact bk_7 | exact bk_8 | exact bk_9 | exact bk_10 | exact bk_11 | exact bk_12 | exact bk_13 | exact bk_14 | exact bk_15 | exact bk_16 | exact zup_self | exact (zup_ne (by first | assumption | omega)).trans (by first | assumption | exact zup_self) | exact (zup_ne (by first | assumption | omega)).trans ((zup_ne (by first | assumption | omega)).trans (by first | assumption | exact zup_self)) | exact (bk_out (by first | omega | (simp only [bset, reduceIte, Nat.reduceEqDiff]; omega))).trans (by first | exact bk_0 | exact bk_1 | exact bk_2 | exact bk_3 | exact bk_4 | exact bk_5 | exact bk_6 | exact bk_7 | exact bk_8 | exact bk_9 | exact bk_10 | exact bk_11 | exact bk_12 | exact bk_13 | exact bk_14 | exact bk_15 | exact bk_16 | exact cr_5 | exact cr_23 | exact cr_24 | exact cr_25 | exact cr_26 | exact cr_27 | exact cr_28 | exact cr_29 | exact cr_30 | assumption)) rfl rfl rfl (Nat.le_of_ble_eq_true rfl) ?_
              refine zr_if_eq (tgt := 89) dX7_does_74 (by decide) (rfl : 74 + 3 = 77) (by first | exact jb_iff | exact jI_z (by first | omega | (simp only [bset, reduceIte, Nat.reduceEqDiff]; omega)) (by first | omega | (simp only [bset, reduceIte, Nat.reduceEqDiff]; omega))) (fun h74 => ?_) (fun h74 => ?_)
              · first
                | (exfalso; omega)
                | (
                  refine zr_iconst dX7_does_89 (rfl : 89 + 1 = 90) ?_
                  refine zr_ireE dX7_does_90 rfl (by first | exact jb_nar | rfl) ?_
                  exact ⟨rfl, _, ⟨jagb.refl, h⟩, rfl⟩)
              · first
                | (exfalso; omega)
                | (
                  exfalso
                  omega)))
      · first
        | (exfalso; omega)
        | (
          exfalso
          omega)
  · have hb := jgo_c hg hc
    have h3 : jol (jca tx ty s) = 3 := by rw [hc]; rfl
    rw [if_neg (by omega), if_neg (by omega), if_neg (by omega)]
    rw [e] at hc
    generalize hD : jca tx ty (s + 1) - 48 = D at hb ⊢
    generalize hG : jca tx ty (s + 2) - 48 = G at hb ⊢
    have hfig := m_figure (Γ := Γ) (d := d + 4) (S := S) (st := st) (ik := ik) (th := th) (tx := tx) (w := w) (s + 1) ⟨by omega, by omega⟩ hy
    have hfig2 := m_figure (Γ := Γ) (d := d + 4) (S := S) (st := st) (ik := ik) (th := th) (tx := tx) (w := w) (s + 2) ⟨by omega, by omega⟩ hy
    rw [hD] at hfig
    rw [hG] at hfig2
    have hbo := h.bo0 D hb.1.1 hb.1.2
    have hbr := jbit_r (B 11 0) D
    have hjr := jrc_r B D G
    by_cases hf : jbit (B 11 0) D = 1
    · rw [if_pos hf]
      have hw := lk.bw D hb.1.1 hb.1.2 hf
      refine zFe.of_run (lv := [some (.ref 167), some (.int (jI s)), none]) (by decide) rfl (Nat.le_of_ble_eq_true rfl) rfl (fun n9 g9 => ?_)
      refine zr_aload_n dX7_does_0 (rfl : 0 + 1 = 1) rfl ?_
      refine zr_iload_n dX7_does_1 (rfl : 1 + 1 = 2) rfl ?_
      refine zr_iconst dX7_does_2 (rfl : 2 + 1 = 3) ?_
      refine zr_iadd dX7_does_3 (rfl : 3 + 1 = 4) (by first | exact jI_add _ _ | rfl) ?_
      refine zr_fnV dX7_does_4 (rfl : 4 + 3 = 7) l_X7_137 (hfig) (by first | assumption | exact mw_167 | exact mw_168 | exact mw_169 | exact mw_170 | exact bk_0 | exact bk_1 | exact bk_2 | exact bk_3 | exact bk_4 | exact bk_5 | exact bk_6 | exact bk_7 | exact bk_8 | exact bk_9 | exact bk_10 | exact bk_11 | exact bk_12 | exact bk_13 | exact bk_14 | exact bk_15 | exact bk_16 | exact zup_self | exact (zup_ne (by first | assumption | omega)).trans (by first | assumption | exact zup_self) | exact (zup_ne (by first | assumption | omega)).trans ((zup_ne (by first | assumption | omega)).trans (by first | assumption | exact zup_self)) | exact (bk_out (by first | omega | (simp only [bset, reduceIte, Nat.reduceEqDiff]; omega))).trans (by first | exact bk_0 | exact bk_1 | exact bk_2 | exact bk_3 | exact bk_4 | exact bk_5 | exact bk_6 | exact bk_7 | exact bk_8 | exact bk_9 | exact bk_10 | exact bk_11 | exact bk_12 | exact bk_13 | exact bk_14 | exact bk_15 | exact bk_16 | exact cr_5 | exact cr_23 | exact cr_24 | exact cr_25 | exact cr_26 | exact cr_27 | exact cr_28 | exact cr_29 | exact cr_30 | assumption)) rfl rfl rfl (Nat.le_of_ble_eq_true rfl) ?_
      refine zr_istore_n (lv' := [_, _, _]) dX7_does_7 (rfl : 7 + 1 = 8) (Nat.le_of_ble_eq_true rfl) rfl ?_
      refine zr_aload_n dX7_does_8 (rfl : 8 + 1 = 9) rfl ?_
      refine zr_getf dX7_does_9 (rfl : 9 + 3 = 12) f_X7_17 (by first | assumption | exact mw_167 | exact mw_168 | exact mw_169 | exact mw_170 | exact bk_0 | exact bk_1 | exact bk_2 | exact bk_3 | exact bk_4 | exact bk_5 | exact bk_6 | exact bk_7 | exact bk_8 | exact bk_9 | exact bk_10 | exact bk_11 | exact bk_12 | exact bk_13 | exact bk_14 | exact bk_15 | exact bk_16 | exact zup_self | exact (zup_ne (by first | assumption | omega)).trans (by first | assumption | exact zup_self) | exact (zup_ne (by first | assumption | omega)).trans ((zup_ne (by first | assumption | omega)).trans (by first | assumption | exact zup_self)) | exact (bk_out (by first | omega | (simp only [bset, reduceIte, Nat.reduceEqDiff]; omega))).trans (by first | exact bk_0 | exact bk_1 | exact bk_2 | exact bk_3 | exact bk_4 | exact bk_5 | exact bk_6 | exact bk_7 | exact bk_8 | exact bk_9 | exact bk_10 | exact bk_11 | exact bk_12 | exact bk_13 | exact bk_14 | exact bk_15 | exact bk_16 | exact cr_5 | exact cr_23 | exact cr_24 | exact cr_25 | exact cr_26 | exact cr_27 | exact cr_28 | exact cr_29 | exact cr_30 | assumption)) rfl ?_
      refine zr_iload_n dX7_does_12 (rfl : 12 + 1 = 13) rfl ?_
      refine zr_cald dX7_does_13 (rfl : 13 + 1 = 14) (by first | assumption | exact mw_167 | exact mw_168 | exact mw_169 | exact mw_170 | exact bk_0 | exact bk_1 | exact bk_2 | exact bk_3 | exact bk_4 | exact bk_5 | exact bk_6 | exact bk_7 | exact bk_8 | exact bk_9 | exact bk_10 | exact bk_11 | exact bk_12 | exact bk_13 | exact bk_14 | exact bk_15 | exact bk_16 | exact zup_self | exact (zup_ne (by first | assumption | omega)).trans (by first | assumption | exact zup_self) | exact (zup_ne (by first | assumption | omega)).trans ((zup_ne (by first | assumption | omega)).trans (by first | assumption | exact zup_self)) | exact (bk_out (by first | omega | (simp only [bset, reduceIte, Nat.reduceEqDiff]; omega))).trans (by first | exact bk_0 | exact bk_1 | exact bk_2 | exact bk_3 | exact bk_4 | exact bk_5 | exact bk_6 | exact bk_7 | exact bk_8 | exact bk_9 | exact bk_10 | exact bk_11 | exact bk_12 | exact bk_13 | exact bk_14 | exact bk_15 | exact bk_16 | exact cr_5 | exact cr_23 | exact cr_24 | exact cr_25 | exact cr_26 | exact cr_27 | exact cr_28 | exact cr_29 | exact cr_30 | assumption)) (by decide) (by first | omega | (simp only [bset, reduceIte, Nat.reduceEqDiff]; omega)) (by first | omega | (simp only [bset, reduceIte, Nat.reduceEqDiff]; omega)) ?_
      refine zr_bipush dX7_does_14 (rfl : 14 + 2 = 16) (by decide) ?_
      refine zr_icmp_ne (tgt := 58) dX7_does_16 (by decide) (rfl : 16 + 3 = 19) (jI_eq (by first | omega | (simp only [bset, reduceIte, Nat.reduceEqDiff]; omega)) (by first | omega | (simp only [bset, reduceIte, Nat.reduceEqDiff]; omega)) (by first | omega | (simp only [bset, reduceIte, Nat.reduceEqDiff]; omega)) (by first | omega | (simp only [bset, reduceIte, Nat.reduceEqDiff]; omega))) (fun h16 => ?_) (fun h16 => ?_)
      · first
        | (exfalso; omega)
        | (
          refine zr_aload_n dX7_does_58 (rfl : 58 + 1 = 59) rfl ?_
          refine zr_getf dX7_does_59 (rfl : 59 + 3 = 62) f_X7_17 (by first | assumption | exact mw_167 | exact mw_168 | exact mw_169 | exact mw_170 | exact bk_0 | exact bk_1 | exact bk_2 | exact bk_3 | exact bk_4 | exact bk_5 | exact bk_6 | exact bk_7 | exact bk_8 | exact bk_9 | exact bk_10 | exact bk_11 | exact bk_12 | exact bk_13 | exact bk_14 | exact bk_15 | exact bk_16 | exact zup_self | exact (zup_ne (by first | assumption | omega)).trans (by first | assumption | exact zup_self) | exact (zup_ne (by first | assumption | omega)).trans ((zup_ne (by first | assumption | omega)).trans (by first | assumption | exact zup_self)) | exact (bk_out (by first | omega | (simp only [bset, reduceIte, Nat.reduceEqDiff]; omega))).trans (by first | exact bk_0 | exact bk_1 | exact bk_2 | exact bk_3 | exact bk_4 | exact bk_5 | exact bk_6 | exact bk_7 | exact bk_8 | exact bk_9 | exact bk_10 | exact bk_11 | exact bk_12 | exact bk_13 | exact bk_14 | exact bk_15 | exact bk_16 | exact cr_5 | exact cr_23 | exact cr_24 | exact cr_25 | exact cr_26 | exact cr_27 | exact cr_28 | exact cr_29 | exact cr_30 | assumption)) rfl ?_
          refine zr_iload_n dX7_does_62 (rfl : 62 + 1 = 63) rfl ?_
          refine zr_cald dX7_does_63 (rfl : 63 + 1 = 64) (by first | assumption | exact mw_167 | exact mw_168 | exact mw_169 | exact mw_170 | exact bk_0 | exact bk_1 | exact bk_2 | exact bk_3 | exact bk_4 | exact bk_5 | exact bk_6 | exact bk_7 | exact bk_8 | exact bk_9 | exact bk_10 | exact bk_11 | exact bk_12 | exact bk_13 | exact bk_14 | exact bk_15 | exact bk_16 | exact zup_self | exact (zup_ne (by first | assumption | omega)).trans (by first | assumption | exact zup_self) | exact (zup_ne (by first | assumption | omega)).trans ((zup_ne (by first | assumption | omega)).trans (by first | assumption | exact zup_self)) | exact (bk_out (by first | omega | (simp only [bset, reduceIte, Nat.reduceEqDiff]; omega))).trans (by first | exact bk_0 | exact bk_1 | exact bk_2 | exact bk_3 | exact bk_4 | exact bk_5 | exact bk_6 | exact bk_7 | exact bk_8 | exact bk_9 | exact bk_10 | exact bk_11 | exact bk_12 | exact bk_13 | exact bk_14 | exact bk_15 | exact bk_16 | exact cr_5 | exact cr_23 | exact cr_24 | exact cr_25 | exact cr_26 | exact cr_27 | exact cr_28 | exact cr_29 | exact cr_30 | assumption)) (by decide) (by first | omega | (simp only [bset, reduceIte, Nat.reduceEqDiff]; omega)) (by first | omega | (simp only [bset, reduceIte, Nat.reduceEqDiff]; omega)) ?_
          refine zr_bipush dX7_does_64 (rfl : 64 + 2 = 66) (by decide) ?_
          refine zr_icmp_ne (tgt := 91) dX7_does_66 (by decide) (rfl : 66 + 3 = 69) (jI_eq (by first | omega | (simp only [bset, reduceIte, Nat.reduceEqDiff]; omega)) (by first | omega | (simp only [bset, reduceIte, Nat.reduceEqDiff]; omega)) (by first | omega | (simp only [bset, reduceIte, Nat.reduceEqDiff]; omega)) (by first | omega | (simp only [bset, reduceIte, Nat.reduceEqDiff]; omega))) (fun h66 => ?_) (fun h66 => ?_)
          · first
            | (exfalso; omega)
            | (
              refine zr_aload_n dX7_does_91 (rfl : 91 + 1 = 92) rfl ?_
              refine zr_getf dX7_does_92 (rfl : 92 + 3 = 95) f_X7_17 (by first | assumption | exact mw_167 | exact mw_168 | exact mw_169 | exact mw_170 | exact bk_0 | exact bk_1 | exact bk_2 | exact bk_3 | exact bk_4 | exact bk_5 | exact bk_6 | exact bk_7 | exact bk_8 | exact bk_9 | exact bk_10 | exact bk_11 | exact bk_12 | exact bk_13 | exact bk_14 | exact bk_15 | exact bk_16 | exact zup_self | exact (zup_ne (by first | assumption | omega)).trans (by first | assumption | exact zup_self) | exact (zup_ne (by first | assumption | omega)).trans ((zup_ne (by first | assumption | omega)).trans (by first | assumption | exact zup_self)) | exact (bk_out (by first | omega | (simp only [bset, reduceIte, Nat.reduceEqDiff]; omega))).trans (by first | exact bk_0 | exact bk_1 | exact bk_2 | exact bk_3 | exact bk_4 | exact bk_5 | exact bk_6 | exact bk_7 | exact bk_8 | exact bk_9 | exact bk_10 | exact bk_11 | exact bk_12 | exact bk_13 | exact bk_14 | exact bk_15 | exact bk_16 | exact cr_5 | exact cr_23 | exact cr_24 | exact cr_25 | exact cr_26 | exact cr_27 | exact cr_28 | exact cr_29 | exact cr_30 | assumption)) rfl ?_
              refine zr_iload_n dX7_does_95 (rfl : 95 + 1 = 96) rfl ?_
              refine zr_cald dX7_does_96 (rfl : 96 + 1 = 97) (by first | assumption | exact mw_167 | exact mw_168 | exact mw_169 | exact mw_170 | exact bk_0 | exact bk_1 | exact bk_2 | exact bk_3 | exact bk_4 | exact bk_5 | exact bk_6 | exact bk_7 | exact bk_8 | exact bk_9 | exact bk_10 | exact bk_11 | exact bk_12 | exact bk_13 | exact bk_14 | exact bk_15 | exact bk_16 | exact zup_self | exact (zup_ne (by first | assumption | omega)).trans (by first | assumption | exact zup_self) | exact (zup_ne (by first | assumption | omega)).trans ((zup_ne (by first | assumption | omega)).trans (by first | assumption | exact zup_self)) | exact (bk_out (by first | omega | (simp only [bset, reduceIte, Nat.reduceEqDiff]; omega))).trans (by first | exact bk_0 | exact bk_1 | exact bk_2 | exact bk_3 | exact bk_4 | exact bk_5 | exact bk_6 | exact bk_7 | exact bk_8 | exact bk_9 | exact bk_10 | exact bk_11 | exact bk_12 | exact bk_13 | exact bk_14 | exact bk_15 | exact bk_16 | exact cr_5 | exact cr_23 | exact cr_24 | exact cr_25 | exact cr_26 | exact cr_27 | exact cr_28 | exact cr_29 | exact cr_30 | assumption)) (by decide) (by first | omega | (simp only [bset, reduceIte, Nat.reduceEqDiff]; omega)) (by first | omega | (simp only [bset, reduceIte, Nat.reduceEqDiff]; omega)) ?_
              refine zr_bipush dX7_does_97 (rfl : 97 + 2 = 99) (by decide) ?_
              refine zr_icmp_ne (tgt := 131) dX7_does_99 (by decide) (rfl : 99 + 3 = 102) (jI_eq (by first | omega | (simp only [bset, reduceIte, Nat.reduceEqDiff]; omega)) (by first | omega | (simp only [bset, reduceIte, Nat.reduceEqDiff]; omega)) (by first | omega | (simp only [bset, reduceIte, Nat.reduceEqDiff]; omega)) (by first | omega | (simp only [bset, reduceIte, Nat.reduceEqDiff]; omega))) (fun h99 => ?_) (fun h99 => ?_)
              · first
                | (exfalso; omega)
                | (
                  refine zr_aload_n dX7_does_131 (rfl : 131 + 1 = 132) rfl ?_
                  refine zr_getf dX7_does_132 (rfl : 132 + 3 = 135) f_X7_7 (by first | assumption | exact mw_167 | exact mw_168 | exact mw_169 | exact mw_170 | exact bk_0 | exact bk_1 | exact bk_2 | exact bk_3 | exact bk_4 | exact bk_5 | exact bk_6 | exact bk_7 | exact bk_8 | exact bk_9 | exact bk_10 | exact bk_11 | exact bk_12 | exact bk_13 | exact bk_14 | exact bk_15 | exact bk_16 | exact zup_self | exact (zup_ne (by first | assumption | omega)).trans (by first | assumption | exact zup_self) | exact (zup_ne (by first | assumption | omega)).trans ((zup_ne (by first | assumption | omega)).trans (by first | assumption | exact zup_self)) | exact (bk_out (by first | omega | (simp only [bset, reduceIte, Nat.reduceEqDiff]; omega))).trans (by first | exact bk_0 | exact bk_1 | exact bk_2 | exact bk_3 | exact bk_4 | exact bk_5 | exact bk_6 | exact bk_7 | exact bk_8 | exact bk_9 | exact bk_10 | exact bk_11 | exact bk_12 | exact bk_13 | exact bk_14 | exact bk_15 | exact bk_16 | exact cr_5 | exact cr_23 | exact cr_24 | exact cr_25 | exact cr_26 | exact cr_27 | exact cr_28 | exact cr_29 | exact cr_30 | assumption)) rfl ?_
                  refine zr_sipush dX7_does_135 (rfl : 135 + 3 = 138) (by decide) ?_
                  refine zr_iload_n dX7_does_138 (rfl : 138 + 1 = 139) rfl ?_
                  refine zr_iadd dX7_does_139 (rfl : 139 + 1 = 140) (by first | exact jI_add _ _ | rfl) ?_
                  refine zr_iald dX7_does_140 (rfl : 140 + 1 = 141) (by first | assumption | exact mw_167 | exact mw_168 | exact mw_169 | exact mw_170 | exact bk_0 | exact bk_1 | exact bk_2 | exact bk_3 | exact bk_4 | exact bk_5 | exact bk_6 | exact bk_7 | exact bk_8 | exact bk_9 | exact bk_10 | exact bk_11 | exact bk_12 | exact bk_13 | exact bk_14 | exact bk_15 | exact bk_16 | exact zup_self | exact (zup_ne (by first | assumption | omega)).trans (by first | assumption | exact zup_self) | exact (zup_ne (by first | assumption | omega)).trans ((zup_ne (by first | assumption | omega)).trans (by first | assumption | exact zup_self)) | exact (bk_out (by first | omega | (simp only [bset, reduceIte, Nat.reduceEqDiff]; omega))).trans (by first | exact bk_0 | exact bk_1 | exact bk_2 | exact bk_3 | exact bk_4 | exact bk_5 | exact bk_6 | exact bk_7 | exact bk_8 | exact bk_9 | exact bk_10 | exact bk_11 | exact bk_12 | exact bk_13 | exact bk_14 | exact bk_15 | exact bk_16 | exact cr_5 | exact cr_23 | exact cr_24 | exact cr_25 | exact cr_26 | exact cr_27 | exact cr_28 | exact cr_29 | exact cr_30 | assumption)) (by decide) (by first | omega | (simp only [bset, reduceIte, Nat.reduceEqDiff]; omega)) (by first | omega | (simp only [bset, reduceIte, Nat.reduceEqDiff]; omega)) ?_
                  refine zr_iconst dX7_does_141 (rfl : 141 + 1 = 142) ?_
                  refine zr_icmp_ne (tgt := 164) dX7_does_142 (by decide) (rfl : 142 + 3 = 145) (jI_eq (by first | omega | (simp only [bset, reduceIte, Nat.reduceEqDiff]; omega)) (by first | omega | (simp only [bset, reduceIte, Nat.reduceEqDiff]; omega)) (by first | omega | (simp only [bset, reduceIte, Nat.reduceEqDiff]; omega)) (by first | omega | (simp only [bset, reduceIte, Nat.reduceEqDiff]; omega))) (fun h142 => ?_) (fun h142 => ?_)
                  · first
                    | (exfalso; omega)
                    | (
                      refine zr_iconst dX7_does_164 (rfl : 164 + 1 = 165) ?_
                      refine zr_ireE dX7_does_165 rfl (by first | exact jb_nar | rfl) ?_
                      first | (exfalso; omega) | (refine ⟨?_, _, hS154, rfl⟩; first | rw [jb_pos (by omega)] | rw [jb_neg (by omega)]))
                  · first
                    | (exfalso; omega)
                    | (
                      refine zr_aload_n dX7_does_145 (rfl : 145 + 1 = 146) rfl ?_
                      refine zr_iload_n dX7_does_146 (rfl : 146 + 1 = 147) rfl ?_
                      refine zr_aload_n dX7_does_147 (rfl : 147 + 1 = 148) rfl ?_
                      refine zr_iload_n dX7_does_148 (rfl : 148 + 1 = 149) rfl ?_
                      refine zr_iconst dX7_does_149 (rfl : 149 + 1 = 150) ?_
                      refine zr_iadd dX7_does_150 (rfl : 150 + 1 = 151) (by first | exact jI_add _ _ | rfl) ?_
                      refine zr_fnV dX7_does_151 (rfl : 151 + 3 = 154) l_X7_137 (hfig2) (by first | assumption | exact mw_167 | exact mw_168 | exact mw_169 | exact mw_170 | exact bk_0 | exact bk_1 | exact bk_2 | exact bk_3 | exact bk_4 | exact bk_5 | exact bk_6 | exact bk_7 | exact bk_8 | exact bk_9 | exact bk_10 | exact bk_11 | exact bk_12 | exact bk_13 | exact bk_14 | exact bk_15 | exact bk_16 | exact zup_self | exact (zup_ne (by first | assumption | omega)).trans (by first | assumption | exact zup_self) | exact (zup_ne (by first | assumption | omega)).trans ((zup_ne (by first | assumption | omega)).trans (by first | assumption | exact zup_self)) | exact (bk_out (by first | omega | (simp only [bset, reduceIte, Nat.reduceEqDiff]; omega))).trans (by first | exact bk_0 | exact bk_1 | exact bk_2 | exact bk_3 | exact bk_4 | exact bk_5 | exact bk_6 | exact bk_7 | exact bk_8 | exact bk_9 | exact bk_10 | exact bk_11 | exact bk_12 | exact bk_13 | exact bk_14 | exact bk_15 | exact bk_16 | exact cr_5 | exact cr_23 | exact cr_24 | exact cr_25 | exact cr_26 | exact cr_27 | exact cr_28 | exact cr_29 | exact cr_30 | assumption)) rfl rfl rfl (Nat.le_of_ble_eq_true rfl) ?_
                      refine zr_feV dX7_does_154 (rfl : 154 + 3 = 157) l_X7_109 (m_claims D G hb.1 hb.2 hw h ok lk) (by first | assumption | exact mw_167 | exact mw_168 | exact mw_169 | exact mw_170 | exact bk_0 | exact bk_1 | exact bk_2 | exact bk_3 | exact bk_4 | exact bk_5 | exact bk_6 | exact bk_7 | exact bk_8 | exact bk_9 | exact bk_10 | exact bk_11 | exact bk_12 | exact bk_13 | exact bk_14 | exact bk_15 | exact bk_16 | exact zup_self | exact (zup_ne (by first | assumption | omega)).trans (by first | assumption | exact zup_self) | exact (zup_ne (by first | assumption | omega)).trans ((zup_ne (by first | assumption | omega)).trans (by first | assumption | exact zup_self)) | exact (bk_out (by first | omega | (simp only [bset, reduceIte, Nat.reduceEqDiff]; omega))).trans (by first | exact bk_0 | exact bk_1 | exact bk_2 | exact bk_3 | exact bk_4 | exact bk_5 | exact bk_6 | exact bk_7 | exact bk_8 | exact bk_9 | exact bk_10 | exact bk_11 | exact bk_12 | exact bk_13 | exact bk_14 | exact bk_15 | exact bk_16 | exact cr_5 | exact cr_23 | exact cr_24 | exact cr_25 | exact cr_26 | exact cr_27 | exact cr_28 | exact cr_29 | exact cr_30 | assumption)) rfl rfl rfl (Nat.le_of_ble_eq_true rfl) ?_
                      rintro _ _ ⟨rfl, S154, hS154, rfl⟩
                      refine zr_if_ne (tgt := 164) dX7_does_157 (by decide) (rfl : 157 + 3 = 160) (by first | exact jb_iff | exact jI_z (by first | omega | (simp only [bset, reduceIte, Nat.reduceEqDiff]; omega)) (by first | omega | (simp only [bset, reduceIte, Nat.reduceEqDiff]; omega))) (fun h157 => ?_) (fun h157 => ?_)
                      · first
                        | (exfalso; omega)
                        | (
                          refine zr_iconst dX7_does_164 (rfl : 164 + 1 = 165) ?_
                          refine zr_ireE dX7_does_165 rfl (by first | exact jb_nar | rfl) ?_
                          first | (exfalso; omega) | (refine ⟨?_, _, hS154, rfl⟩; first | rw [jb_pos (by omega)] | rw [jb_neg (by omega)]))
                      · first
                        | (exfalso; omega)
                        | (
                          refine zr_iconst dX7_does_160 (rfl : 160 + 1 = 161) ?_
                          refine zr_goto (tgt := 165) dX7_does_161 (by decide) ?_
                          refine zr_ireE dX7_does_165 rfl (by first | exact jb_nar | rfl) ?_
                          first | (exfalso; omega) | (refine ⟨?_, _, hS154, rfl⟩; first | rw [jb_pos (by omega)] | rw [jb_neg (by omega)]))))
              · first
                | (exfalso; omega)
                | (
                  exfalso
                  omega))
          · first
            | (exfalso; omega)
            | (
              exfalso
              omega))
      · first
        | (exfalso; omega)
        | (
          exfalso
          omega)
    · rw [if_neg hf]
      refine zFe.of_run (lv := [some (.ref 167), some (.int (jI s)), none]) (by decide) rfl (Nat.le_of_ble_eq_true rfl) rfl (fun n9 g9 => ?_)
      refine zr_aload_n dX7_does_0 (rfl : 0 + 1 = 1) rfl ?_
      refine zr_iload_n dX7_does_1 (rfl : 1 + 1 = 2) rfl ?_
      refine zr_iconst dX7_does_2 (rfl : 2 + 1 = 3) ?_
      refine zr_iadd dX7_does_3 (rfl : 3 + 1 = 4) (by first | exact jI_add _ _ | rfl) ?_
      refine zr_fnV dX7_does_4 (rfl : 4 + 3 = 7) l_X7_137 (hfig) (by first | assumption | exact mw_167 | exact mw_168 | exact mw_169 | exact mw_170 | exact bk_0 | exact bk_1 | exact bk_2 | exact bk_3 | exact bk_4 | exact bk_5 | exact bk_6 | exact bk_7 | exact bk_8 | exact bk_9 | exact bk_10 | exact bk_11 | exact bk_12 | exact bk_13 | exact bk_14 | exact bk_15 | exact bk_16 | exact zup_self | exact (zup_ne (by first | assumption | omega)).trans (by first | assumption | exact zup_self) | exact (zup_ne (by first | assumption | omega)).trans ((zup_ne (by first | assumption | omega)).trans (by first | assumption | exact zup_self)) | exact (bk_out (by first | omega | (simp only [bset, reduceIte, Nat.reduceEqDiff]; omega))).trans (by first | exact bk_0 | exact bk_1 | exact bk_2 | exact bk_3 | exact bk_4 | exact bk_5 | exact bk_6 | exact bk_7 | exact bk_8 | exact bk_9 | exact bk_10 | exact bk_11 | exact bk_12 | exact bk_13 | exact bk_14 | exact bk_15 | exact bk_16 | exact cr_5 | exact cr_23 | exact cr_24 | exact cr_25 | exact cr_26 | exact cr_27 | exact cr_28 | exact cr_29 | exact cr_30 | assumption)) rfl rfl rfl (Nat.le_of_ble_eq_true rfl) ?_
      refine zr_istore_n (lv' := [_, _, _]) dX7_does_7 (rfl : 7 + 1 = 8) (Nat.le_of_ble_eq_true rfl) rfl ?_
      refine zr_aload_n dX7_does_8 (rfl : 8 + 1 = 9) rfl ?_
      refine zr_getf dX7_does_9 (rfl : 9 + 3 = 12) f_X7_17 (by first | assumption | exact mw_167 | exact mw_168 | exact mw_169 | exact mw_170 | exact bk_0 | exact bk_1 | exact bk_2 | exact bk_3 | exact bk_4 | exact bk_5 | exact bk_6 | exact bk_7 | exact bk_8 | exact bk_9 | exact bk_10 | exact bk_11 | exact bk_12 | exact bk_13 | exact bk_14 | exact bk_15 | exact bk_16 | exact zup_self | exact (zup_ne (by first | assumption | omega)).trans (by first | assumption | exact zup_self) | exact (zup_ne (by first | assumption | omega)).trans ((zup_ne (by first | assumption | omega)).trans (by first | assumption | exact zup_self)) | exact (bk_out (by first | omega | (simp only [bset, reduceIte, Nat.reduceEqDiff]; omega))).trans (by first | exact bk_0 | exact bk_1 | exact bk_2 | exact bk_3 | exact bk_4 | exact bk_5 | exact bk_6 | exact bk_7 | exact bk_8 | exact bk_9 | exact bk_10 | exact bk_11 | exact bk_12 | exact bk_13 | exact bk_14 | exact bk_15 | exact bk_16 | exact cr_5 | exact cr_23 | exact cr_24 | exact cr_25 | exact cr_26 | exact cr_27 | exact cr_28 | exact cr_29 | exact cr_30 | assumption)) rfl ?_
      refine zr_iload_n dX7_does_12 (rfl : 12 + 1 = 13) rfl ?_
      refine zr_cald dX7_does_13 (rfl : 13 + 1 = 14) (by first | assumption | exact mw_167 | exact mw_168 | exact mw_169 | exact mw_170 | exact bk_0 | exact bk_1 | exact bk_2 | exact bk_3 | exact bk_4 | exact bk_5 | exact bk_6 | exact bk_7 | exact bk_8 | exact bk_9 | exact bk_10 | exact bk_11 | exact bk_12 | exact bk_13 | exact bk_14 | exact bk_15 | exact bk_16 | exact zup_self | exact (zup_ne (by first | assumption | omega)).trans (by first | assumption | exact zup_self) | exact (zup_ne (by first | assumption | omega)).trans ((zup_ne (by first | assumption | omega)).trans (by first | assumption | exact zup_self)) | exact (bk_out (by first | omega | (simp only [bset, reduceIte, Nat.reduceEqDiff]; omega))).trans (by first | exact bk_0 | exact bk_1 | exact bk_2 | exact bk_3 | exact bk_4 | exact bk_5 | exact bk_6 | exact bk_7 | exact bk_8 | exact bk_9 | exact bk_10 | exact bk_11 | exact bk_12 | exact bk_13 | exact bk_14 | exact bk_15 | exact bk_16 | exact cr_5 | exact cr_23 | exact cr_24 | exact cr_25 | exact cr_26 | exact cr_27 | exact cr_28 | exact cr_29 | exact cr_30 | assumption)) (by decide) (by first | omega | (simp only [bset, reduceIte, Nat.reduceEqDiff]; omega)) (by first | omega | (simp only [bset, reduceIte, Nat.reduceEqDiff]; omega)) ?_
      refine zr_bipush dX7_does_14 (rfl : 14 + 2 = 16) (by decide) ?_
      refine zr_icmp_ne (tgt := 58) dX7_does_16 (by decide) (rfl : 16 + 3 = 19) (jI_eq (by first | omega | (simp only [bset, reduceIte, Nat.reduceEqDiff]; omega)) (by first | omega | (simp only [bset, reduceIte, Nat.reduceEqDiff]; omega)) (by first | omega | (simp only [bset, reduceIte, Nat.reduceEqDiff]; omega)) (by first | omega | (simp only [bset, reduceIte, Nat.reduceEqDiff]; omega))) (fun h16 => ?_) (fun h16 => ?_)
      · first
        | (exfalso; omega)
        | (
          refine zr_aload_n dX7_does_58 (rfl : 58 + 1 = 59) rfl ?_
          refine zr_getf dX7_does_59 (rfl : 59 + 3 = 62) f_X7_17 (by first | assumption | exact mw_167 | exact mw_168 | exact mw_169 | exact mw_170 | exact bk_0 | exact bk_1 | exact bk_2 | exact bk_3 | exact bk_4 | exact bk_5 | exact bk_6 | exact bk_7 | exact bk_8 | exact bk_9 | exact bk_10 | exact bk_11 | exact bk_12 | exact bk_13 | exact bk_14 | exact bk_15 | exact bk_16 | exact zup_self | exact (zup_ne (by first | assumption | omega)).trans (by first | assumption | exact zup_self) | exact (zup_ne (by first | assumption | omega)).trans ((zup_ne (by first | assumption | omega)).trans (by first | assumption | exact zup_self)) | exact (bk_out (by first | omega | (simp only [bset, reduceIte, Nat.reduceEqDiff]; omega))).trans (by first | exact bk_0 | exact bk_1 | exact bk_2 | exact bk_3 | exact bk_4 | exact bk_5 | exact bk_6 | exact bk_7 | exact bk_8 | exact bk_9 | exact bk_10 | exact bk_11 | exact bk_12 | exact bk_13 | exact bk_14 | exact bk_15 | exact bk_16 | exact cr_5 | exact cr_23 | exact cr_24 | exact cr_25 | exact cr_26 | exact cr_27 | exact cr_28 | exact cr_29 | exact cr_30 | assumption)) rfl ?_
          refine zr_iload_n dX7_does_62 (rfl : 62 + 1 = 63) rfl ?_
          refine zr_cald dX7_does_63 (rfl : 63 + 1 = 64) (by first | assumption | exact mw_167 | exact mw_168 | exact mw_169 | exact mw_170 | exact bk_0 | exact bk_1 | exact bk_2 | exact bk_3 | exact bk_4 | exact bk_5 | exact bk_6 | exact bk_7 | exact bk_8 | exact bk_9 | exact bk_10 | exact bk_11 | exact bk_12 | exact bk_13 | exact bk_14 | exact bk_15 | exact bk_16 | exact zup_self | exact (zup_ne (by first | assumption | omega)).trans (by first | assumption | exact zup_self) | exact (zup_ne (by first | assumption | omega)).trans ((zup_ne (by first | assumption | omega)).trans (by first | assumption | exact zup_self)) | exact (bk_out (by first | omega | (simp only [bset, reduceIte, Nat.reduceEqDiff]; omega))).trans (by first | exact bk_0 | exact bk_1 | exact bk_2 | exact bk_3 | exact bk_4 | exact bk_5 | exact bk_6 | exact bk_7 | exact bk_8 | exact bk_9 | exact bk_10 | exact bk_11 | exact bk_12 | exact bk_13 | exact bk_14 | exact bk_15 | exact bk_16 | exact cr_5 | exact cr_23 | exact cr_24 | exact cr_25 | exact cr_26 | exact cr_27 | exact cr_28 | exact cr_29 | exact cr_30 | assumption)) (by decide) (by first | omega | (simp only [bset, reduceIte, Nat.reduceEqDiff]; omega)) (by first | omega | (simp only [bset, reduceIte, Nat.reduceEqDiff]; omega)) ?_
          refine zr_bipush dX7_does_64 (rfl : 64 + 2 = 66) (by decide) ?_
          refine zr_icmp_ne (tgt := 91) dX7_does_66 (by decide) (rfl : 66 + 3 = 69) (jI_eq (by first | omega | (simp only [bset, reduceIte, Nat.reduceEqDiff]; omega)) (by first | omega | (simp only [bset, reduceIte, Nat.reduceEqDiff]; omega)) (by first | omega | (simp only [bset, reduceIte, Nat.reduceEqDiff]; omega)) (by first | omega | (simp only [bset, reduceIte, Nat.reduceEqDiff]; omega))) (fun h66 => ?_) (fun h66 => ?_)
          · first
            | (exfalso; omega)
            | (
              refine zr_aload_n dX7_does_91 (rfl : 91 + 1 = 92) rfl ?_
              refine zr_getf dX7_does_92 (rfl : 92 + 3 = 95) f_X7_17 (by first | assumption | exact mw_167 | exact mw_168 | exact mw_169 | exact mw_170 | exact bk_0 | exact bk_1 | exact bk_2 | exact bk_3 | exact bk_4 | exact bk_5 | exact bk_6 | exact bk_7 | exact bk_8 | exact bk_9 | exact bk_10 | exact bk_11 | exact bk_12 | exact bk_13 | exact bk_14 | exact bk_15 | exact bk_16 | exact zup_self | exact (zup_ne (by first | assumption | omega)).trans (by first | assumption | exact zup_self) | exact (zup_ne (by first | assumption | omega)).trans ((zup_ne (by first | assumption | omega)).trans (by first | assumption | exact zup_self)) | exact (bk_out (by first | omega | (simp only [bset, reduceIte, Nat.reduceEqDiff]; omega))).trans (by first | exact bk_0 | exact bk_1 | exact bk_2 | exact bk_3 | exact bk_4 | exact bk_5 | exact bk_6 | exact bk_7 | exact bk_8 | exact bk_9 | exact bk_10 | exact bk_11 | exact bk_12 | exact bk_13 | exact bk_14 | exact bk_15 | exact bk_16 | exact cr_5 | exact cr_23 | exact cr_24 | exact cr_25 | exact cr_26 | exact cr_27 | exact cr_28 | exact cr_29 | exact cr_30 | assumption)) rfl ?_
              refine zr_iload_n dX7_does_95 (rfl : 95 + 1 = 96) rfl ?_
              refine zr_cald dX7_does_96 (rfl : 96 + 1 = 97) (by first | assumption | exact mw_167 | exact mw_168 | exact mw_169 | exact mw_170 | exact bk_0 | exact bk_1 | exact bk_2 | exact bk_3 | exact bk_4 | exact bk_5 | exact bk_6 | exact bk_7 | exact bk_8 | exact bk_9 | exact bk_10 | exact bk_11 | exact bk_12 | exact bk_13 | exact bk_14 | exact bk_15 | exact bk_16 | exact zup_self | exact (zup_ne (by first | assumption | omega)).trans (by first | assumption | exact zup_self) | exact (zup_ne (by first | assumption | omega)).trans ((zup_ne (by first | assumption | omega)).trans (by first | assumption | exact zup_self)) | exact (bk_out (by first | omega | (simp only [bset, reduceIte, Nat.reduceEqDiff]; omega))).trans (by first | exact bk_0 | exact bk_1 | exact bk_2 | exact bk_3 | exact bk_4 | exact bk_5 | exact bk_6 | exact bk_7 | exact bk_8 | exact bk_9 | exact bk_10 | exact bk_11 | exact bk_12 | exact bk_13 | exact bk_14 | exact bk_15 | exact bk_16 | exact cr_5 | exact cr_23 | exact cr_24 | exact cr_25 | exact cr_26 | exact cr_27 | exact cr_28 | exact cr_29 | exact cr_30 | assumption)) (by decide) (by first | omega | (simp only [bset, reduceIte, Nat.reduceEqDiff]; omega)) (by first | omega | (simp only [bset, reduceIte, Nat.reduceEqDiff]; omega)) ?_
              refine zr_bipush dX7_does_97 (rfl : 97 + 2 = 99) (by decide) ?_
              refine zr_icmp_ne (tgt := 131) dX7_does_99 (by decide) (rfl : 99 + 3 = 102) (jI_eq (by first | omega | (simp only [bset, reduceIte, Nat.reduceEqDiff]; omega)) (by first | omega | (simp only [bset, reduceIte, Nat.reduceEqDiff]; omega)) (by first | omega | (simp only [bset, reduceIte, Nat.reduceEqDiff]; omega)) (by first | omega | (simp only [bset, reduceIte, Nat.reduceEqDiff]; omega))) (fun h99 => ?_) (fun h99 => ?_)
              · first
                | (exfalso; omega)
                | (
                  refine zr_aload_n dX7_does_131 (rfl : 131 + 1 = 132) rfl ?_
                  refine zr_getf dX7_does_132 (rfl : 132 + 3 = 135) f_X7_7 (by first | assumption | exact mw_167 | exact mw_168 | exact mw_169 | exact mw_170 | exact bk_0 | exact bk_1 | exact bk_2 | exact bk_3 | exact bk_4 | exact bk_5 | exact bk_6 | exact bk_7 | exact bk_8 | exact bk_9 | exact bk_10 | exact bk_11 | exact bk_12 | exact bk_13 | exact bk_14 | exact bk_15 | exact bk_16 | exact zup_self | exact (zup_ne (by first | assumption | omega)).trans (by first | assumption | exact zup_self) | exact (zup_ne (by first | assumption | omega)).trans ((zup_ne (by first | assumption | omega)).trans (by first | assumption | exact zup_self)) | exact (bk_out (by first | omega | (simp only [bset, reduceIte, Nat.reduceEqDiff]; omega))).trans (by first | exact bk_0 | exact bk_1 | exact bk_2 | exact bk_3 | exact bk_4 | exact bk_5 | exact bk_6 | exact bk_7 | exact bk_8 | exact bk_9 | exact bk_10 | exact bk_11 | exact bk_12 | exact bk_13 | exact bk_14 | exact bk_15 | exact bk_16 | exact cr_5 | exact cr_23 | exact cr_24 | exact cr_25 | exact cr_26 | exact cr_27 | exact cr_28 | exact cr_29 | exact cr_30 | assumption)) rfl ?_
                  refine zr_sipush dX7_does_135 (rfl : 135 + 3 = 138) (by decide) ?_
                  refine zr_iload_n dX7_does_138 (rfl : 138 + 1 = 139) rfl ?_
                  refine zr_iadd dX7_does_139 (rfl : 139 + 1 = 140) (by first | exact jI_add _ _ | rfl) ?_
                  refine zr_iald dX7_does_140 (rfl : 140 + 1 = 141) (by first | assumption | exact mw_167 | exact mw_168 | exact mw_169 | exact mw_170 | exact bk_0 | exact bk_1 | exact bk_2 | exact bk_3 | exact bk_4 | exact bk_5 | exact bk_6 | exact bk_7 | exact bk_8 | exact bk_9 | exact bk_10 | exact bk_11 | exact bk_12 | exact bk_13 | exact bk_14 | exact bk_15 | exact bk_16 | exact zup_self | exact (zup_ne (by first | assumption | omega)).trans (by first | assumption | exact zup_self) | exact (zup_ne (by first | assumption | omega)).trans ((zup_ne (by first | assumption | omega)).trans (by first | assumption | exact zup_self)) | exact (bk_out (by first | omega | (simp only [bset, reduceIte, Nat.reduceEqDiff]; omega))).trans (by first | exact bk_0 | exact bk_1 | exact bk_2 | exact bk_3 | exact bk_4 | exact bk_5 | exact bk_6 | exact bk_7 | exact bk_8 | exact bk_9 | exact bk_10 | exact bk_11 | exact bk_12 | exact bk_13 | exact bk_14 | exact bk_15 | exact bk_16 | exact cr_5 | exact cr_23 | exact cr_24 | exact cr_25 | exact cr_26 | exact cr_27 | exact cr_28 | exact cr_29 | exact cr_30 | assumption)) (by decide) (by first | omega | (simp only [bset, reduceIte, Nat.reduceEqDiff]; omega)) (by first | omega | (simp only [bset, reduceIte, Nat.reduceEqDiff]; omega)) ?_
                  refine zr_iconst dX7_does_141 (rfl : 141 + 1 = 142) ?_
                  refine zr_icmp_ne (tgt := 164) dX7_does_142 (by decide) (rfl : 142 + 3 = 145) (jI_eq (by first | omega | (simp only [bset, reduceIte, Nat.reduceEqDiff]; omega)) (by first | omega | (simp only [bset, reduceIte, Nat.reduceEqDiff]; omega)) (by first | omega | (simp only [bset, reduceIte, Nat.reduceEqDiff]; omega)) (by first | omega | (simp only [bset, reduceIte, Nat.reduceEqDiff]; omega))) (fun h142 => ?_) (fun h142 => ?_)
                  · first
                    | (exfalso; omega)
                    | (
                      refine zr_iconst dX7_does_164 (rfl : 164 + 1 = 165) ?_
                      refine zr_ireE dX7_does_165 rfl (by first | exact jb_nar | rfl) ?_
                      exact ⟨rfl, _, ⟨jagb.refl, h⟩, rfl⟩)
                  · first
                    | (exfalso; omega)
                    | (
                      exfalso
                      omega))
              · first
                | (exfalso; omega)
                | (
                  exfalso
                  omega))
          · first
            | (exfalso; omega)
            | (
              exfalso
              omega))
      · first
        | (exfalso; omega)
        | (
          exfalso
          omega)
  · have hb := jgo_d hg hc
    have h2 : jol (jca tx ty s) = 2 := by rw [hc]; rfl
    rw [if_neg (by omega), if_pos hc]
    rw [e] at hc
    generalize hD : jca tx ty (s + 1) - 48 = D at hb ⊢
    have hfig := m_figure (Γ := Γ) (d := d + 4) (S := S) (st := st) (ik := ik) (th := th) (tx := tx) (w := w) (s + 1) ⟨by omega, by omega⟩ hy
    rw [hD] at hfig
    by_cases hf : D ≤ B 4 0
    · rw [if_pos hf]
      have hdl : 1 ≤ jdrl B D.toNat ∧ jdrl B D.toNat ≤ 90 := by
        cases hm : D.toNat with
        | zero => omega
        | succ m =>
          have hj := jball_r (jok_drs ok m (by omega)) (by rw [jdrs_ca]; omega)
          exact ⟨hj.1, hj.2.1⟩
      have hda := m_drawsAll (Γ := Γ) (d := d + 2) (st := st) (ik := ik) (th := th) (tx := tx) (ty := ty) (w := w) D.toNat (by omega) (by omega) h ok lk
      rw [show (D.toNat : Int) = D by omega] at hda
      refine zFe.of_run (lv := [some (.ref 167), some (.int (jI s)), none]) (by decide) rfl (Nat.le_of_ble_eq_true rfl) rfl (fun n9 g9 => ?_)
      refine zr_aload_n dX7_does_0 (rfl : 0 + 1 = 1) rfl ?_
      refine zr_iload_n dX7_does_1 (rfl : 1 + 1 = 2) rfl ?_
      refine zr_iconst dX7_does_2 (rfl : 2 + 1 = 3) ?_
      refine zr_iadd dX7_does_3 (rfl : 3 + 1 = 4) (by first | exact jI_add _ _ | rfl) ?_
      refine zr_fnV dX7_does_4 (rfl : 4 + 3 = 7) l_X7_137 (hfig) (by first | assumption | exact mw_167 | exact mw_168 | exact mw_169 | exact mw_170 | exact bk_0 | exact bk_1 | exact bk_2 | exact bk_3 | exact bk_4 | exact bk_5 | exact bk_6 | exact bk_7 | exact bk_8 | exact bk_9 | exact bk_10 | exact bk_11 | exact bk_12 | exact bk_13 | exact bk_14 | exact bk_15 | exact bk_16 | exact zup_self | exact (zup_ne (by first | assumption | omega)).trans (by first | assumption | exact zup_self) | exact (zup_ne (by first | assumption | omega)).trans ((zup_ne (by first | assumption | omega)).trans (by first | assumption | exact zup_self)) | exact (bk_out (by first | omega | (simp only [bset, reduceIte, Nat.reduceEqDiff]; omega))).trans (by first | exact bk_0 | exact bk_1 | exact bk_2 | exact bk_3 | exact bk_4 | exact bk_5 | exact bk_6 | exact bk_7 | exact bk_8 | exact bk_9 | exact bk_10 | exact bk_11 | exact bk_12 | exact bk_13 | exact bk_14 | exact bk_15 | exact bk_16 | exact cr_5 | exact cr_23 | exact cr_24 | exact cr_25 | exact cr_26 | exact cr_27 | exact cr_28 | exact cr_29 | exact cr_30 | assumption)) rfl rfl rfl (Nat.le_of_ble_eq_true rfl) ?_
      refine zr_istore_n (lv' := [_, _, _]) dX7_does_7 (rfl : 7 + 1 = 8) (Nat.le_of_ble_eq_true rfl) rfl ?_
      refine zr_aload_n dX7_does_8 (rfl : 8 + 1 = 9) rfl ?_
      refine zr_getf dX7_does_9 (rfl : 9 + 3 = 12) f_X7_17 (by first | assumption | exact mw_167 | exact mw_168 | exact mw_169 | exact mw_170 | exact bk_0 | exact bk_1 | exact bk_2 | exact bk_3 | exact bk_4 | exact bk_5 | exact bk_6 | exact bk_7 | exact bk_8 | exact bk_9 | exact bk_10 | exact bk_11 | exact bk_12 | exact bk_13 | exact bk_14 | exact bk_15 | exact bk_16 | exact zup_self | exact (zup_ne (by first | assumption | omega)).trans (by first | assumption | exact zup_self) | exact (zup_ne (by first | assumption | omega)).trans ((zup_ne (by first | assumption | omega)).trans (by first | assumption | exact zup_self)) | exact (bk_out (by first | omega | (simp only [bset, reduceIte, Nat.reduceEqDiff]; omega))).trans (by first | exact bk_0 | exact bk_1 | exact bk_2 | exact bk_3 | exact bk_4 | exact bk_5 | exact bk_6 | exact bk_7 | exact bk_8 | exact bk_9 | exact bk_10 | exact bk_11 | exact bk_12 | exact bk_13 | exact bk_14 | exact bk_15 | exact bk_16 | exact cr_5 | exact cr_23 | exact cr_24 | exact cr_25 | exact cr_26 | exact cr_27 | exact cr_28 | exact cr_29 | exact cr_30 | assumption)) rfl ?_
      refine zr_iload_n dX7_does_12 (rfl : 12 + 1 = 13) rfl ?_
      refine zr_cald dX7_does_13 (rfl : 13 + 1 = 14) (by first | assumption | exact mw_167 | exact mw_168 | exact mw_169 | exact mw_170 | exact bk_0 | exact bk_1 | exact bk_2 | exact bk_3 | exact bk_4 | exact bk_5 | exact bk_6 | exact bk_7 | exact bk_8 | exact bk_9 | exact bk_10 | exact bk_11 | exact bk_12 | exact bk_13 | exact bk_14 | exact bk_15 | exact bk_16 | exact zup_self | exact (zup_ne (by first | assumption | omega)).trans (by first | assumption | exact zup_self) | exact (zup_ne (by first | assumption | omega)).trans ((zup_ne (by first | assumption | omega)).trans (by first | assumption | exact zup_self)) | exact (bk_out (by first | omega | (simp only [bset, reduceIte, Nat.reduceEqDiff]; omega))).trans (by first | exact bk_0 | exact bk_1 | exact bk_2 | exact bk_3 | exact bk_4 | exact bk_5 | exact bk_6 | exact bk_7 | exact bk_8 | exact bk_9 | exact bk_10 | exact bk_11 | exact bk_12 | exact bk_13 | exact bk_14 | exact bk_15 | exact bk_16 | exact cr_5 | exact cr_23 | exact cr_24 | exact cr_25 | exact cr_26 | exact cr_27 | exact cr_28 | exact cr_29 | exact cr_30 | assumption)) (by decide) (by first | omega | (simp only [bset, reduceIte, Nat.reduceEqDiff]; omega)) (by first | omega | (simp only [bset, reduceIte, Nat.reduceEqDiff]; omega)) ?_
      refine zr_bipush dX7_does_14 (rfl : 14 + 2 = 16) (by decide) ?_
      refine zr_icmp_ne (tgt := 58) dX7_does_16 (by decide) (rfl : 16 + 3 = 19) (jI_eq (by first | omega | (simp only [bset, reduceIte, Nat.reduceEqDiff]; omega)) (by first | omega | (simp only [bset, reduceIte, Nat.reduceEqDiff]; omega)) (by first | omega | (simp only [bset, reduceIte, Nat.reduceEqDiff]; omega)) (by first | omega | (simp only [bset, reduceIte, Nat.reduceEqDiff]; omega))) (fun h16 => ?_) (fun h16 => ?_)
      · first
        | (exfalso; omega)
        | (
          refine zr_aload_n dX7_does_58 (rfl : 58 + 1 = 59) rfl ?_
          refine zr_getf dX7_does_59 (rfl : 59 + 3 = 62) f_X7_17 (by first | assumption | exact mw_167 | exact mw_168 | exact mw_169 | exact mw_170 | exact bk_0 | exact bk_1 | exact bk_2 | exact bk_3 | exact bk_4 | exact bk_5 | exact bk_6 | exact bk_7 | exact bk_8 | exact bk_9 | exact bk_10 | exact bk_11 | exact bk_12 | exact bk_13 | exact bk_14 | exact bk_15 | exact bk_16 | exact zup_self | exact (zup_ne (by first | assumption | omega)).trans (by first | assumption | exact zup_self) | exact (zup_ne (by first | assumption | omega)).trans ((zup_ne (by first | assumption | omega)).trans (by first | assumption | exact zup_self)) | exact (bk_out (by first | omega | (simp only [bset, reduceIte, Nat.reduceEqDiff]; omega))).trans (by first | exact bk_0 | exact bk_1 | exact bk_2 | exact bk_3 | exact bk_4 | exact bk_5 | exact bk_6 | exact bk_7 | exact bk_8 | exact bk_9 | exact bk_10 | exact bk_11 | exact bk_12 | exact bk_13 | exact bk_14 | exact bk_15 | exact bk_16 | exact cr_5 | exact cr_23 | exact cr_24 | exact cr_25 | exact cr_26 | exact cr_27 | exact cr_28 | exact cr_29 | exact cr_30 | assumption)) rfl ?_
          refine zr_iload_n dX7_does_62 (rfl : 62 + 1 = 63) rfl ?_
          refine zr_cald dX7_does_63 (rfl : 63 + 1 = 64) (by first | assumption | exact mw_167 | exact mw_168 | exact mw_169 | exact mw_170 | exact bk_0 | exact bk_1 | exact bk_2 | exact bk_3 | exact bk_4 | exact bk_5 | exact bk_6 | exact bk_7 | exact bk_8 | exact bk_9 | exact bk_10 | exact bk_11 | exact bk_12 | exact bk_13 | exact bk_14 | exact bk_15 | exact bk_16 | exact zup_self | exact (zup_ne (by first | assumption | omega)).trans (by first | assumption | exact zup_self) | exact (zup_ne (by first | assumption | omega)).trans ((zup_ne (by first | assumption | omega)).trans (by first | assumption | exact zup_self)) | exact (bk_out (by first | omega | (simp only [bset, reduceIte, Nat.reduceEqDiff]; omega))).trans (by first | exact bk_0 | exact bk_1 | exact bk_2 | exact bk_3 | exact bk_4 | exact bk_5 | exact bk_6 | exact bk_7 | exact bk_8 | exact bk_9 | exact bk_10 | exact bk_11 | exact bk_12 | exact bk_13 | exact bk_14 | exact bk_15 | exact bk_16 | exact cr_5 | exact cr_23 | exact cr_24 | exact cr_25 | exact cr_26 | exact cr_27 | exact cr_28 | exact cr_29 | exact cr_30 | assumption)) (by decide) (by first | omega | (simp only [bset, reduceIte, Nat.reduceEqDiff]; omega)) (by first | omega | (simp only [bset, reduceIte, Nat.reduceEqDiff]; omega)) ?_
          refine zr_bipush dX7_does_64 (rfl : 64 + 2 = 66) (by decide) ?_
          refine zr_icmp_ne (tgt := 91) dX7_does_66 (by decide) (rfl : 66 + 3 = 69) (jI_eq (by first | omega | (simp only [bset, reduceIte, Nat.reduceEqDiff]; omega)) (by first | omega | (simp only [bset, reduceIte, Nat.reduceEqDiff]; omega)) (by first | omega | (simp only [bset, reduceIte, Nat.reduceEqDiff]; omega)) (by first | omega | (simp only [bset, reduceIte, Nat.reduceEqDiff]; omega))) (fun h66 => ?_) (fun h66 => ?_)
          · first
            | (exfalso; omega)
            | (
              refine zr_aload_n dX7_does_91 (rfl : 91 + 1 = 92) rfl ?_
              refine zr_getf dX7_does_92 (rfl : 92 + 3 = 95) f_X7_17 (by first | assumption | exact mw_167 | exact mw_168 | exact mw_169 | exact mw_170 | exact bk_0 | exact bk_1 | exact bk_2 | exact bk_3 | exact bk_4 | exact bk_5 | exact bk_6 | exact bk_7 | exact bk_8 | exact bk_9 | exact bk_10 | exact bk_11 | exact bk_12 | exact bk_13 | exact bk_14 | exact bk_15 | exact bk_16 | exact zup_self | exact (zup_ne (by first | assumption | omega)).trans (by first | assumption | exact zup_self) | exact (zup_ne (by first | assumption | omega)).trans ((zup_ne (by first | assumption | omega)).trans (by first | assumption | exact zup_self)) | exact (bk_out (by first | omega | (simp only [bset, reduceIte, Nat.reduceEqDiff]; omega))).trans (by first | exact bk_0 | exact bk_1 | exact bk_2 | exact bk_3 | exact bk_4 | exact bk_5 | exact bk_6 | exact bk_7 | exact bk_8 | exact bk_9 | exact bk_10 | exact bk_11 | exact bk_12 | exact bk_13 | exact bk_14 | exact bk_15 | exact bk_16 | exact cr_5 | exact cr_23 | exact cr_24 | exact cr_25 | exact cr_26 | exact cr_27 | exact cr_28 | exact cr_29 | exact cr_30 | assumption)) rfl ?_
              refine zr_iload_n dX7_does_95 (rfl : 95 + 1 = 96) rfl ?_
              refine zr_cald dX7_does_96 (rfl : 96 + 1 = 97) (by first | assumption | exact mw_167 | exact mw_168 | exact mw_169 | exact mw_170 | exact bk_0 | exact bk_1 | exact bk_2 | exact bk_3 | exact bk_4 | exact bk_5 | exact bk_6 | exact bk_7 | exact bk_8 | exact bk_9 | exact bk_10 | exact bk_11 | exact bk_12 | exact bk_13 | exact bk_14 | exact bk_15 | exact bk_16 | exact zup_self | exact (zup_ne (by first | assumption | omega)).trans (by first | assumption | exact zup_self) | exact (zup_ne (by first | assumption | omega)).trans ((zup_ne (by first | assumption | omega)).trans (by first | assumption | exact zup_self)) | exact (bk_out (by first | omega | (simp only [bset, reduceIte, Nat.reduceEqDiff]; omega))).trans (by first | exact bk_0 | exact bk_1 | exact bk_2 | exact bk_3 | exact bk_4 | exact bk_5 | exact bk_6 | exact bk_7 | exact bk_8 | exact bk_9 | exact bk_10 | exact bk_11 | exact bk_12 | exact bk_13 | exact bk_14 | exact bk_15 | exact bk_16 | exact cr_5 | exact cr_23 | exact cr_24 | exact cr_25 | exact cr_26 | exact cr_27 | exact cr_28 | exact cr_29 | exact cr_30 | assumption)) (by decide) (by first | omega | (simp only [bset, reduceIte, Nat.reduceEqDiff]; omega)) (by first | omega | (simp only [bset, reduceIte, Nat.reduceEqDiff]; omega)) ?_
              refine zr_bipush dX7_does_97 (rfl : 97 + 2 = 99) (by decide) ?_
              refine zr_icmp_ne (tgt := 131) dX7_does_99 (by decide) (rfl : 99 + 3 = 102) (jI_eq (by first | omega | (simp only [bset, reduceIte, Nat.reduceEqDiff]; omega)) (by first | omega | (simp only [bset, reduceIte, Nat.reduceEqDiff]; omega)) (by first | omega | (simp only [bset, reduceIte, Nat.reduceEqDiff]; omega)) (by first | omega | (simp only [bset, reduceIte, Nat.reduceEqDiff]; omega))) (fun h99 => ?_) (fun h99 => ?_)
              · first
                | (exfalso; omega)
                | (
                  exfalso
                  omega)
              · first
                | (exfalso; omega)
                | (
                  refine zr_iload_n dX7_does_102 (rfl : 102 + 1 = 103) rfl ?_
                  refine zr_bipush dX7_does_103 (rfl : 103 + 2 = 105) (by decide) ?_
                  refine zr_aload_n dX7_does_105 (rfl : 105 + 1 = 106) rfl ?_
                  refine zr_getf dX7_does_106 (rfl : 106 + 3 = 109) f_X7_7 (by first | assumption | exact mw_167 | exact mw_168 | exact mw_169 | exact mw_170 | exact bk_0 | exact bk_1 | exact bk_2 | exact bk_3 | exact bk_4 | exact bk_5 | exact bk_6 | exact bk_7 | exact bk_8 | exact bk_9 | exact bk_10 | exact bk_11 | exact bk_12 | exact bk_13 | exact bk_14 | exact bk_15 | exact bk_16 | exact zup_self | exact (zup_ne (by first | assumption | omega)).trans (by first | assumption | exact zup_self) | exact (zup_ne (by first | assumption | omega)).trans ((zup_ne (by first | assumption | omega)).trans (by first | assumption | exact zup_self)) | exact (bk_out (by first | omega | (simp only [bset, reduceIte, Nat.reduceEqDiff]; omega))).trans (by first | exact bk_0 | exact bk_1 | exact bk_2 | exact bk_3 | exact bk_4 | exact bk_5 | exact bk_6 | exact bk_7 | exact bk_8 | exact bk_9 | exact bk_10 | exact bk_11 | exact bk_12 | exact bk_13 | exact bk_14 | exact bk_15 | exact bk_16 | exact cr_5 | exact cr_23 | exact cr_24 | exact cr_25 | exact cr_26 | exact cr_27 | exact cr_28 | exact cr_29 | exact cr_30 | assumption)) rfl ?_
                  refine zr_sipush dX7_does_109 (rfl : 109 + 3 = 112) (by decide) ?_
                  refine zr_iald dX7_does_112 (rfl : 112 + 1 = 113) (by first | assumption | exact mw_167 | exact mw_168 | exact mw_169 | exact mw_170 | exact bk_0 | exact bk_1 | exact bk_2 | exact bk_3 | exact bk_4 | exact bk_5 | exact bk_6 | exact bk_7 | exact bk_8 | exact bk_9 | exact bk_10 | exact bk_11 | exact bk_12 | exact bk_13 | exact bk_14 | exact bk_15 | exact bk_16 | exact zup_self | exact (zup_ne (by first | assumption | omega)).trans (by first | assumption | exact zup_self) | exact (zup_ne (by first | assumption | omega)).trans ((zup_ne (by first | assumption | omega)).trans (by first | assumption | exact zup_self)) | exact (bk_out (by first | omega | (simp only [bset, reduceIte, Nat.reduceEqDiff]; omega))).trans (by first | exact bk_0 | exact bk_1 | exact bk_2 | exact bk_3 | exact bk_4 | exact bk_5 | exact bk_6 | exact bk_7 | exact bk_8 | exact bk_9 | exact bk_10 | exact bk_11 | exact bk_12 | exact bk_13 | exact bk_14 | exact bk_15 | exact bk_16 | exact cr_5 | exact cr_23 | exact cr_24 | exact cr_25 | exact cr_26 | exact cr_27 | exact cr_28 | exact cr_29 | exact cr_30 | assumption)) (by decide) (by first | omega | (simp only [bset, reduceIte, Nat.reduceEqDiff]; omega)) (by first | omega | (simp only [bset, reduceIte, Nat.reduceEqDiff]; omega)) ?_
                  refine zr_isub dX7_does_113 (rfl : 113 + 1 = 114) (by first | exact jI_sub _ _ | rfl) ?_
                  refine zr_icmp_gt (tgt := 129) dX7_does_114 (by decide) (rfl : 114 + 3 = 117) (jI_lt (by first | omega | (simp only [bset, reduceIte, Nat.reduceEqDiff]; omega)) (by first | omega | (simp only [bset, reduceIte, Nat.reduceEqDiff]; omega)) (by first | omega | (simp only [bset, reduceIte, Nat.reduceEqDiff]; omega)) (by first | omega | (simp only [bset, reduceIte, Nat.reduceEqDiff]; omega))) (fun h114 => ?_) (fun h114 => ?_)
                  · first
                    | (exfalso; omega)
                    | (
                      refine zr_iconst dX7_does_129 (rfl : 129 + 1 = 130) ?_
                      refine zr_ireE dX7_does_130 rfl (by first | exact jb_nar | rfl) ?_
                      first | (exfalso; omega) | exact ⟨rfl, _, hS119, rfl⟩)
                  · first
                    | (exfalso; omega)
                    | (
                      refine zr_aload_n dX7_does_117 (rfl : 117 + 1 = 118) rfl ?_
                      refine zr_iload_n dX7_does_118 (rfl : 118 + 1 = 119) rfl ?_
                      refine zr_feV dX7_does_119 (rfl : 119 + 3 = 122) l_X7_93 (hda) (by first | assumption | exact mw_167 | exact mw_168 | exact mw_169 | exact mw_170 | exact bk_0 | exact bk_1 | exact bk_2 | exact bk_3 | exact bk_4 | exact bk_5 | exact bk_6 | exact bk_7 | exact bk_8 | exact bk_9 | exact bk_10 | exact bk_11 | exact bk_12 | exact bk_13 | exact bk_14 | exact bk_15 | exact bk_16 | exact zup_self | exact (zup_ne (by first | assumption | omega)).trans (by first | assumption | exact zup_self) | exact (zup_ne (by first | assumption | omega)).trans ((zup_ne (by first | assumption | omega)).trans (by first | assumption | exact zup_self)) | exact (bk_out (by first | omega | (simp only [bset, reduceIte, Nat.reduceEqDiff]; omega))).trans (by first | exact bk_0 | exact bk_1 | exact bk_2 | exact bk_3 | exact bk_4 | exact bk_5 | exact bk_6 | exact bk_7 | exact bk_8 | exact bk_9 | exact bk_10 | exact bk_11 | exact bk_12 | exact bk_13 | exact bk_14 | exact bk_15 | exact bk_16 | exact cr_5 | exact cr_23 | exact cr_24 | exact cr_25 | exact cr_26 | exact cr_27 | exact cr_28 | exact cr_29 | exact cr_30 | assumption)) rfl rfl rfl (Nat.le_of_ble_eq_true rfl) ?_
                      rintro _ _ ⟨rfl, S119, hS119, rfl⟩
                      refine zr_if_le (tgt := 129) dX7_does_122 (by decide) (rfl : 122 + 3 = 125) (jI_lez (by first | omega | (simp only [bset, reduceIte, Nat.reduceEqDiff]; omega)) (by first | omega | (simp only [bset, reduceIte, Nat.reduceEqDiff]; omega))) (fun h122 => ?_) (fun h122 => ?_)
                      · first
                        | (exfalso; omega)
                        | (
                          refine zr_iconst dX7_does_129 (rfl : 129 + 1 = 130) ?_
                          refine zr_ireE dX7_does_130 rfl (by first | exact jb_nar | rfl) ?_
                          first | (exfalso; omega) | exact ⟨rfl, _, hS119, rfl⟩)
                      · first
                        | (exfalso; omega)
                        | (
                          refine zr_iconst dX7_does_125 (rfl : 125 + 1 = 126) ?_
                          refine zr_goto (tgt := 130) dX7_does_126 (by decide) ?_
                          refine zr_ireE dX7_does_130 rfl (by first | exact jb_nar | rfl) ?_
                          first | (exfalso; omega) | exact ⟨rfl, _, hS119, rfl⟩))))
          · first
            | (exfalso; omega)
            | (
              exfalso
              omega))
      · first
        | (exfalso; omega)
        | (
          exfalso
          omega)
    · rw [if_neg hf]
      refine zFe.of_run (lv := [some (.ref 167), some (.int (jI s)), none]) (by decide) rfl (Nat.le_of_ble_eq_true rfl) rfl (fun n9 g9 => ?_)
      refine zr_aload_n dX7_does_0 (rfl : 0 + 1 = 1) rfl ?_
      refine zr_iload_n dX7_does_1 (rfl : 1 + 1 = 2) rfl ?_
      refine zr_iconst dX7_does_2 (rfl : 2 + 1 = 3) ?_
      refine zr_iadd dX7_does_3 (rfl : 3 + 1 = 4) (by first | exact jI_add _ _ | rfl) ?_
      refine zr_fnV dX7_does_4 (rfl : 4 + 3 = 7) l_X7_137 (hfig) (by first | assumption | exact mw_167 | exact mw_168 | exact mw_169 | exact mw_170 | exact bk_0 | exact bk_1 | exact bk_2 | exact bk_3 | exact bk_4 | exact bk_5 | exact bk_6 | exact bk_7 | exact bk_8 | exact bk_9 | exact bk_10 | exact bk_11 | exact bk_12 | exact bk_13 | exact bk_14 | exact bk_15 | exact bk_16 | exact zup_self | exact (zup_ne (by first | assumption | omega)).trans (by first | assumption | exact zup_self) | exact (zup_ne (by first | assumption | omega)).trans ((zup_ne (by first | assumption | omega)).trans (by first | assumption | exact zup_self)) | exact (bk_out (by first | omega | (simp only [bset, reduceIte, Nat.reduceEqDiff]; omega))).trans (by first | exact bk_0 | exact bk_1 | exact bk_2 | exact bk_3 | exact bk_4 | exact bk_5 | exact bk_6 | exact bk_7 | exact bk_8 | exact bk_9 | exact bk_10 | exact bk_11 | exact bk_12 | exact bk_13 | exact bk_14 | exact bk_15 | exact bk_16 | exact cr_5 | exact cr_23 | exact cr_24 | exact cr_25 | exact cr_26 | exact cr_27 | exact cr_28 | exact cr_29 | exact cr_30 | assumption)) rfl rfl rfl (Nat.le_of_ble_eq_true rfl) ?_
      refine zr_istore_n (lv' := [_, _, _]) dX7_does_7 (rfl : 7 + 1 = 8) (Nat.le_of_ble_eq_true rfl) rfl ?_
      refine zr_aload_n dX7_does_8 (rfl : 8 + 1 = 9) rfl ?_
      refine zr_getf dX7_does_9 (rfl : 9 + 3 = 12) f_X7_17 (by first | assumption | exact mw_167 | exact mw_168 | exact mw_169 | exact mw_170 | exact bk_0 | exact bk_1 | exact bk_2 | exact bk_3 | exact bk_4 | exact bk_5 | exact bk_6 | exact bk_7 | exact bk_8 | exact bk_9 | exact bk_10 | exact bk_11 | exact bk_12 | exact bk_13 | exact bk_14 | exact bk_15 | exact bk_16 | exact zup_self | exact (zup_ne (by first | assumption | omega)).trans (by first | assumption | exact zup_self) | exact (zup_ne (by first | assumption | omega)).trans ((zup_ne (by first | assumption | omega)).trans (by first | assumption | exact zup_self)) | exact (bk_out (by first | omega | (simp only [bset, reduceIte, Nat.reduceEqDiff]; omega))).trans (by first | exact bk_0 | exact bk_1 | exact bk_2 | exact bk_3 | exact bk_4 | exact bk_5 | exact bk_6 | exact bk_7 | exact bk_8 | exact bk_9 | exact bk_10 | exact bk_11 | exact bk_12 | exact bk_13 | exact bk_14 | exact bk_15 | exact bk_16 | exact cr_5 | exact cr_23 | exact cr_24 | exact cr_25 | exact cr_26 | exact cr_27 | exact cr_28 | exact cr_29 | exact cr_30 | assumption)) rfl ?_
      refine zr_iload_n dX7_does_12 (rfl : 12 + 1 = 13) rfl ?_
      refine zr_cald dX7_does_13 (rfl : 13 + 1 = 14) (by first | assumption | exact mw_167 | exact mw_168 | exact mw_169 | exact mw_170 | exact bk_0 | exact bk_1 | exact bk_2 | exact bk_3 | exact bk_4 | exact bk_5 | exact bk_6 | exact bk_7 | exact bk_8 | exact bk_9 | exact bk_10 | exact bk_11 | exact bk_12 | exact bk_13 | exact bk_14 | exact bk_15 | exact bk_16 | exact zup_self | exact (zup_ne (by first | assumption | omega)).trans (by first | assumption | exact zup_self) | exact (zup_ne (by first | assumption | omega)).trans ((zup_ne (by first | assumption | omega)).trans (by first | assumption | exact zup_self)) | exact (bk_out (by first | omega | (simp only [bset, reduceIte, Nat.reduceEqDiff]; omega))).trans (by first | exact bk_0 | exact bk_1 | exact bk_2 | exact bk_3 | exact bk_4 | exact bk_5 | exact bk_6 | exact bk_7 | exact bk_8 | exact bk_9 | exact bk_10 | exact bk_11 | exact bk_12 | exact bk_13 | exact bk_14 | exact bk_15 | exact bk_16 | exact cr_5 | exact cr_23 | exact cr_24 | exact cr_25 | exact cr_26 | exact cr_27 | exact cr_28 | exact cr_29 | exact cr_30 | assumption)) (by decide) (by first | omega | (simp only [bset, reduceIte, Nat.reduceEqDiff]; omega)) (by first | omega | (simp only [bset, reduceIte, Nat.reduceEqDiff]; omega)) ?_
      refine zr_bipush dX7_does_14 (rfl : 14 + 2 = 16) (by decide) ?_
      refine zr_icmp_ne (tgt := 58) dX7_does_16 (by decide) (rfl : 16 + 3 = 19) (jI_eq (by first | omega | (simp only [bset, reduceIte, Nat.reduceEqDiff]; omega)) (by first | omega | (simp only [bset, reduceIte, Nat.reduceEqDiff]; omega)) (by first | omega | (simp only [bset, reduceIte, Nat.reduceEqDiff]; omega)) (by first | omega | (simp only [bset, reduceIte, Nat.reduceEqDiff]; omega))) (fun h16 => ?_) (fun h16 => ?_)
      · first
        | (exfalso; omega)
        | (
          refine zr_aload_n dX7_does_58 (rfl : 58 + 1 = 59) rfl ?_
          refine zr_getf dX7_does_59 (rfl : 59 + 3 = 62) f_X7_17 (by first | assumption | exact mw_167 | exact mw_168 | exact mw_169 | exact mw_170 | exact bk_0 | exact bk_1 | exact bk_2 | exact bk_3 | exact bk_4 | exact bk_5 | exact bk_6 | exact bk_7 | exact bk_8 | exact bk_9 | exact bk_10 | exact bk_11 | exact bk_12 | exact bk_13 | exact bk_14 | exact bk_15 | exact bk_16 | exact zup_self | exact (zup_ne (by first | assumption | omega)).trans (by first | assumption | exact zup_self) | exact (zup_ne (by first | assumption | omega)).trans ((zup_ne (by first | assumption | omega)).trans (by first | assumption | exact zup_self)) | exact (bk_out (by first | omega | (simp only [bset, reduceIte, Nat.reduceEqDiff]; omega))).trans (by first | exact bk_0 | exact bk_1 | exact bk_2 | exact bk_3 | exact bk_4 | exact bk_5 | exact bk_6 | exact bk_7 | exact bk_8 | exact bk_9 | exact bk_10 | exact bk_11 | exact bk_12 | exact bk_13 | exact bk_14 | exact bk_15 | exact bk_16 | exact cr_5 | exact cr_23 | exact cr_24 | exact cr_25 | exact cr_26 | exact cr_27 | exact cr_28 | exact cr_29 | exact cr_30 | assumption)) rfl ?_
          refine zr_iload_n dX7_does_62 (rfl : 62 + 1 = 63) rfl ?_
          refine zr_cald dX7_does_63 (rfl : 63 + 1 = 64) (by first | assumption | exact mw_167 | exact mw_168 | exact mw_169 | exact mw_170 | exact bk_0 | exact bk_1 | exact bk_2 | exact bk_3 | exact bk_4 | exact bk_5 | exact bk_6 | exact bk_7 | exact bk_8 | exact bk_9 | exact bk_10 | exact bk_11 | exact bk_12 | exact bk_13 | exact bk_14 | exact bk_15 | exact bk_16 | exact zup_self | exact (zup_ne (by first | assumption | omega)).trans (by first | assumption | exact zup_self) | exact (zup_ne (by first | assumption | omega)).trans ((zup_ne (by first | assumption | omega)).trans (by first | assumption | exact zup_self)) | exact (bk_out (by first | omega | (simp only [bset, reduceIte, Nat.reduceEqDiff]; omega))).trans (by first | exact bk_0 | exact bk_1 | exact bk_2 | exact bk_3 | exact bk_4 | exact bk_5 | exact bk_6 | exact bk_7 | exact bk_8 | exact bk_9 | exact bk_10 | exact bk_11 | exact bk_12 | exact bk_13 | exact bk_14 | exact bk_15 | exact bk_16 | exact cr_5 | exact cr_23 | exact cr_24 | exact cr_25 | exact cr_26 | exact cr_27 | exact cr_28 | exact cr_29 | exact cr_30 | assumption)) (by decide) (by first | omega | (simp only [bset, reduceIte, Nat.reduceEqDiff]; omega)) (by first | omega | (simp only [bset, reduceIte, Nat.reduceEqDiff]; omega)) ?_
          refine zr_bipush dX7_does_64 (rfl : 64 + 2 = 66) (by decide) ?_
          refine zr_icmp_ne (tgt := 91) dX7_does_66 (by decide) (rfl : 66 + 3 = 69) (jI_eq (by first | omega | (simp only [bset, reduceIte, Nat.reduceEqDiff]; omega)) (by first | omega | (simp only [bset, reduceIte, Nat.reduceEqDiff]; omega)) (by first | omega | (simp only [bset, reduceIte, Nat.reduceEqDiff]; omega)) (by first | omega | (simp only [bset, reduceIte, Nat.reduceEqDiff]; omega))) (fun h66 => ?_) (fun h66 => ?_)
          · first
            | (exfalso; omega)
            | (
              refine zr_aload_n dX7_does_91 (rfl : 91 + 1 = 92) rfl ?_
              refine zr_getf dX7_does_92 (rfl : 92 + 3 = 95) f_X7_17 (by first | assumption | exact mw_167 | exact mw_168 | exact mw_169 | exact mw_170 | exact bk_0 | exact bk_1 | exact bk_2 | exact bk_3 | exact bk_4 | exact bk_5 | exact bk_6 | exact bk_7 | exact bk_8 | exact bk_9 | exact bk_10 | exact bk_11 | exact bk_12 | exact bk_13 | exact bk_14 | exact bk_15 | exact bk_16 | exact zup_self | exact (zup_ne (by first | assumption | omega)).trans (by first | assumption | exact zup_self) | exact (zup_ne (by first | assumption | omega)).trans ((zup_ne (by first | assumption | omega)).trans (by first | assumption | exact zup_self)) | exact (bk_out (by first | omega | (simp only [bset, reduceIte, Nat.reduceEqDiff]; omega))).trans (by first | exact bk_0 | exact bk_1 | exact bk_2 | exact bk_3 | exact bk_4 | exact bk_5 | exact bk_6 | exact bk_7 | exact bk_8 | exact bk_9 | exact bk_10 | exact bk_11 | exact bk_12 | exact bk_13 | exact bk_14 | exact bk_15 | exact bk_16 | exact cr_5 | exact cr_23 | exact cr_24 | exact cr_25 | exact cr_26 | exact cr_27 | exact cr_28 | exact cr_29 | exact cr_30 | assumption)) rfl ?_
              refine zr_iload_n dX7_does_95 (rfl : 95 + 1 = 96) rfl ?_
              refine zr_cald dX7_does_96 (rfl : 96 + 1 = 97) (by first | assumption | exact mw_167 | exact mw_168 | exact mw_169 | exact mw_170 | exact bk_0 | exact bk_1 | exact bk_2 | exact bk_3 | exact bk_4 | exact bk_5 | exact bk_6 | exact bk_7 | exact bk_8 | exact bk_9 | exact bk_10 | exact bk_11 | exact bk_12 | exact bk_13 | exact bk_14 | exact bk_15 | exact bk_16 | exact zup_self | exact (zup_ne (by first | assumption | omega)).trans (by first | assumption | exact zup_self) | exact (zup_ne (by first | assumption | omega)).trans ((zup_ne (by first | assumption | omega)).trans (by first | assumption | exact zup_self)) | exact (bk_out (by first | omega | (simp only [bset, reduceIte, Nat.reduceEqDiff]; omega))).trans (by first | exact bk_0 | exact bk_1 | exact bk_2 | exact bk_3 | exact bk_4 | exact bk_5 | exact bk_6 | exact bk_7 | exact bk_8 | exact bk_9 | exact bk_10 | exact bk_11 | exact bk_12 | exact bk_13 | exact bk_14 | exact bk_15 | exact bk_16 | exact cr_5 | exact cr_23 | exact cr_24 | exact cr_25 | exact cr_26 | exact cr_27 | exact cr_28 | exact cr_29 | exact cr_30 | assumption)) (by decide) (by first | omega | (simp only [bset, reduceIte, Nat.reduceEqDiff]; omega)) (by first | omega | (simp only [bset, reduceIte, Nat.reduceEqDiff]; omega)) ?_
              refine zr_bipush dX7_does_97 (rfl : 97 + 2 = 99) (by decide) ?_
              refine zr_icmp_ne (tgt := 131) dX7_does_99 (by decide) (rfl : 99 + 3 = 102) (jI_eq (by first | omega | (simp only [bset, reduceIte, Nat.reduceEqDiff]; omega)) (by first | omega | (simp only [bset, reduceIte, Nat.reduceEqDiff]; omega)) (by first | omega | (simp only [bset, reduceIte, Nat.reduceEqDiff]; omega)) (by first | omega | (simp only [bset, reduceIte, Nat.reduceEqDiff]; omega))) (fun h99 => ?_) (fun h99 => ?_)
              · first
                | (exfalso; omega)
                | (
                  exfalso
                  omega)
              · first
                | (exfalso; omega)
                | (
                  refine zr_iload_n dX7_does_102 (rfl : 102 + 1 = 103) rfl ?_
                  refine zr_bipush dX7_does_103 (rfl : 103 + 2 = 105) (by decide) ?_
                  refine zr_aload_n dX7_does_105 (rfl : 105 + 1 = 106) rfl ?_
                  refine zr_getf dX7_does_106 (rfl : 106 + 3 = 109) f_X7_7 (by first | assumption | exact mw_167 | exact mw_168 | exact mw_169 | exact mw_170 | exact bk_0 | exact bk_1 | exact bk_2 | exact bk_3 | exact bk_4 | exact bk_5 | exact bk_6 | exact bk_7 | exact bk_8 | exact bk_9 | exact bk_10 | exact bk_11 | exact bk_12 | exact bk_13 | exact bk_14 | exact bk_15 | exact bk_16 | exact zup_self | exact (zup_ne (by first | assumption | omega)).trans (by first | assumption | exact zup_self) | exact (zup_ne (by first | assumption | omega)).trans ((zup_ne (by first | assumption | omega)).trans (by first | assumption | exact zup_self)) | exact (bk_out (by first | omega | (simp only [bset, reduceIte, Nat.reduceEqDiff]; omega))).trans (by first | exact bk_0 | exact bk_1 | exact bk_2 | exact bk_3 | exact bk_4 | exact bk_5 | exact bk_6 | exact bk_7 | exact bk_8 | exact bk_9 | exact bk_10 | exact bk_11 | exact bk_12 | exact bk_13 | exact bk_14 | exact bk_15 | exact bk_16 | exact cr_5 | exact cr_23 | exact cr_24 | exact cr_25 | exact cr_26 | exact cr_27 | exact cr_28 | exact cr_29 | exact cr_30 | assumption)) rfl ?_
                  refine zr_sipush dX7_does_109 (rfl : 109 + 3 = 112) (by decide) ?_
                  refine zr_iald dX7_does_112 (rfl : 112 + 1 = 113) (by first | assumption | exact mw_167 | exact mw_168 | exact mw_169 | exact mw_170 | exact bk_0 | exact bk_1 | exact bk_2 | exact bk_3 | exact bk_4 | exact bk_5 | exact bk_6 | exact bk_7 | exact bk_8 | exact bk_9 | exact bk_10 | exact bk_11 | exact bk_12 | exact bk_13 | exact bk_14 | exact bk_15 | exact bk_16 | exact zup_self | exact (zup_ne (by first | assumption | omega)).trans (by first | assumption | exact zup_self) | exact (zup_ne (by first | assumption | omega)).trans ((zup_ne (by first | assumption | omega)).trans (by first | assumption | exact zup_self)) | exact (bk_out (by first | omega | (simp only [bset, reduceIte, Nat.reduceEqDiff]; omega))).trans (by first | exact bk_0 | exact bk_1 | exact bk_2 | exact bk_3 | exact bk_4 | exact bk_5 | exact bk_6 | exact bk_7 | exact bk_8 | exact bk_9 | exact bk_10 | exact bk_11 | exact bk_12 | exact bk_13 | exact bk_14 | exact bk_15 | exact bk_16 | exact cr_5 | exact cr_23 | exact cr_24 | exact cr_25 | exact cr_26 | exact cr_27 | exact cr_28 | exact cr_29 | exact cr_30 | assumption)) (by decide) (by first | omega | (simp only [bset, reduceIte, Nat.reduceEqDiff]; omega)) (by first | omega | (simp only [bset, reduceIte, Nat.reduceEqDiff]; omega)) ?_
                  refine zr_isub dX7_does_113 (rfl : 113 + 1 = 114) (by first | exact jI_sub _ _ | rfl) ?_
                  refine zr_icmp_gt (tgt := 129) dX7_does_114 (by decide) (rfl : 114 + 3 = 117) (jI_lt (by first | omega | (simp only [bset, reduceIte, Nat.reduceEqDiff]; omega)) (by first | omega | (simp only [bset, reduceIte, Nat.reduceEqDiff]; omega)) (by first | omega | (simp only [bset, reduceIte, Nat.reduceEqDiff]; omega)) (by first | omega | (simp only [bset, reduceIte, Nat.reduceEqDiff]; omega))) (fun h114 => ?_) (fun h114 => ?_)
                  · first
                    | (exfalso; omega)
                    | (
                      refine zr_iconst dX7_does_129 (rfl : 129 + 1 = 130) ?_
                      refine zr_ireE dX7_does_130 rfl (by first | exact jb_nar | rfl) ?_
                      exact ⟨rfl, _, ⟨jagb.refl, h⟩, rfl⟩)
                  · first
                    | (exfalso; omega)
                    | (
                      exfalso
                      omega)))
          · first
            | (exfalso; omega)
            | (
              exfalso
              omega))
      · first
        | (exfalso; omega)
        | (
          exfalso
          omega)
  · have hb := jgo_p hg hc
    have h5 : jol (jca tx ty s) = 5 := by rw [hc]; rfl
    rw [if_neg (by omega), if_neg (by omega), if_pos hc]
    rw [e] at hc
    generalize hD : jca tx ty (s + 1) - 48 = D at hb ⊢
    generalize hG : jca tx ty (s + 2) - 48 = G at hb ⊢
    generalize hE : jca tx ty (s + 3) - 48 = E at hb ⊢
    generalize hF : jca tx ty (s + 4) - 48 = F at hb ⊢
    have hfig := m_figure (Γ := Γ) (d := d + 4) (S := S) (st := st) (ik := ik) (th := th) (tx := tx) (w := w) (s + 1) ⟨by omega, by omega⟩ hy
    have hfig2 := m_figure (Γ := Γ) (d := d + 4) (S := S) (st := st) (ik := ik) (th := th) (tx := tx) (w := w) (s + 2) ⟨by omega, by omega⟩ hy
    have hfig3 := m_figure (Γ := Γ) (d := d + 4) (S := S) (st := st) (ik := ik) (th := th) (tx := tx) (w := w) (s + 3) ⟨by omega, by omega⟩ hy
    have hfig4 := m_figure (Γ := Γ) (d := d + 4) (S := S) (st := st) (ik := ik) (th := th) (tx := tx) (w := w) (s + 4) ⟨by omega, by omega⟩ hy
    rw [hD] at hfig
    rw [hG] at hfig2
    rw [hE] at hfig3
    rw [hF] at hfig4
    have hjr := jrap_r B (D * 3 + G) (10 * E + F)
    refine zFe.of_run (lv := [some (.ref 167), some (.int (jI s)), none]) (by decide) rfl (Nat.le_of_ble_eq_true rfl) rfl (fun n9 g9 => ?_)
    refine zr_aload_n dX7_does_0 (rfl : 0 + 1 = 1) rfl ?_
    refine zr_iload_n dX7_does_1 (rfl : 1 + 1 = 2) rfl ?_
    refine zr_iconst dX7_does_2 (rfl : 2 + 1 = 3) ?_
    refine zr_iadd dX7_does_3 (rfl : 3 + 1 = 4) (by first | exact jI_add _ _ | rfl) ?_
    refine zr_fnV dX7_does_4 (rfl : 4 + 3 = 7) l_X7_137 (hfig) (by first | assumption | exact mw_167 | exact mw_168 | exact mw_169 | exact mw_170 | exact bk_0 | exact bk_1 | exact bk_2 | exact bk_3 | exact bk_4 | exact bk_5 | exact bk_6 | exact bk_7 | exact bk_8 | exact bk_9 | exact bk_10 | exact bk_11 | exact bk_12 | exact bk_13 | exact bk_14 | exact bk_15 | exact bk_16 | exact zup_self | exact (zup_ne (by first | assumption | omega)).trans (by first | assumption | exact zup_self) | exact (zup_ne (by first | assumption | omega)).trans ((zup_ne (by first | assumption | omega)).trans (by first | assumption | exact zup_self)) | exact (bk_out (by first | omega | (simp only [bset, reduceIte, Nat.reduceEqDiff]; omega))).trans (by first | exact bk_0 | exact bk_1 | exact bk_2 | exact bk_3 | exact bk_4 | exact bk_5 | exact bk_6 | exact bk_7 | exact bk_8 | exact bk_9 | exact bk_10 | exact bk_11 | exact bk_12 | exact bk_13 | exact bk_14 | exact bk_15 | exact bk_16 | exact cr_5 | exact cr_23 | exact cr_24 | exact cr_25 | exact cr_26 | exact cr_27 | exact cr_28 | exact cr_29 | exact cr_30 | assumption)) rfl rfl rfl (Nat.le_of_ble_eq_true rfl) ?_
    refine zr_istore_n (lv' := [_, _, _]) dX7_does_7 (rfl : 7 + 1 = 8) (Nat.le_of_ble_eq_true rfl) rfl ?_
    refine zr_aload_n dX7_does_8 (rfl : 8 + 1 = 9) rfl ?_
    refine zr_getf dX7_does_9 (rfl : 9 + 3 = 12) f_X7_17 (by first | assumption | exact mw_167 | exact mw_168 | exact mw_169 | exact mw_170 | exact bk_0 | exact bk_1 | exact bk_2 | exact bk_3 | exact bk_4 | exact bk_5 | exact bk_6 | exact bk_7 | exact bk_8 | exact bk_9 | exact bk_10 | exact bk_11 | exact bk_12 | exact bk_13 | exact bk_14 | exact bk_15 | exact bk_16 | exact zup_self | exact (zup_ne (by first | assumption | omega)).trans (by first | assumption | exact zup_self) | exact (zup_ne (by first | assumption | omega)).trans ((zup_ne (by first | assumption | omega)).trans (by first | assumption | exact zup_self)) | exact (bk_out (by first | omega | (simp only [bset, reduceIte, Nat.reduceEqDiff]; omega))).trans (by first | exact bk_0 | exact bk_1 | exact bk_2 | exact bk_3 | exact bk_4 | exact bk_5 | exact bk_6 | exact bk_7 | exact bk_8 | exact bk_9 | exact bk_10 | exact bk_11 | exact bk_12 | exact bk_13 | exact bk_14 | exact bk_15 | exact bk_16 | exact cr_5 | exact cr_23 | exact cr_24 | exact cr_25 | exact cr_26 | exact cr_27 | exact cr_28 | exact cr_29 | exact cr_30 | assumption)) rfl ?_
    refine zr_iload_n dX7_does_12 (rfl : 12 + 1 = 13) rfl ?_
    refine zr_cald dX7_does_13 (rfl : 13 + 1 = 14) (by first | assumption | exact mw_167 | exact mw_168 | exact mw_169 | exact mw_170 | exact bk_0 | exact bk_1 | exact bk_2 | exact bk_3 | exact bk_4 | exact bk_5 | exact bk_6 | exact bk_7 | exact bk_8 | exact bk_9 | exact bk_10 | exact bk_11 | exact bk_12 | exact bk_13 | exact bk_14 | exact bk_15 | exact bk_16 | exact zup_self | exact (zup_ne (by first | assumption | omega)).trans (by first | assumption | exact zup_self) | exact (zup_ne (by first | assumption | omega)).trans ((zup_ne (by first | assumption | omega)).trans (by first | assumption | exact zup_self)) | exact (bk_out (by first | omega | (simp only [bset, reduceIte, Nat.reduceEqDiff]; omega))).trans (by first | exact bk_0 | exact bk_1 | exact bk_2 | exact bk_3 | exact bk_4 | exact bk_5 | exact bk_6 | exact bk_7 | exact bk_8 | exact bk_9 | exact bk_10 | exact bk_11 | exact bk_12 | exact bk_13 | exact bk_14 | exact bk_15 | exact bk_16 | exact cr_5 | exact cr_23 | exact cr_24 | exact cr_25 | exact cr_26 | exact cr_27 | exact cr_28 | exact cr_29 | exact cr_30 | assumption)) (by decide) (by first | omega | (simp only [bset, reduceIte, Nat.reduceEqDiff]; omega)) (by first | omega | (simp only [bset, reduceIte, Nat.reduceEqDiff]; omega)) ?_
    refine zr_bipush dX7_does_14 (rfl : 14 + 2 = 16) (by decide) ?_
    refine zr_icmp_ne (tgt := 58) dX7_does_16 (by decide) (rfl : 16 + 3 = 19) (jI_eq (by first | omega | (simp only [bset, reduceIte, Nat.reduceEqDiff]; omega)) (by first | omega | (simp only [bset, reduceIte, Nat.reduceEqDiff]; omega)) (by first | omega | (simp only [bset, reduceIte, Nat.reduceEqDiff]; omega)) (by first | omega | (simp only [bset, reduceIte, Nat.reduceEqDiff]; omega))) (fun h16 => ?_) (fun h16 => ?_)
    · first
      | (exfalso; omega)
      | (
        exfalso
        omega)
    · first
      | (exfalso; omega)
      | (
        refine zr_aload_n dX7_does_19 (rfl : 19 + 1 = 20) rfl ?_
        refine zr_iload_n dX7_does_20 (rfl : 20 + 1 = 21) rfl ?_
        refine zr_aload_n dX7_does_21 (rfl : 21 + 1 = 22) rfl ?_
        refine zr_iload_n dX7_does_22 (rfl : 22 + 1 = 23) rfl ?_
        refine zr_iconst dX7_does_23 (rfl : 23 + 1 = 24) ?_
        refine zr_iadd dX7_does_24 (rfl : 24 + 1 = 25) (by first | exact jI_add _ _ | rfl) ?_
        refine zr_fnV dX7_does_25 (rfl : 25 + 3 = 28) l_X7_137 (hfig2) (by first | assumption | exact mw_167 | exact mw_168 | exact mw_169 | exact mw_170 | exact bk_0 | exact bk_1 | exact bk_2 | exact bk_3 | exact bk_4 | exact bk_5 | exact bk_6 | exact bk_7 | exact bk_8 | exact bk_9 | exact bk_10 | exact bk_11 | exact bk_12 | exact bk_13 | exact bk_14 | exact bk_15 | exact bk_16 | exact zup_self | exact (zup_ne (by first | assumption | omega)).trans (by first | assumption | exact zup_self) | exact (zup_ne (by first | assumption | omega)).trans ((zup_ne (by first | assumption | omega)).trans (by first | assumption | exact zup_self)) | exact (bk_out (by first | omega | (simp only [bset, reduceIte, Nat.reduceEqDiff]; omega))).trans (by first | exact bk_0 | exact bk_1 | exact bk_2 | exact bk_3 | exact bk_4 | exact bk_5 | exact bk_6 | exact bk_7 | exact bk_8 | exact bk_9 | exact bk_10 | exact bk_11 | exact bk_12 | exact bk_13 | exact bk_14 | exact bk_15 | exact bk_16 | exact cr_5 | exact cr_23 | exact cr_24 | exact cr_25 | exact cr_26 | exact cr_27 | exact cr_28 | exact cr_29 | exact cr_30 | assumption)) rfl rfl rfl (Nat.le_of_ble_eq_true rfl) ?_
        refine zr_bipush dX7_does_28 (rfl : 28 + 2 = 30) (by decide) ?_
        refine zr_aload_n dX7_does_30 (rfl : 30 + 1 = 31) rfl ?_
        refine zr_iload_n dX7_does_31 (rfl : 31 + 1 = 32) rfl ?_
        refine zr_iconst dX7_does_32 (rfl : 32 + 1 = 33) ?_
        refine zr_iadd dX7_does_33 (rfl : 33 + 1 = 34) (by first | exact jI_add _ _ | rfl) ?_
        refine zr_fnV dX7_does_34 (rfl : 34 + 3 = 37) l_X7_137 (hfig3) (by first | assumption | exact mw_167 | exact mw_168 | exact mw_169 | exact mw_170 | exact bk_0 | exact bk_1 | exact bk_2 | exact bk_3 | exact bk_4 | exact bk_5 | exact bk_6 | exact bk_7 | exact bk_8 | exact bk_9 | exact bk_10 | exact bk_11 | exact bk_12 | exact bk_13 | exact bk_14 | exact bk_15 | exact bk_16 | exact zup_self | exact (zup_ne (by first | assumption | omega)).trans (by first | assumption | exact zup_self) | exact (zup_ne (by first | assumption | omega)).trans ((zup_ne (by first | assumption | omega)).trans (by first | assumption | exact zup_self)) | exact (bk_out (by first | omega | (simp only [bset, reduceIte, Nat.reduceEqDiff]; omega))).trans (by first | exact bk_0 | exact bk_1 | exact bk_2 | exact bk_3 | exact bk_4 | exact bk_5 | exact bk_6 | exact bk_7 | exact bk_8 | exact bk_9 | exact bk_10 | exact bk_11 | exact bk_12 | exact bk_13 | exact bk_14 | exact bk_15 | exact bk_16 | exact cr_5 | exact cr_23 | exact cr_24 | exact cr_25 | exact cr_26 | exact cr_27 | exact cr_28 | exact cr_29 | exact cr_30 | assumption)) rfl rfl rfl (Nat.le_of_ble_eq_true rfl) ?_
        refine zr_imul dX7_does_37 (rfl : 37 + 1 = 38) (by first | exact jI_mul _ _ | rfl) ?_
        refine zr_aload_n dX7_does_38 (rfl : 38 + 1 = 39) rfl ?_
        refine zr_iload_n dX7_does_39 (rfl : 39 + 1 = 40) rfl ?_
        refine zr_iconst dX7_does_40 (rfl : 40 + 1 = 41) ?_
        refine zr_iadd dX7_does_41 (rfl : 41 + 1 = 42) (by first | exact jI_add _ _ | rfl) ?_
        refine zr_fnV dX7_does_42 (rfl : 42 + 3 = 45) l_X7_137 (hfig4) (by first | assumption | exact mw_167 | exact mw_168 | exact mw_169 | exact mw_170 | exact bk_0 | exact bk_1 | exact bk_2 | exact bk_3 | exact bk_4 | exact bk_5 | exact bk_6 | exact bk_7 | exact bk_8 | exact bk_9 | exact bk_10 | exact bk_11 | exact bk_12 | exact bk_13 | exact bk_14 | exact bk_15 | exact bk_16 | exact zup_self | exact (zup_ne (by first | assumption | omega)).trans (by first | assumption | exact zup_self) | exact (zup_ne (by first | assumption | omega)).trans ((zup_ne (by first | assumption | omega)).trans (by first | assumption | exact zup_self)) | exact (bk_out (by first | omega | (simp only [bset, reduceIte, Nat.reduceEqDiff]; omega))).trans (by first | exact bk_0 | exact bk_1 | exact bk_2 | exact bk_3 | exact bk_4 | exact bk_5 | exact bk_6 | exact bk_7 | exact bk_8 | exact bk_9 | exact bk_10 | exact bk_11 | exact bk_12 | exact bk_13 | exact bk_14 | exact bk_15 | exact bk_16 | exact cr_5 | exact cr_23 | exact cr_24 | exact cr_25 | exact cr_26 | exact cr_27 | exact cr_28 | exact cr_29 | exact cr_30 | assumption)) rfl rfl rfl (Nat.le_of_ble_eq_true rfl) ?_
        refine zr_iadd dX7_does_45 (rfl : 45 + 1 = 46) (by first | exact jI_add _ _ | rfl) ?_
        refine zr_feV dX7_does_46 (rfl : 46 + 3 = 49) l_X7_67 (m_puts D G (10 * E + F) hb.1 hb.2.1 hb.2.2.2.2 h ok lk) (by first | assumption | exact mw_167 | exact mw_168 | exact mw_169 | exact mw_170 | exact bk_0 | exact bk_1 | exact bk_2 | exact bk_3 | exact bk_4 | exact bk_5 | exact bk_6 | exact bk_7 | exact bk_8 | exact bk_9 | exact bk_10 | exact bk_11 | exact bk_12 | exact bk_13 | exact bk_14 | exact bk_15 | exact bk_16 | exact zup_self | exact (zup_ne (by first | assumption | omega)).trans (by first | assumption | exact zup_self) | exact (zup_ne (by first | assumption | omega)).trans ((zup_ne (by first | assumption | omega)).trans (by first | assumption | exact zup_self)) | exact (bk_out (by first | omega | (simp only [bset, reduceIte, Nat.reduceEqDiff]; omega))).trans (by first | exact bk_0 | exact bk_1 | exact bk_2 | exact bk_3 | exact bk_4 | exact bk_5 | exact bk_6 | exact bk_7 | exact bk_8 | exact bk_9 | exact bk_10 | exact bk_11 | exact bk_12 | exact bk_13 | exact bk_14 | exact bk_15 | exact bk_16 | exact cr_5 | exact cr_23 | exact cr_24 | exact cr_25 | exact cr_26 | exact cr_27 | exact cr_28 | exact cr_29 | exact cr_30 | assumption)) rfl rfl rfl (Nat.le_of_ble_eq_true rfl) ?_
        rintro _ _ ⟨rfl, S46, hS46, rfl⟩
        refine zr_if_ne (tgt := 56) dX7_does_49 (by decide) (rfl : 49 + 3 = 52) (by first | exact jb_iff | exact jI_z (by first | omega | (simp only [bset, reduceIte, Nat.reduceEqDiff]; omega)) (by first | omega | (simp only [bset, reduceIte, Nat.reduceEqDiff]; omega))) (fun h49 => ?_) (fun h49 => ?_)
        · first
          | (exfalso; omega)
          | (
            refine zr_iconst dX7_does_56 (rfl : 56 + 1 = 57) ?_
            refine zr_ireE dX7_does_57 rfl (by first | exact jb_nar | rfl) ?_
            refine ⟨?_, _, hS46, rfl⟩
            first | rw [jb_pos (by omega)] | rw [jb_neg (by omega)])
        · first
          | (exfalso; omega)
          | (
            refine zr_iconst dX7_does_52 (rfl : 52 + 1 = 53) ?_
            refine zr_goto (tgt := 57) dX7_does_53 (by decide) ?_
            refine zr_ireE dX7_does_57 rfl (by first | exact jb_nar | rfl) ?_
            refine ⟨?_, _, hS46, rfl⟩
            first | rw [jb_pos (by omega)] | rw [jb_neg (by omega)]))
end RT

