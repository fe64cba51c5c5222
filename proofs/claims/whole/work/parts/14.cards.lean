/-! TombolaBooks: tests of values, and Cards -/
section CA
variable {Γ : zΓ} {d : Nat} {w : zW} {b : Nat} {B : zB}
theorem s_isCard (z : Int) (hz : -2147483648 ≤ z ∧ z < 2147483648) : zFn Γ md_X6_isCard d [.int (jI z)] w (some (.int (jI (if 0 ≤ z ∧ z < 6 then 1 else 0)))) w := by
  refine zFn.of_run (lv := [some (.int (jI z))]) (by decide) rfl (Nat.le_of_ble_eq_true rfl) rfl (fun n g => ?_)
  refine zr_iload_n dX6_isCard_0 (rfl : 0 + 1 = 1) rfl ?_
  refine zr_if_lt (tgt := 14) dX6_isCard_1 (by decide) (rfl : 1 + 3 = 4) (jI_ltz (by omega) (by omega)) (fun h1 => ?_) (fun h1 => ?_)
  · refine zr_iconst dX6_isCard_14 (rfl : 14 + 1 = 15) ?_
    refine zr_iret dX6_isCard_15 rfl rfl ?_ rfl rfl rfl
    rw [if_neg (by omega)]
  · refine zr_iload_n dX6_isCard_4 (rfl : 4 + 1 = 5) rfl ?_
    refine zr_bipush dX6_isCard_5 (rfl : 5 + 2 = 7) (by decide) ?_
    refine zr_icmp_ge (tgt := 14) dX6_isCard_7 (by decide) (rfl : 7 + 3 = 10) (jI_le (by omega) (by omega) (by omega) (by omega)) (fun h2 => ?_) (fun h2 => ?_)
    · refine zr_iconst dX6_isCard_14 (rfl : 14 + 1 = 15) ?_
      refine zr_iret dX6_isCard_15 rfl rfl ?_ rfl rfl rfl
      rw [if_neg (by omega)]
    · refine zr_iconst dX6_isCard_10 (rfl : 10 + 1 = 11) ?_
      refine zr_goto (tgt := 15) dX6_isCard_11 (by decide) ?_
      refine zr_iret dX6_isCard_15 rfl rfl ?_ rfl rfl rfl
      rw [if_pos (by omega)]
theorem s_rowSize (r : Int) (hr : 0 ≤ r ∧ r < 18) (hP : ∀ z, 0 ≤ B 0 z ∧ B 0 z ≤ 90) : zFn Γ md_X1_rowSize d [.ref (b + 1), .int (jI r)] (bk b B w) (some (.int (jI (jcnt 9 (fun c => decide (B 0 (r * 9 + c) ≠ 0)))))) (bk b B w) := by
  refine zFn.of_run (lv := [some (.ref (b + 1)), some (.int (jI r)), none, none]) (by decide) rfl (Nat.le_of_ble_eq_true rfl) rfl (fun n g => ?_)
  refine zr_iconst dX1_rowSize_0 (rfl : 0 + 1 = 1) ?_
  refine zr_istore_n (lv' := [_, _, _, _]) dX1_rowSize_1 (rfl : 1 + 1 = 2) (Nat.le_of_ble_eq_true rfl) rfl ?_
  refine zr_iconst dX1_rowSize_2 (rfl : 2 + 1 = 3) ?_
  refine zr_istore_n (lv' := [_, _, _, _]) dX1_rowSize_3 (rfl : 3 + 1 = 4) (Nat.le_of_ble_eq_true rfl) rfl ?_
  refine zloop 9 (fun i => [some (.ref (b + 1)), some (.int (jI r)), some (.int (jI (jcnt i.toNat (fun c => decide (B 0 (r * 9 + c) ≠ 0))))), some (.int (jI i))]) (fun _ => bk b B w) ?_ ?_
  · intro i h0 h9 hk
    have hc := jcnt_nn i.toNat (fun c => decide (B 0 (r * 9 + c) ≠ 0))
    have hp := hP (r * 9 + i)
    have hj : jcnt (i + 1).toNat (fun c => decide (B 0 (r * 9 + c) ≠ 0)) = jcnt i.toNat (fun c => decide (B 0 (r * 9 + c) ≠ 0)) + (if B 0 (r * 9 + i) ≠ 0 then 1 else 0) := by
      rw [show (i + 1).toNat = i.toNat + 1 by omega]
      show _ + (if decide (B 0 (r * 9 + (i.toNat : Int)) ≠ 0) = true then 1 else 0) = _
      rw [show (i.toNat : Int) = i by omega]
      simp
    refine zr_iload_n dX1_rowSize_4 (rfl : 4 + 1 = 5) rfl ?_
    refine zr_bipush dX1_rowSize_5 (rfl : 5 + 2 = 7) (by decide) ?_
    refine zr_icmp_ge (tgt := 38) dX1_rowSize_7 (by decide) (rfl : 7 + 3 = 10) (jI_le (by omega) (by omega) (by omega) (by omega)) (fun h2 => ?_) (fun h2 => ?_)
    · omega
    · refine zr_iload_n dX1_rowSize_10 (rfl : 10 + 1 = 11) rfl ?_
      refine zr_aload_n dX1_rowSize_11 (rfl : 11 + 1 = 12) rfl ?_
      refine zr_getf dX1_rowSize_12 (rfl : 12 + 3 = 15) f_X1_9 (by first | assumption | exact bk_0 | exact bk_1 | exact bk_2 | exact bk_3 | exact bk_4 | exact bk_5 | exact bk_6 | exact bk_7 | exact bk_8 | exact bk_9 | exact bk_10 | exact bk_11 | exact bk_12 | exact bk_13 | exact bk_14 | exact bk_15 | exact bk_16) rfl ?_
      refine zr_iload_n dX1_rowSize_15 (rfl : 15 + 1 = 16) rfl ?_
      refine zr_bipush dX1_rowSize_16 (rfl : 16 + 2 = 18) (by decide) ?_
      refine zr_imul dX1_rowSize_18 (rfl : 18 + 1 = 19) (by first | exact jI_mul _ _ | rfl) ?_
      refine zr_iload_n dX1_rowSize_19 (rfl : 19 + 1 = 20) rfl ?_
      refine zr_iadd dX1_rowSize_20 (rfl : 20 + 1 = 21) (by first | exact jI_add _ _ | rfl) ?_
      refine zr_iald dX1_rowSize_21 (rfl : 21 + 1 = 22) (by first | assumption | exact bk_0 | exact bk_1 | exact bk_2 | exact bk_3 | exact bk_4 | exact bk_5 | exact bk_6 | exact bk_7 | exact bk_8 | exact bk_9 | exact bk_10 | exact bk_11 | exact bk_12 | exact bk_13 | exact bk_14 | exact bk_15 | exact bk_16) (by decide) (by omega) (by omega) ?_
      refine zr_if_ne (tgt := 29) dX1_rowSize_22 (by decide) (rfl : 22 + 3 = 25) (jI_z (by omega) (by omega)) (fun h3 => ?_) (fun h3 => ?_)
      · refine zr_iconst dX1_rowSize_29 (rfl : 29 + 1 = 30) ?_
        refine zr_iadd dX1_rowSize_30 (rfl : 30 + 1 = 31) (by first | exact jI_add _ _ | rfl) ?_
        refine zr_istore_n (lv' := [_, _, _, _]) dX1_rowSize_31 (rfl : 31 + 1 = 32) (Nat.le_of_ble_eq_true rfl) rfl ?_
        refine zr_iinc (lv' := [_, _, _, _]) dX1_rowSize_32 (rfl : 32 + 3 = 35) (Nat.le_of_ble_eq_true rfl) rfl (by first | exact jI_add _ _ | rfl) rfl ?_
        refine zr_goto (tgt := 4) dX1_rowSize_35 (by decide) ?_
        rw [hj, if_pos h3] at hk
        exact hk
      · refine zr_iconst dX1_rowSize_25 (rfl : 25 + 1 = 26) ?_
        refine zr_goto (tgt := 30) dX1_rowSize_26 (by decide) ?_
        refine zr_iadd dX1_rowSize_30 (rfl : 30 + 1 = 31) (by first | exact jI_add _ _ | rfl) ?_
        refine zr_istore_n (lv' := [_, _, _, _]) dX1_rowSize_31 (rfl : 31 + 1 = 32) (Nat.le_of_ble_eq_true rfl) rfl ?_
        refine zr_iinc (lv' := [_, _, _, _]) dX1_rowSize_32 (rfl : 32 + 3 = 35) (Nat.le_of_ble_eq_true rfl) rfl (by first | exact jI_add _ _ | rfl) rfl ?_
        refine zr_goto (tgt := 4) dX1_rowSize_35 (by decide) ?_
        rw [hj, if_neg (by omega)] at hk
        exact hk
  · refine zr_iload_n dX1_rowSize_4 (rfl : 4 + 1 = 5) rfl ?_
    refine zr_bipush dX1_rowSize_5 (rfl : 5 + 2 = 7) (by decide) ?_
    refine zr_icmp_ge (tgt := 38) dX1_rowSize_7 (by decide) (rfl : 7 + 3 = 10) (jI_le (by omega) (by omega) (by omega) (by omega)) (fun h2 => ?_) (fun h2 => ?_)
    · refine zr_iload_n dX1_rowSize_38 (rfl : 38 + 1 = 39) rfl ?_
      refine zr_iret dX1_rowSize_39 rfl rfl ?_ rfl rfl rfl
      rfl
    · omega
end CA

