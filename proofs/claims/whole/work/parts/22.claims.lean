/-! claims, prizes, the end of an evening -/
/-- the last ball is on the card, and the game is held by it -/
abbrev json (B : zB) (c n : Int) : Prop := (1 ≤ n ∧ n ≤ 90) ∧ B 1 n ≠ -1 ∧ B 1 n / 3 = c
def jhl (B : zB) (c g : Int) : Int := if json B c (jlast B) then (if g = 1 then jb (jisco (B 0) (B 1 (jlast B) / 3) (jlast B) ≠ 0) else jb (jur (B 0) (B 7) (B 1 (jlast B)) = 0)) else 0
theorem jhl_r (B : zB) (c g : Int) : 0 ≤ jhl B c g ∧ jhl B c g ≤ 1 := by
  unfold jhl
  split
  · split
    · exact jb_r
    · exact jb_r
  · decide
def jrc (B : zB) (c g : Int) : Int :=
  if B 9 g ≠ 0 ∧ B 10 g < B 12 0 then 1 else if jbit (B 9 g) c = 1 then 2
  else if 0 < juo (B 0) (B 7) c g then (if juo (B 0) (B 8) c g = 0 then 3 else 4)
  else if B 23 2 = 1 ∧ jhl B c g = 0 then 5 else 0
theorem jrc_r (B : zB) (c g : Int) : 0 ≤ jrc B c g ∧ jrc B c g ≤ 5 := by
  unfold jrc
  split
  · decide
  · split
    · decide
    · split
      · split <;> decide
      · split <;> decide
theorem juo_r (P mk : Int → Int) (c g : Int) : 0 ≤ juo P mk c g ∧ juo P mk c g ≤ 27 := by
  have u1 := jur_r P mk (c * 3)
  have u2 := jur_r P mk (c * 3 + 1)
  have u3 := jur_r P mk (c * 3 + 1 + 1)
  have u4 : 0 ≤ jucor P mk c ∧ jucor P mk c ≤ 4 := jcnt_nn 4 _
  unfold juo
  split
  · omega
  · split
    · omega
    · split <;> omega
theorem jlast_r {B : zB} (ok : jok B) : -1 ≤ jlast B ∧ jlast B ≤ 90 := by
  unfold jlast
  split
  · have := ok.dr (B 12 0 - 1); omega
  · decide
theorem jb_nar1 {x : Int} (h : 0 ≤ x ∧ x ≤ 1) : narrow .boolean (.int (jI x)) = .int (jI x) := by
  rcases (by omega : x = 0 ∨ x = 1) with h | h <;> rw [h] <;> rfl
def jsc (B : zB) (c g : Int) : zB := if jrc B c g = 0 then bset (bset (bset B 9 (jup (B 9) g (jset (B 9 g) c))) 10 (jup (B 10) g (B 12 0))) 20 (fun _ => B 20 0 + 1) else bset (bset B 21 (fun _ => B 21 0 + 1)) 15 (jup (B 15) c (B 15 c + 1))
def jhu (g : Int) : Int := if g = 0 then 10 else if g = 1 then 10 else if g = 2 then 20 else 40
theorem jhu_eq {g : Int} (h : 0 ≤ g ∧ g < 4) : nI ([10, 10, 20, 40].getD (jI g).toNatClampNeg 0) = jI (jhu g) := by
  rcases (by omega : g = 0 ∨ g = 1 ∨ g = 2 ∨ g = 3) with h | h | h | h <;> rw [h] <;> rfl
theorem jhu_r (g : Int) : 0 ≤ jhu g ∧ jhu g ≤ 40 := by
  unfold jhu
  split
  · decide
  · split
    · decide
    · split <;> decide
/-- what a game pays to each -/
def jpz (B : zB) (g : Int) : Int := if jbc (B 9 g) = 0 then 0 else B 16 0 * jhu g / 100 / jbc (B 9 g)
theorem zB_o4 {Γ : zΓ} (h : zBase Γ) : zOld Γ 4 4 (fun j => nI ([10, 10, 20, 40].getD j 0)) := h.2.2.2.2.2.2.2.2.1
theorem zB_s4 {Γ : zΓ} (h : zBase Γ) : zSt Γ "HUNDREDTHS" 4 := h.2.2.2.2.2.2.2.2.2.2.2.2.1
theorem zB_o1 {Γ : zΓ} (h : zBase Γ) : zOld Γ 1 3 (fun j => nI ([10, 0, 0].getD j 0)) := h.2.2.2.2.2.1
theorem zB_o2 {Γ : zΓ} (h : zBase Γ) : zOld Γ 2 3 (fun j => nI ([1, 0, 0].getD j 0)) := h.2.2.2.2.2.2.1
theorem zB_o3 {Γ : zΓ} (h : zBase Γ) : zOld Γ 3 3 (fun j => nI ([99, 99, 1].getD j 0)) := h.2.2.2.2.2.2.2.1
theorem zB_s1 {Γ : zΓ} (h : zBase Γ) : zSt Γ "FIRST_VALUES" 1 := h.2.2.2.2.2.2.2.2.2.1
theorem zB_s2 {Γ : zΓ} (h : zBase Γ) : zSt Γ "LEAST_VALUES" 2 := h.2.2.2.2.2.2.2.2.2.2.1
theorem zB_s3 {Γ : zΓ} (h : zBase Γ) : zSt Γ "GREATEST_VALUES" 3 := h.2.2.2.2.2.2.2.2.2.2.2.1
section CL
variable {Γ : zΓ} {d : Nat} {w : zW} {b : Nat} {B : zB}
theorem s_isHeldByLastBall (c g : Int) (hc : 0 ≤ c ∧ c < 6) (hg : 0 ≤ g ∧ g < 4) (ok : jok B) : zFn Γ md_X0_isHeldByLastBall (d + 3) [.ref b, .int (jI c), .int (jI g)] (bk b B w) (some (.int (jI (jhl B c g)))) (bk b B w) := by
  refine zFn.of_run (lv := [some (.ref b), some (.int (jI c)), some (.int (jI g)), none]) (by decide) rfl (Nat.le_of_ble_eq_true rfl) rfl (fun n9 g9 => ?_)
  have hl := jlast_r ok
  have hR := ok.R (jlast B)
  have hu := jur_r (B 0) (B 7) (B 1 (jlast B))
  refine zr_aload_n dX0_isHeldByLastBall_0 (rfl : 0 + 1 = 1) rfl ?_
  refine zr_getf dX0_isHeldByLastBall_1 (rfl : 1 + 3 = 4) f_X0_21 (by first | assumption | exact bk_0 | exact bk_1 | exact bk_2 | exact bk_3 | exact bk_4 | exact bk_5 | exact bk_6 | exact bk_7 | exact bk_8 | exact bk_9 | exact bk_10 | exact bk_11 | exact bk_12 | exact bk_13 | exact bk_14 | exact bk_15 | exact bk_16 | exact zup_self | exact (zup_ne (by first | assumption | omega)).trans (by first | assumption | exact zup_self) | exact (zup_ne (by first | assumption | omega)).trans ((zup_ne (by first | assumption | omega)).trans (by first | assumption | exact zup_self))) rfl ?_
  refine zr_fnV dX0_isHeldByLastBall_4 (rfl : 4 + 3 = 7) l_X0_134 (s_lastDrawn ok.ca) (by first | assumption | exact bk_0 | exact bk_1 | exact bk_2 | exact bk_3 | exact bk_4 | exact bk_5 | exact bk_6 | exact bk_7 | exact bk_8 | exact bk_9 | exact bk_10 | exact bk_11 | exact bk_12 | exact bk_13 | exact bk_14 | exact bk_15 | exact bk_16 | exact zup_self | exact (zup_ne (by first | assumption | omega)).trans (by first | assumption | exact zup_self) | exact (zup_ne (by first | assumption | omega)).trans ((zup_ne (by first | assumption | omega)).trans (by first | assumption | exact zup_self))) rfl rfl rfl (Nat.le_of_ble_eq_true rfl) ?_
  refine zr_istore_n (lv' := [_, _, _, _]) dX0_isHeldByLastBall_7 (rfl : 7 + 1 = 8) (Nat.le_of_ble_eq_true rfl) rfl ?_
  refine zr_aload_n dX0_isHeldByLastBall_8 (rfl : 8 + 1 = 9) rfl ?_
  refine zr_getf dX0_isHeldByLastBall_9 (rfl : 9 + 3 = 12) f_X0_12 (by first | assumption | exact bk_0 | exact bk_1 | exact bk_2 | exact bk_3 | exact bk_4 | exact bk_5 | exact bk_6 | exact bk_7 | exact bk_8 | exact bk_9 | exact bk_10 | exact bk_11 | exact bk_12 | exact bk_13 | exact bk_14 | exact bk_15 | exact bk_16 | exact zup_self | exact (zup_ne (by first | assumption | omega)).trans (by first | assumption | exact zup_self) | exact (zup_ne (by first | assumption | omega)).trans ((zup_ne (by first | assumption | omega)).trans (by first | assumption | exact zup_self))) rfl ?_
  refine zr_iload_n dX0_isHeldByLastBall_12 (rfl : 12 + 1 = 13) rfl ?_
  refine zr_iload_n dX0_isHeldByLastBall_13 (rfl : 13 + 1 = 14) rfl ?_
  refine zr_fnV dX0_isHeldByLastBall_14 (rfl : 14 + 3 = 17) l_X0_138 (s_standsIn c (jlast B) (by first | omega | (simp only [bset, reduceIte, Nat.reduceEqDiff]; omega)) hc ok.R) (by first | assumption | exact bk_0 | exact bk_1 | exact bk_2 | exact bk_3 | exact bk_4 | exact bk_5 | exact bk_6 | exact bk_7 | exact bk_8 | exact bk_9 | exact bk_10 | exact bk_11 | exact bk_12 | exact bk_13 | exact bk_14 | exact bk_15 | exact bk_16 | exact zup_self | exact (zup_ne (by first | assumption | omega)).trans (by first | assumption | exact zup_self) | exact (zup_ne (by first | assumption | omega)).trans ((zup_ne (by first | assumption | omega)).trans (by first | assumption | exact zup_self))) rfl rfl rfl (Nat.le_of_ble_eq_true rfl) ?_
  refine zr_if_ne (tgt := 22) dX0_isHeldByLastBall_17 (by decide) (rfl : 17 + 3 = 20) (by first | exact jb_iff | exact jI_z (by first | omega | (simp only [bset, reduceIte, Nat.reduceEqDiff]; omega)) (by first | omega | (simp only [bset, reduceIte, Nat.reduceEqDiff]; omega))) (fun h17 => ?_) (fun h17 => ?_)
  · first
    | (exfalso; omega)
    | (
      refine zr_iload_n dX0_isHeldByLastBall_22 (rfl : 22 + 1 = 23) rfl ?_
      refine zr_iconst dX0_isHeldByLastBall_23 (rfl : 23 + 1 = 24) ?_
      refine zr_icmp_ne (tgt := 36) dX0_isHeldByLastBall_24 (by decide) (rfl : 24 + 3 = 27) (jI_eq (by first | omega | (simp only [bset, reduceIte, Nat.reduceEqDiff]; omega)) (by first | omega | (simp only [bset, reduceIte, Nat.reduceEqDiff]; omega)) (by first | omega | (simp only [bset, reduceIte, Nat.reduceEqDiff]; omega)) (by first | omega | (simp only [bset, reduceIte, Nat.reduceEqDiff]; omega))) (fun h24 => ?_) (fun h24 => ?_)
      · first
        | (exfalso; omega)
        | (
          refine zr_aload_n dX0_isHeldByLastBall_36 (rfl : 36 + 1 = 37) rfl ?_
          refine zr_getf dX0_isHeldByLastBall_37 (rfl : 37 + 3 = 40) f_X0_12 (by first | assumption | exact bk_0 | exact bk_1 | exact bk_2 | exact bk_3 | exact bk_4 | exact bk_5 | exact bk_6 | exact bk_7 | exact bk_8 | exact bk_9 | exact bk_10 | exact bk_11 | exact bk_12 | exact bk_13 | exact bk_14 | exact bk_15 | exact bk_16 | exact zup_self | exact (zup_ne (by first | assumption | omega)).trans (by first | assumption | exact zup_self) | exact (zup_ne (by first | assumption | omega)).trans ((zup_ne (by first | assumption | omega)).trans (by first | assumption | exact zup_self))) rfl ?_
          refine zr_aload_n dX0_isHeldByLastBall_40 (rfl : 40 + 1 = 41) rfl ?_
          refine zr_getf dX0_isHeldByLastBall_41 (rfl : 41 + 3 = 44) f_X0_12 (by first | assumption | exact bk_0 | exact bk_1 | exact bk_2 | exact bk_3 | exact bk_4 | exact bk_5 | exact bk_6 | exact bk_7 | exact bk_8 | exact bk_9 | exact bk_10 | exact bk_11 | exact bk_12 | exact bk_13 | exact bk_14 | exact bk_15 | exact bk_16 | exact zup_self | exact (zup_ne (by first | assumption | omega)).trans (by first | assumption | exact zup_self) | exact (zup_ne (by first | assumption | omega)).trans ((zup_ne (by first | assumption | omega)).trans (by first | assumption | exact zup_self))) rfl ?_
          refine zr_getf dX0_isHeldByLastBall_44 (rfl : 44 + 3 = 47) f_X0_144 (by first | assumption | exact bk_0 | exact bk_1 | exact bk_2 | exact bk_3 | exact bk_4 | exact bk_5 | exact bk_6 | exact bk_7 | exact bk_8 | exact bk_9 | exact bk_10 | exact bk_11 | exact bk_12 | exact bk_13 | exact bk_14 | exact bk_15 | exact bk_16 | exact zup_self | exact (zup_ne (by first | assumption | omega)).trans (by first | assumption | exact zup_self) | exact (zup_ne (by first | assumption | omega)).trans ((zup_ne (by first | assumption | omega)).trans (by first | assumption | exact zup_self))) rfl ?_
          refine zr_iload_n dX0_isHeldByLastBall_47 (rfl : 47 + 1 = 48) rfl ?_
          refine zr_iald dX0_isHeldByLastBall_48 (rfl : 48 + 1 = 49) (by first | assumption | exact bk_0 | exact bk_1 | exact bk_2 | exact bk_3 | exact bk_4 | exact bk_5 | exact bk_6 | exact bk_7 | exact bk_8 | exact bk_9 | exact bk_10 | exact bk_11 | exact bk_12 | exact bk_13 | exact bk_14 | exact bk_15 | exact bk_16 | exact zup_self | exact (zup_ne (by first | assumption | omega)).trans (by first | assumption | exact zup_self) | exact (zup_ne (by first | assumption | omega)).trans ((zup_ne (by first | assumption | omega)).trans (by first | assumption | exact zup_self))) (by decide) (by first | omega | (simp only [bset, reduceIte, Nat.reduceEqDiff]; omega)) (by first | omega | (simp only [bset, reduceIte, Nat.reduceEqDiff]; omega)) ?_
          refine zr_aload_n dX0_isHeldByLastBall_49 (rfl : 49 + 1 = 50) rfl ?_
          refine zr_getf dX0_isHeldByLastBall_50 (rfl : 50 + 3 = 53) f_X0_21 (by first | assumption | exact bk_0 | exact bk_1 | exact bk_2 | exact bk_3 | exact bk_4 | exact bk_5 | exact bk_6 | exact bk_7 | exact bk_8 | exact bk_9 | exact bk_10 | exact bk_11 | exact bk_12 | exact bk_13 | exact bk_14 | exact bk_15 | exact bk_16 | exact zup_self | exact (zup_ne (by first | assumption | omega)).trans (by first | assumption | exact zup_self) | exact (zup_ne (by first | assumption | omega)).trans ((zup_ne (by first | assumption | omega)).trans (by first | assumption | exact zup_self))) rfl ?_
          refine zr_getf dX0_isHeldByLastBall_53 (rfl : 53 + 3 = 56) f_X0_120 (by first | assumption | exact bk_0 | exact bk_1 | exact bk_2 | exact bk_3 | exact bk_4 | exact bk_5 | exact bk_6 | exact bk_7 | exact bk_8 | exact bk_9 | exact bk_10 | exact bk_11 | exact bk_12 | exact bk_13 | exact bk_14 | exact bk_15 | exact bk_16 | exact zup_self | exact (zup_ne (by first | assumption | omega)).trans (by first | assumption | exact zup_self) | exact (zup_ne (by first | assumption | omega)).trans ((zup_ne (by first | assumption | omega)).trans (by first | assumption | exact zup_self))) rfl ?_
          refine zr_fnV dX0_isHeldByLastBall_56 (rfl : 56 + 3 = 59) l_X0_147 (s_unmarkedInRow (mk := B 7) _ (by first | omega | (simp only [bset, reduceIte, Nat.reduceEqDiff]; omega)) ok.P bk_9 ok.dam) (by first | assumption | exact bk_0 | exact bk_1 | exact bk_2 | exact bk_3 | exact bk_4 | exact bk_5 | exact bk_6 | exact bk_7 | exact bk_8 | exact bk_9 | exact bk_10 | exact bk_11 | exact bk_12 | exact bk_13 | exact bk_14 | exact bk_15 | exact bk_16 | exact zup_self | exact (zup_ne (by first | assumption | omega)).trans (by first | assumption | exact zup_self) | exact (zup_ne (by first | assumption | omega)).trans ((zup_ne (by first | assumption | omega)).trans (by first | assumption | exact zup_self))) rfl rfl rfl (Nat.le_of_ble_eq_true rfl) ?_
          refine zr_if_ne (tgt := 66) dX0_isHeldByLastBall_59 (by decide) (rfl : 59 + 3 = 62) (by first | exact jb_iff | exact jI_z (by first | omega | (simp only [bset, reduceIte, Nat.reduceEqDiff]; omega)) (by first | omega | (simp only [bset, reduceIte, Nat.reduceEqDiff]; omega))) (fun h59 => ?_) (fun h59 => ?_)
          · first
            | (exfalso; omega)
            | (
              refine zr_iconst dX0_isHeldByLastBall_66 (rfl : 66 + 1 = 67) ?_
              refine zr_iret dX0_isHeldByLastBall_67 rfl (by first | rfl | exact jb_nar) ?_ rfl rfl rfl
              unfold jhl
              rw [if_pos (by omega), if_neg (by omega)]
              first | rw [jb_pos (by omega)] | rw [jb_neg (by omega)])
          · first
            | (exfalso; omega)
            | (
              refine zr_iconst dX0_isHeldByLastBall_62 (rfl : 62 + 1 = 63) ?_
              refine zr_goto (tgt := 67) dX0_isHeldByLastBall_63 (by decide) ?_
              refine zr_iret dX0_isHeldByLastBall_67 rfl (by first | rfl | exact jb_nar) ?_ rfl rfl rfl
              unfold jhl
              rw [if_pos (by omega), if_neg (by omega)]
              first | rw [jb_pos (by omega)] | rw [jb_neg (by omega)]))
      · first
        | (exfalso; omega)
        | (
          refine zr_aload_n dX0_isHeldByLastBall_27 (rfl : 27 + 1 = 28) rfl ?_
          refine zr_getf dX0_isHeldByLastBall_28 (rfl : 28 + 3 = 31) f_X0_12 (by first | assumption | exact bk_0 | exact bk_1 | exact bk_2 | exact bk_3 | exact bk_4 | exact bk_5 | exact bk_6 | exact bk_7 | exact bk_8 | exact bk_9 | exact bk_10 | exact bk_11 | exact bk_12 | exact bk_13 | exact bk_14 | exact bk_15 | exact bk_16 | exact zup_self | exact (zup_ne (by first | assumption | omega)).trans (by first | assumption | exact zup_self) | exact (zup_ne (by first | assumption | omega)).trans ((zup_ne (by first | assumption | omega)).trans (by first | assumption | exact zup_self))) rfl ?_
          refine zr_iload_n dX0_isHeldByLastBall_31 (rfl : 31 + 1 = 32) rfl ?_
          refine zr_fnV dX0_isHeldByLastBall_32 (rfl : 32 + 3 = 35) l_X0_141 (s_isCorner (jlast B) (by first | omega | (simp only [bset, reduceIte, Nat.reduceEqDiff]; omega)) (by first | omega | (simp only [bset, reduceIte, Nat.reduceEqDiff]; omega)) ok.P) (by first | assumption | exact bk_0 | exact bk_1 | exact bk_2 | exact bk_3 | exact bk_4 | exact bk_5 | exact bk_6 | exact bk_7 | exact bk_8 | exact bk_9 | exact bk_10 | exact bk_11 | exact bk_12 | exact bk_13 | exact bk_14 | exact bk_15 | exact bk_16 | exact zup_self | exact (zup_ne (by first | assumption | omega)).trans (by first | assumption | exact zup_self) | exact (zup_ne (by first | assumption | omega)).trans ((zup_ne (by first | assumption | omega)).trans (by first | assumption | exact zup_self))) rfl rfl rfl (Nat.le_of_ble_eq_true rfl) ?_
          refine zr_iret dX0_isHeldByLastBall_35 rfl (by first | rfl | exact jb_nar) ?_ rfl rfl rfl
          unfold jhl; rw [if_pos (by omega), if_pos (by omega)]))
  · first
    | (exfalso; omega)
    | (
      refine zr_iconst dX0_isHeldByLastBall_20 (rfl : 20 + 1 = 21) ?_
      refine zr_iret dX0_isHeldByLastBall_21 rfl (by first | rfl | exact jb_nar) ?_ rfl rfl rfl
      unfold jhl; rw [if_neg (by omega)])
theorem s_reasonAgainstClaim (c g : Int) (hc : 0 ≤ c ∧ c < 6) (hg : 0 ≤ g ∧ g < 4) (ok : jok B) : zFn Γ md_X0_reasonAgainstClaim (d + 4) [.ref b, .int (jI c), .int (jI g)] (bk b B w) (some (.int (jI (jrc B c g)))) (bk b B w) := by
  refine zFn.of_run (lv := [some (.ref b), some (.int (jI c)), some (.int (jI g))]) (by decide) rfl (Nat.le_of_ble_eq_true rfl) rfl (fun n9 g9 => ?_)
  have hW := ok.W g
  have hwa := ok.wa g
  have hca := ok.ca
  have hse := ok.se 2
  have u1 := juo_r (B 0) (B 7) c g
  have u2 := juo_r (B 0) (B 8) c g
  have hb := jbit_r (B 9 g) c
  have hh := jhl_r B c g
  refine zr_aload_n dX0_reasonAgainstClaim_0 (rfl : 0 + 1 = 1) rfl ?_
  refine zr_getf dX0_reasonAgainstClaim_1 (rfl : 1 + 3 = 4) f_X0_21 (by first | assumption | exact bk_0 | exact bk_1 | exact bk_2 | exact bk_3 | exact bk_4 | exact bk_5 | exact bk_6 | exact bk_7 | exact bk_8 | exact bk_9 | exact bk_10 | exact bk_11 | exact bk_12 | exact bk_13 | exact bk_14 | exact bk_15 | exact bk_16 | exact zup_self | exact (zup_ne (by first | assumption | omega)).trans (by first | assumption | exact zup_self) | exact (zup_ne (by first | assumption | omega)).trans ((zup_ne (by first | assumption | omega)).trans (by first | assumption | exact zup_self))) rfl ?_
  refine zr_getf dX0_reasonAgainstClaim_4 (rfl : 4 + 3 = 7) f_X0_114 (by first | assumption | exact bk_0 | exact bk_1 | exact bk_2 | exact bk_3 | exact bk_4 | exact bk_5 | exact bk_6 | exact bk_7 | exact bk_8 | exact bk_9 | exact bk_10 | exact bk_11 | exact bk_12 | exact bk_13 | exact bk_14 | exact bk_15 | exact bk_16 | exact zup_self | exact (zup_ne (by first | assumption | omega)).trans (by first | assumption | exact zup_self) | exact (zup_ne (by first | assumption | omega)).trans ((zup_ne (by first | assumption | omega)).trans (by first | assumption | exact zup_self))) rfl ?_
  refine zr_iload_n dX0_reasonAgainstClaim_7 (rfl : 7 + 1 = 8) rfl ?_
  refine zr_iald dX0_reasonAgainstClaim_8 (rfl : 8 + 1 = 9) (by first | assumption | exact bk_0 | exact bk_1 | exact bk_2 | exact bk_3 | exact bk_4 | exact bk_5 | exact bk_6 | exact bk_7 | exact bk_8 | exact bk_9 | exact bk_10 | exact bk_11 | exact bk_12 | exact bk_13 | exact bk_14 | exact bk_15 | exact bk_16 | exact zup_self | exact (zup_ne (by first | assumption | omega)).trans (by first | assumption | exact zup_self) | exact (zup_ne (by first | assumption | omega)).trans ((zup_ne (by first | assumption | omega)).trans (by first | assumption | exact zup_self))) (by decide) (by first | omega | (simp only [bset, reduceIte, Nat.reduceEqDiff]; omega)) (by first | omega | (simp only [bset, reduceIte, Nat.reduceEqDiff]; omega)) ?_
  refine zr_if_eq (tgt := 33) dX0_reasonAgainstClaim_9 (by decide) (rfl : 9 + 3 = 12) (by first | exact jb_iff | exact jI_z (by first | omega | (simp only [bset, reduceIte, Nat.reduceEqDiff]; omega)) (by first | omega | (simp only [bset, reduceIte, Nat.reduceEqDiff]; omega))) (fun h9 => ?_) (fun h9 => ?_)
  · first
    | (exfalso; omega)
    | (
      refine zr_aload_n dX0_reasonAgainstClaim_33 (rfl : 33 + 1 = 34) rfl ?_
      refine zr_getf dX0_reasonAgainstClaim_34 (rfl : 34 + 3 = 37) f_X0_21 (by first | assumption | exact bk_0 | exact bk_1 | exact bk_2 | exact bk_3 | exact bk_4 | exact bk_5 | exact bk_6 | exact bk_7 | exact bk_8 | exact bk_9 | exact bk_10 | exact bk_11 | exact bk_12 | exact bk_13 | exact bk_14 | exact bk_15 | exact bk_16 | exact zup_self | exact (zup_ne (by first | assumption | omega)).trans (by first | assumption | exact zup_self) | exact (zup_ne (by first | assumption | omega)).trans ((zup_ne (by first | assumption | omega)).trans (by first | assumption | exact zup_self))) rfl ?_
      refine zr_getf dX0_reasonAgainstClaim_37 (rfl : 37 + 3 = 40) f_X0_114 (by first | assumption | exact bk_0 | exact bk_1 | exact bk_2 | exact bk_3 | exact bk_4 | exact bk_5 | exact bk_6 | exact bk_7 | exact bk_8 | exact bk_9 | exact bk_10 | exact bk_11 | exact bk_12 | exact bk_13 | exact bk_14 | exact bk_15 | exact bk_16 | exact zup_self | exact (zup_ne (by first | assumption | omega)).trans (by first | assumption | exact zup_self) | exact (zup_ne (by first | assumption | omega)).trans ((zup_ne (by first | assumption | omega)).trans (by first | assumption | exact zup_self))) rfl ?_
      refine zr_iload_n dX0_reasonAgainstClaim_40 (rfl : 40 + 1 = 41) rfl ?_
      refine zr_iald dX0_reasonAgainstClaim_41 (rfl : 41 + 1 = 42) (by first | assumption | exact bk_0 | exact bk_1 | exact bk_2 | exact bk_3 | exact bk_4 | exact bk_5 | exact bk_6 | exact bk_7 | exact bk_8 | exact bk_9 | exact bk_10 | exact bk_11 | exact bk_12 | exact bk_13 | exact bk_14 | exact bk_15 | exact bk_16 | exact zup_self | exact (zup_ne (by first | assumption | omega)).trans (by first | assumption | exact zup_self) | exact (zup_ne (by first | assumption | omega)).trans ((zup_ne (by first | assumption | omega)).trans (by first | assumption | exact zup_self))) (by decide) (by first | omega | (simp only [bset, reduceIte, Nat.reduceEqDiff]; omega)) (by first | omega | (simp only [bset, reduceIte, Nat.reduceEqDiff]; omega)) ?_
      refine zr_iconst dX0_reasonAgainstClaim_42 (rfl : 42 + 1 = 43) ?_
      refine zr_iload_n dX0_reasonAgainstClaim_43 (rfl : 43 + 1 = 44) rfl ?_
      refine zr_ishl dX0_reasonAgainstClaim_44 (rfl : 44 + 1 = 45) rfl ?_
      refine zr_iand dX0_reasonAgainstClaim_45 (rfl : 45 + 1 = 46) rfl ?_
      refine zr_if_eq (tgt := 51) dX0_reasonAgainstClaim_46 (by decide) (rfl : 46 + 3 = 49) (jbit_and (ok.W g) hc) (fun h46 => ?_) (fun h46 => ?_)
      · first
        | (exfalso; omega)
        | (
          refine zr_aload_n dX0_reasonAgainstClaim_51 (rfl : 51 + 1 = 52) rfl ?_
          refine zr_getf dX0_reasonAgainstClaim_52 (rfl : 52 + 3 = 55) f_X0_12 (by first | assumption | exact bk_0 | exact bk_1 | exact bk_2 | exact bk_3 | exact bk_4 | exact bk_5 | exact bk_6 | exact bk_7 | exact bk_8 | exact bk_9 | exact bk_10 | exact bk_11 | exact bk_12 | exact bk_13 | exact bk_14 | exact bk_15 | exact bk_16 | exact zup_self | exact (zup_ne (by first | assumption | omega)).trans (by first | assumption | exact zup_self) | exact (zup_ne (by first | assumption | omega)).trans ((zup_ne (by first | assumption | omega)).trans (by first | assumption | exact zup_self))) rfl ?_
          refine zr_iload_n dX0_reasonAgainstClaim_55 (rfl : 55 + 1 = 56) rfl ?_
          refine zr_iload_n dX0_reasonAgainstClaim_56 (rfl : 56 + 1 = 57) rfl ?_
          refine zr_aload_n dX0_reasonAgainstClaim_57 (rfl : 57 + 1 = 58) rfl ?_
          refine zr_getf dX0_reasonAgainstClaim_58 (rfl : 58 + 3 = 61) f_X0_21 (by first | assumption | exact bk_0 | exact bk_1 | exact bk_2 | exact bk_3 | exact bk_4 | exact bk_5 | exact bk_6 | exact bk_7 | exact bk_8 | exact bk_9 | exact bk_10 | exact bk_11 | exact bk_12 | exact bk_13 | exact bk_14 | exact bk_15 | exact bk_16 | exact zup_self | exact (zup_ne (by first | assumption | omega)).trans (by first | assumption | exact zup_self) | exact (zup_ne (by first | assumption | omega)).trans ((zup_ne (by first | assumption | omega)).trans (by first | assumption | exact zup_self))) rfl ?_
          refine zr_getf dX0_reasonAgainstClaim_61 (rfl : 61 + 3 = 64) f_X0_120 (by first | assumption | exact bk_0 | exact bk_1 | exact bk_2 | exact bk_3 | exact bk_4 | exact bk_5 | exact bk_6 | exact bk_7 | exact bk_8 | exact bk_9 | exact bk_10 | exact bk_11 | exact bk_12 | exact bk_13 | exact bk_14 | exact bk_15 | exact bk_16 | exact zup_self | exact (zup_ne (by first | assumption | omega)).trans (by first | assumption | exact zup_self) | exact (zup_ne (by first | assumption | omega)).trans ((zup_ne (by first | assumption | omega)).trans (by first | assumption | exact zup_self))) rfl ?_
          refine zr_fnV dX0_reasonAgainstClaim_64 (rfl : 64 + 3 = 67) l_X0_123 (s_unmarkedOfGame (mk := B 7) c g hc hg ok.P bk_9 ok.dam) (by first | assumption | exact bk_0 | exact bk_1 | exact bk_2 | exact bk_3 | exact bk_4 | exact bk_5 | exact bk_6 | exact bk_7 | exact bk_8 | exact bk_9 | exact bk_10 | exact bk_11 | exact bk_12 | exact bk_13 | exact bk_14 | exact bk_15 | exact bk_16 | exact zup_self | exact (zup_ne (by first | assumption | omega)).trans (by first | assumption | exact zup_self) | exact (zup_ne (by first | assumption | omega)).trans ((zup_ne (by first | assumption | omega)).trans (by first | assumption | exact zup_self))) rfl rfl rfl (Nat.le_of_ble_eq_true rfl) ?_
          refine zr_if_le (tgt := 95) dX0_reasonAgainstClaim_67 (by decide) (rfl : 67 + 3 = 70) (jI_lez (by first | omega | (simp only [bset, reduceIte, Nat.reduceEqDiff]; omega)) (by first | omega | (simp only [bset, reduceIte, Nat.reduceEqDiff]; omega))) (fun h67 => ?_) (fun h67 => ?_)
          · first
            | (exfalso; omega)
            | (
              refine zr_aload_n dX0_reasonAgainstClaim_95 (rfl : 95 + 1 = 96) rfl ?_
              refine zr_getf dX0_reasonAgainstClaim_96 (rfl : 96 + 3 = 99) f_X0_32 (by first | assumption | exact bk_0 | exact bk_1 | exact bk_2 | exact bk_3 | exact bk_4 | exact bk_5 | exact bk_6 | exact bk_7 | exact bk_8 | exact bk_9 | exact bk_10 | exact bk_11 | exact bk_12 | exact bk_13 | exact bk_14 | exact bk_15 | exact bk_16 | exact zup_self | exact (zup_ne (by first | assumption | omega)).trans (by first | assumption | exact zup_self) | exact (zup_ne (by first | assumption | omega)).trans ((zup_ne (by first | assumption | omega)).trans (by first | assumption | exact zup_self))) rfl ?_
              refine zr_iconst dX0_reasonAgainstClaim_99 (rfl : 99 + 1 = 100) ?_
              refine zr_iald dX0_reasonAgainstClaim_100 (rfl : 100 + 1 = 101) (by first | assumption | exact bk_0 | exact bk_1 | exact bk_2 | exact bk_3 | exact bk_4 | exact bk_5 | exact bk_6 | exact bk_7 | exact bk_8 | exact bk_9 | exact bk_10 | exact bk_11 | exact bk_12 | exact bk_13 | exact bk_14 | exact bk_15 | exact bk_16 | exact zup_self | exact (zup_ne (by first | assumption | omega)).trans (by first | assumption | exact zup_self) | exact (zup_ne (by first | assumption | omega)).trans ((zup_ne (by first | assumption | omega)).trans (by first | assumption | exact zup_self))) (by decide) (by first | omega | (simp only [bset, reduceIte, Nat.reduceEqDiff]; omega)) (by first | omega | (simp only [bset, reduceIte, Nat.reduceEqDiff]; omega)) ?_
              refine zr_iconst dX0_reasonAgainstClaim_101 (rfl : 101 + 1 = 102) ?_
              refine zr_icmp_ne (tgt := 118) dX0_reasonAgainstClaim_102 (by decide) (rfl : 102 + 3 = 105) (jI_eq (by first | omega | (simp only [bset, reduceIte, Nat.reduceEqDiff]; omega)) (by first | omega | (simp only [bset, reduceIte, Nat.reduceEqDiff]; omega)) (by first | omega | (simp only [bset, reduceIte, Nat.reduceEqDiff]; omega)) (by first | omega | (simp only [bset, reduceIte, Nat.reduceEqDiff]; omega))) (fun h102 => ?_) (fun h102 => ?_)
              · first
                | (exfalso; omega)
                | (
                  refine zr_iconst dX0_reasonAgainstClaim_118 (rfl : 118 + 1 = 119) ?_
                  refine zr_iret dX0_reasonAgainstClaim_119 rfl (by first | rfl | exact jb_nar) ?_ rfl rfl rfl
                  unfold jrc
                  rw [if_neg (by omega), if_neg (by omega), if_neg (by omega)]
                  first | rw [if_pos (by omega)] | rw [if_neg (by omega)])
              · first
                | (exfalso; omega)
                | (
                  refine zr_aload_n dX0_reasonAgainstClaim_105 (rfl : 105 + 1 = 106) rfl ?_
                  refine zr_iload_n dX0_reasonAgainstClaim_106 (rfl : 106 + 1 = 107) rfl ?_
                  refine zr_iload_n dX0_reasonAgainstClaim_107 (rfl : 107 + 1 = 108) rfl ?_
                  refine zr_fnV dX0_reasonAgainstClaim_108 (rfl : 108 + 3 = 111) l_X0_130 (s_isHeldByLastBall c g hc hg ok) (by first | assumption | exact bk_0 | exact bk_1 | exact bk_2 | exact bk_3 | exact bk_4 | exact bk_5 | exact bk_6 | exact bk_7 | exact bk_8 | exact bk_9 | exact bk_10 | exact bk_11 | exact bk_12 | exact bk_13 | exact bk_14 | exact bk_15 | exact bk_16 | exact zup_self | exact (zup_ne (by first | assumption | omega)).trans (by first | assumption | exact zup_self) | exact (zup_ne (by first | assumption | omega)).trans ((zup_ne (by first | assumption | omega)).trans (by first | assumption | exact zup_self))) rfl rfl rfl (Nat.le_of_ble_eq_true rfl) ?_
                  refine zr_if_ne (tgt := 118) dX0_reasonAgainstClaim_111 (by decide) (rfl : 111 + 3 = 114) (by first | exact jb_iff | exact jI_z (by first | omega | (simp only [bset, reduceIte, Nat.reduceEqDiff]; omega)) (by first | omega | (simp only [bset, reduceIte, Nat.reduceEqDiff]; omega))) (fun h111 => ?_) (fun h111 => ?_)
                  · first
                    | (exfalso; omega)
                    | (
                      refine zr_iconst dX0_reasonAgainstClaim_118 (rfl : 118 + 1 = 119) ?_
                      refine zr_iret dX0_reasonAgainstClaim_119 rfl (by first | rfl | exact jb_nar) ?_ rfl rfl rfl
                      unfold jrc
                      rw [if_neg (by omega), if_neg (by omega), if_neg (by omega)]
                      first | rw [if_pos (by omega)] | rw [if_neg (by omega)])
                  · first
                    | (exfalso; omega)
                    | (
                      refine zr_iconst dX0_reasonAgainstClaim_114 (rfl : 114 + 1 = 115) ?_
                      refine zr_goto (tgt := 119) dX0_reasonAgainstClaim_115 (by decide) ?_
                      refine zr_iret dX0_reasonAgainstClaim_119 rfl (by first | rfl | exact jb_nar) ?_ rfl rfl rfl
                      unfold jrc
                      rw [if_neg (by omega), if_neg (by omega), if_neg (by omega)]
                      first | rw [if_pos (by omega)] | rw [if_neg (by omega)])))
          · first
            | (exfalso; omega)
            | (
              refine zr_aload_n dX0_reasonAgainstClaim_70 (rfl : 70 + 1 = 71) rfl ?_
              refine zr_getf dX0_reasonAgainstClaim_71 (rfl : 71 + 3 = 74) f_X0_12 (by first | assumption | exact bk_0 | exact bk_1 | exact bk_2 | exact bk_3 | exact bk_4 | exact bk_5 | exact bk_6 | exact bk_7 | exact bk_8 | exact bk_9 | exact bk_10 | exact bk_11 | exact bk_12 | exact bk_13 | exact bk_14 | exact bk_15 | exact bk_16 | exact zup_self | exact (zup_ne (by first | assumption | omega)).trans (by first | assumption | exact zup_self) | exact (zup_ne (by first | assumption | omega)).trans ((zup_ne (by first | assumption | omega)).trans (by first | assumption | exact zup_self))) rfl ?_
              refine zr_iload_n dX0_reasonAgainstClaim_74 (rfl : 74 + 1 = 75) rfl ?_
              refine zr_iload_n dX0_reasonAgainstClaim_75 (rfl : 75 + 1 = 76) rfl ?_
              refine zr_aload_n dX0_reasonAgainstClaim_76 (rfl : 76 + 1 = 77) rfl ?_
              refine zr_getf dX0_reasonAgainstClaim_77 (rfl : 77 + 3 = 80) f_X0_21 (by first | assumption | exact bk_0 | exact bk_1 | exact bk_2 | exact bk_3 | exact bk_4 | exact bk_5 | exact bk_6 | exact bk_7 | exact bk_8 | exact bk_9 | exact bk_10 | exact bk_11 | exact bk_12 | exact bk_13 | exact bk_14 | exact bk_15 | exact bk_16 | exact zup_self | exact (zup_ne (by first | assumption | omega)).trans (by first | assumption | exact zup_self) | exact (zup_ne (by first | assumption | omega)).trans ((zup_ne (by first | assumption | omega)).trans (by first | assumption | exact zup_self))) rfl ?_
              refine zr_getf dX0_reasonAgainstClaim_80 (rfl : 80 + 3 = 83) f_X0_127 (by first | assumption | exact bk_0 | exact bk_1 | exact bk_2 | exact bk_3 | exact bk_4 | exact bk_5 | exact bk_6 | exact bk_7 | exact bk_8 | exact bk_9 | exact bk_10 | exact bk_11 | exact bk_12 | exact bk_13 | exact bk_14 | exact bk_15 | exact bk_16 | exact zup_self | exact (zup_ne (by first | assumption | omega)).trans (by first | assumption | exact zup_self) | exact (zup_ne (by first | assumption | omega)).trans ((zup_ne (by first | assumption | omega)).trans (by first | assumption | exact zup_self))) rfl ?_
              refine zr_fnV dX0_reasonAgainstClaim_83 (rfl : 83 + 3 = 86) l_X0_123 (s_unmarkedOfGame (mk := B 8) c g hc hg ok.P bk_10 ok.sam) (by first | assumption | exact bk_0 | exact bk_1 | exact bk_2 | exact bk_3 | exact bk_4 | exact bk_5 | exact bk_6 | exact bk_7 | exact bk_8 | exact bk_9 | exact bk_10 | exact bk_11 | exact bk_12 | exact bk_13 | exact bk_14 | exact bk_15 | exact bk_16 | exact zup_self | exact (zup_ne (by first | assumption | omega)).trans (by first | assumption | exact zup_self) | exact (zup_ne (by first | assumption | omega)).trans ((zup_ne (by first | assumption | omega)).trans (by first | assumption | exact zup_self))) rfl rfl rfl (Nat.le_of_ble_eq_true rfl) ?_
              refine zr_if_ne (tgt := 93) dX0_reasonAgainstClaim_86 (by decide) (rfl : 86 + 3 = 89) (by first | exact jb_iff | exact jI_z (by first | omega | (simp only [bset, reduceIte, Nat.reduceEqDiff]; omega)) (by first | omega | (simp only [bset, reduceIte, Nat.reduceEqDiff]; omega))) (fun h86 => ?_) (fun h86 => ?_)
              · first
                | (exfalso; omega)
                | (
                  refine zr_iconst dX0_reasonAgainstClaim_93 (rfl : 93 + 1 = 94) ?_
                  refine zr_iret dX0_reasonAgainstClaim_94 rfl (by first | rfl | exact jb_nar) ?_ rfl rfl rfl
                  unfold jrc
                  rw [if_neg (by omega), if_neg (by omega), if_pos (by omega)]
                  first | rw [if_pos (by omega)] | rw [if_neg (by omega)])
              · first
                | (exfalso; omega)
                | (
                  refine zr_iconst dX0_reasonAgainstClaim_89 (rfl : 89 + 1 = 90) ?_
                  refine zr_goto (tgt := 94) dX0_reasonAgainstClaim_90 (by decide) ?_
                  refine zr_iret dX0_reasonAgainstClaim_94 rfl (by first | rfl | exact jb_nar) ?_ rfl rfl rfl
                  unfold jrc
                  rw [if_neg (by omega), if_neg (by omega), if_pos (by omega)]
                  first | rw [if_pos (by omega)] | rw [if_neg (by omega)])))
      · first
        | (exfalso; omega)
        | (
          refine zr_iconst dX0_reasonAgainstClaim_49 (rfl : 49 + 1 = 50) ?_
          refine zr_iret dX0_reasonAgainstClaim_50 rfl (by first | rfl | exact jb_nar) ?_ rfl rfl rfl
          unfold jrc; rw [if_neg (by omega), if_pos (by omega)]))
  · first
    | (exfalso; omega)
    | (
      refine zr_aload_n dX0_reasonAgainstClaim_12 (rfl : 12 + 1 = 13) rfl ?_
      refine zr_getf dX0_reasonAgainstClaim_13 (rfl : 13 + 3 = 16) f_X0_21 (by first | assumption | exact bk_0 | exact bk_1 | exact bk_2 | exact bk_3 | exact bk_4 | exact bk_5 | exact bk_6 | exact bk_7 | exact bk_8 | exact bk_9 | exact bk_10 | exact bk_11 | exact bk_12 | exact bk_13 | exact bk_14 | exact bk_15 | exact bk_16 | exact zup_self | exact (zup_ne (by first | assumption | omega)).trans (by first | assumption | exact zup_self) | exact (zup_ne (by first | assumption | omega)).trans ((zup_ne (by first | assumption | omega)).trans (by first | assumption | exact zup_self))) rfl ?_
      refine zr_getf dX0_reasonAgainstClaim_16 (rfl : 16 + 3 = 19) f_X0_117 (by first | assumption | exact bk_0 | exact bk_1 | exact bk_2 | exact bk_3 | exact bk_4 | exact bk_5 | exact bk_6 | exact bk_7 | exact bk_8 | exact bk_9 | exact bk_10 | exact bk_11 | exact bk_12 | exact bk_13 | exact bk_14 | exact bk_15 | exact bk_16 | exact zup_self | exact (zup_ne (by first | assumption | omega)).trans (by first | assumption | exact zup_self) | exact (zup_ne (by first | assumption | omega)).trans ((zup_ne (by first | assumption | omega)).trans (by first | assumption | exact zup_self))) rfl ?_
      refine zr_iload_n dX0_reasonAgainstClaim_19 (rfl : 19 + 1 = 20) rfl ?_
      refine zr_iald dX0_reasonAgainstClaim_20 (rfl : 20 + 1 = 21) (by first | assumption | exact bk_0 | exact bk_1 | exact bk_2 | exact bk_3 | exact bk_4 | exact bk_5 | exact bk_6 | exact bk_7 | exact bk_8 | exact bk_9 | exact bk_10 | exact bk_11 | exact bk_12 | exact bk_13 | exact bk_14 | exact bk_15 | exact bk_16 | exact zup_self | exact (zup_ne (by first | assumption | omega)).trans (by first | assumption | exact zup_self) | exact (zup_ne (by first | assumption | omega)).trans ((zup_ne (by first | assumption | omega)).trans (by first | assumption | exact zup_self))) (by decide) (by first | omega | (simp only [bset, reduceIte, Nat.reduceEqDiff]; omega)) (by first | omega | (simp only [bset, reduceIte, Nat.reduceEqDiff]; omega)) ?_
      refine zr_aload_n dX0_reasonAgainstClaim_21 (rfl : 21 + 1 = 22) rfl ?_
      refine zr_getf dX0_reasonAgainstClaim_22 (rfl : 22 + 3 = 25) f_X0_21 (by first | assumption | exact bk_0 | exact bk_1 | exact bk_2 | exact bk_3 | exact bk_4 | exact bk_5 | exact bk_6 | exact bk_7 | exact bk_8 | exact bk_9 | exact bk_10 | exact bk_11 | exact bk_12 | exact bk_13 | exact bk_14 | exact bk_15 | exact bk_16 | exact zup_self | exact (zup_ne (by first | assumption | omega)).trans (by first | assumption | exact zup_self) | exact (zup_ne (by first | assumption | omega)).trans ((zup_ne (by first | assumption | omega)).trans (by first | assumption | exact zup_self))) rfl ?_
      refine zr_getf dX0_reasonAgainstClaim_25 (rfl : 25 + 3 = 28) f_X0_98 (by first | assumption | exact bk_0 | exact bk_1 | exact bk_2 | exact bk_3 | exact bk_4 | exact bk_5 | exact bk_6 | exact bk_7 | exact bk_8 | exact bk_9 | exact bk_10 | exact bk_11 | exact bk_12 | exact bk_13 | exact bk_14 | exact bk_15 | exact bk_16 | exact zup_self | exact (zup_ne (by first | assumption | omega)).trans (by first | assumption | exact zup_self) | exact (zup_ne (by first | assumption | omega)).trans ((zup_ne (by first | assumption | omega)).trans (by first | assumption | exact zup_self))) rfl ?_
      refine zr_icmp_ge (tgt := 33) dX0_reasonAgainstClaim_28 (by decide) (rfl : 28 + 3 = 31) (jI_le (by first | omega | (simp only [bset, reduceIte, Nat.reduceEqDiff]; omega)) (by first | omega | (simp only [bset, reduceIte, Nat.reduceEqDiff]; omega)) (by first | omega | (simp only [bset, reduceIte, Nat.reduceEqDiff]; omega)) (by first | omega | (simp only [bset, reduceIte, Nat.reduceEqDiff]; omega))) (fun h28 => ?_) (fun h28 => ?_)
      · first
        | (exfalso; omega)
        | (
          refine zr_aload_n dX0_reasonAgainstClaim_33 (rfl : 33 + 1 = 34) rfl ?_
          refine zr_getf dX0_reasonAgainstClaim_34 (rfl : 34 + 3 = 37) f_X0_21 (by first | assumption | exact bk_0 | exact bk_1 | exact bk_2 | exact bk_3 | exact bk_4 | exact bk_5 | exact bk_6 | exact bk_7 | exact bk_8 | exact bk_9 | exact bk_10 | exact bk_11 | exact bk_12 | exact bk_13 | exact bk_14 | exact bk_15 | exact bk_16 | exact zup_self | exact (zup_ne (by first | assumption | omega)).trans (by first | assumption | exact zup_self) | exact (zup_ne (by first | assumption | omega)).trans ((zup_ne (by first | assumption | omega)).trans (by first | assumption | exact zup_self))) rfl ?_
          refine zr_getf dX0_reasonAgainstClaim_37 (rfl : 37 + 3 = 40) f_X0_114 (by first | assumption | exact bk_0 | exact bk_1 | exact bk_2 | exact bk_3 | exact bk_4 | exact bk_5 | exact bk_6 | exact bk_7 | exact bk_8 | exact bk_9 | exact bk_10 | exact bk_11 | exact bk_12 | exact bk_13 | exact bk_14 | exact bk_15 | exact bk_16 | exact zup_self | exact (zup_ne (by first | assumption | omega)).trans (by first | assumption | exact zup_self) | exact (zup_ne (by first | assumption | omega)).trans ((zup_ne (by first | assumption | omega)).trans (by first | assumption | exact zup_self))) rfl ?_
          refine zr_iload_n dX0_reasonAgainstClaim_40 (rfl : 40 + 1 = 41) rfl ?_
          refine zr_iald dX0_reasonAgainstClaim_41 (rfl : 41 + 1 = 42) (by first | assumption | exact bk_0 | exact bk_1 | exact bk_2 | exact bk_3 | exact bk_4 | exact bk_5 | exact bk_6 | exact bk_7 | exact bk_8 | exact bk_9 | exact bk_10 | exact bk_11 | exact bk_12 | exact bk_13 | exact bk_14 | exact bk_15 | exact bk_16 | exact zup_self | exact (zup_ne (by first | assumption | omega)).trans (by first | assumption | exact zup_self) | exact (zup_ne (by first | assumption | omega)).trans ((zup_ne (by first | assumption | omega)).trans (by first | assumption | exact zup_self))) (by decide) (by first | omega | (simp only [bset, reduceIte, Nat.reduceEqDiff]; omega)) (by first | omega | (simp only [bset, reduceIte, Nat.reduceEqDiff]; omega)) ?_
          refine zr_iconst dX0_reasonAgainstClaim_42 (rfl : 42 + 1 = 43) ?_
          refine zr_iload_n dX0_reasonAgainstClaim_43 (rfl : 43 + 1 = 44) rfl ?_
          refine zr_ishl dX0_reasonAgainstClaim_44 (rfl : 44 + 1 = 45) rfl ?_
          refine zr_iand dX0_reasonAgainstClaim_45 (rfl : 45 + 1 = 46) rfl ?_
          refine zr_if_eq (tgt := 51) dX0_reasonAgainstClaim_46 (by decide) (rfl : 46 + 3 = 49) (jbit_and (ok.W g) hc) (fun h46 => ?_) (fun h46 => ?_)
          · first
            | (exfalso; omega)
            | (
              refine zr_aload_n dX0_reasonAgainstClaim_51 (rfl : 51 + 1 = 52) rfl ?_
              refine zr_getf dX0_reasonAgainstClaim_52 (rfl : 52 + 3 = 55) f_X0_12 (by first | assumption | exact bk_0 | exact bk_1 | exact bk_2 | exact bk_3 | exact bk_4 | exact bk_5 | exact bk_6 | exact bk_7 | exact bk_8 | exact bk_9 | exact bk_10 | exact bk_11 | exact bk_12 | exact bk_13 | exact bk_14 | exact bk_15 | exact bk_16 | exact zup_self | exact (zup_ne (by first | assumption | omega)).trans (by first | assumption | exact zup_self) | exact (zup_ne (by first | assumption | omega)).trans ((zup_ne (by first | assumption | omega)).trans (by first | assumption | exact zup_self))) rfl ?_
              refine zr_iload_n dX0_reasonAgainstClaim_55 (rfl : 55 + 1 = 56) rfl ?_
              refine zr_iload_n dX0_reasonAgainstClaim_56 (rfl : 56 + 1 = 57) rfl ?_
              refine zr_aload_n dX0_reasonAgainstClaim_57 (rfl : 57 + 1 = 58) rfl ?_
              refine zr_getf dX0_reasonAgainstClaim_58 (rfl : 58 + 3 = 61) f_X0_21 (by first | assumption | exact bk_0 | exact bk_1 | exact bk_2 | exact bk_3 | exact bk_4 | exact bk_5 | exact bk_6 | exact bk_7 | exact bk_8 | exact bk_9 | exact bk_10 | exact bk_11 | exact bk_12 | exact bk_13 | exact bk_14 | exact bk_15 | exact bk_16 | exact zup_self | exact (zup_ne (by first | assumption | omega)).trans (by first | assumption | exact zup_self) | exact (zup_ne (by first | assumption | omega)).trans ((zup_ne (by first | assumption | omega)).trans (by first | assumption | exact zup_self))) rfl ?_
              refine zr_getf dX0_reasonAgainstClaim_61 (rfl : 61 + 3 = 64) f_X0_120 (by first | assumption | exact bk_0 | exact bk_1 | exact bk_2 | exact bk_3 | exact bk_4 | exact bk_5 | exact bk_6 | exact bk_7 | exact bk_8 | exact bk_9 | exact bk_10 | exact bk_11 | exact bk_12 | exact bk_13 | exact bk_14 | exact bk_15 | exact bk_16 | exact zup_self | exact (zup_ne (by first | assumption | omega)).trans (by first | assumption | exact zup_self) | exact (zup_ne (by first | assumption | omega)).trans ((zup_ne (by first | assumption | omega)).trans (by first | assumption | exact zup_self))) rfl ?_
              refine zr_fnV dX0_reasonAgainstClaim_64 (rfl : 64 + 3 = 67) l_X0_123 (s_unmarkedOfGame (mk := B 7) c g hc hg ok.P bk_9 ok.dam) (by first | assumption | exact bk_0 | exact bk_1 | exact bk_2 | exact bk_3 | exact bk_4 | exact bk_5 | exact bk_6 | exact bk_7 | exact bk_8 | exact bk_9 | exact bk_10 | exact bk_11 | exact bk_12 | exact bk_13 | exact bk_14 | exact bk_15 | exact bk_16 | exact zup_self | exact (zup_ne (by first | assumption | omega)).trans (by first | assumption | exact zup_self) | exact (zup_ne (by first | assumption | omega)).trans ((zup_ne (by first | assumption | omega)).trans (by first | assumption | exact zup_self))) rfl rfl rfl (Nat.le_of_ble_eq_true rfl) ?_
              refine zr_if_le (tgt := 95) dX0_reasonAgainstClaim_67 (by decide) (rfl : 67 + 3 = 70) (jI_lez (by first | omega | (simp only [bset, reduceIte, Nat.reduceEqDiff]; omega)) (by first | omega | (simp only [bset, reduceIte, Nat.reduceEqDiff]; omega))) (fun h67 => ?_) (fun h67 => ?_)
              · first
                | (exfalso; omega)
                | (
                  refine zr_aload_n dX0_reasonAgainstClaim_95 (rfl : 95 + 1 = 96) rfl ?_
                  refine zr_getf dX0_reasonAgainstClaim_96 (rfl : 96 + 3 = 99) f_X0_32 (by first | assumption | exact bk_0 | exact bk_1 | exact bk_2 | exact bk_3 | exact bk_4 | exact bk_5 | exact bk_6 | exact bk_7 | exact bk_8 | exact bk_9 | exact bk_10 | exact bk_11 | exact bk_12 | exact bk_13 | exact bk_14 | exact bk_15 | exact bk_16 | exact zup_self | exact (zup_ne (by first | assumption | omega)).trans (by first | assumption | exact zup_self) | exact (zup_ne (by first | assumption | omega)).trans ((zup_ne (by first | assumption | omega)).trans (by first | assumption | exact zup_self))) rfl ?_
                  refine zr_iconst dX0_reasonAgainstClaim_99 (rfl : 99 + 1 = 100) ?_
                  refine zr_iald dX0_reasonAgainstClaim_100 (rfl : 100 + 1 = 101) (by first | assumption | exact bk_0 | exact bk_1 | exact bk_2 | exact bk_3 | exact bk_4 | exact bk_5 | exact bk_6 | exact bk_7 | exact bk_8 | exact bk_9 | exact bk_10 | exact bk_11 | exact bk_12 | exact bk_13 | exact bk_14 | exact bk_15 | exact bk_16 | exact zup_self | exact (zup_ne (by first | assumption | omega)).trans (by first | assumption | exact zup_self) | exact (zup_ne (by first | assumption | omega)).trans ((zup_ne (by first | assumption | omega)).trans (by first | assumption | exact zup_self))) (by decide) (by first | omega | (simp only [bset, reduceIte, Nat.reduceEqDiff]; omega)) (by first | omega | (simp only [bset, reduceIte, Nat.reduceEqDiff]; omega)) ?_
                  refine zr_iconst dX0_reasonAgainstClaim_101 (rfl : 101 + 1 = 102) ?_
                  refine zr_icmp_ne (tgt := 118) dX0_reasonAgainstClaim_102 (by decide) (rfl : 102 + 3 = 105) (jI_eq (by first | omega | (simp only [bset, reduceIte, Nat.reduceEqDiff]; omega)) (by first | omega | (simp only [bset, reduceIte, Nat.reduceEqDiff]; omega)) (by first | omega | (simp only [bset, reduceIte, Nat.reduceEqDiff]; omega)) (by first | omega | (simp only [bset, reduceIte, Nat.reduceEqDiff]; omega))) (fun h102 => ?_) (fun h102 => ?_)
                  · first
                    | (exfalso; omega)
                    | (
                      refine zr_iconst dX0_reasonAgainstClaim_118 (rfl : 118 + 1 = 119) ?_
                      refine zr_iret dX0_reasonAgainstClaim_119 rfl (by first | rfl | exact jb_nar) ?_ rfl rfl rfl
                      unfold jrc
                      rw [if_neg (by omega), if_neg (by omega), if_neg (by omega)]
                      first | rw [if_pos (by omega)] | rw [if_neg (by omega)])
                  · first
                    | (exfalso; omega)
                    | (
                      refine zr_aload_n dX0_reasonAgainstClaim_105 (rfl : 105 + 1 = 106) rfl ?_
                      refine zr_iload_n dX0_reasonAgainstClaim_106 (rfl : 106 + 1 = 107) rfl ?_
                      refine zr_iload_n dX0_reasonAgainstClaim_107 (rfl : 107 + 1 = 108) rfl ?_
                      refine zr_fnV dX0_reasonAgainstClaim_108 (rfl : 108 + 3 = 111) l_X0_130 (s_isHeldByLastBall c g hc hg ok) (by first | assumption | exact bk_0 | exact bk_1 | exact bk_2 | exact bk_3 | exact bk_4 | exact bk_5 | exact bk_6 | exact bk_7 | exact bk_8 | exact bk_9 | exact bk_10 | exact bk_11 | exact bk_12 | exact bk_13 | exact bk_14 | exact bk_15 | exact bk_16 | exact zup_self | exact (zup_ne (by first | assumption | omega)).trans (by first | assumption | exact zup_self) | exact (zup_ne (by first | assumption | omega)).trans ((zup_ne (by first | assumption | omega)).trans (by first | assumption | exact zup_self))) rfl rfl rfl (Nat.le_of_ble_eq_true rfl) ?_
                      refine zr_if_ne (tgt := 118) dX0_reasonAgainstClaim_111 (by decide) (rfl : 111 + 3 = 114) (by first | exact jb_iff | exact jI_z (by first | omega | (simp only [bset, reduceIte, Nat.reduceEqDiff]; omega)) (by first | omega | (simp only [bset, reduceIte, Nat.reduceEqDiff]; omega))) (fun h111 => ?_) (fun h111 => ?_)
                      · first
                        | (exfalso; omega)
                        | (
                          refine zr_iconst dX0_reasonAgainstClaim_118 (rfl : 118 + 1 = 119) ?_
                          refine zr_iret dX0_reasonAgainstClaim_119 rfl (by first | rfl | exact jb_nar) ?_ rfl rfl rfl
                          unfold jrc
                          rw [if_neg (by omega), if_neg (by omega), if_neg (by omega)]
                          first | rw [if_pos (by omega)] | rw [if_neg (by omega)])
                      · first
                        | (exfalso; omega)
                        | (
                          refine zr_iconst dX0_reasonAgainstClaim_114 (rfl : 114 + 1 = 115) ?_
                          refine zr_goto (tgt := 119) dX0_reasonAgainstClaim_115 (by decide) ?_
                          refine zr_iret dX0_reasonAgainstClaim_119 rfl (by first | rfl | exact jb_nar) ?_ rfl rfl rfl
                          unfold jrc
                          rw [if_neg (by omega), if_neg (by omega), if_neg (by omega)]
                          first | rw [if_pos (by omega)] | rw [if_neg (by omega)])))
              · first
                | (exfalso; omega)
                | (
                  refine zr_aload_n dX0_reasonAgainstClaim_70 (rfl : 70 + 1 = 71) rfl ?_
                  refine zr_getf dX0_reasonAgainstClaim_71 (rfl : 71 + 3 = 74) f_X0_12 (by first | assumption | exact bk_0 | exact bk_1 | exact bk_2 | exact bk_3 | exact bk_4 | exact bk_5 | exact bk_6 | exact bk_7 | exact bk_8 | exact bk_9 | exact bk_10 | exact bk_11 | exact bk_12 | exact bk_13 | exact bk_14 | exact bk_15 | exact bk_16 | exact zup_self | exact (zup_ne (by first | assumption | omega)).trans (by first | assumption | exact zup_self) | exact (zup_ne (by first | assumption | omega)).trans ((zup_ne (by first | assumption | omega)).trans (by first | assumption | exact zup_self))) rfl ?_
                  refine zr_iload_n dX0_reasonAgainstClaim_74 (rfl : 74 + 1 = 75) rfl ?_
                  refine zr_iload_n dX0_reasonAgainstClaim_75 (rfl : 75 + 1 = 76) rfl ?_
                  refine zr_aload_n dX0_reasonAgainstClaim_76 (rfl : 76 + 1 = 77) rfl ?_
                  refine zr_getf dX0_reasonAgainstClaim_77 (rfl : 77 + 3 = 80) f_X0_21 (by first | assumption | exact bk_0 | exact bk_1 | exact bk_2 | exact bk_3 | exact bk_4 | exact bk_5 | exact bk_6 | exact bk_7 | exact bk_8 | exact bk_9 | exact bk_10 | exact bk_11 | exact bk_12 | exact bk_13 | exact bk_14 | exact bk_15 | exact bk_16 | exact zup_self | exact (zup_ne (by first | assumption | omega)).trans (by first | assumption | exact zup_self) | exact (zup_ne (by first | assumption | omega)).trans ((zup_ne (by first | assumption | omega)).trans (by first | assumption | exact zup_self))) rfl ?_
                  refine zr_getf dX0_reasonAgainstClaim_80 (rfl : 80 + 3 = 83) f_X0_127 (by first | assumption | exact bk_0 | exact bk_1 | exact bk_2 | exact bk_3 | exact bk_4 | exact bk_5 | exact bk_6 | exact bk_7 | exact bk_8 | exact bk_9 | exact bk_10 | exact bk_11 | exact bk_12 | exact bk_13 | exact bk_14 | exact bk_15 | exact bk_16 | exact zup_self | exact (zup_ne (by first | assumption | omega)).trans (by first | assumption | exact zup_self) | exact (zup_ne (by first | assumption | omega)).trans ((zup_ne (by first | assumption | omega)).trans (by first | assumption | exact zup_self))) rfl ?_
                  refine zr_fnV dX0_reasonAgainstClaim_83 (rfl : 83 + 3 = 86) l_X0_123 (s_unmarkedOfGame (mk := B 8) c g hc hg ok.P bk_10 ok.sam) (by first | assumption | exact bk_0 | exact bk_1 | exact bk_2 | exact bk_3 | exact bk_4 | exact bk_5 | exact bk_6 | exact bk_7 | exact bk_8 | exact bk_9 | exact bk_10 | exact bk_11 | exact bk_12 | exact bk_13 | exact bk_14 | exact bk_15 | exact bk_16 | exact zup_self | exact (zup_ne (by first | assumption | omega)).trans (by first | assumption | exact zup_self) | exact (zup_ne (by first | assumption | omega)).trans ((zup_ne (by first | assumption | omega)).trans (by first | assumption | exact zup_self))) rfl rfl rfl (Nat.le_of_ble_eq_true rfl) ?_
                  refine zr_if_ne (tgt := 93) dX0_reasonAgainstClaim_86 (by decide) (rfl : 86 + 3 = 89) (by first | exact jb_iff | exact jI_z (by first | omega | (simp only [bset, reduceIte, Nat.reduceEqDiff]; omega)) (by first | omega | (simp only [bset, reduceIte, Nat.reduceEqDiff]; omega))) (fun h86 => ?_) (fun h86 => ?_)
                  · first
                    | (exfalso; omega)
                    | (
                      refine zr_iconst dX0_reasonAgainstClaim_93 (rfl : 93 + 1 = 94) ?_
                      refine zr_iret dX0_reasonAgainstClaim_94 rfl (by first | rfl | exact jb_nar) ?_ rfl rfl rfl
                      unfold jrc
                      rw [if_neg (by omega), if_neg (by omega), if_pos (by omega)]
                      first | rw [if_pos (by omega)] | rw [if_neg (by omega)])
                  · first
                    | (exfalso; omega)
                    | (
                      refine zr_iconst dX0_reasonAgainstClaim_89 (rfl : 89 + 1 = 90) ?_
                      refine zr_goto (tgt := 94) dX0_reasonAgainstClaim_90 (by decide) ?_
                      refine zr_iret dX0_reasonAgainstClaim_94 rfl (by first | rfl | exact jb_nar) ?_ rfl rfl rfl
                      unfold jrc
                      rw [if_neg (by omega), if_neg (by omega), if_pos (by omega)]
                      first | rw [if_pos (by omega)] | rw [if_neg (by omega)])))
          · first
            | (exfalso; omega)
            | (
              refine zr_iconst dX0_reasonAgainstClaim_49 (rfl : 49 + 1 = 50) ?_
              refine zr_iret dX0_reasonAgainstClaim_50 rfl (by first | rfl | exact jb_nar) ?_ rfl rfl rfl
              unfold jrc; rw [if_neg (by omega), if_pos (by omega)]))
      · first
        | (exfalso; omega)
        | (
          refine zr_iconst dX0_reasonAgainstClaim_31 (rfl : 31 + 1 = 32) ?_
          refine zr_iret dX0_reasonAgainstClaim_32 rfl (by first | rfl | exact jb_nar) ?_ rfl rfl rfl
          unfold jrc; rw [if_pos (by omega)]))
theorem s_settleClaim (c g : Int) (hc : 0 ≤ c ∧ c < 6) (hg : 0 ≤ g ∧ g < 4) (ok : jok B) : zFn Γ md_X0_settleClaim (d + 5) [.ref b, .int (jI c), .int (jI g)] (bk b B w) (some (.int (jI (jrc B c g)))) (bk b (jsc B c g) w) := by
  have hr := jrc_r B c g
  unfold jsc
  by_cases h0 : jrc B c g = 0
  · rw [if_pos h0]
    refine zFn.of_run (lv := [some (.ref b), some (.int (jI c)), some (.int (jI g)), none]) (by decide) rfl (Nat.le_of_ble_eq_true rfl) rfl (fun n9 g9 => ?_)
    refine zr_aload_n dX0_settleClaim_0 (rfl : 0 + 1 = 1) rfl ?_
    refine zr_iload_n dX0_settleClaim_1 (rfl : 1 + 1 = 2) rfl ?_
    refine zr_iload_n dX0_settleClaim_2 (rfl : 2 + 1 = 3) rfl ?_
    refine zr_fnV dX0_settleClaim_3 (rfl : 3 + 3 = 6) l_X0_151 (s_reasonAgainstClaim c g hc hg ok) (by first | assumption | exact bk_0 | exact bk_1 | exact bk_2 | exact bk_3 | exact bk_4 | exact bk_5 | exact bk_6 | exact bk_7 | exact bk_8 | exact bk_9 | exact bk_10 | exact bk_11 | exact bk_12 | exact bk_13 | exact bk_14 | exact bk_15 | exact bk_16 | exact zup_self | exact (zup_ne (by first | assumption | omega)).trans (by first | assumption | exact zup_self) | exact (zup_ne (by first | assumption | omega)).trans ((zup_ne (by first | assumption | omega)).trans (by first | assumption | exact zup_self))) rfl rfl rfl (Nat.le_of_ble_eq_true rfl) ?_
    refine zr_istore_n (lv' := [_, _, _, _]) dX0_settleClaim_6 (rfl : 6 + 1 = 7) (Nat.le_of_ble_eq_true rfl) rfl ?_
    refine zr_iload_n dX0_settleClaim_7 (rfl : 7 + 1 = 8) rfl ?_
    refine zr_if_ne (tgt := 58) dX0_settleClaim_8 (by decide) (rfl : 8 + 3 = 11) (by first | exact jb_iff | exact jI_z (by first | omega | (simp only [bset, reduceIte, Nat.reduceEqDiff]; omega)) (by first | omega | (simp only [bset, reduceIte, Nat.reduceEqDiff]; omega))) (fun h8 => ?_) (fun h8 => ?_)
    · exfalso; omega
    · refine zr_aload_n dX0_settleClaim_11 (rfl : 11 + 1 = 12) rfl ?_
      refine zr_getf dX0_settleClaim_12 (rfl : 12 + 3 = 15) f_X0_21 (by first | assumption | exact bk_0 | exact bk_1 | exact bk_2 | exact bk_3 | exact bk_4 | exact bk_5 | exact bk_6 | exact bk_7 | exact bk_8 | exact bk_9 | exact bk_10 | exact bk_11 | exact bk_12 | exact bk_13 | exact bk_14 | exact bk_15 | exact bk_16 | exact zup_self | exact (zup_ne (by first | assumption | omega)).trans (by first | assumption | exact zup_self) | exact (zup_ne (by first | assumption | omega)).trans ((zup_ne (by first | assumption | omega)).trans (by first | assumption | exact zup_self))) rfl ?_
      refine zr_getf dX0_settleClaim_15 (rfl : 15 + 3 = 18) f_X0_114 (by first | assumption | exact bk_0 | exact bk_1 | exact bk_2 | exact bk_3 | exact bk_4 | exact bk_5 | exact bk_6 | exact bk_7 | exact bk_8 | exact bk_9 | exact bk_10 | exact bk_11 | exact bk_12 | exact bk_13 | exact bk_14 | exact bk_15 | exact bk_16 | exact zup_self | exact (zup_ne (by first | assumption | omega)).trans (by first | assumption | exact zup_self) | exact (zup_ne (by first | assumption | omega)).trans ((zup_ne (by first | assumption | omega)).trans (by first | assumption | exact zup_self))) rfl ?_
      refine zr_iload_n dX0_settleClaim_18 (rfl : 18 + 1 = 19) rfl ?_
      refine zr_dup2 dX0_settleClaim_19 (rfl : 19 + 1 = 20) rfl rfl ?_
      refine zr_iald dX0_settleClaim_20 (rfl : 20 + 1 = 21) (by first | assumption | exact bk_0 | exact bk_1 | exact bk_2 | exact bk_3 | exact bk_4 | exact bk_5 | exact bk_6 | exact bk_7 | exact bk_8 | exact bk_9 | exact bk_10 | exact bk_11 | exact bk_12 | exact bk_13 | exact bk_14 | exact bk_15 | exact bk_16 | exact zup_self | exact (zup_ne (by first | assumption | omega)).trans (by first | assumption | exact zup_self) | exact (zup_ne (by first | assumption | omega)).trans ((zup_ne (by first | assumption | omega)).trans (by first | assumption | exact zup_self))) (by decide) (by first | omega | (simp only [bset, reduceIte, Nat.reduceEqDiff]; omega)) (by first | omega | (simp only [bset, reduceIte, Nat.reduceEqDiff]; omega)) ?_
      refine zr_iconst dX0_settleClaim_21 (rfl : 21 + 1 = 22) ?_
      refine zr_iload_n dX0_settleClaim_22 (rfl : 22 + 1 = 23) rfl ?_
      refine zr_ishl dX0_settleClaim_23 (rfl : 23 + 1 = 24) rfl ?_
      refine zr_ior (z := jI (jset (B 9 g) c)) dX0_settleClaim_24 (rfl : 24 + 1 = 25) (jbit_or (ok.W g) hc) ?_
      refine zr_iast dX0_settleClaim_25 (rfl : 25 + 1 = 26) (by first | assumption | exact bk_0 | exact bk_1 | exact bk_2 | exact bk_3 | exact bk_4 | exact bk_5 | exact bk_6 | exact bk_7 | exact bk_8 | exact bk_9 | exact bk_10 | exact bk_11 | exact bk_12 | exact bk_13 | exact bk_14 | exact bk_15 | exact bk_16 | exact zup_self | exact (zup_ne (by first | assumption | omega)).trans (by first | assumption | exact zup_self) | exact (zup_ne (by first | assumption | omega)).trans ((zup_ne (by first | assumption | omega)).trans (by first | assumption | exact zup_self))) (by decide) (by first | omega | (simp only [bset, reduceIte, Nat.reduceEqDiff]; omega)) (by first | omega | (simp only [bset, reduceIte, Nat.reduceEqDiff]; omega)) rfl ?_
      rw [bku_9]
      refine zr_aload_n dX0_settleClaim_26 (rfl : 26 + 1 = 27) rfl ?_
      refine zr_getf dX0_settleClaim_27 (rfl : 27 + 3 = 30) f_X0_21 (by first | assumption | exact bk_0 | exact bk_1 | exact bk_2 | exact bk_3 | exact bk_4 | exact bk_5 | exact bk_6 | exact bk_7 | exact bk_8 | exact bk_9 | exact bk_10 | exact bk_11 | exact bk_12 | exact bk_13 | exact bk_14 | exact bk_15 | exact bk_16 | exact zup_self | exact (zup_ne (by first | assumption | omega)).trans (by first | assumption | exact zup_self) | exact (zup_ne (by first | assumption | omega)).trans ((zup_ne (by first | assumption | omega)).trans (by first | assumption | exact zup_self))) rfl ?_
      refine zr_getf dX0_settleClaim_30 (rfl : 30 + 3 = 33) f_X0_117 (by first | assumption | exact bk_0 | exact bk_1 | exact bk_2 | exact bk_3 | exact bk_4 | exact bk_5 | exact bk_6 | exact bk_7 | exact bk_8 | exact bk_9 | exact bk_10 | exact bk_11 | exact bk_12 | exact bk_13 | exact bk_14 | exact bk_15 | exact bk_16 | exact zup_self | exact (zup_ne (by first | assumption | omega)).trans (by first | assumption | exact zup_self) | exact (zup_ne (by first | assumption | omega)).trans ((zup_ne (by first | assumption | omega)).trans (by first | assumption | exact zup_self))) rfl ?_
      refine zr_iload_n dX0_settleClaim_33 (rfl : 33 + 1 = 34) rfl ?_
      refine zr_aload_n dX0_settleClaim_34 (rfl : 34 + 1 = 35) rfl ?_
      refine zr_getf dX0_settleClaim_35 (rfl : 35 + 3 = 38) f_X0_21 (by first | assumption | exact bk_0 | exact bk_1 | exact bk_2 | exact bk_3 | exact bk_4 | exact bk_5 | exact bk_6 | exact bk_7 | exact bk_8 | exact bk_9 | exact bk_10 | exact bk_11 | exact bk_12 | exact bk_13 | exact bk_14 | exact bk_15 | exact bk_16 | exact zup_self | exact (zup_ne (by first | assumption | omega)).trans (by first | assumption | exact zup_self) | exact (zup_ne (by first | assumption | omega)).trans ((zup_ne (by first | assumption | omega)).trans (by first | assumption | exact zup_self))) rfl ?_
      refine zr_getf dX0_settleClaim_38 (rfl : 38 + 3 = 41) f_X0_98 (by first | assumption | exact bk_0 | exact bk_1 | exact bk_2 | exact bk_3 | exact bk_4 | exact bk_5 | exact bk_6 | exact bk_7 | exact bk_8 | exact bk_9 | exact bk_10 | exact bk_11 | exact bk_12 | exact bk_13 | exact bk_14 | exact bk_15 | exact bk_16 | exact zup_self | exact (zup_ne (by first | assumption | omega)).trans (by first | assumption | exact zup_self) | exact (zup_ne (by first | assumption | omega)).trans ((zup_ne (by first | assumption | omega)).trans (by first | assumption | exact zup_self))) rfl ?_
      refine zr_iast dX0_settleClaim_41 (rfl : 41 + 1 = 42) (by first | assumption | exact bk_0 | exact bk_1 | exact bk_2 | exact bk_3 | exact bk_4 | exact bk_5 | exact bk_6 | exact bk_7 | exact bk_8 | exact bk_9 | exact bk_10 | exact bk_11 | exact bk_12 | exact bk_13 | exact bk_14 | exact bk_15 | exact bk_16 | exact zup_self | exact (zup_ne (by first | assumption | omega)).trans (by first | assumption | exact zup_self) | exact (zup_ne (by first | assumption | omega)).trans ((zup_ne (by first | assumption | omega)).trans (by first | assumption | exact zup_self))) (by decide) (by first | omega | (simp only [bset, reduceIte, Nat.reduceEqDiff]; omega)) (by first | omega | (simp only [bset, reduceIte, Nat.reduceEqDiff]; omega)) rfl ?_
      rw [bku_10]
      refine zr_aload_n dX0_settleClaim_42 (rfl : 42 + 1 = 43) rfl ?_
      refine zr_getf dX0_settleClaim_43 (rfl : 43 + 3 = 46) f_X0_28 (by first | assumption | exact bk_0 | exact bk_1 | exact bk_2 | exact bk_3 | exact bk_4 | exact bk_5 | exact bk_6 | exact bk_7 | exact bk_8 | exact bk_9 | exact bk_10 | exact bk_11 | exact bk_12 | exact bk_13 | exact bk_14 | exact bk_15 | exact bk_16 | exact zup_self | exact (zup_ne (by first | assumption | omega)).trans (by first | assumption | exact zup_self) | exact (zup_ne (by first | assumption | omega)).trans ((zup_ne (by first | assumption | omega)).trans (by first | assumption | exact zup_self))) rfl ?_
      refine zr_dup dX0_settleClaim_46 (rfl : 46 + 1 = 47) rfl ?_
      refine zr_getf dX0_settleClaim_47 (rfl : 47 + 3 = 50) f_X0_154 (by first | assumption | exact bk_0 | exact bk_1 | exact bk_2 | exact bk_3 | exact bk_4 | exact bk_5 | exact bk_6 | exact bk_7 | exact bk_8 | exact bk_9 | exact bk_10 | exact bk_11 | exact bk_12 | exact bk_13 | exact bk_14 | exact bk_15 | exact bk_16 | exact zup_self | exact (zup_ne (by first | assumption | omega)).trans (by first | assumption | exact zup_self) | exact (zup_ne (by first | assumption | omega)).trans ((zup_ne (by first | assumption | omega)).trans (by first | assumption | exact zup_self))) rfl ?_
      refine zr_iconst dX0_settleClaim_50 (rfl : 50 + 1 = 51) ?_
      refine zr_iadd dX0_settleClaim_51 (rfl : 51 + 1 = 52) (by first | exact jI_add _ _ | rfl) ?_
      refine zr_putf (fs' := [_, _, _, _, _, _, _, _, _]) dX0_settleClaim_52 (rfl : 52 + 3 = 55) f_X0_154 ft_4_6 (by first | assumption | exact bk_0 | exact bk_1 | exact bk_2 | exact bk_3 | exact bk_4 | exact bk_5 | exact bk_6 | exact bk_7 | exact bk_8 | exact bk_9 | exact bk_10 | exact bk_11 | exact bk_12 | exact bk_13 | exact bk_14 | exact bk_15 | exact bk_16 | exact zup_self | exact (zup_ne (by first | assumption | omega)).trans (by first | assumption | exact zup_self) | exact (zup_ne (by first | assumption | omega)).trans ((zup_ne (by first | assumption | omega)).trans (by first | assumption | exact zup_self))) (Nat.le_of_ble_eq_true rfl) rfl rfl rfl ?_
      rw [bku_20]
      refine zr_goto (tgt := 84) dX0_settleClaim_55 (by decide) ?_
      refine zr_iload_n dX0_settleClaim_84 (rfl : 84 + 1 = 85) rfl ?_
      refine zr_iret dX0_settleClaim_85 rfl (by first | rfl | exact jb_nar) ?_ rfl rfl rfl
      rfl
  · rw [if_neg h0]
    refine zFn.of_run (lv := [some (.ref b), some (.int (jI c)), some (.int (jI g)), none]) (by decide) rfl (Nat.le_of_ble_eq_true rfl) rfl (fun n9 g9 => ?_)
    refine zr_aload_n dX0_settleClaim_0 (rfl : 0 + 1 = 1) rfl ?_
    refine zr_iload_n dX0_settleClaim_1 (rfl : 1 + 1 = 2) rfl ?_
    refine zr_iload_n dX0_settleClaim_2 (rfl : 2 + 1 = 3) rfl ?_
    refine zr_fnV dX0_settleClaim_3 (rfl : 3 + 3 = 6) l_X0_151 (s_reasonAgainstClaim c g hc hg ok) (by first | assumption | exact bk_0 | exact bk_1 | exact bk_2 | exact bk_3 | exact bk_4 | exact bk_5 | exact bk_6 | exact bk_7 | exact bk_8 | exact bk_9 | exact bk_10 | exact bk_11 | exact bk_12 | exact bk_13 | exact bk_14 | exact bk_15 | exact bk_16 | exact zup_self | exact (zup_ne (by first | assumption | omega)).trans (by first | assumption | exact zup_self) | exact (zup_ne (by first | assumption | omega)).trans ((zup_ne (by first | assumption | omega)).trans (by first | assumption | exact zup_self))) rfl rfl rfl (Nat.le_of_ble_eq_true rfl) ?_
    refine zr_istore_n (lv' := [_, _, _, _]) dX0_settleClaim_6 (rfl : 6 + 1 = 7) (Nat.le_of_ble_eq_true rfl) rfl ?_
    refine zr_iload_n dX0_settleClaim_7 (rfl : 7 + 1 = 8) rfl ?_
    refine zr_if_ne (tgt := 58) dX0_settleClaim_8 (by decide) (rfl : 8 + 3 = 11) (by first | exact jb_iff | exact jI_z (by first | omega | (simp only [bset, reduceIte, Nat.reduceEqDiff]; omega)) (by first | omega | (simp only [bset, reduceIte, Nat.reduceEqDiff]; omega))) (fun h8 => ?_) (fun h8 => ?_)
    · refine zr_aload_n dX0_settleClaim_58 (rfl : 58 + 1 = 59) rfl ?_
      refine zr_getf dX0_settleClaim_59 (rfl : 59 + 3 = 62) f_X0_28 (by first | assumption | exact bk_0 | exact bk_1 | exact bk_2 | exact bk_3 | exact bk_4 | exact bk_5 | exact bk_6 | exact bk_7 | exact bk_8 | exact bk_9 | exact bk_10 | exact bk_11 | exact bk_12 | exact bk_13 | exact bk_14 | exact bk_15 | exact bk_16 | exact zup_self | exact (zup_ne (by first | assumption | omega)).trans (by first | assumption | exact zup_self) | exact (zup_ne (by first | assumption | omega)).trans ((zup_ne (by first | assumption | omega)).trans (by first | assumption | exact zup_self))) rfl ?_
      refine zr_dup dX0_settleClaim_62 (rfl : 62 + 1 = 63) rfl ?_
      refine zr_getf dX0_settleClaim_63 (rfl : 63 + 3 = 66) f_X0_157 (by first | assumption | exact bk_0 | exact bk_1 | exact bk_2 | exact bk_3 | exact bk_4 | exact bk_5 | exact bk_6 | exact bk_7 | exact bk_8 | exact bk_9 | exact bk_10 | exact bk_11 | exact bk_12 | exact bk_13 | exact bk_14 | exact bk_15 | exact bk_16 | exact zup_self | exact (zup_ne (by first | assumption | omega)).trans (by first | assumption | exact zup_self) | exact (zup_ne (by first | assumption | omega)).trans ((zup_ne (by first | assumption | omega)).trans (by first | assumption | exact zup_self))) rfl ?_
      refine zr_iconst dX0_settleClaim_66 (rfl : 66 + 1 = 67) ?_
      refine zr_iadd dX0_settleClaim_67 (rfl : 67 + 1 = 68) (by first | exact jI_add _ _ | rfl) ?_
      refine zr_putf (fs' := [_, _, _, _, _, _, _, _, _]) dX0_settleClaim_68 (rfl : 68 + 3 = 71) f_X0_157 ft_4_7 (by first | assumption | exact bk_0 | exact bk_1 | exact bk_2 | exact bk_3 | exact bk_4 | exact bk_5 | exact bk_6 | exact bk_7 | exact bk_8 | exact bk_9 | exact bk_10 | exact bk_11 | exact bk_12 | exact bk_13 | exact bk_14 | exact bk_15 | exact bk_16 | exact zup_self | exact (zup_ne (by first | assumption | omega)).trans (by first | assumption | exact zup_self) | exact (zup_ne (by first | assumption | omega)).trans ((zup_ne (by first | assumption | omega)).trans (by first | assumption | exact zup_self))) (Nat.le_of_ble_eq_true rfl) rfl rfl rfl ?_
      rw [bku_21]
      refine zr_aload_n dX0_settleClaim_71 (rfl : 71 + 1 = 72) rfl ?_
      refine zr_getf dX0_settleClaim_72 (rfl : 72 + 3 = 75) f_X0_28 (by first | assumption | exact bk_0 | exact bk_1 | exact bk_2 | exact bk_3 | exact bk_4 | exact bk_5 | exact bk_6 | exact bk_7 | exact bk_8 | exact bk_9 | exact bk_10 | exact bk_11 | exact bk_12 | exact bk_13 | exact bk_14 | exact bk_15 | exact bk_16 | exact zup_self | exact (zup_ne (by first | assumption | omega)).trans (by first | assumption | exact zup_self) | exact (zup_ne (by first | assumption | omega)).trans ((zup_ne (by first | assumption | omega)).trans (by first | assumption | exact zup_self))) rfl ?_
      refine zr_getf dX0_settleClaim_75 (rfl : 75 + 3 = 78) f_X0_160 (by first | assumption | exact bk_0 | exact bk_1 | exact bk_2 | exact bk_3 | exact bk_4 | exact bk_5 | exact bk_6 | exact bk_7 | exact bk_8 | exact bk_9 | exact bk_10 | exact bk_11 | exact bk_12 | exact bk_13 | exact bk_14 | exact bk_15 | exact bk_16 | exact zup_self | exact (zup_ne (by first | assumption | omega)).trans (by first | assumption | exact zup_self) | exact (zup_ne (by first | assumption | omega)).trans ((zup_ne (by first | assumption | omega)).trans (by first | assumption | exact zup_self))) rfl ?_
      refine zr_iload_n dX0_settleClaim_78 (rfl : 78 + 1 = 79) rfl ?_
      refine zr_dup2 dX0_settleClaim_79 (rfl : 79 + 1 = 80) rfl rfl ?_
      refine zr_iald dX0_settleClaim_80 (rfl : 80 + 1 = 81) (by first | assumption | exact bk_0 | exact bk_1 | exact bk_2 | exact bk_3 | exact bk_4 | exact bk_5 | exact bk_6 | exact bk_7 | exact bk_8 | exact bk_9 | exact bk_10 | exact bk_11 | exact bk_12 | exact bk_13 | exact bk_14 | exact bk_15 | exact bk_16 | exact zup_self | exact (zup_ne (by first | assumption | omega)).trans (by first | assumption | exact zup_self) | exact (zup_ne (by first | assumption | omega)).trans ((zup_ne (by first | assumption | omega)).trans (by first | assumption | exact zup_self))) (by decide) (by first | omega | (simp only [bset, reduceIte, Nat.reduceEqDiff]; omega)) (by first | omega | (simp only [bset, reduceIte, Nat.reduceEqDiff]; omega)) ?_
      refine zr_iconst dX0_settleClaim_81 (rfl : 81 + 1 = 82) ?_
      refine zr_iadd dX0_settleClaim_82 (rfl : 82 + 1 = 83) (by first | exact jI_add _ _ | rfl) ?_
      refine zr_iast dX0_settleClaim_83 (rfl : 83 + 1 = 84) (by first | assumption | exact bk_0 | exact bk_1 | exact bk_2 | exact bk_3 | exact bk_4 | exact bk_5 | exact bk_6 | exact bk_7 | exact bk_8 | exact bk_9 | exact bk_10 | exact bk_11 | exact bk_12 | exact bk_13 | exact bk_14 | exact bk_15 | exact bk_16 | exact zup_self | exact (zup_ne (by first | assumption | omega)).trans (by first | assumption | exact zup_self) | exact (zup_ne (by first | assumption | omega)).trans ((zup_ne (by first | assumption | omega)).trans (by first | assumption | exact zup_self))) (by decide) (by first | omega | (simp only [bset, reduceIte, Nat.reduceEqDiff]; omega)) (by first | omega | (simp only [bset, reduceIte, Nat.reduceEqDiff]; omega)) rfl ?_
      rw [bku_15]
      refine zr_iload_n dX0_settleClaim_84 (rfl : 84 + 1 = 85) rfl ?_
      refine zr_iret dX0_settleClaim_85 rfl (by first | rfl | exact jb_nar) ?_ rfl rfl rfl
      rfl
    · exfalso; omega
theorem s_prizeForEach (g : Int) (hg : 0 ≤ g ∧ g < 4) (hW : ∀ z, 0 ≤ B 9 z ∧ B 9 z < 64) (hp : 0 ≤ B 16 0 ∧ B 16 0 ≤ 594) : zFn Γ md_X0_prizeForEach (d + 1) [.ref b, .int (jI g)] (bk b B w) (some (.int (jI (jpz B g)))) (bk b B w) := by
  refine zFn.of_run (lv := [some (.ref b), some (.int (jI g)), none]) (by decide) rfl (Nat.le_of_ble_eq_true rfl) rfl (fun n9 g9 => ?_)
  have hb := jbc_r (B 9 g)
  refine zr_aload_n dX0_prizeForEach_0 (rfl : 0 + 1 = 1) rfl ?_
  refine zr_getf dX0_prizeForEach_1 (rfl : 1 + 3 = 4) f_X0_21 (by first | assumption | exact bk_0 | exact bk_1 | exact bk_2 | exact bk_3 | exact bk_4 | exact bk_5 | exact bk_6 | exact bk_7 | exact bk_8 | exact bk_9 | exact bk_10 | exact bk_11 | exact bk_12 | exact bk_13 | exact bk_14 | exact bk_15 | exact bk_16 | exact zup_self | exact (zup_ne (by first | assumption | omega)).trans (by first | assumption | exact zup_self) | exact (zup_ne (by first | assumption | omega)).trans ((zup_ne (by first | assumption | omega)).trans (by first | assumption | exact zup_self))) rfl ?_
  refine zr_getf dX0_prizeForEach_4 (rfl : 4 + 3 = 7) f_X0_114 (by first | assumption | exact bk_0 | exact bk_1 | exact bk_2 | exact bk_3 | exact bk_4 | exact bk_5 | exact bk_6 | exact bk_7 | exact bk_8 | exact bk_9 | exact bk_10 | exact bk_11 | exact bk_12 | exact bk_13 | exact bk_14 | exact bk_15 | exact bk_16 | exact zup_self | exact (zup_ne (by first | assumption | omega)).trans (by first | assumption | exact zup_self) | exact (zup_ne (by first | assumption | omega)).trans ((zup_ne (by first | assumption | omega)).trans (by first | assumption | exact zup_self))) rfl ?_
  refine zr_iload_n dX0_prizeForEach_7 (rfl : 7 + 1 = 8) rfl ?_
  refine zr_iald dX0_prizeForEach_8 (rfl : 8 + 1 = 9) (by first | assumption | exact bk_0 | exact bk_1 | exact bk_2 | exact bk_3 | exact bk_4 | exact bk_5 | exact bk_6 | exact bk_7 | exact bk_8 | exact bk_9 | exact bk_10 | exact bk_11 | exact bk_12 | exact bk_13 | exact bk_14 | exact bk_15 | exact bk_16 | exact zup_self | exact (zup_ne (by first | assumption | omega)).trans (by first | assumption | exact zup_self) | exact (zup_ne (by first | assumption | omega)).trans ((zup_ne (by first | assumption | omega)).trans (by first | assumption | exact zup_self))) (by decide) (by first | omega | (simp only [bset, reduceIte, Nat.reduceEqDiff]; omega)) (by first | omega | (simp only [bset, reduceIte, Nat.reduceEqDiff]; omega)) ?_
  refine zr_fnS dX0_prizeForEach_9 (rfl : 9 + 3 = 12) l_X0_163 (s_bitCount _ (hW g)) rfl rfl (Nat.le_of_ble_eq_true rfl) ?_
  refine zr_istore_n (lv' := [_, _, _]) dX0_prizeForEach_12 (rfl : 12 + 1 = 13) (Nat.le_of_ble_eq_true rfl) rfl ?_
  refine zr_iload_n dX0_prizeForEach_13 (rfl : 13 + 1 = 14) rfl ?_
  refine zr_if_ne (tgt := 21) dX0_prizeForEach_14 (by decide) (rfl : 14 + 3 = 17) (by first | exact jb_iff | exact jI_z (by first | omega | (simp only [bset, reduceIte, Nat.reduceEqDiff]; omega)) (by first | omega | (simp only [bset, reduceIte, Nat.reduceEqDiff]; omega))) (fun h14 => ?_) (fun h14 => ?_)
  · refine zr_aload_n dX0_prizeForEach_21 (rfl : 21 + 1 = 22) rfl ?_
    refine zr_getf dX0_prizeForEach_22 (rfl : 22 + 3 = 25) f_X0_28 (by first | assumption | exact bk_0 | exact bk_1 | exact bk_2 | exact bk_3 | exact bk_4 | exact bk_5 | exact bk_6 | exact bk_7 | exact bk_8 | exact bk_9 | exact bk_10 | exact bk_11 | exact bk_12 | exact bk_13 | exact bk_14 | exact bk_15 | exact bk_16 | exact zup_self | exact (zup_ne (by first | assumption | omega)).trans (by first | assumption | exact zup_self) | exact (zup_ne (by first | assumption | omega)).trans ((zup_ne (by first | assumption | omega)).trans (by first | assumption | exact zup_self))) rfl ?_
    refine zr_getf dX0_prizeForEach_25 (rfl : 25 + 3 = 28) f_X0_168 (by first | assumption | exact bk_0 | exact bk_1 | exact bk_2 | exact bk_3 | exact bk_4 | exact bk_5 | exact bk_6 | exact bk_7 | exact bk_8 | exact bk_9 | exact bk_10 | exact bk_11 | exact bk_12 | exact bk_13 | exact bk_14 | exact bk_15 | exact bk_16 | exact zup_self | exact (zup_ne (by first | assumption | omega)).trans (by first | assumption | exact zup_self) | exact (zup_ne (by first | assumption | omega)).trans ((zup_ne (by first | assumption | omega)).trans (by first | assumption | exact zup_self))) rfl ?_
    refine zr_getsN dX0_prizeForEach_28 (rfl : 28 + 3 = 31) zB_s4 sf_X0_171 ?_
    refine zr_iload_n dX0_prizeForEach_31 (rfl : 31 + 1 = 32) rfl ?_
    refine zr_ialdO dX0_prizeForEach_32 (rfl : 32 + 1 = 33) zB_o4 (jI_in hg.1 (by first | omega | (simp only [bset, reduceIte, Nat.reduceEqDiff]; omega)) (by decide)) ?_
    rw [jhu_eq hg]
    have hu := jhu_r g
    have m1 : 0 ≤ B 16 0 * jhu g := Int.mul_nonneg hp.1 hu.1
    have m2 : B 16 0 * jhu g ≤ 594 * 40 := Int.mul_le_mul hp.2 hu.2 hu.1 (by decide)
    have m3 : 0 ≤ B 16 0 * jhu g / 100 := Int.ediv_nonneg m1 (by decide)
    have m4 : B 16 0 * jhu g / 100 ≤ B 16 0 * jhu g := Int.ediv_le_self _ m1
    refine zr_imul dX0_prizeForEach_33 (rfl : 33 + 1 = 34) (by first | exact jI_mul _ _ | rfl) ?_
    refine zr_bipush dX0_prizeForEach_34 (rfl : 34 + 2 = 36) (by decide) ?_
    refine zr_idiv dX0_prizeForEach_36 (rfl : 36 + 1 = 37) (fun q => absurd ((jI_z (by first | omega | (simp only [bset, reduceIte, Nat.reduceEqDiff]; omega)) (by first | omega | (simp only [bset, reduceIte, Nat.reduceEqDiff]; omega))).mp q) (by first | omega | (simp only [bset, reduceIte, Nat.reduceEqDiff]; omega))) (jI_div (by first | omega | (simp only [bset, reduceIte, Nat.reduceEqDiff]; omega)) (by first | omega | (simp only [bset, reduceIte, Nat.reduceEqDiff]; omega)) (by first | omega | (simp only [bset, reduceIte, Nat.reduceEqDiff]; omega)) (by first | omega | (simp only [bset, reduceIte, Nat.reduceEqDiff]; omega))) ?_
    refine zr_iload_n dX0_prizeForEach_37 (rfl : 37 + 1 = 38) rfl ?_
    refine zr_idiv dX0_prizeForEach_38 (rfl : 38 + 1 = 39) (fun q => absurd ((jI_z (by first | omega | (simp only [bset, reduceIte, Nat.reduceEqDiff]; omega)) (by first | omega | (simp only [bset, reduceIte, Nat.reduceEqDiff]; omega))).mp q) (by first | omega | (simp only [bset, reduceIte, Nat.reduceEqDiff]; omega))) (jI_div (by first | omega | (simp only [bset, reduceIte, Nat.reduceEqDiff]; omega)) (by first | omega | (simp only [bset, reduceIte, Nat.reduceEqDiff]; omega)) (by first | omega | (simp only [bset, reduceIte, Nat.reduceEqDiff]; omega)) (by first | omega | (simp only [bset, reduceIte, Nat.reduceEqDiff]; omega))) ?_
    refine zr_iret dX0_prizeForEach_39 rfl (by first | rfl | exact jb_nar) ?_ rfl rfl rfl
    unfold jpz; rw [if_neg (by omega)]
  · refine zr_iconst dX0_prizeForEach_17 (rfl : 17 + 1 = 18) ?_
    refine zr_goto (tgt := 39) dX0_prizeForEach_18 (by decide) ?_
    refine zr_iret dX0_prizeForEach_39 rfl (by first | rfl | exact jb_nar) ?_ rfl rfl rfl
    unfold jpz; rw [if_pos (by omega)]
/-- an evening begins -/
def jbeg (B : zB) : zB := bset (bset (bset (bset (bset (bset (bset (bset (bset B 3 (fun z => if 0 ≤ z ∧ z < 90 then z + 1 else B 3 z)) 4 (fun _ => 90)) 7 (jfil 91 0 (B 7))) 8 (jfil 91 0 (B 8))) 9 (jfil 4 0 (B 9))) 10 (jfil 4 0 (B 10))) 11 (fun _ => 0)) 12 (fun _ => 0)) 13 (fun _ => 0)
theorem s_begin : zFn Γ md_X3_begin (d + 1) [.ref (b + 4)] (bk b B w) none (bk b (jbeg B) w) := by
  refine zFn.of_run (lv := [some (.ref (b + 4))]) (by decide) rfl (Nat.le_of_ble_eq_true rfl) rfl (fun n9 g9 => ?_)
  refine zr_aload_n dX3_begin_0 (rfl : 0 + 1 = 1) rfl ?_
  refine zr_getf dX3_begin_1 (rfl : 1 + 3 = 4) f_X3_12 (by first | assumption | exact bk_0 | exact bk_1 | exact bk_2 | exact bk_3 | exact bk_4 | exact bk_5 | exact bk_6 | exact bk_7 | exact bk_8 | exact bk_9 | exact bk_10 | exact bk_11 | exact bk_12 | exact bk_13 | exact bk_14 | exact bk_15 | exact bk_16 | exact zup_self | exact (zup_ne (by first | assumption | omega)).trans (by first | assumption | exact zup_self) | exact (zup_ne (by first | assumption | omega)).trans ((zup_ne (by first | assumption | omega)).trans (by first | assumption | exact zup_self))) rfl ?_
  refine zr_fnV dX3_begin_4 (rfl : 4 + 3 = 7) l_X3_37 (s_holdAll (a := b + 5) (p := b + 6) (f := B 3) (s := B 4 0) (by first | omega | (simp only [bset, reduceIte, Nat.reduceEqDiff]; omega)) bk_5 bk_6) (by first | assumption | exact bk_0 | exact bk_1 | exact bk_2 | exact bk_3 | exact bk_4 | exact bk_5 | exact bk_6 | exact bk_7 | exact bk_8 | exact bk_9 | exact bk_10 | exact bk_11 | exact bk_12 | exact bk_13 | exact bk_14 | exact bk_15 | exact bk_16 | exact zup_self | exact (zup_ne (by first | assumption | omega)).trans (by first | assumption | exact zup_self) | exact (zup_ne (by first | assumption | omega)).trans ((zup_ne (by first | assumption | omega)).trans (by first | assumption | exact zup_self))) rfl rfl rfl (Nat.le_of_ble_eq_true rfl) ?_
  rw [bku_3, bku_4]
  refine zr_aload_n dX3_begin_7 (rfl : 7 + 1 = 8) rfl ?_
  refine zr_getf dX3_begin_8 (rfl : 8 + 3 = 11) f_X3_25 (by first | assumption | exact bk_0 | exact bk_1 | exact bk_2 | exact bk_3 | exact bk_4 | exact bk_5 | exact bk_6 | exact bk_7 | exact bk_8 | exact bk_9 | exact bk_10 | exact bk_11 | exact bk_12 | exact bk_13 | exact bk_14 | exact bk_15 | exact bk_16 | exact zup_self | exact (zup_ne (by first | assumption | omega)).trans (by first | assumption | exact zup_self) | exact (zup_ne (by first | assumption | omega)).trans ((zup_ne (by first | assumption | omega)).trans (by first | assumption | exact zup_self))) rfl ?_
  refine zr_iconst dX3_begin_11 (rfl : 11 + 1 = 12) ?_
  refine zr_fnS dX3_begin_12 (rfl : 12 + 3 = 15) l_X3_60 (s_fill (a := b + 9) (N := 91) 0 bk_9 (by decide)) rfl rfl (Nat.le_of_ble_eq_true rfl) ?_
  rw [bku_7]
  refine zr_aload_n dX3_begin_15 (rfl : 15 + 1 = 16) rfl ?_
  refine zr_getf dX3_begin_16 (rfl : 16 + 3 = 19) f_X3_28 (by first | assumption | exact bk_0 | exact bk_1 | exact bk_2 | exact bk_3 | exact bk_4 | exact bk_5 | exact bk_6 | exact bk_7 | exact bk_8 | exact bk_9 | exact bk_10 | exact bk_11 | exact bk_12 | exact bk_13 | exact bk_14 | exact bk_15 | exact bk_16 | exact zup_self | exact (zup_ne (by first | assumption | omega)).trans (by first | assumption | exact zup_self) | exact (zup_ne (by first | assumption | omega)).trans ((zup_ne (by first | assumption | omega)).trans (by first | assumption | exact zup_self))) rfl ?_
  refine zr_iconst dX3_begin_19 (rfl : 19 + 1 = 20) ?_
  refine zr_fnS dX3_begin_20 (rfl : 20 + 3 = 23) l_X3_60 (s_fill (a := b + 10) (N := 91) 0 bk_10 (by decide)) rfl rfl (Nat.le_of_ble_eq_true rfl) ?_
  rw [bku_8]
  refine zr_aload_n dX3_begin_23 (rfl : 23 + 1 = 24) rfl ?_
  refine zr_getf dX3_begin_24 (rfl : 24 + 3 = 27) f_X3_31 (by first | assumption | exact bk_0 | exact bk_1 | exact bk_2 | exact bk_3 | exact bk_4 | exact bk_5 | exact bk_6 | exact bk_7 | exact bk_8 | exact bk_9 | exact bk_10 | exact bk_11 | exact bk_12 | exact bk_13 | exact bk_14 | exact bk_15 | exact bk_16 | exact zup_self | exact (zup_ne (by first | assumption | omega)).trans (by first | assumption | exact zup_self) | exact (zup_ne (by first | assumption | omega)).trans ((zup_ne (by first | assumption | omega)).trans (by first | assumption | exact zup_self))) rfl ?_
  refine zr_iconst dX3_begin_27 (rfl : 27 + 1 = 28) ?_
  refine zr_fnS dX3_begin_28 (rfl : 28 + 3 = 31) l_X3_60 (s_fill (a := b + 11) (N := 4) 0 bk_11 (by decide)) rfl rfl (Nat.le_of_ble_eq_true rfl) ?_
  rw [bku_9]
  refine zr_aload_n dX3_begin_31 (rfl : 31 + 1 = 32) rfl ?_
  refine zr_getf dX3_begin_32 (rfl : 32 + 3 = 35) f_X3_34 (by first | assumption | exact bk_0 | exact bk_1 | exact bk_2 | exact bk_3 | exact bk_4 | exact bk_5 | exact bk_6 | exact bk_7 | exact bk_8 | exact bk_9 | exact bk_10 | exact bk_11 | exact bk_12 | exact bk_13 | exact bk_14 | exact bk_15 | exact bk_16 | exact zup_self | exact (zup_ne (by first | assumption | omega)).trans (by first | assumption | exact zup_self) | exact (zup_ne (by first | assumption | omega)).trans ((zup_ne (by first | assumption | omega)).trans (by first | assumption | exact zup_self))) rfl ?_
  refine zr_iconst dX3_begin_35 (rfl : 35 + 1 = 36) ?_
  refine zr_fnS dX3_begin_36 (rfl : 36 + 3 = 39) l_X3_60 (s_fill (a := b + 12) (N := 4) 0 bk_12 (by decide)) rfl rfl (Nat.le_of_ble_eq_true rfl) ?_
  rw [bku_10]
  refine zr_aload_n dX3_begin_39 (rfl : 39 + 1 = 40) rfl ?_
  refine zr_iconst dX3_begin_40 (rfl : 40 + 1 = 41) ?_
  refine zr_putf (fs' := [_, _, _, _, _, _, _, _, _, _]) dX3_begin_41 (rfl : 41 + 3 = 44) f_X3_50 ft_3_7 (by first | assumption | exact bk_0 | exact bk_1 | exact bk_2 | exact bk_3 | exact bk_4 | exact bk_5 | exact bk_6 | exact bk_7 | exact bk_8 | exact bk_9 | exact bk_10 | exact bk_11 | exact bk_12 | exact bk_13 | exact bk_14 | exact bk_15 | exact bk_16 | exact zup_self | exact (zup_ne (by first | assumption | omega)).trans (by first | assumption | exact zup_self) | exact (zup_ne (by first | assumption | omega)).trans ((zup_ne (by first | assumption | omega)).trans (by first | assumption | exact zup_self))) (Nat.le_of_ble_eq_true rfl) rfl rfl rfl ?_
  rw [bku_11]
  refine zr_aload_n dX3_begin_44 (rfl : 44 + 1 = 45) rfl ?_
  refine zr_iconst dX3_begin_45 (rfl : 45 + 1 = 46) ?_
  refine zr_putf (fs' := [_, _, _, _, _, _, _, _, _, _]) dX3_begin_46 (rfl : 46 + 3 = 49) f_X3_54 ft_3_8 (by first | assumption | exact bk_0 | exact bk_1 | exact bk_2 | exact bk_3 | exact bk_4 | exact bk_5 | exact bk_6 | exact bk_7 | exact bk_8 | exact bk_9 | exact bk_10 | exact bk_11 | exact bk_12 | exact bk_13 | exact bk_14 | exact bk_15 | exact bk_16 | exact zup_self | exact (zup_ne (by first | assumption | omega)).trans (by first | assumption | exact zup_self) | exact (zup_ne (by first | assumption | omega)).trans ((zup_ne (by first | assumption | omega)).trans (by first | assumption | exact zup_self))) (Nat.le_of_ble_eq_true rfl) rfl rfl rfl ?_
  rw [bku_12]
  refine zr_aload_n dX3_begin_49 (rfl : 49 + 1 = 50) rfl ?_
  refine zr_iconst dX3_begin_50 (rfl : 50 + 1 = 51) ?_
  refine zr_putf (fs' := [_, _, _, _, _, _, _, _, _, _]) dX3_begin_51 (rfl : 51 + 3 = 54) f_X3_57 ft_3_9 (by first | assumption | exact bk_0 | exact bk_1 | exact bk_2 | exact bk_3 | exact bk_4 | exact bk_5 | exact bk_6 | exact bk_7 | exact bk_8 | exact bk_9 | exact bk_10 | exact bk_11 | exact bk_12 | exact bk_13 | exact bk_14 | exact bk_15 | exact bk_16 | exact zup_self | exact (zup_ne (by first | assumption | omega)).trans (by first | assumption | exact zup_self) | exact (zup_ne (by first | assumption | omega)).trans ((zup_ne (by first | assumption | omega)).trans (by first | assumption | exact zup_self))) (Nat.le_of_ble_eq_true rfl) rfl rfl rfl ?_
  rw [bku_13]
  exact zr_vret dX3_begin_54 rfl rfl rfl rfl
end CL

