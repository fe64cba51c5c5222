/-! the reference: games -/
def jif (P : Int → Prop) (i x : Int) : Prop := (x = 1 ∧ ∃ m, 1 ≤ m ∧ m < i ∧ P m) ∨ (x = 0 ∧ ∀ m, 1 ≤ m → m < i → ¬ P m)
section IF
variable {P : Int → Prop} {i x : Int}
theorem jif_r (h : jif P i x) : 0 ≤ x ∧ x ≤ 1 := by
  rcases h with ⟨rfl, -⟩ | ⟨rfl, -⟩ <;> decide
theorem jif_1 (h : jif P i x) (hx : x ≠ 0) : jif P (i + 1) 1 := by
  rcases h with ⟨-, m, m0, m1, m2⟩ | ⟨e, -⟩
  · exact Or.inl ⟨rfl, m, m0, by omega, m2⟩
  · exact absurd e hx
theorem jif_y (h1 : 1 ≤ i) (h : P i) : jif P (i + 1) 1 := Or.inl ⟨rfl, i, h1, by omega, h⟩
theorem jif_n (h : jif P i x) (hx : x = 0) (hp : ¬ P i) : jif P (i + 1) 0 := by
  rcases h with ⟨e, -⟩ | ⟨-, h⟩
  · omega
  · refine Or.inr ⟨rfl, fun m m0 m1 => ?_⟩
    by_cases e : m = i
    · rw [e]
      exact hp
    · exact h m m0 (by omega)
end IF
section GA
variable {Γ : zΓ} {d : Nat} {S : Int → Int} {st : Int} {ik : Int → Int} {th : Int} {tx : Int → Int} {ty : Int} {w : zW} {B : zB}
theorem m_isCorner (c n : Int) (hc : 0 ≤ c ∧ c < 6) (hn : 1 ≤ n ∧ n ≤ 90) (h : mr S 0 B) (ok : jok B) (lk : jlk B) : zFn Γ md_X7_isCorner d [.ref 167, .int (jI c), .int (jI n)] (mw S st ik th tx ty w) (some (.int (jI (jb (jcnb B c n = true))))) (mw S st ik th tx ty w) := by
  have hp := h.pl0 n hn.1 hn.2
  have hR := ok.R n
  have hnot : ¬ (B 1 n = 3 * c ∨ B 1 n = 3 * c + 2) → ¬ (jcnb B c n = true) := by
    intro q1 q2
    unfold jcnb at q2
    simp only [Bool.and_eq_true, Bool.or_eq_true, decide_eq_true_eq] at q2
    omega
  have hyes : (B 1 n = 3 * c ∨ B 1 n = 3 * c + 2) → ((jcnb B c n = true) ↔ (jlow B (B 1 n) = n ∨ jhigh B (B 1 n) = n)) := by
    intro q1
    unfold jcnb
    simp only [Bool.and_eq_true, Bool.or_eq_true, decide_eq_true_eq]
    constructor
    · exact fun q => q.2
    · exact fun q => ⟨by omega, q⟩
  refine zFn.of_run (lv := [some (.ref 167), some (.int (jI c)), some (.int (jI n)), none, none, none, none]) (by decide) rfl (Nat.le_of_ble_eq_true rfl) rfl (fun n9 g9 => ?_)
  refine zr_aload_n dX7_isCorner_0 (rfl : 0 + 1 = 1) rfl ?_
  refine zr_getf dX7_isCorner_1 (rfl : 1 + 3 = 4) f_X7_7 (by first | assumption | exact mw_167 | exact mw_168 | exact mw_169 | exact mw_170 | exact bk_0 | exact bk_1 | exact bk_2 | exact bk_3 | exact bk_4 | exact bk_5 | exact bk_6 | exact bk_7 | exact bk_8 | exact bk_9 | exact bk_10 | exact bk_11 | exact bk_12 | exact bk_13 | exact bk_14 | exact bk_15 | exact bk_16 | exact zup_self | exact (zup_ne (by first | assumption | omega)).trans (by first | assumption | exact zup_self) | exact (zup_ne (by first | assumption | omega)).trans ((zup_ne (by first | assumption | omega)).trans (by first | assumption | exact zup_self)) | exact (bk_out (by first | omega | (simp only [bset, reduceIte, Nat.reduceEqDiff]; omega))).trans (by first | exact bk_0 | exact bk_1 | exact bk_2 | exact bk_3 | exact bk_4 | exact bk_5 | exact bk_6 | exact bk_7 | exact bk_8 | exact bk_9 | exact bk_10 | exact bk_11 | exact bk_12 | exact bk_13 | exact bk_14 | exact bk_15 | exact bk_16 | exact cr_5 | exact cr_23 | exact cr_24 | exact cr_25 | exact cr_26 | exact cr_27 | exact cr_28 | exact cr_29 | exact cr_30 | assumption)) rfl ?_
  refine zr_iconst dX7_isCorner_4 (rfl : 4 + 1 = 5) ?_
  refine zr_iload_n dX7_isCorner_5 (rfl : 5 + 1 = 6) rfl ?_
  refine zr_iadd dX7_isCorner_6 (rfl : 6 + 1 = 7) (by first | exact jI_add _ _ | rfl) ?_
  refine zr_iald dX7_isCorner_7 (rfl : 7 + 1 = 8) (by first | assumption | exact mw_167 | exact mw_168 | exact mw_169 | exact mw_170 | exact bk_0 | exact bk_1 | exact bk_2 | exact bk_3 | exact bk_4 | exact bk_5 | exact bk_6 | exact bk_7 | exact bk_8 | exact bk_9 | exact bk_10 | exact bk_11 | exact bk_12 | exact bk_13 | exact bk_14 | exact bk_15 | exact bk_16 | exact zup_self | exact (zup_ne (by first | assumption | omega)).trans (by first | assumption | exact zup_self) | exact (zup_ne (by first | assumption | omega)).trans ((zup_ne (by first | assumption | omega)).trans (by first | assumption | exact zup_self)) | exact (bk_out (by first | omega | (simp only [bset, reduceIte, Nat.reduceEqDiff]; omega))).trans (by first | exact bk_0 | exact bk_1 | exact bk_2 | exact bk_3 | exact bk_4 | exact bk_5 | exact bk_6 | exact bk_7 | exact bk_8 | exact bk_9 | exact bk_10 | exact bk_11 | exact bk_12 | exact bk_13 | exact bk_14 | exact bk_15 | exact bk_16 | exact cr_5 | exact cr_23 | exact cr_24 | exact cr_25 | exact cr_26 | exact cr_27 | exact cr_28 | exact cr_29 | exact cr_30 | assumption)) (by decide) (by first | omega | (simp only [bset, reduceIte, Nat.reduceEqDiff]; omega)) (by first | omega | (simp only [bset, reduceIte, Nat.reduceEqDiff]; omega)) ?_
  rw [hp]
  refine zr_iconst dX7_isCorner_8 (rfl : 8 + 1 = 9) ?_
  refine zr_isub dX7_isCorner_9 (rfl : 9 + 1 = 10) (by first | exact jI_sub _ _ | rfl) ?_
  rw [show B 1 n + 1 - 1 = B 1 n by omega]
  refine zr_istore_n (lv' := [_, _, _, _, _, _, _]) dX7_isCorner_10 (rfl : 10 + 1 = 11) (Nat.le_of_ble_eq_true rfl) rfl ?_
  have fin : (B 1 n = 3 * c ∨ B 1 n = 3 * c + 2) → zRun Γ md_X7_isCorner d none 29 [some (.ref 167), some (.int (jI c)), some (.int (jI n)), some (.int (jI (B 1 n))), none, none, none] [] (n9, g9, 0, 0) (mw S st ik th tx ty w) (zDone md_X7_isCorner (some (.int (jI (jb (jcnb B c n = true))))) (mw S st ik th tx ty w) n9 g9) := by
    intro hrow
    have hy := hyes hrow
    have hl1 := jlow_iff ok lk hn (rfl : B 1 n = B 1 n) (by omega)
    have hg1 := jhigh_iff ok lk hn (rfl : B 1 n = B 1 n) (by omega)
    refine zr_iconst dX7_isCorner_29 (rfl : 29 + 1 = 30) ?_
    refine zr_istore (lv' := [_, _, _, _, _, _, _]) dX7_isCorner_30 (rfl : 30 + 2 = 32) (Nat.le_of_ble_eq_true rfl) rfl ?_
    refine zr_iconst dX7_isCorner_32 (rfl : 32 + 1 = 33) ?_
    refine zr_istore (lv' := [_, _, _, _, _, _, _]) dX7_isCorner_33 (rfl : 33 + 2 = 35) (Nat.le_of_ble_eq_true rfl) rfl ?_
    refine zr_iconst dX7_isCorner_35 (rfl : 35 + 1 = 36) ?_
    refine zr_istore (lv' := [_, _, _, _, _, _, _]) dX7_isCorner_36 (rfl : 36 + 2 = 38) (Nat.le_of_ble_eq_true rfl) rfl ?_
    refine zfor2 1 90 (fun i x y => jif (fun m => m < n ∧ B 1 m = B 1 n) i x ∧ jif (fun m => n < m ∧ B 1 m = B 1 n) i y) (fun i x y => [some (.ref 167), some (.int (jI c)), some (.int (jI n)), some (.int (jI (B 1 n))), some (.int (jI x)), some (.int (jI y)), some (.int (jI i))]) (fun _ _ _ => (mw S st ik th tx ty w)) 0 0 ⟨Or.inr ⟨rfl, fun m m0 m1 => absurd m1 (by omega)⟩, Or.inr ⟨rfl, fun m m0 m1 => absurd m1 (by omega)⟩⟩ ?_ ?_
    · intro i x y i0 i1 hI hk
      obtain ⟨hx, hy⟩ := hI
      have hpi := h.pl0 i i0 (by omega)
      have hRi := ok.R i
      have hxr := jif_r hx
      have hyr := jif_r hy
      refine zr_iload dX7_isCorner_38 (rfl : 38 + 2 = 40) rfl ?_
      refine zr_bipush dX7_isCorner_40 (rfl : 40 + 2 = 42) (by decide) ?_
      refine zr_icmp_gt (tgt := 117) dX7_isCorner_42 (by decide) (rfl : 42 + 3 = 45) (jI_lt (by first | omega | (simp only [bset, reduceIte, Nat.reduceEqDiff]; omega)) (by first | omega | (simp only [bset, reduceIte, Nat.reduceEqDiff]; omega)) (by first | omega | (simp only [bset, reduceIte, Nat.reduceEqDiff]; omega)) (by first | omega | (simp only [bset, reduceIte, Nat.reduceEqDiff]; omega))) (fun h42 => ?_) (fun h42 => ?_)
      · first
        | (exfalso; omega)
        | (
          refine zr_iload dX7_isCorner_117 (rfl : 117 + 2 = 119) rfl ?_
          refine zr_if_eq (tgt := 127) dX7_isCorner_119 (by decide) (rfl : 119 + 3 = 122) (by first | exact jb_iff | exact jI_z (by first | omega | (simp only [bset, reduceIte, Nat.reduceEqDiff]; omega)) (by first | omega | (simp only [bset, reduceIte, Nat.reduceEqDiff]; omega))) (fun h119 => ?_) (fun h119 => ?_)
          · first
            | (exfalso; omega)
            | (
              refine zr_iconst dX7_isCorner_127 (rfl : 127 + 1 = 128) ?_
              refine zr_goto (tgt := 132) dX7_isCorner_128 (by decide) ?_
              refine zr_iret dX7_isCorner_132 rfl (by first | exact jb_nar | rfl) ?_ rfl rfl rfl
              first | rfl | rw [jb_pos (by first | assumption | omega)] | rw [jb_neg (by first | assumption | omega)] | rw [if_pos (by first | assumption | omega)] | rw [if_neg (by first | assumption | omega)])
          · first
            | (exfalso; omega)
            | (
              refine zr_iload dX7_isCorner_122 (rfl : 122 + 2 = 124) rfl ?_
              refine zr_if_ne (tgt := 131) dX7_isCorner_124 (by decide) (rfl : 124 + 3 = 127) (by first | exact jb_iff | exact jI_z (by first | omega | (simp only [bset, reduceIte, Nat.reduceEqDiff]; omega)) (by first | omega | (simp only [bset, reduceIte, Nat.reduceEqDiff]; omega))) (fun h124 => ?_) (fun h124 => ?_)
              · first
                | (exfalso; omega)
                | (
                  refine zr_iconst dX7_isCorner_131 (rfl : 131 + 1 = 132) ?_
                  refine zr_iret dX7_isCorner_132 rfl (by first | exact jb_nar | rfl) ?_ rfl rfl rfl
                  first | rfl | rw [jb_pos (by first | assumption | omega)] | rw [jb_neg (by first | assumption | omega)] | rw [if_pos (by first | assumption | omega)] | rw [if_neg (by first | assumption | omega)])
              · first
                | (exfalso; omega)
                | (
                  refine zr_iconst dX7_isCorner_127 (rfl : 127 + 1 = 128) ?_
                  refine zr_goto (tgt := 132) dX7_isCorner_128 (by decide) ?_
                  refine zr_iret dX7_isCorner_132 rfl (by first | exact jb_nar | rfl) ?_ rfl rfl rfl
                  first | rfl | rw [jb_pos (by first | assumption | omega)] | rw [jb_neg (by first | assumption | omega)] | rw [if_pos (by first | assumption | omega)] | rw [if_neg (by first | assumption | omega)])))
      · first
        | (exfalso; omega)
        | (
          refine zr_iload dX7_isCorner_45 (rfl : 45 + 2 = 47) rfl ?_
          refine zr_if_ne (tgt := 71) dX7_isCorner_47 (by decide) (rfl : 47 + 3 = 50) (by first | exact jb_iff | exact jI_z (by first | omega | (simp only [bset, reduceIte, Nat.reduceEqDiff]; omega)) (by first | omega | (simp only [bset, reduceIte, Nat.reduceEqDiff]; omega))) (fun h47 => ?_) (fun h47 => ?_)
          · first
            | (exfalso; omega)
            | (
              refine zr_iconst dX7_isCorner_71 (rfl : 71 + 1 = 72) ?_
              refine zr_goto (tgt := 76) dX7_isCorner_72 (by decide) ?_
              refine zr_istore (lv' := [_, _, _, _, _, _, _]) dX7_isCorner_76 (rfl : 76 + 2 = 78) (Nat.le_of_ble_eq_true rfl) rfl ?_
              refine zr_iload dX7_isCorner_78 (rfl : 78 + 2 = 80) rfl ?_
              refine zr_if_ne (tgt := 104) dX7_isCorner_80 (by decide) (rfl : 80 + 3 = 83) (by first | exact jb_iff | exact jI_z (by first | omega | (simp only [bset, reduceIte, Nat.reduceEqDiff]; omega)) (by first | omega | (simp only [bset, reduceIte, Nat.reduceEqDiff]; omega))) (fun h80 => ?_) (fun h80 => ?_)
              · first
                | (exfalso; omega)
                | (
                  refine zr_iconst dX7_isCorner_104 (rfl : 104 + 1 = 105) ?_
                  refine zr_goto (tgt := 109) dX7_isCorner_105 (by decide) ?_
                  refine zr_istore (lv' := [_, _, _, _, _, _, _]) dX7_isCorner_109 (rfl : 109 + 2 = 111) (Nat.le_of_ble_eq_true rfl) rfl ?_
                  refine zr_iinc (lv' := [_, _, _, _, _, _, _]) dX7_isCorner_111 (rfl : 111 + 3 = 114) (Nat.le_of_ble_eq_true rfl) rfl (by first | exact jI_add _ _ | rfl) rfl ?_
                  refine zr_goto (tgt := 38) dX7_isCorner_114 (by decide) ?_
                  refine hk _ _ ⟨?_, ?_⟩
                  · first | exact jif_1 hx (by omega) | exact jif_y i0 ⟨by omega, by omega⟩ | exact jif_n hx (by omega) (by omega)
                  · first | exact jif_1 hy (by omega) | exact jif_y i0 ⟨by omega, by omega⟩ | exact jif_n hy (by omega) (by omega))
              · first
                | (exfalso; omega)
                | (
                  refine zr_iload dX7_isCorner_83 (rfl : 83 + 2 = 85) rfl ?_
                  refine zr_iload_n dX7_isCorner_85 (rfl : 85 + 1 = 86) rfl ?_
                  refine zr_icmp_le (tgt := 108) dX7_isCorner_86 (by decide) (rfl : 86 + 3 = 89) (jI_le (by first | omega | (simp only [bset, reduceIte, Nat.reduceEqDiff]; omega)) (by first | omega | (simp only [bset, reduceIte, Nat.reduceEqDiff]; omega)) (by first | omega | (simp only [bset, reduceIte, Nat.reduceEqDiff]; omega)) (by first | omega | (simp only [bset, reduceIte, Nat.reduceEqDiff]; omega))) (fun h86 => ?_) (fun h86 => ?_)
                  · first
                    | (exfalso; omega)
                    | (
                      refine zr_iconst dX7_isCorner_108 (rfl : 108 + 1 = 109) ?_
                      refine zr_istore (lv' := [_, _, _, _, _, _, _]) dX7_isCorner_109 (rfl : 109 + 2 = 111) (Nat.le_of_ble_eq_true rfl) rfl ?_
                      refine zr_iinc (lv' := [_, _, _, _, _, _, _]) dX7_isCorner_111 (rfl : 111 + 3 = 114) (Nat.le_of_ble_eq_true rfl) rfl (by first | exact jI_add _ _ | rfl) rfl ?_
                      refine zr_goto (tgt := 38) dX7_isCorner_114 (by decide) ?_
                      refine hk _ _ ⟨?_, ?_⟩
                      · first | exact jif_1 hx (by omega) | exact jif_y i0 ⟨by omega, by omega⟩ | exact jif_n hx (by omega) (by omega)
                      · first | exact jif_1 hy (by omega) | exact jif_y i0 ⟨by omega, by omega⟩ | exact jif_n hy (by omega) (by omega))
                  · first
                    | (exfalso; omega)
                    | (
                      refine zr_aload_n dX7_isCorner_89 (rfl : 89 + 1 = 90) rfl ?_
                      refine zr_getf dX7_isCorner_90 (rfl : 90 + 3 = 93) f_X7_7 (by first | assumption | exact mw_167 | exact mw_168 | exact mw_169 | exact mw_170 | exact bk_0 | exact bk_1 | exact bk_2 | exact bk_3 | exact bk_4 | exact bk_5 | exact bk_6 | exact bk_7 | exact bk_8 | exact bk_9 | exact bk_10 | exact bk_11 | exact bk_12 | exact bk_13 | exact bk_14 | exact bk_15 | exact bk_16 | exact zup_self | exact (zup_ne (by first | assumption | omega)).trans (by first | assumption | exact zup_self) | exact (zup_ne (by first | assumption | omega)).trans ((zup_ne (by first | assumption | omega)).trans (by first | assumption | exact zup_self)) | exact (bk_out (by first | omega | (simp only [bset, reduceIte, Nat.reduceEqDiff]; omega))).trans (by first | exact bk_0 | exact bk_1 | exact bk_2 | exact bk_3 | exact bk_4 | exact bk_5 | exact bk_6 | exact bk_7 | exact bk_8 | exact bk_9 | exact bk_10 | exact bk_11 | exact bk_12 | exact bk_13 | exact bk_14 | exact bk_15 | exact bk_16 | exact cr_5 | exact cr_23 | exact cr_24 | exact cr_25 | exact cr_26 | exact cr_27 | exact cr_28 | exact cr_29 | exact cr_30 | assumption)) rfl ?_
                      refine zr_iconst dX7_isCorner_93 (rfl : 93 + 1 = 94) ?_
                      refine zr_iload dX7_isCorner_94 (rfl : 94 + 2 = 96) rfl ?_
                      refine zr_iadd dX7_isCorner_96 (rfl : 96 + 1 = 97) (by first | exact jI_add _ _ | rfl) ?_
                      refine zr_iald dX7_isCorner_97 (rfl : 97 + 1 = 98) (by first | assumption | exact mw_167 | exact mw_168 | exact mw_169 | exact mw_170 | exact bk_0 | exact bk_1 | exact bk_2 | exact bk_3 | exact bk_4 | exact bk_5 | exact bk_6 | exact bk_7 | exact bk_8 | exact bk_9 | exact bk_10 | exact bk_11 | exact bk_12 | exact bk_13 | exact bk_14 | exact bk_15 | exact bk_16 | exact zup_self | exact (zup_ne (by first | assumption | omega)).trans (by first | assumption | exact zup_self) | exact (zup_ne (by first | assumption | omega)).trans ((zup_ne (by first | assumption | omega)).trans (by first | assumption | exact zup_self)) | exact (bk_out (by first | omega | (simp only [bset, reduceIte, Nat.reduceEqDiff]; omega))).trans (by first | exact bk_0 | exact bk_1 | exact bk_2 | exact bk_3 | exact bk_4 | exact bk_5 | exact bk_6 | exact bk_7 | exact bk_8 | exact bk_9 | exact bk_10 | exact bk_11 | exact bk_12 | exact bk_13 | exact bk_14 | exact bk_15 | exact bk_16 | exact cr_5 | exact cr_23 | exact cr_24 | exact cr_25 | exact cr_26 | exact cr_27 | exact cr_28 | exact cr_29 | exact cr_30 | assumption)) (by decide) (by first | omega | (simp only [bset, reduceIte, Nat.reduceEqDiff]; omega)) (by first | omega | (simp only [bset, reduceIte, Nat.reduceEqDiff]; omega)) ?_
                      refine zr_iconst dX7_isCorner_98 (rfl : 98 + 1 = 99) ?_
                      refine zr_isub dX7_isCorner_99 (rfl : 99 + 1 = 100) (by first | exact jI_sub _ _ | rfl) ?_
                      refine zr_iload_n dX7_isCorner_100 (rfl : 100 + 1 = 101) rfl ?_
                      refine zr_icmp_ne (tgt := 108) dX7_isCorner_101 (by decide) (rfl : 101 + 3 = 104) (jI_eq (by first | omega | (simp only [bset, reduceIte, Nat.reduceEqDiff]; omega)) (by first | omega | (simp only [bset, reduceIte, Nat.reduceEqDiff]; omega)) (by first | omega | (simp only [bset, reduceIte, Nat.reduceEqDiff]; omega)) (by first | omega | (simp only [bset, reduceIte, Nat.reduceEqDiff]; omega))) (fun h101 => ?_) (fun h101 => ?_)
                      · first
                        | (exfalso; omega)
                        | (
                          refine zr_iconst dX7_isCorner_108 (rfl : 108 + 1 = 109) ?_
                          refine zr_istore (lv' := [_, _, _, _, _, _, _]) dX7_isCorner_109 (rfl : 109 + 2 = 111) (Nat.le_of_ble_eq_true rfl) rfl ?_
                          refine zr_iinc (lv' := [_, _, _, _, _, _, _]) dX7_isCorner_111 (rfl : 111 + 3 = 114) (Nat.le_of_ble_eq_true rfl) rfl (by first | exact jI_add _ _ | rfl) rfl ?_
                          refine zr_goto (tgt := 38) dX7_isCorner_114 (by decide) ?_
                          refine hk _ _ ⟨?_, ?_⟩
                          · first | exact jif_1 hx (by omega) | exact jif_y i0 ⟨by omega, by omega⟩ | exact jif_n hx (by omega) (by omega)
                          · first | exact jif_1 hy (by omega) | exact jif_y i0 ⟨by omega, by omega⟩ | exact jif_n hy (by omega) (by omega))
                      · first
                        | (exfalso; omega)
                        | (
                          refine zr_iconst dX7_isCorner_104 (rfl : 104 + 1 = 105) ?_
                          refine zr_goto (tgt := 109) dX7_isCorner_105 (by decide) ?_
                          refine zr_istore (lv' := [_, _, _, _, _, _, _]) dX7_isCorner_109 (rfl : 109 + 2 = 111) (Nat.le_of_ble_eq_true rfl) rfl ?_
                          refine zr_iinc (lv' := [_, _, _, _, _, _, _]) dX7_isCorner_111 (rfl : 111 + 3 = 114) (Nat.le_of_ble_eq_true rfl) rfl (by first | exact jI_add _ _ | rfl) rfl ?_
                          refine zr_goto (tgt := 38) dX7_isCorner_114 (by decide) ?_
                          refine hk _ _ ⟨?_, ?_⟩
                          · first | exact jif_1 hx (by omega) | exact jif_y i0 ⟨by omega, by omega⟩ | exact jif_n hx (by omega) (by omega)
                          · first | exact jif_1 hy (by omega) | exact jif_y i0 ⟨by omega, by omega⟩ | exact jif_n hy (by omega) (by omega)))))
          · first
            | (exfalso; omega)
            | (
              refine zr_iload dX7_isCorner_50 (rfl : 50 + 2 = 52) rfl ?_
              refine zr_iload_n dX7_isCorner_52 (rfl : 52 + 1 = 53) rfl ?_
              refine zr_icmp_ge (tgt := 75) dX7_isCorner_53 (by decide) (rfl : 53 + 3 = 56) (jI_le (by first | omega | (simp only [bset, reduceIte, Nat.reduceEqDiff]; omega)) (by first | omega | (simp only [bset, reduceIte, Nat.reduceEqDiff]; omega)) (by first | omega | (simp only [bset, reduceIte, Nat.reduceEqDiff]; omega)) (by first | omega | (simp only [bset, reduceIte, Nat.reduceEqDiff]; omega))) (fun h53 => ?_) (fun h53 => ?_)
              · first
                | (exfalso; omega)
                | (
                  refine zr_iconst dX7_isCorner_75 (rfl : 75 + 1 = 76) ?_
                  refine zr_istore (lv' := [_, _, _, _, _, _, _]) dX7_isCorner_76 (rfl : 76 + 2 = 78) (Nat.le_of_ble_eq_true rfl) rfl ?_
                  refine zr_iload dX7_isCorner_78 (rfl : 78 + 2 = 80) rfl ?_
                  refine zr_if_ne (tgt := 104) dX7_isCorner_80 (by decide) (rfl : 80 + 3 = 83) (by first | exact jb_iff | exact jI_z (by first | omega | (simp only [bset, reduceIte, Nat.reduceEqDiff]; omega)) (by first | omega | (simp only [bset, reduceIte, Nat.reduceEqDiff]; omega))) (fun h80 => ?_) (fun h80 => ?_)
                  · first
                    | (exfalso; omega)
                    | (
                      refine zr_iconst dX7_isCorner_104 (rfl : 104 + 1 = 105) ?_
                      refine zr_goto (tgt := 109) dX7_isCorner_105 (by decide) ?_
                      refine zr_istore (lv' := [_, _, _, _, _, _, _]) dX7_isCorner_109 (rfl : 109 + 2 = 111) (Nat.le_of_ble_eq_true rfl) rfl ?_
                      refine zr_iinc (lv' := [_, _, _, _, _, _, _]) dX7_isCorner_111 (rfl : 111 + 3 = 114) (Nat.le_of_ble_eq_true rfl) rfl (by first | exact jI_add _ _ | rfl) rfl ?_
                      refine zr_goto (tgt := 38) dX7_isCorner_114 (by decide) ?_
                      refine hk _ _ ⟨?_, ?_⟩
                      · first | exact jif_1 hx (by omega) | exact jif_y i0 ⟨by omega, by omega⟩ | exact jif_n hx (by omega) (by omega)
                      · first | exact jif_1 hy (by omega) | exact jif_y i0 ⟨by omega, by omega⟩ | exact jif_n hy (by omega) (by omega))
                  · first
                    | (exfalso; omega)
                    | (
                      refine zr_iload dX7_isCorner_83 (rfl : 83 + 2 = 85) rfl ?_
                      refine zr_iload_n dX7_isCorner_85 (rfl : 85 + 1 = 86) rfl ?_
                      refine zr_icmp_le (tgt := 108) dX7_isCorner_86 (by decide) (rfl : 86 + 3 = 89) (jI_le (by first | omega | (simp only [bset, reduceIte, Nat.reduceEqDiff]; omega)) (by first | omega | (simp only [bset, reduceIte, Nat.reduceEqDiff]; omega)) (by first | omega | (simp only [bset, reduceIte, Nat.reduceEqDiff]; omega)) (by first | omega | (simp only [bset, reduceIte, Nat.reduceEqDiff]; omega))) (fun h86 => ?_) (fun h86 => ?_)
                      · first
                        | (exfalso; omega)
                        | (
                          refine zr_iconst dX7_isCorner_108 (rfl : 108 + 1 = 109) ?_
                          refine zr_istore (lv' := [_, _, _, _, _, _, _]) dX7_isCorner_109 (rfl : 109 + 2 = 111) (Nat.le_of_ble_eq_true rfl) rfl ?_
                          refine zr_iinc (lv' := [_, _, _, _, _, _, _]) dX7_isCorner_111 (rfl : 111 + 3 = 114) (Nat.le_of_ble_eq_true rfl) rfl (by first | exact jI_add _ _ | rfl) rfl ?_
                          refine zr_goto (tgt := 38) dX7_isCorner_114 (by decide) ?_
                          refine hk _ _ ⟨?_, ?_⟩
                          · first | exact jif_1 hx (by omega) | exact jif_y i0 ⟨by omega, by omega⟩ | exact jif_n hx (by omega) (by omega)
                          · first | exact jif_1 hy (by omega) | exact jif_y i0 ⟨by omega, by omega⟩ | exact jif_n hy (by omega) (by omega))
                      · first
                        | (exfalso; omega)
                        | (
                          refine zr_aload_n dX7_isCorner_89 (rfl : 89 + 1 = 90) rfl ?_
                          refine zr_getf dX7_isCorner_90 (rfl : 90 + 3 = 93) f_X7_7 (by first | assumption | exact mw_167 | exact mw_168 | exact mw_169 | exact mw_170 | exact bk_0 | exact bk_1 | exact bk_2 | exact bk_3 | exact bk_4 | exact bk_5 | exact bk_6 | exact bk_7 | exact bk_8 | exact bk_9 | exact bk_10 | exact bk_11 | exact bk_12 | exact bk_13 | exact bk_14 | exact bk_15 | exact bk_16 | exact zup_self | exact (zup_ne (by first | assumption | omega)).trans (by first | assumption | exact zup_self) | exact (zup_ne (by first | assumption | omega)).trans ((zup_ne (by first | assumption | omega)).trans (by first | assumption | exact zup_self)) | exact (bk_out (by first | omega | (simp only [bset, reduceIte, Nat.reduceEqDiff]; omega))).trans (by first | exact bk_0 | exact bk_1 | exact bk_2 | exact bk_3 | exact bk_4 | exact bk_5 | exact bk_6 | exact bk_7 | exact bk_8 | exact bk_9 | exact bk_10 | exact bk_11 | exact bk_12 | exact bk_13 | exact bk_14 | exact bk_15 | exact bk_16 | exact cr_5 | exact cr_23 | exact cr_24 | exact cr_25 | exact cr_26 | exact cr_27 | exact cr_28 | exact cr_29 | exact cr_30 | assumption)) rfl ?_
                          refine zr_iconst dX7_isCorner_93 (rfl : 93 + 1 = 94) ?_
                          refine zr_iload dX7_isCorner_94 (rfl : 94 + 2 = 96) rfl ?_
                          refine zr_iadd dX7_isCorner_96 (rfl : 96 + 1 = 97) (by first | exact jI_add _ _ | rfl) ?_
                          refine zr_iald dX7_isCorner_97 (rfl : 97 + 1 = 98) (by first | assumption | exact mw_167 | exact mw_168 | exact mw_169 | exact mw_170 | exact bk_0 | exact bk_1 | exact bk_2 | exact bk_3 | exact bk_4 | exact bk_5 | exact bk_6 | exact bk_7 | exact bk_8 | exact bk_9 | exact bk_10 | exact bk_11 | exact bk_12 | exact bk_13 | exact bk_14 | exact bk_15 | exact bk_16 | exact zup_self | exact (zup_ne (by first | assumption | omega)).trans (by first | assumption | exact zup_self) | exact (zup_ne (by first | assumption | omega)).trans ((zup_ne (by first | assumption | omega)).trans (by first | assumption | exact zup_self)) | exact (bk_out (by first | omega | (simp only [bset, reduceIte, Nat.reduceEqDiff]; omega))).trans (by first | exact bk_0 | exact bk_1 | exact bk_2 | exact bk_3 | exact bk_4 | exact bk_5 | exact bk_6 | exact bk_7 | exact bk_8 | exact bk_9 | exact bk_10 | exact bk_11 | exact bk_12 | exact bk_13 | exact bk_14 | exact bk_15 | exact bk_16 | exact cr_5 | exact cr_23 | exact cr_24 | exact cr_25 | exact cr_26 | exact cr_27 | exact cr_28 | exact cr_29 | exact cr_30 | assumption)) (by decide) (by first | omega | (simp only [bset, reduceIte, Nat.reduceEqDiff]; omega)) (by first | omega | (simp only [bset, reduceIte, Nat.reduceEqDiff]; omega)) ?_
                          refine zr_iconst dX7_isCorner_98 (rfl : 98 + 1 = 99) ?_
                          refine zr_isub dX7_isCorner_99 (rfl : 99 + 1 = 100) (by first | exact jI_sub _ _ | rfl) ?_
                          refine zr_iload_n dX7_isCorner_100 (rfl : 100 + 1 = 101) rfl ?_
                          refine zr_icmp_ne (tgt := 108) dX7_isCorner_101 (by decide) (rfl : 101 + 3 = 104) (jI_eq (by first | omega | (simp only [bset, reduceIte, Nat.reduceEqDiff]; omega)) (by first | omega | (simp only [bset, reduceIte, Nat.reduceEqDiff]; omega)) (by first | omega | (simp only [bset, reduceIte, Nat.reduceEqDiff]; omega)) (by first | omega | (simp only [bset, reduceIte, Nat.reduceEqDiff]; omega))) (fun h101 => ?_) (fun h101 => ?_)
                          · first
                            | (exfalso; omega)
                            | (
                              refine zr_iconst dX7_isCorner_108 (rfl : 108 + 1 = 109) ?_
                              refine zr_istore (lv' := [_, _, _, _, _, _, _]) dX7_isCorner_109 (rfl : 109 + 2 = 111) (Nat.le_of_ble_eq_true rfl) rfl ?_
                              refine zr_iinc (lv' := [_, _, _, _, _, _, _]) dX7_isCorner_111 (rfl : 111 + 3 = 114) (Nat.le_of_ble_eq_true rfl) rfl (by first | exact jI_add _ _ | rfl) rfl ?_
                              refine zr_goto (tgt := 38) dX7_isCorner_114 (by decide) ?_
                              refine hk _ _ ⟨?_, ?_⟩
                              · first | exact jif_1 hx (by omega) | exact jif_y i0 ⟨by omega, by omega⟩ | exact jif_n hx (by omega) (by omega)
                              · first | exact jif_1 hy (by omega) | exact jif_y i0 ⟨by omega, by omega⟩ | exact jif_n hy (by omega) (by omega))
                          · first
                            | (exfalso; omega)
                            | (
                              refine zr_iconst dX7_isCorner_104 (rfl : 104 + 1 = 105) ?_
                              refine zr_goto (tgt := 109) dX7_isCorner_105 (by decide) ?_
                              refine zr_istore (lv' := [_, _, _, _, _, _, _]) dX7_isCorner_109 (rfl : 109 + 2 = 111) (Nat.le_of_ble_eq_true rfl) rfl ?_
                              refine zr_iinc (lv' := [_, _, _, _, _, _, _]) dX7_isCorner_111 (rfl : 111 + 3 = 114) (Nat.le_of_ble_eq_true rfl) rfl (by first | exact jI_add _ _ | rfl) rfl ?_
                              refine zr_goto (tgt := 38) dX7_isCorner_114 (by decide) ?_
                              refine hk _ _ ⟨?_, ?_⟩
                              · first | exact jif_1 hx (by omega) | exact jif_y i0 ⟨by omega, by omega⟩ | exact jif_n hx (by omega) (by omega)
                              · first | exact jif_1 hy (by omega) | exact jif_y i0 ⟨by omega, by omega⟩ | exact jif_n hy (by omega) (by omega)))))
              · first
                | (exfalso; omega)
                | (
                  refine zr_aload_n dX7_isCorner_56 (rfl : 56 + 1 = 57) rfl ?_
                  refine zr_getf dX7_isCorner_57 (rfl : 57 + 3 = 60) f_X7_7 (by first | assumption | exact mw_167 | exact mw_168 | exact mw_169 | exact mw_170 | exact bk_0 | exact bk_1 | exact bk_2 | exact bk_3 | exact bk_4 | exact bk_5 | exact bk_6 | exact bk_7 | exact bk_8 | exact bk_9 | exact bk_10 | exact bk_11 | exact bk_12 | exact bk_13 | exact bk_14 | exact bk_15 | exact bk_16 | exact zup_self | exact (zup_ne (by first | assumption | omega)).trans (by first | assumption | exact zup_self) | exact (zup_ne (by first | assumption | omega)).trans ((zup_ne (by first | assumption | omega)).trans (by first | assumption | exact zup_self)) | exact (bk_out (by first | omega | (simp only [bset, reduceIte, Nat.reduceEqDiff]; omega))).trans (by first | exact bk_0 | exact bk_1 | exact bk_2 | exact bk_3 | exact bk_4 | exact bk_5 | exact bk_6 | exact bk_7 | exact bk_8 | exact bk_9 | exact bk_10 | exact bk_11 | exact bk_12 | exact bk_13 | exact bk_14 | exact bk_15 | exact bk_16 | exact cr_5 | exact cr_23 | exact cr_24 | exact cr_25 | exact cr_26 | exact cr_27 | exact cr_28 | exact cr_29 | exact cr_30 | assumption)) rfl ?_
                  refine zr_iconst dX7_isCorner_60 (rfl : 60 + 1 = 61) ?_
                  refine zr_iload dX7_isCorner_61 (rfl : 61 + 2 = 63) rfl ?_
                  refine zr_iadd dX7_isCorner_63 (rfl : 63 + 1 = 64) (by first | exact jI_add _ _ | rfl) ?_
                  refine zr_iald dX7_isCorner_64 (rfl : 64 + 1 = 65) (by first | assumption | exact mw_167 | exact mw_168 | exact mw_169 | exact mw_170 | exact bk_0 | exact bk_1 | exact bk_2 | exact bk_3 | exact bk_4 | exact bk_5 | exact bk_6 | exact bk_7 | exact bk_8 | exact bk_9 | exact bk_10 | exact bk_11 | exact bk_12 | exact bk_13 | exact bk_14 | exact bk_15 | exact bk_16 | exact zup_self | exact (zup_ne (by first | assumption | omega)).trans (by first | assumption | exact zup_self) | exact (zup_ne (by first | assumption | omega)).trans ((zup_ne (by first | assumption | omega)).trans (by first | assumption | exact zup_self)) | exact (bk_out (by first | omega | (simp only [bset, reduceIte, Nat.reduceEqDiff]; omega))).trans (by first | exact bk_0 | exact bk_1 | exact bk_2 | exact bk_3 | exact bk_4 | exact bk_5 | exact bk_6 | exact bk_7 | exact bk_8 | exact bk_9 | exact bk_10 | exact bk_11 | exact bk_12 | exact bk_13 | exact bk_14 | exact bk_15 | exact bk_16 | exact cr_5 | exact cr_23 | exact cr_24 | exact cr_25 | exact cr_26 | exact cr_27 | exact cr_28 | exact cr_29 | exact cr_30 | assumption)) (by decide) (by first | omega | (simp only [bset, reduceIte, Nat.reduceEqDiff]; omega)) (by first | omega | (simp only [bset, reduceIte, Nat.reduceEqDiff]; omega)) ?_
                  refine zr_iconst dX7_isCorner_65 (rfl : 65 + 1 = 66) ?_
                  refine zr_isub dX7_isCorner_66 (rfl : 66 + 1 = 67) (by first | exact jI_sub _ _ | rfl) ?_
                  refine zr_iload_n dX7_isCorner_67 (rfl : 67 + 1 = 68) rfl ?_
                  refine zr_icmp_ne (tgt := 75) dX7_isCorner_68 (by decide) (rfl : 68 + 3 = 71) (jI_eq (by first | omega | (simp only [bset, reduceIte, Nat.reduceEqDiff]; omega)) (by first | omega | (simp only [bset, reduceIte, Nat.reduceEqDiff]; omega)) (by first | omega | (simp only [bset, reduceIte, Nat.reduceEqDiff]; omega)) (by first | omega | (simp only [bset, reduceIte, Nat.reduceEqDiff]; omega))) (fun h68 => ?_) (fun h68 => ?_)
                  · first
                    | (exfalso; omega)
                    | (
                      refine zr_iconst dX7_isCorner_75 (rfl : 75 + 1 = 76) ?_
                      refine zr_istore (lv' := [_, _, _, _, _, _, _]) dX7_isCorner_76 (rfl : 76 + 2 = 78) (Nat.le_of_ble_eq_true rfl) rfl ?_
                      refine zr_iload dX7_isCorner_78 (rfl : 78 + 2 = 80) rfl ?_
                      refine zr_if_ne (tgt := 104) dX7_isCorner_80 (by decide) (rfl : 80 + 3 = 83) (by first | exact jb_iff | exact jI_z (by first | omega | (simp only [bset, reduceIte, Nat.reduceEqDiff]; omega)) (by first | omega | (simp only [bset, reduceIte, Nat.reduceEqDiff]; omega))) (fun h80 => ?_) (fun h80 => ?_)
                      · first
                        | (exfalso; omega)
                        | (
                          refine zr_iconst dX7_isCorner_104 (rfl : 104 + 1 = 105) ?_
                          refine zr_goto (tgt := 109) dX7_isCorner_105 (by decide) ?_
                          refine zr_istore (lv' := [_, _, _, _, _, _, _]) dX7_isCorner_109 (rfl : 109 + 2 = 111) (Nat.le_of_ble_eq_true rfl) rfl ?_
                          refine zr_iinc (lv' := [_, _, _, _, _, _, _]) dX7_isCorner_111 (rfl : 111 + 3 = 114) (Nat.le_of_ble_eq_true rfl) rfl (by first | exact jI_add _ _ | rfl) rfl ?_
                          refine zr_goto (tgt := 38) dX7_isCorner_114 (by decide) ?_
                          refine hk _ _ ⟨?_, ?_⟩
                          · first | exact jif_1 hx (by omega) | exact jif_y i0 ⟨by omega, by omega⟩ | exact jif_n hx (by omega) (by omega)
                          · first | exact jif_1 hy (by omega) | exact jif_y i0 ⟨by omega, by omega⟩ | exact jif_n hy (by omega) (by omega))
                      · first
                        | (exfalso; omega)
                        | (
                          refine zr_iload dX7_isCorner_83 (rfl : 83 + 2 = 85) rfl ?_
                          refine zr_iload_n dX7_isCorner_85 (rfl : 85 + 1 = 86) rfl ?_
                          refine zr_icmp_le (tgt := 108) dX7_isCorner_86 (by decide) (rfl : 86 + 3 = 89) (jI_le (by first | omega | (simp only [bset, reduceIte, Nat.reduceEqDiff]; omega)) (by first | omega | (simp only [bset, reduceIte, Nat.reduceEqDiff]; omega)) (by first | omega | (simp only [bset, reduceIte, Nat.reduceEqDiff]; omega)) (by first | omega | (simp only [bset, reduceIte, Nat.reduceEqDiff]; omega))) (fun h86 => ?_) (fun h86 => ?_)
                          · first
                            | (exfalso; omega)
                            | (
                              refine zr_iconst dX7_isCorner_108 (rfl : 108 + 1 = 109) ?_
                              refine zr_istore (lv' := [_, _, _, _, _, _, _]) dX7_isCorner_109 (rfl : 109 + 2 = 111) (Nat.le_of_ble_eq_true rfl) rfl ?_
                              refine zr_iinc (lv' := [_, _, _, _, _, _, _]) dX7_isCorner_111 (rfl : 111 + 3 = 114) (Nat.le_of_ble_eq_true rfl) rfl (by first | exact jI_add _ _ | rfl) rfl ?_
                              refine zr_goto (tgt := 38) dX7_isCorner_114 (by decide) ?_
                              refine hk _ _ ⟨?_, ?_⟩
                              · first | exact jif_1 hx (by omega) | exact jif_y i0 ⟨by omega, by omega⟩ | exact jif_n hx (by omega) (by omega)
                              · first | exact jif_1 hy (by omega) | exact jif_y i0 ⟨by omega, by omega⟩ | exact jif_n hy (by omega) (by omega))
                          · first
                            | (exfalso; omega)
                            | (
                              refine zr_aload_n dX7_isCorner_89 (rfl : 89 + 1 = 90) rfl ?_
                              refine zr_getf dX7_isCorner_90 (rfl : 90 + 3 = 93) f_X7_7 (by first | assumption | exact mw_167 | exact mw_168 | exact mw_169 | exact mw_170 | exact bk_0 | exact bk_1 | exact bk_2 | exact bk_3 | exact bk_4 | exact bk_5 | exact bk_6 | exact bk_7 | exact bk_8 | exact bk_9 | exact bk_10 | exact bk_11 | exact bk_12 | exact bk_13 | exact bk_14 | exact bk_15 | exact bk_16 | exact zup_self | exact (zup_ne (by first | assumption | omega)).trans (by first | assumption | exact zup_self) | exact (zup_ne (by first | assumption | omega)).trans ((zup_ne (by first | assumption | omega)).trans (by first | assumption | exact zup_self)) | exact (bk_out (by first | omega | (simp only [bset, reduceIte, Nat.reduceEqDiff]; omega))).trans (by first | exact bk_0 | exact bk_1 | exact bk_2 | exact bk_3 | exact bk_4 | exact bk_5 | exact bk_6 | exact bk_7 | exact bk_8 | exact bk_9 | exact bk_10 | exact bk_11 | exact bk_12 | exact bk_13 | exact bk_14 | exact bk_15 | exact bk_16 | exact cr_5 | exact cr_23 | exact cr_24 | exact cr_25 | exact cr_26 | exact cr_27 | exact cr_28 | exact cr_29 | exact cr_30 | assumption)) rfl ?_
                              refine zr_iconst dX7_isCorner_93 (rfl : 93 + 1 = 94) ?_
                              refine zr_iload dX7_isCorner_94 (rfl : 94 + 2 = 96) rfl ?_
                              refine zr_iadd dX7_isCorner_96 (rfl : 96 + 1 = 97) (by first | exact jI_add _ _ | rfl) ?_
                              refine zr_iald dX7_isCorner_97 (rfl : 97 + 1 = 98) (by first | assumption | exact mw_167 | exact mw_168 | exact mw_169 | exact mw_170 | exact bk_0 | exact bk_1 | exact bk_2 | exact bk_3 | exact bk_4 | exact bk_5 | exact bk_6 | exact bk_7 | exact bk_8 | exact bk_9 | exact bk_10 | exact bk_11 | exact bk_12 | exact bk_13 | exact bk_14 | exact bk_15 | exact bk_16 | exact zup_self | exact (zup_ne (by first | assumption | omega)).trans (by first | assumption | exact zup_self) | exact (zup_ne (by first | assumption | omega)).trans ((zup_ne (by first | assumption | omega)).trans (by first | assumption | exact zup_self)) | exact (bk_out (by first | omega | (simp only [bset, reduceIte, Nat.reduceEqDiff]; omega))).trans (by first | exact bk_0 | exact bk_1 | exact bk_2 | exact bk_3 | exact bk_4 | exact bk_5 | exact bk_6 | exact bk_7 | exact bk_8 | exact bk_9 | exact bk_10 | exact bk_11 | exact bk_12 | exact bk_13 | exact bk_14 | exact bk_15 | exact bk_16 | exact cr_5 | exact cr_23 | exact cr_24 | exact cr_25 | exact cr_26 | exact cr_27 | exact cr_28 | exact cr_29 | exact cr_30 | assumption)) (by decide) (by first | omega | (simp only [bset, reduceIte, Nat.reduceEqDiff]; omega)) (by first | omega | (simp only [bset, reduceIte, Nat.reduceEqDiff]; omega)) ?_
                              refine zr_iconst dX7_isCorner_98 (rfl : 98 + 1 = 99) ?_
                              refine zr_isub dX7_isCorner_99 (rfl : 99 + 1 = 100) (by first | exact jI_sub _ _ | rfl) ?_
                              refine zr_iload_n dX7_isCorner_100 (rfl : 100 + 1 = 101) rfl ?_
                              refine zr_icmp_ne (tgt := 108) dX7_isCorner_101 (by decide) (rfl : 101 + 3 = 104) (jI_eq (by first | omega | (simp only [bset, reduceIte, Nat.reduceEqDiff]; omega)) (by first | omega | (simp only [bset, reduceIte, Nat.reduceEqDiff]; omega)) (by first | omega | (simp only [bset, reduceIte, Nat.reduceEqDiff]; omega)) (by first | omega | (simp only [bset, reduceIte, Nat.reduceEqDiff]; omega))) (fun h101 => ?_) (fun h101 => ?_)
                              · first
                                | (exfalso; omega)
                                | (
                                  refine zr_iconst dX7_isCorner_108 (rfl : 108 + 1 = 109) ?_
                                  refine zr_istore (lv' := [_, _, _, _, _, _, _]) dX7_isCorner_109 (rfl : 109 + 2 = 111) (Nat.le_of_ble_eq_true rfl) rfl ?_
                                  refine zr_iinc (lv' := [_, _, _, _, _, _, _]) dX7_isCorner_111 (rfl : 111 + 3 = 114) (Nat.le_of_ble_eq_true rfl) rfl (by first | exact jI_add _ _ | rfl) rfl ?_
                                  refine zr_goto (tgt := 38) dX7_isCorner_114 (by decide) ?_
                                  refine hk _ _ ⟨?_, ?_⟩
                                  · first | exact jif_1 hx (by omega) | exact jif_y i0 ⟨by omega, by omega⟩ | exact jif_n hx (by omega) (by omega)
                                  · first | exact jif_1 hy (by omega) | exact jif_y i0 ⟨by omega, by omega⟩ | exact jif_n hy (by omega) (by omega))
                              · first
                                | (exfalso; omega)
                                | (
                                  refine zr_iconst dX7_isCorner_104 (rfl : 104 + 1 = 105) ?_
                                  refine zr_goto (tgt := 109) dX7_isCorner_105 (by decide) ?_
                                  refine zr_istore (lv' := [_, _, _, _, _, _, _]) dX7_isCorner_109 (rfl : 109 + 2 = 111) (Nat.le_of_ble_eq_true rfl) rfl ?_
                                  refine zr_iinc (lv' := [_, _, _, _, _, _, _]) dX7_isCorner_111 (rfl : 111 + 3 = 114) (Nat.le_of_ble_eq_true rfl) rfl (by first | exact jI_add _ _ | rfl) rfl ?_
                                  refine zr_goto (tgt := 38) dX7_isCorner_114 (by decide) ?_
                                  refine hk _ _ ⟨?_, ?_⟩
                                  · first | exact jif_1 hx (by omega) | exact jif_y i0 ⟨by omega, by omega⟩ | exact jif_n hx (by omega) (by omega)
                                  · first | exact jif_1 hy (by omega) | exact jif_y i0 ⟨by omega, by omega⟩ | exact jif_n hy (by omega) (by omega)))))
                  · first
                    | (exfalso; omega)
                    | (
                      refine zr_iconst dX7_isCorner_71 (rfl : 71 + 1 = 72) ?_
                      refine zr_goto (tgt := 76) dX7_isCorner_72 (by decide) ?_
                      refine zr_istore (lv' := [_, _, _, _, _, _, _]) dX7_isCorner_76 (rfl : 76 + 2 = 78) (Nat.le_of_ble_eq_true rfl) rfl ?_
                      refine zr_iload dX7_isCorner_78 (rfl : 78 + 2 = 80) rfl ?_
                      refine zr_if_ne (tgt := 104) dX7_isCorner_80 (by decide) (rfl : 80 + 3 = 83) (by first | exact jb_iff | exact jI_z (by first | omega | (simp only [bset, reduceIte, Nat.reduceEqDiff]; omega)) (by first | omega | (simp only [bset, reduceIte, Nat.reduceEqDiff]; omega))) (fun h80 => ?_) (fun h80 => ?_)
                      · first
                        | (exfalso; omega)
                        | (
                          refine zr_iconst dX7_isCorner_104 (rfl : 104 + 1 = 105) ?_
                          refine zr_goto (tgt := 109) dX7_isCorner_105 (by decide) ?_
                          refine zr_istore (lv' := [_, _, _, _, _, _, _]) dX7_isCorner_109 (rfl : 109 + 2 = 111) (Nat.le_of_ble_eq_true rfl) rfl ?_
                          refine zr_iinc (lv' := [_, _, _, _, _, _, _]) dX7_isCorner_111 (rfl : 111 + 3 = 114) (Nat.le_of_ble_eq_true rfl) rfl (by first | exact jI_add _ _ | rfl) rfl ?_
                          refine zr_goto (tgt := 38) dX7_isCorner_114 (by decide) ?_
                          refine hk _ _ ⟨?_, ?_⟩
                          · first | exact jif_1 hx (by omega) | exact jif_y i0 ⟨by omega, by omega⟩ | exact jif_n hx (by omega) (by omega)
                          · first | exact jif_1 hy (by omega) | exact jif_y i0 ⟨by omega, by omega⟩ | exact jif_n hy (by omega) (by omega))
                      · first
                        | (exfalso; omega)
                        | (
                          refine zr_iload dX7_isCorner_83 (rfl : 83 + 2 = 85) rfl ?_
                          refine zr_iload_n dX7_isCorner_85 (rfl : 85 + 1 = 86) rfl ?_
                          refine zr_icmp_le (tgt := 108) dX7_isCorner_86 (by decide) (rfl : 86 + 3 = 89) (jI_le (by first | omega | (simp only [bset, reduceIte, Nat.reduceEqDiff]; omega)) (by first | omega | (simp only [bset, reduceIte, Nat.reduceEqDiff]; omega)) (by first | omega | (simp only [bset, reduceIte, Nat.reduceEqDiff]; omega)) (by first | omega | (simp only [bset, reduceIte, Nat.reduceEqDiff]; omega))) (fun h86 => ?_) (fun h86 => ?_)
                          · first
                            | (exfalso; omega)
                            | (
                              refine zr_iconst dX7_isCorner_108 (rfl : 108 + 1 = 109) ?_
                              refine zr_istore (lv' := [_, _, _, _, _, _, _]) dX7_isCorner_109 (rfl : 109 + 2 = 111) (Nat.le_of_ble_eq_true rfl) rfl ?_
                              refine zr_iinc (lv' := [_, _, _, _, _, _, _]) dX7_isCorner_111 (rfl : 111 + 3 = 114) (Nat.le_of_ble_eq_true rfl) rfl (by first | exact jI_add _ _ | rfl) rfl ?_
                              refine zr_goto (tgt := 38) dX7_isCorner_114 (by decide) ?_
                              refine hk _ _ ⟨?_, ?_⟩
                              · first | exact jif_1 hx (by omega) | exact jif_y i0 ⟨by omega, by omega⟩ | exact jif_n hx (by omega) (by omega)
                              · first | exact jif_1 hy (by omega) | exact jif_y i0 ⟨by omega, by omega⟩ | exact jif_n hy (by omega) (by omega))
                          · first
                            | (exfalso; omega)
                            | (
                              refine zr_aload_n dX7_isCorner_89 (rfl : 89 + 1 = 90) rfl ?_
                              refine zr_getf dX7_isCorner_90 (rfl : 90 + 3 = 93) f_X7_7 (by first | assumption | exact mw_167 | exact mw_168 | exact mw_169 | exact mw_170 | exact bk_0 | exact bk_1 | exact bk_2 | exact bk_3 | exact bk_4 | exact bk_5 | exact bk_6 | exact bk_7 | exact bk_8 | exact bk_9 | exact bk_10 | exact bk_11 | exact bk_12 | exact bk_13 | exact bk_14 | exact bk_15 | exact bk_16 | exact zup_self | exact (zup_ne (by first | assumption | omega)).trans (by first | assumption | exact zup_self) | exact (zup_ne (by first | assumption | omega)).trans ((zup_ne (by first | assumption | omega)).trans (by first | assumption | exact zup_self)) | exact (bk_out (by first | omega | (simp only [bset, reduceIte, Nat.reduceEqDiff]; omega))).trans (by first | exact bk_0 | exact bk_1 | exact bk_2 | exact bk_3 | exact bk_4 | exact bk_5 | exact bk_6 | exact bk_7 | exact bk_8 | exact bk_9 | exact bk_10 | exact bk_11 | exact bk_12 | exact bk_13 | exact bk_14 | exact bk_15 | exact bk_16 | exact cr_5 | exact cr_23 | exact cr_24 | exact cr_25 | exact cr_26 | exact cr_27 | exact cr_28 | exact cr_29 | exact cr_30 | assumption)) rfl ?_
                              refine zr_iconst dX7_isCorner_93 (rfl : 93 + 1 = 94) ?_
                              refine zr_iload dX7_isCorner_94 (rfl : 94 + 2 = 96) rfl ?_
                              refine zr_iadd dX7_isCorner_96 (rfl : 96 + 1 = 97) (by first | exact jI_add _ _ | rfl) ?_
                              refine zr_iald dX7_isCorner_97 (rfl : 97 + 1 = 98) (by first | assumption | exact mw_167 | exact mw_168 | exact mw_169 | exact mw_170 | exact bk_0 | exact bk_1 | exact bk_2 | exact bk_3 | exact bk_4 | exact bk_5 | exact bk_6 | exact bk_7 | exact bk_8 | exact bk_9 | exact bk_10 | exact bk_11 | exact bk_12 | exact bk_13 | exact bk_14 | exact bk_15 | exact bk_16 | exact zup_self | exact (zup_ne (by first | assumption | omega)).trans (by first | assumption | exact zup_self) | exact (zup_ne (by first | assumption | omega)).trans ((zup_ne (by first | assumption | omega)).trans (by first | assumption | exact zup_self)) | exact (bk_out (by first | omega | (simp only [bset, reduceIte, Nat.reduceEqDiff]; omega))).trans (by first | exact bk_0 | exact bk_1 | exact bk_2 | exact bk_3 | exact bk_4 | exact bk_5 | exact bk_6 | exact bk_7 | exact bk_8 | exact bk_9 | exact bk_10 | exact bk_11 | exact bk_12 | exact bk_13 | exact bk_14 | exact bk_15 | exact bk_16 | exact cr_5 | exact cr_23 | exact cr_24 | exact cr_25 | exact cr_26 | exact cr_27 | exact cr_28 | exact cr_29 | exact cr_30 | assumption)) (by decide) (by first | omega | (simp only [bset, reduceIte, Nat.reduceEqDiff]; omega)) (by first | omega | (simp only [bset, reduceIte, Nat.reduceEqDiff]; omega)) ?_
                              refine zr_iconst dX7_isCorner_98 (rfl : 98 + 1 = 99) ?_
                              refine zr_isub dX7_isCorner_99 (rfl : 99 + 1 = 100) (by first | exact jI_sub _ _ | rfl) ?_
                              refine zr_iload_n dX7_isCorner_100 (rfl : 100 + 1 = 101) rfl ?_
                              refine zr_icmp_ne (tgt := 108) dX7_isCorner_101 (by decide) (rfl : 101 + 3 = 104) (jI_eq (by first | omega | (simp only [bset, reduceIte, Nat.reduceEqDiff]; omega)) (by first | omega | (simp only [bset, reduceIte, Nat.reduceEqDiff]; omega)) (by first | omega | (simp only [bset, reduceIte, Nat.reduceEqDiff]; omega)) (by first | omega | (simp only [bset, reduceIte, Nat.reduceEqDiff]; omega))) (fun h101 => ?_) (fun h101 => ?_)
                              · first
                                | (exfalso; omega)
                                | (
                                  refine zr_iconst dX7_isCorner_108 (rfl : 108 + 1 = 109) ?_
                                  refine zr_istore (lv' := [_, _, _, _, _, _, _]) dX7_isCorner_109 (rfl : 109 + 2 = 111) (Nat.le_of_ble_eq_true rfl) rfl ?_
                                  refine zr_iinc (lv' := [_, _, _, _, _, _, _]) dX7_isCorner_111 (rfl : 111 + 3 = 114) (Nat.le_of_ble_eq_true rfl) rfl (by first | exact jI_add _ _ | rfl) rfl ?_
                                  refine zr_goto (tgt := 38) dX7_isCorner_114 (by decide) ?_
                                  refine hk _ _ ⟨?_, ?_⟩
                                  · first | exact jif_1 hx (by omega) | exact jif_y i0 ⟨by omega, by omega⟩ | exact jif_n hx (by omega) (by omega)
                                  · first | exact jif_1 hy (by omega) | exact jif_y i0 ⟨by omega, by omega⟩ | exact jif_n hy (by omega) (by omega))
                              · first
                                | (exfalso; omega)
                                | (
                                  refine zr_iconst dX7_isCorner_104 (rfl : 104 + 1 = 105) ?_
                                  refine zr_goto (tgt := 109) dX7_isCorner_105 (by decide) ?_
                                  refine zr_istore (lv' := [_, _, _, _, _, _, _]) dX7_isCorner_109 (rfl : 109 + 2 = 111) (Nat.le_of_ble_eq_true rfl) rfl ?_
                                  refine zr_iinc (lv' := [_, _, _, _, _, _, _]) dX7_isCorner_111 (rfl : 111 + 3 = 114) (Nat.le_of_ble_eq_true rfl) rfl (by first | exact jI_add _ _ | rfl) rfl ?_
                                  refine zr_goto (tgt := 38) dX7_isCorner_114 (by decide) ?_
                                  refine hk _ _ ⟨?_, ?_⟩
                                  · first | exact jif_1 hx (by omega) | exact jif_y i0 ⟨by omega, by omega⟩ | exact jif_n hx (by omega) (by omega)
                                  · first | exact jif_1 hy (by omega) | exact jif_y i0 ⟨by omega, by omega⟩ | exact jif_n hy (by omega) (by omega))))))))
    · intro x y hI
      obtain ⟨hx, hy2⟩ := hI
      have hxr := jif_r hx
      have hyr := jif_r hy2
      have e91 : ((1 : Int) + ((90 : Nat) : Int)) = 91 := rfl
      rw [e91] at hx hy2 ⊢
      have kx : (x = 1 ∧ jlow B (B 1 n) ≠ n) ∨ (x = 0 ∧ jlow B (B 1 n) = n) := by
        rcases hx with ⟨e, m, m0, m1, m2, m3⟩ | ⟨e, hm⟩
        · exact Or.inl ⟨e, fun q => hl1.mpr q m m0 m2 m3⟩
        · exact Or.inr ⟨e, hl1.mp (fun m m0 m1 q => hm m m0 (by omega) ⟨m1, q⟩)⟩
      have ky : (y = 1 ∧ jhigh B (B 1 n) ≠ n) ∨ (y = 0 ∧ jhigh B (B 1 n) = n) := by
        rcases hy2 with ⟨e, m, m0, m1, m2, m3⟩ | ⟨e, hm⟩
        · exact Or.inl ⟨e, fun q => hg1.mpr q m m2 (by omega) m3⟩
        · exact Or.inr ⟨e, hg1.mp (fun m m0 m1 q => hm m (by omega) (by omega) ⟨m0, q⟩)⟩
      refine zr_iload dX7_isCorner_38 (rfl : 38 + 2 = 40) rfl ?_
      refine zr_bipush dX7_isCorner_40 (rfl : 40 + 2 = 42) (by decide) ?_
      refine zr_icmp_gt (tgt := 117) dX7_isCorner_42 (by decide) (rfl : 42 + 3 = 45) (jI_lt (by first | omega | (simp only [bset, reduceIte, Nat.reduceEqDiff]; omega)) (by first | omega | (simp only [bset, reduceIte, Nat.reduceEqDiff]; omega)) (by first | omega | (simp only [bset, reduceIte, Nat.reduceEqDiff]; omega)) (by first | omega | (simp only [bset, reduceIte, Nat.reduceEqDiff]; omega))) (fun h42 => ?_) (fun h42 => ?_)
      · first
        | (exfalso; omega)
        | (
          refine zr_iload dX7_isCorner_117 (rfl : 117 + 2 = 119) rfl ?_
          refine zr_if_eq (tgt := 127) dX7_isCorner_119 (by decide) (rfl : 119 + 3 = 122) (by first | exact jb_iff | exact jI_z (by first | omega | (simp only [bset, reduceIte, Nat.reduceEqDiff]; omega)) (by first | omega | (simp only [bset, reduceIte, Nat.reduceEqDiff]; omega))) (fun h119 => ?_) (fun h119 => ?_)
          · first
            | (exfalso; omega)
            | (
              refine zr_iconst dX7_isCorner_127 (rfl : 127 + 1 = 128) ?_
              refine zr_goto (tgt := 132) dX7_isCorner_128 (by decide) ?_
              refine zr_iret dX7_isCorner_132 rfl (by first | exact jb_nar | rfl) ?_ rfl rfl rfl
              first | rw [jb_pos (hy.mpr (by omega))] | rw [jb_neg (fun q => by have := hy.mp q; omega)])
          · first
            | (exfalso; omega)
            | (
              refine zr_iload dX7_isCorner_122 (rfl : 122 + 2 = 124) rfl ?_
              refine zr_if_ne (tgt := 131) dX7_isCorner_124 (by decide) (rfl : 124 + 3 = 127) (by first | exact jb_iff | exact jI_z (by first | omega | (simp only [bset, reduceIte, Nat.reduceEqDiff]; omega)) (by first | omega | (simp only [bset, reduceIte, Nat.reduceEqDiff]; omega))) (fun h124 => ?_) (fun h124 => ?_)
              · first
                | (exfalso; omega)
                | (
                  refine zr_iconst dX7_isCorner_131 (rfl : 131 + 1 = 132) ?_
                  refine zr_iret dX7_isCorner_132 rfl (by first | exact jb_nar | rfl) ?_ rfl rfl rfl
                  first | rw [jb_pos (hy.mpr (by omega))] | rw [jb_neg (fun q => by have := hy.mp q; omega)])
              · first
                | (exfalso; omega)
                | (
                  refine zr_iconst dX7_isCorner_127 (rfl : 127 + 1 = 128) ?_
                  refine zr_goto (tgt := 132) dX7_isCorner_128 (by decide) ?_
                  refine zr_iret dX7_isCorner_132 rfl (by first | exact jb_nar | rfl) ?_ rfl rfl rfl
                  first | rw [jb_pos (hy.mpr (by omega))] | rw [jb_neg (fun q => by have := hy.mp q; omega)])))
      · first
        | (exfalso; omega)
        | (
          exfalso
          omega)
  refine zr_iload_n dX7_isCorner_11 (rfl : 11 + 1 = 12) rfl ?_
  refine zr_iconst dX7_isCorner_12 (rfl : 12 + 1 = 13) ?_
  refine zr_iload_n dX7_isCorner_13 (rfl : 13 + 1 = 14) rfl ?_
  refine zr_imul dX7_isCorner_14 (rfl : 14 + 1 = 15) (by first | exact jI_mul _ _ | rfl) ?_
  refine zr_icmp_eq (tgt := 29) dX7_isCorner_15 (by decide) (rfl : 15 + 3 = 18) (jI_eq (by first | omega | (simp only [bset, reduceIte, Nat.reduceEqDiff]; omega)) (by first | omega | (simp only [bset, reduceIte, Nat.reduceEqDiff]; omega)) (by first | omega | (simp only [bset, reduceIte, Nat.reduceEqDiff]; omega)) (by first | omega | (simp only [bset, reduceIte, Nat.reduceEqDiff]; omega))) (fun h15 => ?_) (fun h15 => ?_)
  · first
    | (exfalso; omega)
    | (
      exact fin (by omega))
  · first
    | (exfalso; omega)
    | (
      refine zr_iload_n dX7_isCorner_18 (rfl : 18 + 1 = 19) rfl ?_
      refine zr_iconst dX7_isCorner_19 (rfl : 19 + 1 = 20) ?_
      refine zr_iload_n dX7_isCorner_20 (rfl : 20 + 1 = 21) rfl ?_
      refine zr_imul dX7_isCorner_21 (rfl : 21 + 1 = 22) (by first | exact jI_mul _ _ | rfl) ?_
      refine zr_iconst dX7_isCorner_22 (rfl : 22 + 1 = 23) ?_
      refine zr_iadd dX7_isCorner_23 (rfl : 23 + 1 = 24) (by first | exact jI_add _ _ | rfl) ?_
      refine zr_icmp_eq (tgt := 29) dX7_isCorner_24 (by decide) (rfl : 24 + 3 = 27) (jI_eq (by first | omega | (simp only [bset, reduceIte, Nat.reduceEqDiff]; omega)) (by first | omega | (simp only [bset, reduceIte, Nat.reduceEqDiff]; omega)) (by first | omega | (simp only [bset, reduceIte, Nat.reduceEqDiff]; omega)) (by first | omega | (simp only [bset, reduceIte, Nat.reduceEqDiff]; omega))) (fun h24 => ?_) (fun h24 => ?_)
      · first
        | (exfalso; omega)
        | (
          exact fin (by omega))
      · first
        | (exfalso; omega)
        | (
          refine zr_iconst dX7_isCorner_27 (rfl : 27 + 1 = 28) ?_
          refine zr_iret dX7_isCorner_28 rfl (by first | exact jb_nar | rfl) ?_ rfl rfl rfl
          rw [jb_neg (hnot (by omega))]))
/-- a game is held, by the marks -/
def jmk (B : zB) (k : Int) : Int → Int := if k = 1 then B 7 else B 8
theorem jorw_whole {r k : Int} (h5 : jrs (B 0) r = 5) (hk : k = 1 ∨ k = 2) : jorw B r k = 5 - jur (B 0) (jmk B k) r := by
  unfold jorw jmk
  rcases hk with hk | hk
  · rw [if_neg (by omega), if_pos hk, if_pos hk, h5]
  · rw [if_neg (by omega), if_neg (by omega), if_neg (by omega), h5]
theorem jur_le (P mk : Int → Int) (hP : ∀ z, 0 ≤ P z) (r : Int) : jur P mk r ≤ jrs P r := by
  unfold jur jrs
  refine jcnt_le 9 fun z z0 z1 h => ?_
  have := of_decide_eq_true h
  exact decide_eq_true (by omega)
theorem m_holds (c g k : Int) (hc : 0 ≤ c ∧ c < 6) (hg : 0 ≤ g ∧ g < 4) (hk : k = 1 ∨ k = 2) (hw : jcs (B 0) c = 15) (h : mr S 0 B) (ok : jok B) (lk : jlk B) : zFn Γ md_X7_holds (d + 2) [.ref 167, .int (jI c), .int (jI g), .int (jI k)] (mw S st ik th tx ty w) (some (.int (jI (jb (juo (B 0) (jmk B k) c g = 0))))) (mw S st ik th tx ty w) := by
  obtain ⟨w0, w1, w2⟩ := (jwh_iff lk hc).mpr hw
  have j0 := jorw_whole w0 hk
  have j1 := jorw_whole w1 hk
  have j2 := jorw_whole w2 hk
  have u0 := jur_r (B 0) (jmk B k) (c * 3 + 0)
  have u1 := jur_r (B 0) (jmk B k) (c * 3 + 1)
  have u2 := jur_r (B 0) (jmk B k) (c * 3 + 2)
  have v0 := jur_le (B 0) (jmk B k) (fun z => (ok.P z).1) (c * 3 + 0)
  have v1 := jur_le (B 0) (jmk B k) (fun z => (ok.P z).1) (c * 3 + 1)
  have v2 := jur_le (B 0) (jmk B k) (fun z => (ok.P z).1) (c * 3 + 2)
  have hju : g ≠ 1 → juo (B 0) (jmk B k) c g = (if g = 0 then min (min (min 5 (jur (B 0) (jmk B k) (c * 3 + 0))) (jur (B 0) (jmk B k) (c * 3 + 1))) (jur (B 0) (jmk B k) (c * 3 + 2)) else if g = 2 then (0 + jur (B 0) (jmk B k) (c * 3 + 0) + jur (B 0) (jmk B k) (c * 3 + 1) + jur (B 0) (jmk B k) (c * 3 + 2)) - max (max (max 0 (jur (B 0) (jmk B k) (c * 3 + 0))) (jur (B 0) (jmk B k) (c * 3 + 1))) (jur (B 0) (jmk B k) (c * 3 + 2)) else 0 + jur (B 0) (jmk B k) (c * 3 + 0) + jur (B 0) (jmk B k) (c * 3 + 1) + jur (B 0) (jmk B k) (c * 3 + 2)) := by
    intro hg1
    unfold juo
    rw [if_neg hg1, show c * 3 + 1 + 1 = c * 3 + 2 by omega, show c * 3 + 0 = c * 3 by omega]
  have hco : g = 1 → juo (B 0) (jmk B k) c g = jcnt 90 (fun z => jcnb B c (z + 1) && decide (jmk B k (z + 1) = 0)) := by
    intro hg1
    unfold juo
    rw [if_pos hg1]
    exact jucor_cnt ok lk hc hw _
  generalize jur (B 0) (jmk B k) (c * 3 + 0) = U0 at j0 u0 v0 hju
  generalize jur (B 0) (jmk B k) (c * 3 + 1) = U1 at j1 u1 v1 hju
  generalize jur (B 0) (jmk B k) (c * 3 + 2) = U2 at j2 u2 v2 hju
  refine zFn.of_run (lv := [some (.ref 167), some (.int (jI c)), some (.int (jI g)), some (.int (jI k)), none, none, none]) (by decide) rfl (Nat.le_of_ble_eq_true rfl) rfl (fun n9 g9 => ?_)
  refine zr_iconst dX7_holds_0 (rfl : 0 + 1 = 1) ?_
  refine zr_istore (lv' := [_, _, _, _, _, _, _]) dX7_holds_1 (rfl : 1 + 2 = 3) (Nat.le_of_ble_eq_true rfl) rfl ?_
  refine zr_iconst dX7_holds_3 (rfl : 3 + 1 = 4) ?_
  refine zr_istore (lv' := [_, _, _, _, _, _, _]) dX7_holds_4 (rfl : 4 + 2 = 6) (Nat.le_of_ble_eq_true rfl) rfl ?_
  have key : zRun Γ md_X7_holds (d + 2) none 40 [some (.ref 167), some (.int (jI c)), some (.int (jI g)), some (.int (jI k)), some (.int (jI (jb (U0 = 0) + jb (U1 = 0) + jb (U2 = 0)))), some (.int (jI 3)), none] [] (n9, g9, 0, 0) (mw S st ik th tx ty w) (zDone md_X7_holds (some (.int (jI (jb (juo (B 0) (jmk B k) c g = 0))))) (mw S st ik th tx ty w) n9 g9) := by
    have b0 : (U0 = 0 ∧ jb (U0 = 0) = 1) ∨ (U0 ≠ 0 ∧ jb (U0 = 0) = 0) := by
      by_cases hh : U0 = 0
      · exact Or.inl ⟨hh, jb_pos hh⟩
      · exact Or.inr ⟨hh, jb_neg hh⟩
    have b1 : (U1 = 0 ∧ jb (U1 = 0) = 1) ∨ (U1 ≠ 0 ∧ jb (U1 = 0) = 0) := by
      by_cases hh : U1 = 0
      · exact Or.inl ⟨hh, jb_pos hh⟩
      · exact Or.inr ⟨hh, jb_neg hh⟩
    have b2 : (U2 = 0 ∧ jb (U2 = 0) = 1) ∨ (U2 ≠ 0 ∧ jb (U2 = 0) = 0) := by
      by_cases hh : U2 = 0
      · exact Or.inl ⟨hh, jb_pos hh⟩
      · exact Or.inr ⟨hh, jb_neg hh⟩
    generalize jb (U0 = 0) = J0 at b0
    generalize jb (U1 = 0) = J1 at b1
    generalize jb (U2 = 0) = J2 at b2
    refine zr_iload_n dX7_holds_40 (rfl : 40 + 1 = 41) rfl ?_
    refine zr_iconst dX7_holds_41 (rfl : 41 + 1 = 42) ?_
    by_cases hg1 : g = 1
    · refine zr_icmp_eq (tgt := 74) dX7_holds_42 (by decide) (rfl : 42 + 3 = 45) (jI_eq (by first | omega | (simp only [bset, reduceIte, Nat.reduceEqDiff]; omega)) (by first | omega | (simp only [bset, reduceIte, Nat.reduceEqDiff]; omega)) (by first | omega | (simp only [bset, reduceIte, Nat.reduceEqDiff]; omega)) (by first | omega | (simp only [bset, reduceIte, Nat.reduceEqDiff]; omega))) (fun h42 => ?_) (fun h42 => ?_)
      · refine zr_iconst dX7_holds_74 (rfl : 74 + 1 = 75) ?_
        refine zr_istore (lv' := [_, _, _, _, _, _, _]) dX7_holds_75 (rfl : 75 + 2 = 77) (Nat.le_of_ble_eq_true rfl) rfl ?_
        refine zr_iconst dX7_holds_77 (rfl : 77 + 1 = 78) ?_
        refine zr_istore (lv' := [_, _, _, _, _, _, _]) dX7_holds_78 (rfl : 78 + 2 = 80) (Nat.le_of_ble_eq_true rfl) rfl ?_
        rw [hco hg1]
        generalize hq : (fun z => jcnb B c (z + 1) && decide (jmk B k (z + 1) = 0)) = q
        refine zfor1 1 90 (fun n x => x = jb (jcnt (n - 1).toNat q = 0)) (fun n x => [some (.ref 167), some (.int (jI c)), some (.int (jI g)), some (.int (jI k)), some (.int (jI (J0 + J1 + J2))), some (.int (jI x)), some (.int (jI n))]) (fun _ _ => (mw S st ik th tx ty w)) 1 rfl ?_ ?_
        · intro n x n0 n1 hx hk3
          have hdn := h.da0 n n0 (by omega)
          have hsn := h.sa0 n n0 (by omega)
          have hda := ok.da n
          have hsa := ok.sa n
          have hn := jcnt_next (q := q) (i := n - 1) (by omega)
          rw [show n - 1 + 1 = n + 1 - 1 by omega] at hn
          have hnn := jcnt_nn (n - 1).toNat q
          have hmkn : (k = 1 ∧ jmk B k n = B 7 n) ∨ (k = 2 ∧ jmk B k n = B 8 n) := by
            unfold jmk
            rcases hk with hk | hk
            · exact Or.inl ⟨hk, by rw [if_pos hk]⟩
            · exact Or.inr ⟨hk, by rw [if_neg (by omega)]⟩
          have hsp := m_isCorner (Γ := Γ) (d := d + 1) (st := st) (ik := ik) (th := th) (tx := tx) (ty := ty) (w := w) c n hc (by omega) h ok lk
          have hJr := jb_r (P := jcnb B c n = true)
          have hb : (jb (jcnb B c n = true) = 1 ∧ jmk B k n = 0 ∧ jb (q (n - 1) = true) = 1) ∨ ((jb (jcnb B c n = true) = 0 ∨ jmk B k n ≠ 0) ∧ jb (q (n - 1) = true) = 0) := by
            have e : (q (n - 1) = true) ↔ (jcnb B c n = true ∧ jmk B k n = 0) := by
              rw [← hq]
              show ((jcnb B c (n - 1 + 1) && decide (jmk B k (n - 1 + 1) = 0)) = true) ↔ _
              rw [show n - 1 + 1 = n by omega]
              simp
            by_cases hh : jcnb B c n = true ∧ jmk B k n = 0
            · exact Or.inl ⟨jb_pos hh.1, hh.2, jb_pos (e.mpr hh)⟩
            · refine Or.inr ⟨?_, jb_neg (fun z => hh (e.mp z))⟩
              by_cases h1 : jcnb B c n = true
              · exact Or.inr (fun h2 => hh ⟨h1, h2⟩)
              · exact Or.inl (jb_neg h1)
          have hxx : (jcnt (n - 1).toNat q = 0 ∧ x = 1) ∨ (jcnt (n - 1).toNat q ≠ 0 ∧ x = 0) := by
            by_cases hh : jcnt (n - 1).toNat q = 0
            · exact Or.inl ⟨hh, by rw [hx, jb_pos hh]⟩
            · exact Or.inr ⟨hh, by rw [hx, jb_neg hh]⟩
          clear hx
          generalize jb (q (n - 1) = true) = jq at hn hb
          generalize jcnt (n + 1 - 1).toNat q = c2 at hn hk3
          generalize jcnt (n - 1).toNat q = c1 at hn hnn hxx
          generalize jmk B k n = mk at hmkn hb
          generalize jb (jcnb B c n = true) = J at hsp hJr hb
          refine zr_iload dX7_holds_80 (rfl : 80 + 2 = 82) rfl ?_
          refine zr_bipush dX7_holds_82 (rfl : 82 + 2 = 84) (by decide) ?_
          refine zr_icmp_gt (tgt := 139) dX7_holds_84 (by decide) (rfl : 84 + 3 = 87) (jI_lt (by first | omega | (simp only [bset, reduceIte, Nat.reduceEqDiff]; omega)) (by first | omega | (simp only [bset, reduceIte, Nat.reduceEqDiff]; omega)) (by first | omega | (simp only [bset, reduceIte, Nat.reduceEqDiff]; omega)) (by first | omega | (simp only [bset, reduceIte, Nat.reduceEqDiff]; omega))) (fun h84 => ?_) (fun h84 => ?_)
          · first
            | (exfalso; omega)
            | (
              refine zr_iload dX7_holds_139 (rfl : 139 + 2 = 141) rfl ?_
              refine zr_iret dX7_holds_141 rfl (by first | exact jb_nar | rfl) ?_ rfl rfl rfl
              first | rfl | rw [jb_pos (by first | assumption | omega)] | rw [jb_neg (by first | assumption | omega)] | rw [if_pos (by first | assumption | omega)] | rw [if_neg (by first | assumption | omega)])
          · first
            | (exfalso; omega)
            | (
              refine zr_iload dX7_holds_87 (rfl : 87 + 2 = 89) rfl ?_
              refine zr_if_eq (tgt := 130) dX7_holds_89 (by decide) (rfl : 89 + 3 = 92) (by first | exact jb_iff | exact jI_z (by first | omega | (simp only [bset, reduceIte, Nat.reduceEqDiff]; omega)) (by first | omega | (simp only [bset, reduceIte, Nat.reduceEqDiff]; omega))) (fun h89 => ?_) (fun h89 => ?_)
              · first
                | (exfalso; omega)
                | (
                  refine zr_iconst dX7_holds_130 (rfl : 130 + 1 = 131) ?_
                  refine zr_istore (lv' := [_, _, _, _, _, _, _]) dX7_holds_131 (rfl : 131 + 2 = 133) (Nat.le_of_ble_eq_true rfl) rfl ?_
                  refine zr_iinc (lv' := [_, _, _, _, _, _, _]) dX7_holds_133 (rfl : 133 + 3 = 136) (Nat.le_of_ble_eq_true rfl) rfl (by first | exact jI_add _ _ | rfl) rfl ?_
                  refine zr_goto (tgt := 80) dX7_holds_136 (by decide) ?_
                  refine hk3 _ ?_
                  first | rw [jb_pos (by omega)] | rw [jb_neg (by omega)])
              · first
                | (exfalso; omega)
                | (
                  refine zr_aload_n dX7_holds_92 (rfl : 92 + 1 = 93) rfl ?_
                  refine zr_iload_n dX7_holds_93 (rfl : 93 + 1 = 94) rfl ?_
                  refine zr_iload dX7_holds_94 (rfl : 94 + 2 = 96) rfl ?_
                  refine zr_fnV dX7_holds_96 (rfl : 96 + 3 = 99) l_X7_96 (hsp) (by first | assumption | exact mw_167 | exact mw_168 | exact mw_169 | exact mw_170 | exact bk_0 | exact bk_1 | exact bk_2 | exact bk_3 | exact bk_4 | exact bk_5 | exact bk_6 | exact bk_7 | exact bk_8 | exact bk_9 | exact bk_10 | exact bk_11 | exact bk_12 | exact bk_13 | exact bk_14 | exact bk_15 | exact bk_16 | exact zup_self | exact (zup_ne (by first | assumption | omega)).trans (by first | assumption | exact zup_self) | exact (zup_ne (by first | assumption | omega)).trans ((zup_ne (by first | assumption | omega)).trans (by first | assumption | exact zup_self)) | exact (bk_out (by first | omega | (simp only [bset, reduceIte, Nat.reduceEqDiff]; omega))).trans (by first | exact bk_0 | exact bk_1 | exact bk_2 | exact bk_3 | exact bk_4 | exact bk_5 | exact bk_6 | exact bk_7 | exact bk_8 | exact bk_9 | exact bk_10 | exact bk_11 | exact bk_12 | exact bk_13 | exact bk_14 | exact bk_15 | exact bk_16 | exact cr_5 | exact cr_23 | exact cr_24 | exact cr_25 | exact cr_26 | exact cr_27 | exact cr_28 | exact cr_29 | exact cr_30 | assumption)) rfl rfl rfl (Nat.le_of_ble_eq_true rfl) ?_
                  refine zr_if_eq (tgt := 126) dX7_holds_99 (by decide) (rfl : 99 + 3 = 102) (by first | exact jb_iff | exact jI_z (by first | omega | (simp only [bset, reduceIte, Nat.reduceEqDiff]; omega)) (by first | omega | (simp only [bset, reduceIte, Nat.reduceEqDiff]; omega))) (fun h99 => ?_) (fun h99 => ?_)
                  · first
                    | (exfalso; omega)
                    | (
                      refine zr_iconst dX7_holds_126 (rfl : 126 + 1 = 127) ?_
                      refine zr_goto (tgt := 131) dX7_holds_127 (by decide) ?_
                      refine zr_istore (lv' := [_, _, _, _, _, _, _]) dX7_holds_131 (rfl : 131 + 2 = 133) (Nat.le_of_ble_eq_true rfl) rfl ?_
                      refine zr_iinc (lv' := [_, _, _, _, _, _, _]) dX7_holds_133 (rfl : 133 + 3 = 136) (Nat.le_of_ble_eq_true rfl) rfl (by first | exact jI_add _ _ | rfl) rfl ?_
                      refine zr_goto (tgt := 80) dX7_holds_136 (by decide) ?_
                      refine hk3 _ ?_
                      first | rw [jb_pos (by omega)] | rw [jb_neg (by omega)])
                  · first
                    | (exfalso; omega)
                    | (
                      refine zr_aload_n dX7_holds_102 (rfl : 102 + 1 = 103) rfl ?_
                      refine zr_getf dX7_holds_103 (rfl : 103 + 3 = 106) f_X7_7 (by first | assumption | exact mw_167 | exact mw_168 | exact mw_169 | exact mw_170 | exact bk_0 | exact bk_1 | exact bk_2 | exact bk_3 | exact bk_4 | exact bk_5 | exact bk_6 | exact bk_7 | exact bk_8 | exact bk_9 | exact bk_10 | exact bk_11 | exact bk_12 | exact bk_13 | exact bk_14 | exact bk_15 | exact bk_16 | exact zup_self | exact (zup_ne (by first | assumption | omega)).trans (by first | assumption | exact zup_self) | exact (zup_ne (by first | assumption | omega)).trans ((zup_ne (by first | assumption | omega)).trans (by first | assumption | exact zup_self)) | exact (bk_out (by first | omega | (simp only [bset, reduceIte, Nat.reduceEqDiff]; omega))).trans (by first | exact bk_0 | exact bk_1 | exact bk_2 | exact bk_3 | exact bk_4 | exact bk_5 | exact bk_6 | exact bk_7 | exact bk_8 | exact bk_9 | exact bk_10 | exact bk_11 | exact bk_12 | exact bk_13 | exact bk_14 | exact bk_15 | exact bk_16 | exact cr_5 | exact cr_23 | exact cr_24 | exact cr_25 | exact cr_26 | exact cr_27 | exact cr_28 | exact cr_29 | exact cr_30 | assumption)) rfl ?_
                      refine zr_iload_n dX7_holds_106 (rfl : 106 + 1 = 107) rfl ?_
                      refine zr_iconst dX7_holds_107 (rfl : 107 + 1 = 108) ?_
                      refine zr_icmp_ne (tgt := 116) dX7_holds_108 (by decide) (rfl : 108 + 3 = 111) (jI_eq (by first | omega | (simp only [bset, reduceIte, Nat.reduceEqDiff]; omega)) (by first | omega | (simp only [bset, reduceIte, Nat.reduceEqDiff]; omega)) (by first | omega | (simp only [bset, reduceIte, Nat.reduceEqDiff]; omega)) (by first | omega | (simp only [bset, reduceIte, Nat.reduceEqDiff]; omega))) (fun h108 => ?_) (fun h108 => ?_)
                      · first
                        | (exfalso; omega)
                        | (
                          refine zr_sipush dX7_holds_116 (rfl : 116 + 3 = 119) (by decide) ?_
                          refine zr_iload dX7_holds_119 (rfl : 119 + 2 = 121) rfl ?_
                          refine zr_iadd dX7_holds_121 (rfl : 121 + 1 = 122) (by first | exact jI_add _ _ | rfl) ?_
                          refine zr_iald dX7_holds_122 (rfl : 122 + 1 = 123) (by first | assumption | exact mw_167 | exact mw_168 | exact mw_169 | exact mw_170 | exact bk_0 | exact bk_1 | exact bk_2 | exact bk_3 | exact bk_4 | exact bk_5 | exact bk_6 | exact bk_7 | exact bk_8 | exact bk_9 | exact bk_10 | exact bk_11 | exact bk_12 | exact bk_13 | exact bk_14 | exact bk_15 | exact bk_16 | exact zup_self | exact (zup_ne (by first | assumption | omega)).trans (by first | assumption | exact zup_self) | exact (zup_ne (by first | assumption | omega)).trans ((zup_ne (by first | assumption | omega)).trans (by first | assumption | exact zup_self)) | exact (bk_out (by first | omega | (simp only [bset, reduceIte, Nat.reduceEqDiff]; omega))).trans (by first | exact bk_0 | exact bk_1 | exact bk_2 | exact bk_3 | exact bk_4 | exact bk_5 | exact bk_6 | exact bk_7 | exact bk_8 | exact bk_9 | exact bk_10 | exact bk_11 | exact bk_12 | exact bk_13 | exact bk_14 | exact bk_15 | exact bk_16 | exact cr_5 | exact cr_23 | exact cr_24 | exact cr_25 | exact cr_26 | exact cr_27 | exact cr_28 | exact cr_29 | exact cr_30 | assumption)) (by decide) (by first | omega | (simp only [bset, reduceIte, Nat.reduceEqDiff]; omega)) (by first | omega | (simp only [bset, reduceIte, Nat.reduceEqDiff]; omega)) ?_
                          refine zr_if_le (tgt := 130) dX7_holds_123 (by decide) (rfl : 123 + 3 = 126) (jI_lez (by first | omega | (simp only [bset, reduceIte, Nat.reduceEqDiff]; omega)) (by first | omega | (simp only [bset, reduceIte, Nat.reduceEqDiff]; omega))) (fun h123 => ?_) (fun h123 => ?_)
                          · first
                            | (exfalso; omega)
                            | (
                              refine zr_iconst dX7_holds_130 (rfl : 130 + 1 = 131) ?_
                              refine zr_istore (lv' := [_, _, _, _, _, _, _]) dX7_holds_131 (rfl : 131 + 2 = 133) (Nat.le_of_ble_eq_true rfl) rfl ?_
                              refine zr_iinc (lv' := [_, _, _, _, _, _, _]) dX7_holds_133 (rfl : 133 + 3 = 136) (Nat.le_of_ble_eq_true rfl) rfl (by first | exact jI_add _ _ | rfl) rfl ?_
                              refine zr_goto (tgt := 80) dX7_holds_136 (by decide) ?_
                              refine hk3 _ ?_
                              first | rw [jb_pos (by omega)] | rw [jb_neg (by omega)])
                          · first
                            | (exfalso; omega)
                            | (
                              refine zr_iconst dX7_holds_126 (rfl : 126 + 1 = 127) ?_
                              refine zr_goto (tgt := 131) dX7_holds_127 (by decide) ?_
                              refine zr_istore (lv' := [_, _, _, _, _, _, _]) dX7_holds_131 (rfl : 131 + 2 = 133) (Nat.le_of_ble_eq_true rfl) rfl ?_
                              refine zr_iinc (lv' := [_, _, _, _, _, _, _]) dX7_holds_133 (rfl : 133 + 3 = 136) (Nat.le_of_ble_eq_true rfl) rfl (by first | exact jI_add _ _ | rfl) rfl ?_
                              refine zr_goto (tgt := 80) dX7_holds_136 (by decide) ?_
                              refine hk3 _ ?_
                              first | rw [jb_pos (by omega)] | rw [jb_neg (by omega)]))
                      · first
                        | (exfalso; omega)
                        | (
                          refine zr_bipush dX7_holds_111 (rfl : 111 + 2 = 113) (by decide) ?_
                          refine zr_goto (tgt := 119) dX7_holds_113 (by decide) ?_
                          refine zr_iload dX7_holds_119 (rfl : 119 + 2 = 121) rfl ?_
                          refine zr_iadd dX7_holds_121 (rfl : 121 + 1 = 122) (by first | exact jI_add _ _ | rfl) ?_
                          refine zr_iald dX7_holds_122 (rfl : 122 + 1 = 123) (by first | assumption | exact mw_167 | exact mw_168 | exact mw_169 | exact mw_170 | exact bk_0 | exact bk_1 | exact bk_2 | exact bk_3 | exact bk_4 | exact bk_5 | exact bk_6 | exact bk_7 | exact bk_8 | exact bk_9 | exact bk_10 | exact bk_11 | exact bk_12 | exact bk_13 | exact bk_14 | exact bk_15 | exact bk_16 | exact zup_self | exact (zup_ne (by first | assumption | omega)).trans (by first | assumption | exact zup_self) | exact (zup_ne (by first | assumption | omega)).trans ((zup_ne (by first | assumption | omega)).trans (by first | assumption | exact zup_self)) | exact (bk_out (by first | omega | (simp only [bset, reduceIte, Nat.reduceEqDiff]; omega))).trans (by first | exact bk_0 | exact bk_1 | exact bk_2 | exact bk_3 | exact bk_4 | exact bk_5 | exact bk_6 | exact bk_7 | exact bk_8 | exact bk_9 | exact bk_10 | exact bk_11 | exact bk_12 | exact bk_13 | exact bk_14 | exact bk_15 | exact bk_16 | exact cr_5 | exact cr_23 | exact cr_24 | exact cr_25 | exact cr_26 | exact cr_27 | exact cr_28 | exact cr_29 | exact cr_30 | assumption)) (by decide) (by first | omega | (simp only [bset, reduceIte, Nat.reduceEqDiff]; omega)) (by first | omega | (simp only [bset, reduceIte, Nat.reduceEqDiff]; omega)) ?_
                          refine zr_if_le (tgt := 130) dX7_holds_123 (by decide) (rfl : 123 + 3 = 126) (jI_lez (by first | omega | (simp only [bset, reduceIte, Nat.reduceEqDiff]; omega)) (by first | omega | (simp only [bset, reduceIte, Nat.reduceEqDiff]; omega))) (fun h123 => ?_) (fun h123 => ?_)
                          · first
                            | (exfalso; omega)
                            | (
                              refine zr_iconst dX7_holds_130 (rfl : 130 + 1 = 131) ?_
                              refine zr_istore (lv' := [_, _, _, _, _, _, _]) dX7_holds_131 (rfl : 131 + 2 = 133) (Nat.le_of_ble_eq_true rfl) rfl ?_
                              refine zr_iinc (lv' := [_, _, _, _, _, _, _]) dX7_holds_133 (rfl : 133 + 3 = 136) (Nat.le_of_ble_eq_true rfl) rfl (by first | exact jI_add _ _ | rfl) rfl ?_
                              refine zr_goto (tgt := 80) dX7_holds_136 (by decide) ?_
                              refine hk3 _ ?_
                              first | rw [jb_pos (by omega)] | rw [jb_neg (by omega)])
                          · first
                            | (exfalso; omega)
                            | (
                              refine zr_iconst dX7_holds_126 (rfl : 126 + 1 = 127) ?_
                              refine zr_goto (tgt := 131) dX7_holds_127 (by decide) ?_
                              refine zr_istore (lv' := [_, _, _, _, _, _, _]) dX7_holds_131 (rfl : 131 + 2 = 133) (Nat.le_of_ble_eq_true rfl) rfl ?_
                              refine zr_iinc (lv' := [_, _, _, _, _, _, _]) dX7_holds_133 (rfl : 133 + 3 = 136) (Nat.le_of_ble_eq_true rfl) rfl (by first | exact jI_add _ _ | rfl) rfl ?_
                              refine zr_goto (tgt := 80) dX7_holds_136 (by decide) ?_
                              refine hk3 _ ?_
                              first | rw [jb_pos (by omega)] | rw [jb_neg (by omega)])))))
        · intro x hx
          rw [show x = jb (jcnt 90 q = 0) from hx]
          refine zr_iload dX7_holds_80 (rfl : 80 + 2 = 82) rfl ?_
          refine zr_bipush dX7_holds_82 (rfl : 82 + 2 = 84) (by decide) ?_
          refine zr_icmp_gt (tgt := 139) dX7_holds_84 (by decide) (rfl : 84 + 3 = 87) (jI_lt (by first | omega | (simp only [bset, reduceIte, Nat.reduceEqDiff]; omega)) (by first | omega | (simp only [bset, reduceIte, Nat.reduceEqDiff]; omega)) (by first | omega | (simp only [bset, reduceIte, Nat.reduceEqDiff]; omega)) (by first | omega | (simp only [bset, reduceIte, Nat.reduceEqDiff]; omega))) (fun h84 => ?_) (fun h84 => ?_)
          · first
            | (exfalso; omega)
            | (
              refine zr_iload dX7_holds_139 (rfl : 139 + 2 = 141) rfl ?_
              refine zr_iret dX7_holds_141 rfl (by first | exact jb_nar | rfl) ?_ rfl rfl rfl
              first | rfl | rw [jb_pos (by first | assumption | omega)] | rw [jb_neg (by first | assumption | omega)] | rw [if_pos (by first | assumption | omega)] | rw [if_neg (by first | assumption | omega)])
          · first
            | (exfalso; omega)
            | (
              exfalso
              omega)
      · exfalso; omega
    · have hj := hju hg1
      have hiff : juo (B 0) (jmk B k) c g = 0 ↔ (if g = 0 then 1 else if g = 2 then 2 else 3) ≤ J0 + J1 + J2 := by
        rw [hj]
        by_cases g0 : g = 0
        · rw [if_pos g0, if_pos g0]
          omega
        · rw [if_neg g0, if_neg g0]
          by_cases g2 : g = 2
          · rw [if_pos g2, if_pos g2]
            omega
          · rw [if_neg g2, if_neg g2]
            omega
      clear hj hju
      generalize juo (B 0) (jmk B k) c g = J at hiff
      have hiff2 : (J = 0 ∧ ((g = 0 ∧ 1 ≤ J0 + J1 + J2) ∨ (g = 2 ∧ 2 ≤ J0 + J1 + J2) ∨ (g ≠ 0 ∧ g ≠ 2 ∧ 3 ≤ J0 + J1 + J2))) ∨ (J ≠ 0 ∧ ((g = 0 ∧ J0 + J1 + J2 < 1) ∨ (g = 2 ∧ J0 + J1 + J2 < 2) ∨ (g ≠ 0 ∧ g ≠ 2 ∧ J0 + J1 + J2 < 3))) := by
        by_cases g0 : g = 0
        · rw [if_pos g0] at hiff
          omega
        · rw [if_neg g0] at hiff
          by_cases g2 : g = 2
          · rw [if_pos g2] at hiff
            omega
          · rw [if_neg g2] at hiff
            omega
      clear hiff
      refine zr_icmp_eq (tgt := 74) dX7_holds_42 (by decide) (rfl : 42 + 3 = 45) (jI_eq (by first | omega | (simp only [bset, reduceIte, Nat.reduceEqDiff]; omega)) (by first | omega | (simp only [bset, reduceIte, Nat.reduceEqDiff]; omega)) (by first | omega | (simp only [bset, reduceIte, Nat.reduceEqDiff]; omega)) (by first | omega | (simp only [bset, reduceIte, Nat.reduceEqDiff]; omega))) (fun h42 => ?_) (fun h42 => ?_)
      · first
        | (exfalso; omega)
        | (
          exfalso
          omega)
      · first
        | (exfalso; omega)
        | (
          refine zr_iload dX7_holds_45 (rfl : 45 + 2 = 47) rfl ?_
          refine zr_iload_n dX7_holds_47 (rfl : 47 + 1 = 48) rfl ?_
          refine zr_if_ne (tgt := 55) dX7_holds_48 (by decide) (rfl : 48 + 3 = 51) (by first | exact jb_iff | exact jI_z (by first | omega | (simp only [bset, reduceIte, Nat.reduceEqDiff]; omega)) (by first | omega | (simp only [bset, reduceIte, Nat.reduceEqDiff]; omega))) (fun h48 => ?_) (fun h48 => ?_)
          · first
            | (exfalso; omega)
            | (
              refine zr_iload_n dX7_holds_55 (rfl : 55 + 1 = 56) rfl ?_
              refine zr_iconst dX7_holds_56 (rfl : 56 + 1 = 57) ?_
              refine zr_icmp_ne (tgt := 64) dX7_holds_57 (by decide) (rfl : 57 + 3 = 60) (jI_eq (by first | omega | (simp only [bset, reduceIte, Nat.reduceEqDiff]; omega)) (by first | omega | (simp only [bset, reduceIte, Nat.reduceEqDiff]; omega)) (by first | omega | (simp only [bset, reduceIte, Nat.reduceEqDiff]; omega)) (by first | omega | (simp only [bset, reduceIte, Nat.reduceEqDiff]; omega))) (fun h57 => ?_) (fun h57 => ?_)
              · first
                | (exfalso; omega)
                | (
                  refine zr_iconst dX7_holds_64 (rfl : 64 + 1 = 65) ?_
                  refine zr_icmp_lt (tgt := 72) dX7_holds_65 (by decide) (rfl : 65 + 3 = 68) (jI_lt (by first | omega | (simp only [bset, reduceIte, Nat.reduceEqDiff]; omega)) (by first | omega | (simp only [bset, reduceIte, Nat.reduceEqDiff]; omega)) (by first | omega | (simp only [bset, reduceIte, Nat.reduceEqDiff]; omega)) (by first | omega | (simp only [bset, reduceIte, Nat.reduceEqDiff]; omega))) (fun h65 => ?_) (fun h65 => ?_)
                  · first
                    | (exfalso; omega)
                    | (
                      refine zr_iconst dX7_holds_72 (rfl : 72 + 1 = 73) ?_
                      refine zr_iret dX7_holds_73 rfl (by first | exact jb_nar | rfl) ?_ rfl rfl rfl
                      first | rw [jb_pos (by omega)] | rw [jb_neg (by omega)])
                  · first
                    | (exfalso; omega)
                    | (
                      refine zr_iconst dX7_holds_68 (rfl : 68 + 1 = 69) ?_
                      refine zr_goto (tgt := 73) dX7_holds_69 (by decide) ?_
                      refine zr_iret dX7_holds_73 rfl (by first | exact jb_nar | rfl) ?_ rfl rfl rfl
                      first | rw [jb_pos (by omega)] | rw [jb_neg (by omega)]))
              · first
                | (exfalso; omega)
                | (
                  refine zr_iconst dX7_holds_60 (rfl : 60 + 1 = 61) ?_
                  refine zr_goto (tgt := 65) dX7_holds_61 (by decide) ?_
                  refine zr_icmp_lt (tgt := 72) dX7_holds_65 (by decide) (rfl : 65 + 3 = 68) (jI_lt (by first | omega | (simp only [bset, reduceIte, Nat.reduceEqDiff]; omega)) (by first | omega | (simp only [bset, reduceIte, Nat.reduceEqDiff]; omega)) (by first | omega | (simp only [bset, reduceIte, Nat.reduceEqDiff]; omega)) (by first | omega | (simp only [bset, reduceIte, Nat.reduceEqDiff]; omega))) (fun h65 => ?_) (fun h65 => ?_)
                  · first
                    | (exfalso; omega)
                    | (
                      refine zr_iconst dX7_holds_72 (rfl : 72 + 1 = 73) ?_
                      refine zr_iret dX7_holds_73 rfl (by first | exact jb_nar | rfl) ?_ rfl rfl rfl
                      first | rw [jb_pos (by omega)] | rw [jb_neg (by omega)])
                  · first
                    | (exfalso; omega)
                    | (
                      refine zr_iconst dX7_holds_68 (rfl : 68 + 1 = 69) ?_
                      refine zr_goto (tgt := 73) dX7_holds_69 (by decide) ?_
                      refine zr_iret dX7_holds_73 rfl (by first | exact jb_nar | rfl) ?_ rfl rfl rfl
                      first | rw [jb_pos (by omega)] | rw [jb_neg (by omega)])))
          · first
            | (exfalso; omega)
            | (
              refine zr_iconst dX7_holds_51 (rfl : 51 + 1 = 52) ?_
              refine zr_goto (tgt := 65) dX7_holds_52 (by decide) ?_
              refine zr_icmp_lt (tgt := 72) dX7_holds_65 (by decide) (rfl : 65 + 3 = 68) (jI_lt (by first | omega | (simp only [bset, reduceIte, Nat.reduceEqDiff]; omega)) (by first | omega | (simp only [bset, reduceIte, Nat.reduceEqDiff]; omega)) (by first | omega | (simp only [bset, reduceIte, Nat.reduceEqDiff]; omega)) (by first | omega | (simp only [bset, reduceIte, Nat.reduceEqDiff]; omega))) (fun h65 => ?_) (fun h65 => ?_)
              · first
                | (exfalso; omega)
                | (
                  refine zr_iconst dX7_holds_72 (rfl : 72 + 1 = 73) ?_
                  refine zr_iret dX7_holds_73 rfl (by first | exact jb_nar | rfl) ?_ rfl rfl rfl
                  first | rw [jb_pos (by omega)] | rw [jb_neg (by omega)])
              · first
                | (exfalso; omega)
                | (
                  refine zr_iconst dX7_holds_68 (rfl : 68 + 1 = 69) ?_
                  refine zr_goto (tgt := 73) dX7_holds_69 (by decide) ?_
                  refine zr_iret dX7_holds_73 rfl (by first | exact jb_nar | rfl) ?_ rfl rfl rfl
                  first | rw [jb_pos (by omega)] | rw [jb_neg (by omega)])))
  refine zfor2 0 3 (fun r x _ => x = (if 0 < r then jb (U0 = 0) else 0) + (if 1 < r then jb (U1 = 0) else 0) + (if 2 < r then jb (U2 = 0) else 0)) (fun r x o6 => [some (.ref 167), some (.int (jI c)), some (.int (jI g)), some (.int (jI k)), some (.int (jI x)), some (.int (jI r)), none]) (fun _ _ _ => (mw S st ik th tx ty w)) 0 () rfl ?_ ?_
  · intro r x _ r0 r1 hx hk3
    have hjo := jorw_r B (c * 3 + r) k
    have hjr : (r = 0 ∧ jorw B (c * 3 + r) k = 5 - U0) ∨ (r = 1 ∧ jorw B (c * 3 + r) k = 5 - U1) ∨ (r = 2 ∧ jorw B (c * 3 + r) k = 5 - U2) := by
      rcases (by omega : r = 0 ∨ r = 1 ∨ r = 2) with e | e | e
      · exact Or.inl ⟨e, by rw [e]; exact j0⟩
      · exact Or.inr (Or.inl ⟨e, by rw [e]; exact j1⟩)
      · exact Or.inr (Or.inr ⟨e, by rw [e]; exact j2⟩)
    have hj0 := jb_r (P := U0 = 0)
    have hj1 := jb_r (P := U1 = 0)
    have hj2 := jb_r (P := U2 = 0)
    have b0 : (U0 = 0 ∧ jb (U0 = 0) = 1) ∨ (U0 ≠ 0 ∧ jb (U0 = 0) = 0) := by
      by_cases hh : U0 = 0
      · exact Or.inl ⟨hh, jb_pos hh⟩
      · exact Or.inr ⟨hh, jb_neg hh⟩
    have b1 : (U1 = 0 ∧ jb (U1 = 0) = 1) ∨ (U1 ≠ 0 ∧ jb (U1 = 0) = 0) := by
      by_cases hh : U1 = 0
      · exact Or.inl ⟨hh, jb_pos hh⟩
      · exact Or.inr ⟨hh, jb_neg hh⟩
    have b2 : (U2 = 0 ∧ jb (U2 = 0) = 1) ∨ (U2 ≠ 0 ∧ jb (U2 = 0) = 0) := by
      by_cases hh : U2 = 0
      · exact Or.inl ⟨hh, jb_pos hh⟩
      · exact Or.inr ⟨hh, jb_neg hh⟩
    refine zr_iload dX7_holds_6 (rfl : 6 + 2 = 8) rfl ?_
    refine zr_iconst dX7_holds_8 (rfl : 8 + 1 = 9) ?_
    refine zr_icmp_ge (tgt := 40) dX7_holds_9 (by decide) (rfl : 9 + 3 = 12) (jI_le (by first | omega | (simp only [bset, reduceIte, Nat.reduceEqDiff]; omega)) (by first | omega | (simp only [bset, reduceIte, Nat.reduceEqDiff]; omega)) (by first | omega | (simp only [bset, reduceIte, Nat.reduceEqDiff]; omega)) (by first | omega | (simp only [bset, reduceIte, Nat.reduceEqDiff]; omega))) (fun h9 => ?_) (fun h9 => ?_)
    · first
      | (exfalso; omega)
      | (
        exfalso
        omega)
    · first
      | (exfalso; omega)
      | (
        refine zr_iload dX7_holds_12 (rfl : 12 + 2 = 14) rfl ?_
        refine zr_aload_n dX7_holds_14 (rfl : 14 + 1 = 15) rfl ?_
        refine zr_iload_n dX7_holds_15 (rfl : 15 + 1 = 16) rfl ?_
        refine zr_iload dX7_holds_16 (rfl : 16 + 2 = 18) rfl ?_
        refine zr_iload_n dX7_holds_18 (rfl : 18 + 1 = 19) rfl ?_
        refine zr_fnV dX7_holds_19 (rfl : 19 + 3 = 22) l_X7_40 (m_ofRow c r k hc (by first | omega | (simp only [bset, reduceIte, Nat.reduceEqDiff]; omega)) (by first | omega | (simp only [bset, reduceIte, Nat.reduceEqDiff]; omega)) h ok lk) (by first | assumption | exact mw_167 | exact mw_168 | exact mw_169 | exact mw_170 | exact bk_0 | exact bk_1 | exact bk_2 | exact bk_3 | exact bk_4 | exact bk_5 | exact bk_6 | exact bk_7 | exact bk_8 | exact bk_9 | exact bk_10 | exact bk_11 | exact bk_12 | exact bk_13 | exact bk_14 | exact bk_15 | exact bk_16 | exact zup_self | exact (zup_ne (by first | assumption | omega)).trans (by first | assumption | exact zup_self) | exact (zup_ne (by first | assumption | omega)).trans ((zup_ne (by first | assumption | omega)).trans (by first | assumption | exact zup_self)) | exact (bk_out (by first | omega | (simp only [bset, reduceIte, Nat.reduceEqDiff]; omega))).trans (by first | exact bk_0 | exact bk_1 | exact bk_2 | exact bk_3 | exact bk_4 | exact bk_5 | exact bk_6 | exact bk_7 | exact bk_8 | exact bk_9 | exact bk_10 | exact bk_11 | exact bk_12 | exact bk_13 | exact bk_14 | exact bk_15 | exact bk_16 | exact cr_5 | exact cr_23 | exact cr_24 | exact cr_25 | exact cr_26 | exact cr_27 | exact cr_28 | exact cr_29 | exact cr_30 | assumption)) rfl rfl rfl (Nat.le_of_ble_eq_true rfl) ?_
        refine zr_iconst dX7_holds_22 (rfl : 22 + 1 = 23) ?_
        refine zr_icmp_ne (tgt := 30) dX7_holds_23 (by decide) (rfl : 23 + 3 = 26) (jI_eq (by first | omega | (simp only [bset, reduceIte, Nat.reduceEqDiff]; omega)) (by first | omega | (simp only [bset, reduceIte, Nat.reduceEqDiff]; omega)) (by first | omega | (simp only [bset, reduceIte, Nat.reduceEqDiff]; omega)) (by first | omega | (simp only [bset, reduceIte, Nat.reduceEqDiff]; omega))) (fun h23 => ?_) (fun h23 => ?_)
        · first
          | (exfalso; omega)
          | (
            refine zr_iconst dX7_holds_30 (rfl : 30 + 1 = 31) ?_
            refine zr_iadd dX7_holds_31 (rfl : 31 + 1 = 32) (by first | exact jI_add _ _ | rfl) ?_
            refine zr_istore (lv' := [_, _, _, _, _, _, _]) dX7_holds_32 (rfl : 32 + 2 = 34) (Nat.le_of_ble_eq_true rfl) rfl ?_
            refine zr_iinc (lv' := [_, _, _, _, _, _, _]) dX7_holds_34 (rfl : 34 + 3 = 37) (Nat.le_of_ble_eq_true rfl) rfl (by first | exact jI_add _ _ | rfl) rfl ?_
            refine zr_goto (tgt := 6) dX7_holds_37 (by decide) ?_
            refine hk3 _ () ?_
            rw [hx]
            rcases hjr with ⟨e, h5⟩ | ⟨e, h5⟩ | ⟨e, h5⟩ <;> (repeat (first | rw [if_pos (by omega)] | rw [if_neg (by omega)])) <;> omega)
        · first
          | (exfalso; omega)
          | (
            refine zr_iconst dX7_holds_26 (rfl : 26 + 1 = 27) ?_
            refine zr_goto (tgt := 31) dX7_holds_27 (by decide) ?_
            refine zr_iadd dX7_holds_31 (rfl : 31 + 1 = 32) (by first | exact jI_add _ _ | rfl) ?_
            refine zr_istore (lv' := [_, _, _, _, _, _, _]) dX7_holds_32 (rfl : 32 + 2 = 34) (Nat.le_of_ble_eq_true rfl) rfl ?_
            refine zr_iinc (lv' := [_, _, _, _, _, _, _]) dX7_holds_34 (rfl : 34 + 3 = 37) (Nat.le_of_ble_eq_true rfl) rfl (by first | exact jI_add _ _ | rfl) rfl ?_
            refine zr_goto (tgt := 6) dX7_holds_37 (by decide) ?_
            refine hk3 _ () ?_
            rw [hx]
            rcases hjr with ⟨e, h5⟩ | ⟨e, h5⟩ | ⟨e, h5⟩ <;> (repeat (first | rw [if_pos (by omega)] | rw [if_neg (by omega)])) <;> omega))
  · intro x _ hx
    rw [show x = jb (U0 = 0) + jb (U1 = 0) + jb (U2 = 0) from hx]
    refine zr_iload dX7_holds_6 (rfl : 6 + 2 = 8) rfl ?_
    refine zr_iconst dX7_holds_8 (rfl : 8 + 1 = 9) ?_
    refine zr_icmp_ge (tgt := 40) dX7_holds_9 (by decide) (rfl : 9 + 3 = 12) (jI_le (by first | omega | (simp only [bset, reduceIte, Nat.reduceEqDiff]; omega)) (by first | omega | (simp only [bset, reduceIte, Nat.reduceEqDiff]; omega)) (by first | omega | (simp only [bset, reduceIte, Nat.reduceEqDiff]; omega)) (by first | omega | (simp only [bset, reduceIte, Nat.reduceEqDiff]; omega))) (fun h9 => ?_) (fun h9 => ?_)
    · first
      | (exfalso; omega)
      | (
        exact key)
    · first
      | (exfalso; omega)
      | (
        exfalso
        omega)
end GA

