/-! the reference: what a card lacks -/
def jlq (B : zB) (c r : Int) : Int → Bool := fun z => (if r = -1 then jcnb B c (z + 1) else if r = 3 then decide (0 ≤ B 1 (z + 1) - 3 * c ∧ B 1 (z + 1) - 3 * c ≤ 2) else decide (B 1 (z + 1) - 3 * c = r)) && decide (B 7 (z + 1) = 0)
theorem jgr_next {q : Int → Bool} {i : Int} (h : 0 ≤ i) : jgr q (i + 1).toNat = if q i = true then i + 1 else jgr q i.toNat := by
  rw [show (i + 1).toNat = i.toNat + 1 by omega]
  show (if q (i.toNat : Int) = true then (i.toNat : Int) + 1 else jgr q i.toNat) = _
  rw [show (i.toNat : Int) = i by omega]
theorem jcnt_ex {q : Int → Bool} {N : Nat} (h : jcnt N q ≠ 0) : ∃ z : Int, 0 ≤ z ∧ z < N ∧ q z = true := by
  by_cases hx : ∃ z : Int, 0 ≤ z ∧ z < N ∧ q z = true
  · exact hx
  · refine absurd (jcnt_none fun k k0 k1 => ?_) h
    by_cases hq : q k = true
    · exact absurd ⟨k, k0, k1, hq⟩ hx
    · simpa using hq
section LA
variable {Γ : zΓ} {d : Nat} {S : Int → Int} {st : Int} {ik : Int → Int} {th : Int} {tx : Int → Int} {ty : Int} {w : zW} {B : zB}
theorem m_lacks (c r k : Int) (hc : 0 ≤ c ∧ c < 6) (hr : -1 ≤ r ∧ r ≤ 3) (hk : k = 0 ∨ k = 1) (h : mr S 0 B) (ok : jok B) (lk : jlk B) : zFn Γ md_X7_lacks (d + 1) [.ref 167, .int (jI c), .int (jI r), .int (jI k)] (mw S st ik th tx ty w) (some (.int (jI (if k = 0 then jcnt 90 (jlq B c r) else jgr (jlq B c r) 90)))) (mw S st ik th tx ty w) := by
  generalize hq : jlq B c r = q
  refine zFn.of_run (lv := [some (.ref 167), some (.int (jI c)), some (.int (jI r)), some (.int (jI k)), none, none, none, none, none]) (by decide) rfl (Nat.le_of_ble_eq_true rfl) rfl (fun n9 g9 => ?_)
  refine zr_iconst dX7_lacks_0 (rfl : 0 + 1 = 1) ?_
  refine zr_istore (lv' := [_, _, _, _, _, _, _, _, _]) dX7_lacks_1 (rfl : 1 + 2 = 3) (Nat.le_of_ble_eq_true rfl) rfl ?_
  refine zr_iconst dX7_lacks_3 (rfl : 3 + 1 = 4) ?_
  refine zr_istore (lv' := [_, _, _, _, _, _, _, _, _]) dX7_lacks_4 (rfl : 4 + 2 = 6) (Nat.le_of_ble_eq_true rfl) rfl ?_
  refine zr_iconst dX7_lacks_6 (rfl : 6 + 1 = 7) ?_
  refine zr_istore (lv' := [_, _, _, _, _, _, _, _, _]) dX7_lacks_7 (rfl : 7 + 2 = 9) (Nat.le_of_ble_eq_true rfl) rfl ?_
  refine zfor1 1 90 (fun n (a : Int × Int × Option Value × Option Value) => a.1 = jcnt (n - 1).toNat q ∧ a.2.1 = jgr q (n - 1).toNat) (fun n a => [some (.ref 167), some (.int (jI c)), some (.int (jI r)), some (.int (jI k)), some (.int (jI a.1)), some (.int (jI a.2.1)), some (.int (jI n)), a.2.2.1, a.2.2.2]) (fun _ _ => (mw S st ik th tx ty w)) (0, 0, none, none) ⟨rfl, rfl⟩ ?_ ?_
  · intro n a n0 n1 hI hk2
    obtain ⟨x, y, o7, o8⟩ := a
    obtain ⟨hx, hy⟩ := hI
    simp only at hx hy ⊢
    have hk3 := fun (x' y' : Int) (o7' o8' : Option Value) => hk2 (x', y', o7', o8')
    simp only at hk3
    clear hk2
    have hp := h.pl0 n n0 (by omega)
    have hdn := h.da0 n n0 (by omega)
    have hR := ok.R n
    have hda := ok.da n
    have hsp := m_isCorner (Γ := Γ) (d := d) (st := st) (ik := ik) (th := th) (tx := tx) (ty := ty) (w := w) c n hc (by omega) h ok lk
    have hJr := jb_r (P := jcnb B c n = true)
    have hn := jcnt_next (q := q) (i := n - 1) (by omega)
    have hg := jgr_next (q := q) (i := n - 1) (by omega)
    rw [show n - 1 + 1 = n + 1 - 1 by omega] at hn hg
    have e : (q (n - 1) = true) ↔ (((r = -1 ∧ jb (jcnb B c n = true) = 1) ∨ (r = 3 ∧ 0 ≤ B 1 n - 3 * c ∧ B 1 n - 3 * c ≤ 2) ∨ (0 ≤ r ∧ r ≤ 2 ∧ B 1 n - 3 * c = r)) ∧ B 7 n = 0) := by
      have hJ : (jcnb B c n = true) ↔ jb (jcnb B c n = true) = 1 := ⟨fun q => jb_pos q, fun q => jb_1 q⟩
      rw [← hq]
      unfold jlq
      rw [show n - 1 + 1 = n by omega]
      rcases (by omega : r = -1 ∨ r = 0 ∨ r = 1 ∨ r = 2 ∨ r = 3) with e | e | e | e | e
      · rw [if_pos e, Bool.and_eq_true, decide_eq_true_eq]
        constructor
        · exact fun q => ⟨Or.inl ⟨e, hJ.mp q.1⟩, q.2⟩
        · exact fun q => ⟨hJ.mpr (by omega), q.2⟩
      · rw [if_neg (by omega), if_neg (by omega), Bool.and_eq_true, decide_eq_true_eq, decide_eq_true_eq]
        omega
      · rw [if_neg (by omega), if_neg (by omega), Bool.and_eq_true, decide_eq_true_eq, decide_eq_true_eq]
        omega
      · rw [if_neg (by omega), if_neg (by omega), Bool.and_eq_true, decide_eq_true_eq, decide_eq_true_eq]
        omega
      · rw [if_neg (by omega), if_pos e, Bool.and_eq_true, decide_eq_true_eq, decide_eq_true_eq]
        omega
    generalize jb (jcnb B c n = true) = J at hsp hJr e
    have hb : ((((r = -1 ∧ J = 1) ∨ (r = 3 ∧ 0 ≤ B 1 n - 3 * c ∧ B 1 n - 3 * c ≤ 2) ∨ (0 ≤ r ∧ r ≤ 2 ∧ B 1 n - 3 * c = r)) ∧ B 7 n = 0) ∧ jb (q (n - 1) = true) = 1 ∧ jgr q (n + 1 - 1).toNat = n) ∨ (¬ (((r = -1 ∧ J = 1) ∨ (r = 3 ∧ 0 ≤ B 1 n - 3 * c ∧ B 1 n - 3 * c ≤ 2) ∨ (0 ≤ r ∧ r ≤ 2 ∧ B 1 n - 3 * c = r)) ∧ B 7 n = 0) ∧ jb (q (n - 1) = true) = 0 ∧ jgr q (n + 1 - 1).toNat = jgr q (n - 1).toNat) := by
      by_cases hh : q (n - 1) = true
      · rw [if_pos hh] at hg
        exact Or.inl ⟨e.mp hh, jb_pos hh, by omega⟩
      · rw [if_neg hh] at hg
        exact Or.inr ⟨fun z => hh (e.mpr z), jb_neg hh, hg⟩
    clear e hg
    rw [← hx] at hn
    rw [← hy] at hb
    generalize jb (q (n - 1) = true) = jq at hn hb
    generalize jcnt (n + 1 - 1).toNat q = c2 at hn hk3
    generalize jgr q (n + 1 - 1).toNat = g2 at hb hk3
    clear hx hy
    refine zr_iload dX7_lacks_9 (rfl : 9 + 2 = 11) rfl ?_
    refine zr_bipush dX7_lacks_11 (rfl : 11 + 2 = 13) (by decide) ?_
    refine zr_icmp_gt (tgt := 106) dX7_lacks_13 (by decide) (rfl : 13 + 3 = 16) (jI_lt (by first | omega | (simp only [bset, reduceIte, Nat.reduceEqDiff]; omega)) (by first | omega | (simp only [bset, reduceIte, Nat.reduceEqDiff]; omega)) (by first | omega | (simp only [bset, reduceIte, Nat.reduceEqDiff]; omega)) (by first | omega | (simp only [bset, reduceIte, Nat.reduceEqDiff]; omega))) (fun h13 => ?_) (fun h13 => ?_)
    · first
      | (exfalso; omega)
      | (
        exfalso
        omega)
    · first
      | (exfalso; omega)
      | (
        refine zr_aload_n dX7_lacks_16 (rfl : 16 + 1 = 17) rfl ?_
        refine zr_getf dX7_lacks_17 (rfl : 17 + 3 = 20) f_X7_7 (by first | assumption | exact mw_167 | exact mw_168 | exact mw_169 | exact mw_170 | exact bk_0 | exact bk_1 | exact bk_2 | exact bk_3 | exact bk_4 | exact bk_5 | exact bk_6 | exact bk_7 | exact bk_8 | exact bk_9 | exact bk_10 | exact bk_11 | exact bk_12 | exact bk_13 | exact bk_14 | exact bk_15 | exact bk_16 | exact zup_self | exact (zup_ne (by first | assumption | omega)).trans (by first | assumption | exact zup_self) | exact (zup_ne (by first | assumption | omega)).trans ((zup_ne (by first | assumption | omega)).trans (by first | assumption | exact zup_self)) | exact (bk_out (by first | omega | (simp only [bset, reduceIte, Nat.reduceEqDiff]; omega))).trans (by first | exact bk_0 | exact bk_1 | exact bk_2 | exact bk_3 | exact bk_4 | exact bk_5 | exact bk_6 | exact bk_7 | exact bk_8 | exact bk_9 | exact bk_10 | exact bk_11 | exact bk_12 | exact bk_13 | exact bk_14 | exact bk_15 | exact bk_16 | exact cr_5 | exact cr_23 | exact cr_24 | exact cr_25 | exact cr_26 | exact cr_27 | exact cr_28 | exact cr_29 | exact cr_30 | assumption)) rfl ?_
        refine zr_iconst dX7_lacks_20 (rfl : 20 + 1 = 21) ?_
        refine zr_iload dX7_lacks_21 (rfl : 21 + 2 = 23) rfl ?_
        refine zr_iadd dX7_lacks_23 (rfl : 23 + 1 = 24) (by first | exact jI_add _ _ | rfl) ?_
        refine zr_iald dX7_lacks_24 (rfl : 24 + 1 = 25) (by first | assumption | exact mw_167 | exact mw_168 | exact mw_169 | exact mw_170 | exact bk_0 | exact bk_1 | exact bk_2 | exact bk_3 | exact bk_4 | exact bk_5 | exact bk_6 | exact bk_7 | exact bk_8 | exact bk_9 | exact bk_10 | exact bk_11 | exact bk_12 | exact bk_13 | exact bk_14 | exact bk_15 | exact bk_16 | exact zup_self | exact (zup_ne (by first | assumption | omega)).trans (by first | assumption | exact zup_self) | exact (zup_ne (by first | assumption | omega)).trans ((zup_ne (by first | assumption | omega)).trans (by first | assumption | exact zup_self)) | exact (bk_out (by first | omega | (simp only [bset, reduceIte, Nat.reduceEqDiff]; omega))).trans (by first | exact bk_0 | exact bk_1 | exact bk_2 | exact bk_3 | exact bk_4 | exact bk_5 | exact bk_6 | exact bk_7 | exact bk_8 | exact bk_9 | exact bk_10 | exact bk_11 | exact bk_12 | exact bk_13 | exact bk_14 | exact bk_15 | exact bk_16 | exact cr_5 | exact cr_23 | exact cr_24 | exact cr_25 | exact cr_26 | exact cr_27 | exact cr_28 | exact cr_29 | exact cr_30 | assumption)) (by decide) (by first | omega | (simp only [bset, reduceIte, Nat.reduceEqDiff]; omega)) (by first | omega | (simp only [bset, reduceIte, Nat.reduceEqDiff]; omega)) ?_
        refine zr_iconst dX7_lacks_25 (rfl : 25 + 1 = 26) ?_
        refine zr_isub dX7_lacks_26 (rfl : 26 + 1 = 27) (by first | exact jI_sub _ _ | rfl) ?_
        refine zr_iconst dX7_lacks_27 (rfl : 27 + 1 = 28) ?_
        refine zr_iload_n dX7_lacks_28 (rfl : 28 + 1 = 29) rfl ?_
        refine zr_imul dX7_lacks_29 (rfl : 29 + 1 = 30) (by first | exact jI_mul _ _ | rfl) ?_
        refine zr_isub dX7_lacks_30 (rfl : 30 + 1 = 31) (by first | exact jI_sub _ _ | rfl) ?_
        refine zr_istore (lv' := [_, _, _, _, _, _, _, _, _]) dX7_lacks_31 (rfl : 31 + 2 = 33) (Nat.le_of_ble_eq_true rfl) rfl ?_
        refine zr_iload_n dX7_lacks_33 (rfl : 33 + 1 = 34) rfl ?_
        refine zr_if_ge (tgt := 47) dX7_lacks_34 (by decide) (rfl : 34 + 3 = 37) (jI_gez (by first | omega | (simp only [bset, reduceIte, Nat.reduceEqDiff]; omega)) (by first | omega | (simp only [bset, reduceIte, Nat.reduceEqDiff]; omega))) (fun h34 => ?_) (fun h34 => ?_)
        · first
          | (exfalso; omega)
          | (
            refine zr_iload_n dX7_lacks_47 (rfl : 47 + 1 = 48) rfl ?_
            refine zr_iconst dX7_lacks_48 (rfl : 48 + 1 = 49) ?_
            refine zr_icmp_ne (tgt := 62) dX7_lacks_49 (by decide) (rfl : 49 + 3 = 52) (jI_eq (by first | omega | (simp only [bset, reduceIte, Nat.reduceEqDiff]; omega)) (by first | omega | (simp only [bset, reduceIte, Nat.reduceEqDiff]; omega)) (by first | omega | (simp only [bset, reduceIte, Nat.reduceEqDiff]; omega)) (by first | omega | (simp only [bset, reduceIte, Nat.reduceEqDiff]; omega))) (fun h49 => ?_) (fun h49 => ?_)
            · first
              | (exfalso; omega)
              | (
                refine zr_iload dX7_lacks_62 (rfl : 62 + 2 = 64) rfl ?_
                refine zr_iload_n dX7_lacks_64 (rfl : 64 + 1 = 65) rfl ?_
                refine zr_icmp_ne (tgt := 72) dX7_lacks_65 (by decide) (rfl : 65 + 3 = 68) (jI_eq (by first | omega | (simp only [bset, reduceIte, Nat.reduceEqDiff]; omega)) (by first | omega | (simp only [bset, reduceIte, Nat.reduceEqDiff]; omega)) (by first | omega | (simp only [bset, reduceIte, Nat.reduceEqDiff]; omega)) (by first | omega | (simp only [bset, reduceIte, Nat.reduceEqDiff]; omega))) (fun h65 => ?_) (fun h65 => ?_)
                · first
                  | (exfalso; omega)
                  | (
                    refine zr_iconst dX7_lacks_72 (rfl : 72 + 1 = 73) ?_
                    refine zr_istore (lv' := [_, _, _, _, _, _, _, _, _]) dX7_lacks_73 (rfl : 73 + 2 = 75) (Nat.le_of_ble_eq_true rfl) rfl ?_
                    refine zr_iload dX7_lacks_75 (rfl : 75 + 2 = 77) rfl ?_
                    refine zr_if_eq (tgt := 100) dX7_lacks_77 (by decide) (rfl : 77 + 3 = 80) (by first | exact jb_iff | exact jI_z (by first | omega | (simp only [bset, reduceIte, Nat.reduceEqDiff]; omega)) (by first | omega | (simp only [bset, reduceIte, Nat.reduceEqDiff]; omega))) (fun h77 => ?_) (fun h77 => ?_)
                    · first
                      | (exfalso; omega)
                      | (
                        refine zr_iinc (lv' := [_, _, _, _, _, _, _, _, _]) dX7_lacks_100 (rfl : 100 + 3 = 103) (Nat.le_of_ble_eq_true rfl) rfl (by first | exact jI_add _ _ | rfl) rfl ?_
                        refine zr_goto (tgt := 9) dX7_lacks_103 (by decide) ?_
                        exact hk3 _ _ _ _ ⟨by omega, by omega⟩)
                    · first
                      | (exfalso; omega)
                      | (
                        refine zr_aload_n dX7_lacks_80 (rfl : 80 + 1 = 81) rfl ?_
                        refine zr_getf dX7_lacks_81 (rfl : 81 + 3 = 84) f_X7_7 (by first | assumption | exact mw_167 | exact mw_168 | exact mw_169 | exact mw_170 | exact bk_0 | exact bk_1 | exact bk_2 | exact bk_3 | exact bk_4 | exact bk_5 | exact bk_6 | exact bk_7 | exact bk_8 | exact bk_9 | exact bk_10 | exact bk_11 | exact bk_12 | exact bk_13 | exact bk_14 | exact bk_15 | exact bk_16 | exact zup_self | exact (zup_ne (by first | assumption | omega)).trans (by first | assumption | exact zup_self) | exact (zup_ne (by first | assumption | omega)).trans ((zup_ne (by first | assumption | omega)).trans (by first | assumption | exact zup_self)) | exact (bk_out (by first | omega | (simp only [bset, reduceIte, Nat.reduceEqDiff]; omega))).trans (by first | exact bk_0 | exact bk_1 | exact bk_2 | exact bk_3 | exact bk_4 | exact bk_5 | exact bk_6 | exact bk_7 | exact bk_8 | exact bk_9 | exact bk_10 | exact bk_11 | exact bk_12 | exact bk_13 | exact bk_14 | exact bk_15 | exact bk_16 | exact cr_5 | exact cr_23 | exact cr_24 | exact cr_25 | exact cr_26 | exact cr_27 | exact cr_28 | exact cr_29 | exact cr_30 | assumption)) rfl ?_
                        refine zr_bipush dX7_lacks_84 (rfl : 84 + 2 = 86) (by decide) ?_
                        refine zr_iload dX7_lacks_86 (rfl : 86 + 2 = 88) rfl ?_
                        refine zr_iadd dX7_lacks_88 (rfl : 88 + 1 = 89) (by first | exact jI_add _ _ | rfl) ?_
                        refine zr_iald dX7_lacks_89 (rfl : 89 + 1 = 90) (by first | assumption | exact mw_167 | exact mw_168 | exact mw_169 | exact mw_170 | exact bk_0 | exact bk_1 | exact bk_2 | exact bk_3 | exact bk_4 | exact bk_5 | exact bk_6 | exact bk_7 | exact bk_8 | exact bk_9 | exact bk_10 | exact bk_11 | exact bk_12 | exact bk_13 | exact bk_14 | exact bk_15 | exact bk_16 | exact zup_self | exact (zup_ne (by first | assumption | omega)).trans (by first | assumption | exact zup_self) | exact (zup_ne (by first | assumption | omega)).trans ((zup_ne (by first | assumption | omega)).trans (by first | assumption | exact zup_self)) | exact (bk_out (by first | omega | (simp only [bset, reduceIte, Nat.reduceEqDiff]; omega))).trans (by first | exact bk_0 | exact bk_1 | exact bk_2 | exact bk_3 | exact bk_4 | exact bk_5 | exact bk_6 | exact bk_7 | exact bk_8 | exact bk_9 | exact bk_10 | exact bk_11 | exact bk_12 | exact bk_13 | exact bk_14 | exact bk_15 | exact bk_16 | exact cr_5 | exact cr_23 | exact cr_24 | exact cr_25 | exact cr_26 | exact cr_27 | exact cr_28 | exact cr_29 | exact cr_30 | assumption)) (by decide) (by first | omega | (simp only [bset, reduceIte, Nat.reduceEqDiff]; omega)) (by first | omega | (simp only [bset, reduceIte, Nat.reduceEqDiff]; omega)) ?_
                        refine zr_if_ne (tgt := 100) dX7_lacks_90 (by decide) (rfl : 90 + 3 = 93) (by first | exact jb_iff | exact jI_z (by first | omega | (simp only [bset, reduceIte, Nat.reduceEqDiff]; omega)) (by first | omega | (simp only [bset, reduceIte, Nat.reduceEqDiff]; omega))) (fun h90 => ?_) (fun h90 => ?_)
                        · first
                          | (exfalso; omega)
                          | (
                            refine zr_iinc (lv' := [_, _, _, _, _, _, _, _, _]) dX7_lacks_100 (rfl : 100 + 3 = 103) (Nat.le_of_ble_eq_true rfl) rfl (by first | exact jI_add _ _ | rfl) rfl ?_
                            refine zr_goto (tgt := 9) dX7_lacks_103 (by decide) ?_
                            exact hk3 _ _ _ _ ⟨by omega, by omega⟩)
                        · first
                          | (exfalso; omega)
                          | (
                            refine zr_iinc (lv' := [_, _, _, _, _, _, _, _, _]) dX7_lacks_93 (rfl : 93 + 3 = 96) (Nat.le_of_ble_eq_true rfl) rfl (by first | exact jI_add _ _ | rfl) rfl ?_
                            refine zr_iload dX7_lacks_96 (rfl : 96 + 2 = 98) rfl ?_
                            refine zr_istore (lv' := [_, _, _, _, _, _, _, _, _]) dX7_lacks_98 (rfl : 98 + 2 = 100) (Nat.le_of_ble_eq_true rfl) rfl ?_
                            refine zr_iinc (lv' := [_, _, _, _, _, _, _, _, _]) dX7_lacks_100 (rfl : 100 + 3 = 103) (Nat.le_of_ble_eq_true rfl) rfl (by first | exact jI_add _ _ | rfl) rfl ?_
                            refine zr_goto (tgt := 9) dX7_lacks_103 (by decide) ?_
                            exact hk3 _ _ _ _ ⟨by omega, by omega⟩)))
                · first
                  | (exfalso; omega)
                  | (
                    refine zr_iconst dX7_lacks_68 (rfl : 68 + 1 = 69) ?_
                    refine zr_goto (tgt := 73) dX7_lacks_69 (by decide) ?_
                    refine zr_istore (lv' := [_, _, _, _, _, _, _, _, _]) dX7_lacks_73 (rfl : 73 + 2 = 75) (Nat.le_of_ble_eq_true rfl) rfl ?_
                    refine zr_iload dX7_lacks_75 (rfl : 75 + 2 = 77) rfl ?_
                    refine zr_if_eq (tgt := 100) dX7_lacks_77 (by decide) (rfl : 77 + 3 = 80) (by first | exact jb_iff | exact jI_z (by first | omega | (simp only [bset, reduceIte, Nat.reduceEqDiff]; omega)) (by first | omega | (simp only [bset, reduceIte, Nat.reduceEqDiff]; omega))) (fun h77 => ?_) (fun h77 => ?_)
                    · first
                      | (exfalso; omega)
                      | (
                        refine zr_iinc (lv' := [_, _, _, _, _, _, _, _, _]) dX7_lacks_100 (rfl : 100 + 3 = 103) (Nat.le_of_ble_eq_true rfl) rfl (by first | exact jI_add _ _ | rfl) rfl ?_
                        refine zr_goto (tgt := 9) dX7_lacks_103 (by decide) ?_
                        exact hk3 _ _ _ _ ⟨by omega, by omega⟩)
                    · first
                      | (exfalso; omega)
                      | (
                        refine zr_aload_n dX7_lacks_80 (rfl : 80 + 1 = 81) rfl ?_
                        refine zr_getf dX7_lacks_81 (rfl : 81 + 3 = 84) f_X7_7 (by first | assumption | exact mw_167 | exact mw_168 | exact mw_169 | exact mw_170 | exact bk_0 | exact bk_1 | exact bk_2 | exact bk_3 | exact bk_4 | exact bk_5 | exact bk_6 | exact bk_7 | exact bk_8 | exact bk_9 | exact bk_10 | exact bk_11 | exact bk_12 | exact bk_13 | exact bk_14 | exact bk_15 | exact bk_16 | exact zup_self | exact (zup_ne (by first | assumption | omega)).trans (by first | assumption | exact zup_self) | exact (zup_ne (by first | assumption | omega)).trans ((zup_ne (by first | assumption | omega)).trans (by first | assumption | exact zup_self)) | exact (bk_out (by first | omega | (simp only [bset, reduceIte, Nat.reduceEqDiff]; omega))).trans (by first | exact bk_0 | exact bk_1 | exact bk_2 | exact bk_3 | exact bk_4 | exact bk_5 | exact bk_6 | exact bk_7 | exact bk_8 | exact bk_9 | exact bk_10 | exact bk_11 | exact bk_12 | exact bk_13 | exact bk_14 | exact bk_15 | exact bk_16 | exact cr_5 | exact cr_23 | exact cr_24 | exact cr_25 | exact cr_26 | exact cr_27 | exact cr_28 | exact cr_29 | exact cr_30 | assumption)) rfl ?_
                        refine zr_bipush dX7_lacks_84 (rfl : 84 + 2 = 86) (by decide) ?_
                        refine zr_iload dX7_lacks_86 (rfl : 86 + 2 = 88) rfl ?_
                        refine zr_iadd dX7_lacks_88 (rfl : 88 + 1 = 89) (by first | exact jI_add _ _ | rfl) ?_
                        refine zr_iald dX7_lacks_89 (rfl : 89 + 1 = 90) (by first | assumption | exact mw_167 | exact mw_168 | exact mw_169 | exact mw_170 | exact bk_0 | exact bk_1 | exact bk_2 | exact bk_3 | exact bk_4 | exact bk_5 | exact bk_6 | exact bk_7 | exact bk_8 | exact bk_9 | exact bk_10 | exact bk_11 | exact bk_12 | exact bk_13 | exact bk_14 | exact bk_15 | exact bk_16 | exact zup_self | exact (zup_ne (by first | assumption | omega)).trans (by first | assumption | exact zup_self) | exact (zup_ne (by first | assumption | omega)).trans ((zup_ne (by first | assumption | omega)).trans (by first | assumption | exact zup_self)) | exact (bk_out (by first | omega | (simp only [bset, reduceIte, Nat.reduceEqDiff]; omega))).trans (by first | exact bk_0 | exact bk_1 | exact bk_2 | exact bk_3 | exact bk_4 | exact bk_5 | exact bk_6 | exact bk_7 | exact bk_8 | exact bk_9 | exact bk_10 | exact bk_11 | exact bk_12 | exact bk_13 | exact bk_14 | exact bk_15 | exact bk_16 | exact cr_5 | exact cr_23 | exact cr_24 | exact cr_25 | exact cr_26 | exact cr_27 | exact cr_28 | exact cr_29 | exact cr_30 | assumption)) (by decide) (by first | omega | (simp only [bset, reduceIte, Nat.reduceEqDiff]; omega)) (by first | omega | (simp only [bset, reduceIte, Nat.reduceEqDiff]; omega)) ?_
                        refine zr_if_ne (tgt := 100) dX7_lacks_90 (by decide) (rfl : 90 + 3 = 93) (by first | exact jb_iff | exact jI_z (by first | omega | (simp only [bset, reduceIte, Nat.reduceEqDiff]; omega)) (by first | omega | (simp only [bset, reduceIte, Nat.reduceEqDiff]; omega))) (fun h90 => ?_) (fun h90 => ?_)
                        · first
                          | (exfalso; omega)
                          | (
                            refine zr_iinc (lv' := [_, _, _, _, _, _, _, _, _]) dX7_lacks_100 (rfl : 100 + 3 = 103) (Nat.le_of_ble_eq_true rfl) rfl (by first | exact jI_add _ _ | rfl) rfl ?_
                            refine zr_goto (tgt := 9) dX7_lacks_103 (by decide) ?_
                            exact hk3 _ _ _ _ ⟨by omega, by omega⟩)
                        · first
                          | (exfalso; omega)
                          | (
                            refine zr_iinc (lv' := [_, _, _, _, _, _, _, _, _]) dX7_lacks_93 (rfl : 93 + 3 = 96) (Nat.le_of_ble_eq_true rfl) rfl (by first | exact jI_add _ _ | rfl) rfl ?_
                            refine zr_iload dX7_lacks_96 (rfl : 96 + 2 = 98) rfl ?_
                            refine zr_istore (lv' := [_, _, _, _, _, _, _, _, _]) dX7_lacks_98 (rfl : 98 + 2 = 100) (Nat.le_of_ble_eq_true rfl) rfl ?_
                            refine zr_iinc (lv' := [_, _, _, _, _, _, _, _, _]) dX7_lacks_100 (rfl : 100 + 3 = 103) (Nat.le_of_ble_eq_true rfl) rfl (by first | exact jI_add _ _ | rfl) rfl ?_
                            refine zr_goto (tgt := 9) dX7_lacks_103 (by decide) ?_
                            exact hk3 _ _ _ _ ⟨by omega, by omega⟩))))
            · first
              | (exfalso; omega)
              | (
                refine zr_iload dX7_lacks_52 (rfl : 52 + 2 = 54) rfl ?_
                refine zr_iconst dX7_lacks_54 (rfl : 54 + 1 = 55) ?_
                refine zr_iconst dX7_lacks_55 (rfl : 55 + 1 = 56) ?_
                refine zr_fnS dX7_lacks_56 (rfl : 56 + 3 = 59) l_X7_32 (m_in _ 0 2 (by first | omega | (simp only [bset, reduceIte, Nat.reduceEqDiff]; omega)) (by first | omega | (simp only [bset, reduceIte, Nat.reduceEqDiff]; omega)) (by first | omega | (simp only [bset, reduceIte, Nat.reduceEqDiff]; omega))) rfl rfl (Nat.le_of_ble_eq_true rfl) ?_
                refine zr_goto (tgt := 73) dX7_lacks_59 (by decide) ?_
                refine zr_istore (lv' := [_, _, _, _, _, _, _, _, _]) dX7_lacks_73 (rfl : 73 + 2 = 75) (Nat.le_of_ble_eq_true rfl) rfl ?_
                refine zr_iload dX7_lacks_75 (rfl : 75 + 2 = 77) rfl ?_
                refine zr_if_eq (tgt := 100) dX7_lacks_77 (by decide) (rfl : 77 + 3 = 80) (by first | exact jb_iff | exact jI_z (by first | omega | (simp only [bset, reduceIte, Nat.reduceEqDiff]; omega)) (by first | omega | (simp only [bset, reduceIte, Nat.reduceEqDiff]; omega))) (fun h77 => ?_) (fun h77 => ?_)
                · first
                  | (exfalso; omega)
                  | (
                    refine zr_iinc (lv' := [_, _, _, _, _, _, _, _, _]) dX7_lacks_100 (rfl : 100 + 3 = 103) (Nat.le_of_ble_eq_true rfl) rfl (by first | exact jI_add _ _ | rfl) rfl ?_
                    refine zr_goto (tgt := 9) dX7_lacks_103 (by decide) ?_
                    exact hk3 _ _ _ _ ⟨by omega, by omega⟩)
                · first
                  | (exfalso; omega)
                  | (
                    refine zr_aload_n dX7_lacks_80 (rfl : 80 + 1 = 81) rfl ?_
                    refine zr_getf dX7_lacks_81 (rfl : 81 + 3 = 84) f_X7_7 (by first | assumption | exact mw_167 | exact mw_168 | exact mw_169 | exact mw_170 | exact bk_0 | exact bk_1 | exact bk_2 | exact bk_3 | exact bk_4 | exact bk_5 | exact bk_6 | exact bk_7 | exact bk_8 | exact bk_9 | exact bk_10 | exact bk_11 | exact bk_12 | exact bk_13 | exact bk_14 | exact bk_15 | exact bk_16 | exact zup_self | exact (zup_ne (by first | assumption | omega)).trans (by first | assumption | exact zup_self) | exact (zup_ne (by first | assumption | omega)).trans ((zup_ne (by first | assumption | omega)).trans (by first | assumption | exact zup_self)) | exact (bk_out (by first | omega | (simp only [bset, reduceIte, Nat.reduceEqDiff]; omega))).trans (by first | exact bk_0 | exact bk_1 | exact bk_2 | exact bk_3 | exact bk_4 | exact bk_5 | exact bk_6 | exact bk_7 | exact bk_8 | exact bk_9 | exact bk_10 | exact bk_11 | exact bk_12 | exact bk_13 | exact bk_14 | exact bk_15 | exact bk_16 | exact cr_5 | exact cr_23 | exact cr_24 | exact cr_25 | exact cr_26 | exact cr_27 | exact cr_28 | exact cr_29 | exact cr_30 | assumption)) rfl ?_
                    refine zr_bipush dX7_lacks_84 (rfl : 84 + 2 = 86) (by decide) ?_
                    refine zr_iload dX7_lacks_86 (rfl : 86 + 2 = 88) rfl ?_
                    refine zr_iadd dX7_lacks_88 (rfl : 88 + 1 = 89) (by first | exact jI_add _ _ | rfl) ?_
                    refine zr_iald dX7_lacks_89 (rfl : 89 + 1 = 90) (by first | assumption | exact mw_167 | exact mw_168 | exact mw_169 | exact mw_170 | exact bk_0 | exact bk_1 | exact bk_2 | exact bk_3 | exact bk_4 | exact bk_5 | exact bk_6 | exact bk_7 | exact bk_8 | exact bk_9 | exact bk_10 | exact bk_11 | exact bk_12 | exact bk_13 | exact bk_14 | exact bk_15 | exact bk_16 | exact zup_self | exact (zup_ne (by first | assumption | omega)).trans (by first | assumption | exact zup_self) | exact (zup_ne (by first | assumption | omega)).trans ((zup_ne (by first | assumption | omega)).trans (by first | assumption | exact zup_self)) | exact (bk_out (by first | omega | (simp only [bset, reduceIte, Nat.reduceEqDiff]; omega))).trans (by first | exact bk_0 | exact bk_1 | exact bk_2 | exact bk_3 | exact bk_4 | exact bk_5 | exact bk_6 | exact bk_7 | exact bk_8 | exact bk_9 | exact bk_10 | exact bk_11 | exact bk_12 | exact bk_13 | exact bk_14 | exact bk_15 | exact bk_16 | exact cr_5 | exact cr_23 | exact cr_24 | exact cr_25 | exact cr_26 | exact cr_27 | exact cr_28 | exact cr_29 | exact cr_30 | assumption)) (by decide) (by first | omega | (simp only [bset, reduceIte, Nat.reduceEqDiff]; omega)) (by first | omega | (simp only [bset, reduceIte, Nat.reduceEqDiff]; omega)) ?_
                    refine zr_if_ne (tgt := 100) dX7_lacks_90 (by decide) (rfl : 90 + 3 = 93) (by first | exact jb_iff | exact jI_z (by first | omega | (simp only [bset, reduceIte, Nat.reduceEqDiff]; omega)) (by first | omega | (simp only [bset, reduceIte, Nat.reduceEqDiff]; omega))) (fun h90 => ?_) (fun h90 => ?_)
                    · first
                      | (exfalso; omega)
                      | (
                        refine zr_iinc (lv' := [_, _, _, _, _, _, _, _, _]) dX7_lacks_100 (rfl : 100 + 3 = 103) (Nat.le_of_ble_eq_true rfl) rfl (by first | exact jI_add _ _ | rfl) rfl ?_
                        refine zr_goto (tgt := 9) dX7_lacks_103 (by decide) ?_
                        exact hk3 _ _ _ _ ⟨by omega, by omega⟩)
                    · first
                      | (exfalso; omega)
                      | (
                        refine zr_iinc (lv' := [_, _, _, _, _, _, _, _, _]) dX7_lacks_93 (rfl : 93 + 3 = 96) (Nat.le_of_ble_eq_true rfl) rfl (by first | exact jI_add _ _ | rfl) rfl ?_
                        refine zr_iload dX7_lacks_96 (rfl : 96 + 2 = 98) rfl ?_
                        refine zr_istore (lv' := [_, _, _, _, _, _, _, _, _]) dX7_lacks_98 (rfl : 98 + 2 = 100) (Nat.le_of_ble_eq_true rfl) rfl ?_
                        refine zr_iinc (lv' := [_, _, _, _, _, _, _, _, _]) dX7_lacks_100 (rfl : 100 + 3 = 103) (Nat.le_of_ble_eq_true rfl) rfl (by first | exact jI_add _ _ | rfl) rfl ?_
                        refine zr_goto (tgt := 9) dX7_lacks_103 (by decide) ?_
                        exact hk3 _ _ _ _ ⟨by omega, by omega⟩))))
        · first
          | (exfalso; omega)
          | (
            refine zr_aload_n dX7_lacks_37 (rfl : 37 + 1 = 38) rfl ?_
            refine zr_iload_n dX7_lacks_38 (rfl : 38 + 1 = 39) rfl ?_
            refine zr_iload dX7_lacks_39 (rfl : 39 + 2 = 41) rfl ?_
            refine zr_fnV dX7_lacks_41 (rfl : 41 + 3 = 44) l_X7_96 (hsp) (by first | assumption | exact mw_167 | exact mw_168 | exact mw_169 | exact mw_170 | exact bk_0 | exact bk_1 | exact bk_2 | exact bk_3 | exact bk_4 | exact bk_5 | exact bk_6 | exact bk_7 | exact bk_8 | exact bk_9 | exact bk_10 | exact bk_11 | exact bk_12 | exact bk_13 | exact bk_14 | exact bk_15 | exact bk_16 | exact zup_self | exact (zup_ne (by first | assumption | omega)).trans (by first | assumption | exact zup_self) | exact (zup_ne (by first | assumption | omega)).trans ((zup_ne (by first | assumption | omega)).trans (by first | assumption | exact zup_self)) | exact (bk_out (by first | omega | (simp only [bset, reduceIte, Nat.reduceEqDiff]; omega))).trans (by first | exact bk_0 | exact bk_1 | exact bk_2 | exact bk_3 | exact bk_4 | exact bk_5 | exact bk_6 | exact bk_7 | exact bk_8 | exact bk_9 | exact bk_10 | exact bk_11 | exact bk_12 | exact bk_13 | exact bk_14 | exact bk_15 | exact bk_16 | exact cr_5 | exact cr_23 | exact cr_24 | exact cr_25 | exact cr_26 | exact cr_27 | exact cr_28 | exact cr_29 | exact cr_30 | assumption)) rfl rfl rfl (Nat.le_of_ble_eq_true rfl) ?_
            refine zr_goto (tgt := 73) dX7_lacks_44 (by decide) ?_
            refine zr_istore (lv' := [_, _, _, _, _, _, _, _, _]) dX7_lacks_73 (rfl : 73 + 2 = 75) (Nat.le_of_ble_eq_true rfl) rfl ?_
            refine zr_iload dX7_lacks_75 (rfl : 75 + 2 = 77) rfl ?_
            refine zr_if_eq (tgt := 100) dX7_lacks_77 (by decide) (rfl : 77 + 3 = 80) (by first | exact jb_iff | exact jI_z (by first | omega | (simp only [bset, reduceIte, Nat.reduceEqDiff]; omega)) (by first | omega | (simp only [bset, reduceIte, Nat.reduceEqDiff]; omega))) (fun h77 => ?_) (fun h77 => ?_)
            · first
              | (exfalso; omega)
              | (
                refine zr_iinc (lv' := [_, _, _, _, _, _, _, _, _]) dX7_lacks_100 (rfl : 100 + 3 = 103) (Nat.le_of_ble_eq_true rfl) rfl (by first | exact jI_add _ _ | rfl) rfl ?_
                refine zr_goto (tgt := 9) dX7_lacks_103 (by decide) ?_
                exact hk3 _ _ _ _ ⟨by omega, by omega⟩)
            · first
              | (exfalso; omega)
              | (
                refine zr_aload_n dX7_lacks_80 (rfl : 80 + 1 = 81) rfl ?_
                refine zr_getf dX7_lacks_81 (rfl : 81 + 3 = 84) f_X7_7 (by first | assumption | exact mw_167 | exact mw_168 | exact mw_169 | exact mw_170 | exact bk_0 | exact bk_1 | exact bk_2 | exact bk_3 | exact bk_4 | exact bk_5 | exact bk_6 | exact bk_7 | exact bk_8 | exact bk_9 | exact bk_10 | exact bk_11 | exact bk_12 | exact bk_13 | exact bk_14 | exact bk_15 | exact bk_16 | exact zup_self | exact (zup_ne (by first | assumption | omega)).trans (by first | assumption | exact zup_self) | exact (zup_ne (by first | assumption | omega)).trans ((zup_ne (by first | assumption | omega)).trans (by first | assumption | exact zup_self)) | exact (bk_out (by first | omega | (simp only [bset, reduceIte, Nat.reduceEqDiff]; omega))).trans (by first | exact bk_0 | exact bk_1 | exact bk_2 | exact bk_3 | exact bk_4 | exact bk_5 | exact bk_6 | exact bk_7 | exact bk_8 | exact bk_9 | exact bk_10 | exact bk_11 | exact bk_12 | exact bk_13 | exact bk_14 | exact bk_15 | exact bk_16 | exact cr_5 | exact cr_23 | exact cr_24 | exact cr_25 | exact cr_26 | exact cr_27 | exact cr_28 | exact cr_29 | exact cr_30 | assumption)) rfl ?_
                refine zr_bipush dX7_lacks_84 (rfl : 84 + 2 = 86) (by decide) ?_
                refine zr_iload dX7_lacks_86 (rfl : 86 + 2 = 88) rfl ?_
                refine zr_iadd dX7_lacks_88 (rfl : 88 + 1 = 89) (by first | exact jI_add _ _ | rfl) ?_
                refine zr_iald dX7_lacks_89 (rfl : 89 + 1 = 90) (by first | assumption | exact mw_167 | exact mw_168 | exact mw_169 | exact mw_170 | exact bk_0 | exact bk_1 | exact bk_2 | exact bk_3 | exact bk_4 | exact bk_5 | exact bk_6 | exact bk_7 | exact bk_8 | exact bk_9 | exact bk_10 | exact bk_11 | exact bk_12 | exact bk_13 | exact bk_14 | exact bk_15 | exact bk_16 | exact zup_self | exact (zup_ne (by first | assumption | omega)).trans (by first | assumption | exact zup_self) | exact (zup_ne (by first | assumption | omega)).trans ((zup_ne (by first | assumption | omega)).trans (by first | assumption | exact zup_self)) | exact (bk_out (by first | omega | (simp only [bset, reduceIte, Nat.reduceEqDiff]; omega))).trans (by first | exact bk_0 | exact bk_1 | exact bk_2 | exact bk_3 | exact bk_4 | exact bk_5 | exact bk_6 | exact bk_7 | exact bk_8 | exact bk_9 | exact bk_10 | exact bk_11 | exact bk_12 | exact bk_13 | exact bk_14 | exact bk_15 | exact bk_16 | exact cr_5 | exact cr_23 | exact cr_24 | exact cr_25 | exact cr_26 | exact cr_27 | exact cr_28 | exact cr_29 | exact cr_30 | assumption)) (by decide) (by first | omega | (simp only [bset, reduceIte, Nat.reduceEqDiff]; omega)) (by first | omega | (simp only [bset, reduceIte, Nat.reduceEqDiff]; omega)) ?_
                refine zr_if_ne (tgt := 100) dX7_lacks_90 (by decide) (rfl : 90 + 3 = 93) (by first | exact jb_iff | exact jI_z (by first | omega | (simp only [bset, reduceIte, Nat.reduceEqDiff]; omega)) (by first | omega | (simp only [bset, reduceIte, Nat.reduceEqDiff]; omega))) (fun h90 => ?_) (fun h90 => ?_)
                · first
                  | (exfalso; omega)
                  | (
                    refine zr_iinc (lv' := [_, _, _, _, _, _, _, _, _]) dX7_lacks_100 (rfl : 100 + 3 = 103) (Nat.le_of_ble_eq_true rfl) rfl (by first | exact jI_add _ _ | rfl) rfl ?_
                    refine zr_goto (tgt := 9) dX7_lacks_103 (by decide) ?_
                    exact hk3 _ _ _ _ ⟨by omega, by omega⟩)
                · first
                  | (exfalso; omega)
                  | (
                    refine zr_iinc (lv' := [_, _, _, _, _, _, _, _, _]) dX7_lacks_93 (rfl : 93 + 3 = 96) (Nat.le_of_ble_eq_true rfl) rfl (by first | exact jI_add _ _ | rfl) rfl ?_
                    refine zr_iload dX7_lacks_96 (rfl : 96 + 2 = 98) rfl ?_
                    refine zr_istore (lv' := [_, _, _, _, _, _, _, _, _]) dX7_lacks_98 (rfl : 98 + 2 = 100) (Nat.le_of_ble_eq_true rfl) rfl ?_
                    refine zr_iinc (lv' := [_, _, _, _, _, _, _, _, _]) dX7_lacks_100 (rfl : 100 + 3 = 103) (Nat.le_of_ble_eq_true rfl) rfl (by first | exact jI_add _ _ | rfl) rfl ?_
                    refine zr_goto (tgt := 9) dX7_lacks_103 (by decide) ?_
                    exact hk3 _ _ _ _ ⟨by omega, by omega⟩))))
  · intro a hI
    obtain ⟨x, y, o7, o8⟩ := a
    obtain ⟨hx, hy⟩ := hI
    simp only at hx hy ⊢
    rw [show x = jcnt 90 q from hx, show y = jgr q 90 from hy]
    refine zr_iload dX7_lacks_9 (rfl : 9 + 2 = 11) rfl ?_
    refine zr_bipush dX7_lacks_11 (rfl : 11 + 2 = 13) (by decide) ?_
    refine zr_icmp_gt (tgt := 106) dX7_lacks_13 (by decide) (rfl : 13 + 3 = 16) (jI_lt (by first | omega | (simp only [bset, reduceIte, Nat.reduceEqDiff]; omega)) (by first | omega | (simp only [bset, reduceIte, Nat.reduceEqDiff]; omega)) (by first | omega | (simp only [bset, reduceIte, Nat.reduceEqDiff]; omega)) (by first | omega | (simp only [bset, reduceIte, Nat.reduceEqDiff]; omega))) (fun h13 => ?_) (fun h13 => ?_)
    · first
      | (exfalso; omega)
      | (
        refine zr_iload_n dX7_lacks_106 (rfl : 106 + 1 = 107) rfl ?_
        refine zr_if_eq (tgt := 115) dX7_lacks_107 (by decide) (rfl : 107 + 3 = 110) (by first | exact jb_iff | exact jI_z (by first | omega | (simp only [bset, reduceIte, Nat.reduceEqDiff]; omega)) (by first | omega | (simp only [bset, reduceIte, Nat.reduceEqDiff]; omega))) (fun h107 => ?_) (fun h107 => ?_)
        · first
          | (exfalso; omega)
          | (
            refine zr_iload dX7_lacks_115 (rfl : 115 + 2 = 117) rfl ?_
            refine zr_iret dX7_lacks_117 rfl rfl ?_ rfl rfl rfl
            first | (rw [if_neg (by omega)]; done) | (rw [if_pos (by omega)]; done))
        · first
          | (exfalso; omega)
          | (
            refine zr_iload dX7_lacks_110 (rfl : 110 + 2 = 112) rfl ?_
            refine zr_goto (tgt := 117) dX7_lacks_112 (by decide) ?_
            refine zr_iret dX7_lacks_117 rfl rfl ?_ rfl rfl rfl
            first | (rw [if_neg (by omega)]; done) | (rw [if_pos (by omega)]; done)))
    · first
      | (exfalso; omega)
      | (
        exfalso
        omega)
theorem jlq_row {c r : Int} (hr : 0 ≤ r ∧ r ≤ 2) : jlq B c r = jqr B (c * 3 + r) := by
  funext z
  unfold jlq jqr
  rw [if_neg (by omega), if_neg (by omega)]
  congr 1
  exact decide_eq_decide.mpr (by omega)
theorem jlq_cor {c : Int} : jlq B c (-1) = jqc B c := by
  funext z
  unfold jlq jqc
  rw [if_pos rfl]
theorem jlq_all (ok : jok B) (lk : jlk B) {c : Int} (hc : 0 ≤ c ∧ c < 6) : jcnt 90 (jlq B c 3) = jcnt 90 (jqr B (c * 3 + 0)) + (jcnt 90 (jqr B (c * 3 + 1)) + jcnt 90 (jqr B (c * 3 + 2))) := by
  have h2 : jcnt 90 (fun z => jqr B (c * 3 + 1) z || jqr B (c * 3 + 2) z) = jcnt 90 (jqr B (c * 3 + 1)) + jcnt 90 (jqr B (c * 3 + 2)) := by
    refine jcnt_add 90 fun z z0 z1 => ?_
    unfold jqr
    by_cases h7 : B 7 (z + 1) = 0
    · by_cases h1 : B 1 (z + 1) = c * 3 + 1
      · rw [jb_pos (by simp [h7, h1]), jb_pos (by simp [h7, h1]), jb_neg (by simp [h7, h1])]
        rfl
      · by_cases h3 : B 1 (z + 1) = c * 3 + 2
        · rw [jb_pos (by simp [h7, h3]), jb_neg (by simp [h7, h3]), jb_pos (by simp [h7, h3])]
          rfl
        · rw [jb_neg (by simp [h7, h1, h3]), jb_neg (by simp [h7, h1]), jb_neg (by simp [h7, h3])]
          rfl
    · rw [jb_neg (by simp [h7]), jb_neg (by simp [h7]), jb_neg (by simp [h7])]
      rfl
  rw [← h2]
  refine jcnt_add 90 fun z z0 z1 => ?_
  have e : (jlq B c 3 z = true) ↔ (0 ≤ B 1 (z + 1) - 3 * c ∧ B 1 (z + 1) - 3 * c ≤ 2) ∧ B 7 (z + 1) = 0 := by
    unfold jlq
    rw [if_neg (by decide), if_pos rfl, Bool.and_eq_true, decide_eq_true_eq, decide_eq_true_eq]
  have e0 : (jqr B (c * 3 + 0) z = true) ↔ B 1 (z + 1) = c * 3 + 0 ∧ B 7 (z + 1) = 0 := by
    unfold jqr
    rw [Bool.and_eq_true, decide_eq_true_eq, decide_eq_true_eq]
  have e12 : ((jqr B (c * 3 + 1) z || jqr B (c * 3 + 2) z) = true) ↔ (B 1 (z + 1) = c * 3 + 1 ∨ B 1 (z + 1) = c * 3 + 2) ∧ B 7 (z + 1) = 0 := by
    unfold jqr
    rw [Bool.or_eq_true, Bool.and_eq_true, Bool.and_eq_true, decide_eq_true_eq, decide_eq_true_eq, decide_eq_true_eq]
    omega
  by_cases h0 : jqr B (c * 3 + 0) z = true
  · have := e0.mp h0
    rw [jb_pos (e.mpr (by omega)), jb_pos h0, jb_neg (fun q => by have := e12.mp q; omega)]
    rfl
  · by_cases h12 : (jqr B (c * 3 + 1) z || jqr B (c * 3 + 2) z) = true
    · have := e12.mp h12
      rw [jb_pos (e.mpr (by omega)), jb_neg h0, jb_pos h12]
      rfl
    · rw [jb_neg (fun q => ?_), jb_neg h0, jb_neg h12]
      · rfl
      · have := e.mp q
        have n0 : ¬ (B 1 (z + 1) = c * 3 + 0 ∧ B 7 (z + 1) = 0) := fun q => h0 (e0.mpr q)
        have n12 : ¬ ((B 1 (z + 1) = c * 3 + 1 ∨ B 1 (z + 1) = c * 3 + 2) ∧ B 7 (z + 1) = 0) := fun q => h12 (e12.mpr q)
        omega
/-- the only one of a card -/
theorem jgr_all (ok : jok B) (lk : jlk B) {c r : Int} (hc : 0 ≤ c ∧ c < 6) (hr : 0 ≤ r ∧ r ≤ 2) (ht : jcnt 90 (jlq B c 3) = 1) (h1 : jcnt 90 (jqr B (c * 3 + r)) = 1) : jgr (jlq B c 3) 90 = jgr (jqr B (c * 3 + r)) 90 := by
  obtain ⟨z, z0, z1, hz⟩ := jcnt_ex (N := 90) (q := jqr B (c * 3 + r)) (by omega)
  rw [jgr_one 90 h1 z0 z1 hz]
  refine jgr_one 90 ht z0 z1 ?_
  unfold jqr at hz
  rw [Bool.and_eq_true, decide_eq_true_eq, decide_eq_true_eq] at hz
  unfold jlq
  rw [if_neg (by decide), if_pos rfl, Bool.and_eq_true, decide_eq_true_eq, decide_eq_true_eq]
  omega
/-- over the rows, from the last -/
def jsM (U : Int → Int) : Nat → Int
  | 0 => 0
  | n + 1 => jsM U n + U n
def jmO (U : Int → Int) : Nat → Int
  | 0 => 0
  | n + 1 => if jmO U n < U n then U n else jmO U n
def jlE (U : Int → Int) : Nat → Int
  | 0 => 5
  | n + 1 => if U n < jlE U n then U n else jlE U n
def joN (U T : Int → Int) : Nat → Int
  | 0 => -1
  | n + 1 => if U n = 1 then T n else joN U T n
theorem m_misses (c g k : Int) (hc : 0 ≤ c ∧ c < 6) (hg : 0 ≤ g ∧ g < 4) (hk : 0 ≤ k ∧ k < 2) (h : mr S 0 B) (ok : jok B) (lk : jlk B) : zFn Γ md_X7_misses (d + 3) [.ref 167, .int (jI c), .int (jI g), .int (jI k)] (mw S st ik th tx ty w) (some (.int (jI (jms B c g k)))) (mw S st ik th tx ty w) := by
  unfold jms
  by_cases hw : jcs (B 0) c = 15
  · rw [if_pos hw]
    have L := fun (r k : Int) (hr : -1 ≤ r ∧ r ≤ 3) (hk : k = 0 ∨ k = 1) => m_lacks (Γ := Γ) (d := d + 1) (st := st) (ik := ik) (th := th) (tx := tx) (ty := ty) (w := w) c r k hc hr hk h ok lk
    have u0 := jur_cnt ok lk (r := c * 3 + 0) (by omega)
    have u1 := jur_cnt ok lk (r := c * 3 + 1) (by omega)
    have u2 := jur_cnt ok lk (r := c * 3 + 2) (by omega)
    have f0 := fun q => jfui_one ok lk (r := c * 3 + 0) (by omega) q
    have f1 := fun q => jfui_one ok lk (r := c * 3 + 1) (by omega) q
    have f2 := fun q => jfui_one ok lk (r := c * 3 + 2) (by omega) q
    have v0 := jur_r (B 0) (B 7) (c * 3 + 0)
    have v1 := jur_r (B 0) (B 7) (c * 3 + 1)
    have v2 := jur_r (B 0) (B 7) (c * 3 + 2)
    refine zFn.of_run (lv := [some (.ref 167), some (.int (jI c)), some (.int (jI g)), some (.int (jI k)), none, none, none, none, none, none]) (by decide) rfl (Nat.le_of_ble_eq_true rfl) rfl (fun n9 g9 => ?_)
    by_cases g13 : g = 1 ∨ g = 3
    · -- corners, or all
      have la : ∃ rr : Int, (g = 1 ∧ rr = -1 ∨ g = 3 ∧ rr = 3) ∧ juo (B 0) (B 7) c g = jcnt 90 (jlq B c rr) ∧ (juo (B 0) (B 7) c g = 1 → jonly (B 0) (B 7) c g = jgr (jlq B c rr) 90) := by
        rcases g13 with e | e
        · refine ⟨-1, Or.inl ⟨e, rfl⟩, ?_, ?_⟩
          · unfold juo
            rw [if_pos e, jlq_cor, jucor_cnt ok lk hc hw]
            rfl
          · intro h1
            unfold juo at h1
            rw [if_pos e] at h1
            unfold jonly
            rw [if_pos e, jlq_cor]
            exact jfuc_one ok lk hc hw h1
        · have ha := jlq_all ok lk hc
          have hju : juo (B 0) (B 7) c g = jcnt 90 (jlq B c 3) := by
            unfold juo
            rw [if_neg (by omega), if_neg (by omega), if_neg (by omega), ha, ← u0, ← u1, ← u2, show c * 3 + 0 = c * 3 by omega, show c * 3 + 1 + 1 = c * 3 + 2 by omega]
            omega
          refine ⟨3, Or.inr ⟨e, rfl⟩, hju, ?_⟩
          intro h1
          rw [hju] at h1
          have hs := h1
          rw [ha, ← u0, ← u1, ← u2] at hs
          unfold jonly
          rw [if_neg (by omega), show c * 3 + 1 + 1 = c * 3 + 2 by omega]
          have e00 : c * 3 = c * 3 + 0 := by omega
          by_cases a0 : jur (B 0) (B 7) (c * 3 + 0) = 1
          · rw [if_pos (by rw [e00]; exact a0), jgr_all ok lk (r := 0) hc (by decide) h1 (by rw [← u0]; exact a0), ← f0 a0, ← e00]
          · rw [if_neg (by rw [e00]; exact a0)]
            by_cases a1 : jur (B 0) (B 7) (c * 3 + 1) = 1
            · rw [if_pos a1, jgr_all ok lk (r := 1) hc (by decide) h1 (by rw [← u1]; exact a1), ← f1 a1]
            · rw [if_neg a1, if_pos (by omega), jgr_all ok lk (r := 2) hc (by decide) h1 (by rw [← u2]; omega), ← f2 (by omega)]
      obtain ⟨rr, hrr, hju, hon⟩ := la
      have hnn := jcnt_nn 90 (jlq B c rr)
      have L0 := L rr 0 (by omega) (Or.inl rfl)
      have L1 := L rr 1 (by omega) (Or.inr rfl)
      rw [if_pos rfl] at L0
      rw [if_neg (by decide)] at L1
      rw [← hju] at L0 hnn
      have hres : (if k = 0 then juo (B 0) (B 7) c g else if juo (B 0) (B 7) c g = 1 then jonly (B 0) (B 7) c g else -1) = (if k = 0 then juo (B 0) (B 7) c g else if juo (B 0) (B 7) c g = 1 then jgr (jlq B c rr) 90 else -1) := by
        by_cases k0 : k = 0
        · rw [if_pos k0, if_pos k0]
        · rw [if_neg k0, if_neg k0]
          by_cases j1 : juo (B 0) (B 7) c g = 1
          · rw [if_pos j1, if_pos j1, hon j1]
          · rw [if_neg j1, if_neg j1]
      rw [hres]
      clear hres hon hju L
      generalize juo (B 0) (B 7) c g = J at L0 hnn
      generalize jgr (jlq B c rr) 90 = G at L1
      have hrr2 : rr = (if g = 1 then -1 else 3) := by
        rcases hrr with ⟨e1, e2⟩ | ⟨e1, e2⟩
        · rw [if_pos e1, e2]
        · rw [if_neg (by omega), e2]
      refine zr_aload_n dX7_misses_0 (rfl : 0 + 1 = 1) rfl ?_
      refine zr_iload_n dX7_misses_1 (rfl : 1 + 1 = 2) rfl ?_
      refine zr_fnV dX7_misses_2 (rfl : 2 + 3 = 5) l_X7_81 (m_isWhole c hc h ok lk) (by first | assumption | exact mw_167 | exact mw_168 | exact mw_169 | exact mw_170 | exact bk_0 | exact bk_1 | exact bk_2 | exact bk_3 | exact bk_4 | exact bk_5 | exact bk_6 | exact bk_7 | exact bk_8 | exact bk_9 | exact bk_10 | exact bk_11 | exact bk_12 | exact bk_13 | exact bk_14 | exact bk_15 | exact bk_16 | exact zup_self | exact (zup_ne (by first | assumption | omega)).trans (by first | assumption | exact zup_self) | exact (zup_ne (by first | assumption | omega)).trans ((zup_ne (by first | assumption | omega)).trans (by first | assumption | exact zup_self)) | exact (bk_out (by first | omega | (simp only [bset, reduceIte, Nat.reduceEqDiff]; omega))).trans (by first | exact bk_0 | exact bk_1 | exact bk_2 | exact bk_3 | exact bk_4 | exact bk_5 | exact bk_6 | exact bk_7 | exact bk_8 | exact bk_9 | exact bk_10 | exact bk_11 | exact bk_12 | exact bk_13 | exact bk_14 | exact bk_15 | exact bk_16 | exact cr_5 | exact cr_23 | exact cr_24 | exact cr_25 | exact cr_26 | exact cr_27 | exact cr_28 | exact cr_29 | exact cr_30 | assumption)) rfl rfl rfl (Nat.le_of_ble_eq_true rfl) ?_
      refine zr_if_ne (tgt := 10) dX7_misses_5 (by decide) (rfl : 5 + 3 = 8) (by first | exact jb_iff | exact jI_z (by first | omega | (simp only [bset, reduceIte, Nat.reduceEqDiff]; omega)) (by first | omega | (simp only [bset, reduceIte, Nat.reduceEqDiff]; omega))) (fun h5 => ?_) (fun h5 => ?_)
      · first
        | (exfalso; omega)
        | (
          refine zr_iload_n dX7_misses_10 (rfl : 10 + 1 = 11) rfl ?_
          refine zr_iconst dX7_misses_11 (rfl : 11 + 1 = 12) ?_
          refine zr_icmp_eq (tgt := 20) dX7_misses_12 (by decide) (rfl : 12 + 3 = 15) (jI_eq (by first | omega | (simp only [bset, reduceIte, Nat.reduceEqDiff]; omega)) (by first | omega | (simp only [bset, reduceIte, Nat.reduceEqDiff]; omega)) (by first | omega | (simp only [bset, reduceIte, Nat.reduceEqDiff]; omega)) (by first | omega | (simp only [bset, reduceIte, Nat.reduceEqDiff]; omega))) (fun h12 => ?_) (fun h12 => ?_)
          · first
            | (exfalso; omega)
            | (
              refine zr_aload_n dX7_misses_20 (rfl : 20 + 1 = 21) rfl ?_
              refine zr_iload_n dX7_misses_21 (rfl : 21 + 1 = 22) rfl ?_
              refine zr_iload_n dX7_misses_22 (rfl : 22 + 1 = 23) rfl ?_
              refine zr_iconst dX7_misses_23 (rfl : 23 + 1 = 24) ?_
              refine zr_icmp_ne (tgt := 31) dX7_misses_24 (by decide) (rfl : 24 + 3 = 27) (jI_eq (by first | omega | (simp only [bset, reduceIte, Nat.reduceEqDiff]; omega)) (by first | omega | (simp only [bset, reduceIte, Nat.reduceEqDiff]; omega)) (by first | omega | (simp only [bset, reduceIte, Nat.reduceEqDiff]; omega)) (by first | omega | (simp only [bset, reduceIte, Nat.reduceEqDiff]; omega))) (fun h24 => ?_) (fun h24 => ?_)
              · first
                | (exfalso; omega)
                | (
                  refine zr_iconst dX7_misses_31 (rfl : 31 + 1 = 32) ?_
                  refine zr_iconst dX7_misses_32 (rfl : 32 + 1 = 33) ?_
                  refine zr_fnV dX7_misses_33 (rfl : 33 + 3 = 36) l_X7_171 ((by first | (rw [hrr2, if_pos (by first | omega | (simp only [bset, reduceIte, Nat.reduceEqDiff]; omega))] at L0; exact L0) | (rw [hrr2, if_neg (by first | omega | (simp only [bset, reduceIte, Nat.reduceEqDiff]; omega))] at L0; exact L0))) (by first | assumption | exact mw_167 | exact mw_168 | exact mw_169 | exact mw_170 | exact bk_0 | exact bk_1 | exact bk_2 | exact bk_3 | exact bk_4 | exact bk_5 | exact bk_6 | exact bk_7 | exact bk_8 | exact bk_9 | exact bk_10 | exact bk_11 | exact bk_12 | exact bk_13 | exact bk_14 | exact bk_15 | exact bk_16 | exact zup_self | exact (zup_ne (by first | assumption | omega)).trans (by first | assumption | exact zup_self) | exact (zup_ne (by first | assumption | omega)).trans ((zup_ne (by first | assumption | omega)).trans (by first | assumption | exact zup_self)) | exact (bk_out (by first | omega | (simp only [bset, reduceIte, Nat.reduceEqDiff]; omega))).trans (by first | exact bk_0 | exact bk_1 | exact bk_2 | exact bk_3 | exact bk_4 | exact bk_5 | exact bk_6 | exact bk_7 | exact bk_8 | exact bk_9 | exact bk_10 | exact bk_11 | exact bk_12 | exact bk_13 | exact bk_14 | exact bk_15 | exact bk_16 | exact cr_5 | exact cr_23 | exact cr_24 | exact cr_25 | exact cr_26 | exact cr_27 | exact cr_28 | exact cr_29 | exact cr_30 | assumption)) rfl rfl rfl (Nat.le_of_ble_eq_true rfl) ?_
                  refine zr_istore (lv' := [_, _, _, _, _, _, _, _, _, _]) dX7_misses_36 (rfl : 36 + 2 = 38) (Nat.le_of_ble_eq_true rfl) rfl ?_
                  refine zr_iload_n dX7_misses_38 (rfl : 38 + 1 = 39) rfl ?_
                  refine zr_if_ne (tgt := 47) dX7_misses_39 (by decide) (rfl : 39 + 3 = 42) (by first | exact jb_iff | exact jI_z (by first | omega | (simp only [bset, reduceIte, Nat.reduceEqDiff]; omega)) (by first | omega | (simp only [bset, reduceIte, Nat.reduceEqDiff]; omega))) (fun h39 => ?_) (fun h39 => ?_)
                  · first
                    | (exfalso; omega)
                    | (
                      refine zr_iload dX7_misses_47 (rfl : 47 + 2 = 49) rfl ?_
                      refine zr_iconst dX7_misses_49 (rfl : 49 + 1 = 50) ?_
                      refine zr_icmp_ne (tgt := 72) dX7_misses_50 (by decide) (rfl : 50 + 3 = 53) (jI_eq (by first | omega | (simp only [bset, reduceIte, Nat.reduceEqDiff]; omega)) (by first | omega | (simp only [bset, reduceIte, Nat.reduceEqDiff]; omega)) (by first | omega | (simp only [bset, reduceIte, Nat.reduceEqDiff]; omega)) (by first | omega | (simp only [bset, reduceIte, Nat.reduceEqDiff]; omega))) (fun h50 => ?_) (fun h50 => ?_)
                      · first
                        | (exfalso; omega)
                        | (
                          refine zr_iconst dX7_misses_72 (rfl : 72 + 1 = 73) ?_
                          refine zr_iret dX7_misses_73 rfl rfl ?_ rfl rfl rfl
                          (repeat (first | rw [if_pos (by omega)] | rw [if_neg (by omega)])))
                      · first
                        | (exfalso; omega)
                        | (
                          refine zr_aload_n dX7_misses_53 (rfl : 53 + 1 = 54) rfl ?_
                          refine zr_iload_n dX7_misses_54 (rfl : 54 + 1 = 55) rfl ?_
                          refine zr_iload_n dX7_misses_55 (rfl : 55 + 1 = 56) rfl ?_
                          refine zr_iconst dX7_misses_56 (rfl : 56 + 1 = 57) ?_
                          refine zr_icmp_ne (tgt := 64) dX7_misses_57 (by decide) (rfl : 57 + 3 = 60) (jI_eq (by first | omega | (simp only [bset, reduceIte, Nat.reduceEqDiff]; omega)) (by first | omega | (simp only [bset, reduceIte, Nat.reduceEqDiff]; omega)) (by first | omega | (simp only [bset, reduceIte, Nat.reduceEqDiff]; omega)) (by first | omega | (simp only [bset, reduceIte, Nat.reduceEqDiff]; omega))) (fun h57 => ?_) (fun h57 => ?_)
                          · first
                            | (exfalso; omega)
                            | (
                              refine zr_iconst dX7_misses_64 (rfl : 64 + 1 = 65) ?_
                              refine zr_iconst dX7_misses_65 (rfl : 65 + 1 = 66) ?_
                              refine zr_fnV dX7_misses_66 (rfl : 66 + 3 = 69) l_X7_171 ((by first | (rw [hrr2, if_pos (by first | omega | (simp only [bset, reduceIte, Nat.reduceEqDiff]; omega))] at L1; exact L1) | (rw [hrr2, if_neg (by first | omega | (simp only [bset, reduceIte, Nat.reduceEqDiff]; omega))] at L1; exact L1))) (by first | assumption | exact mw_167 | exact mw_168 | exact mw_169 | exact mw_170 | exact bk_0 | exact bk_1 | exact bk_2 | exact bk_3 | exact bk_4 | exact bk_5 | exact bk_6 | exact bk_7 | exact bk_8 | exact bk_9 | exact bk_10 | exact bk_11 | exact bk_12 | exact bk_13 | exact bk_14 | exact bk_15 | exact bk_16 | exact zup_self | exact (zup_ne (by first | assumption | omega)).trans (by first | assumption | exact zup_self) | exact (zup_ne (by first | assumption | omega)).trans ((zup_ne (by first | assumption | omega)).trans (by first | assumption | exact zup_self)) | exact (bk_out (by first | omega | (simp only [bset, reduceIte, Nat.reduceEqDiff]; omega))).trans (by first | exact bk_0 | exact bk_1 | exact bk_2 | exact bk_3 | exact bk_4 | exact bk_5 | exact bk_6 | exact bk_7 | exact bk_8 | exact bk_9 | exact bk_10 | exact bk_11 | exact bk_12 | exact bk_13 | exact bk_14 | exact bk_15 | exact bk_16 | exact cr_5 | exact cr_23 | exact cr_24 | exact cr_25 | exact cr_26 | exact cr_27 | exact cr_28 | exact cr_29 | exact cr_30 | assumption)) rfl rfl rfl (Nat.le_of_ble_eq_true rfl) ?_
                              refine zr_goto (tgt := 73) dX7_misses_69 (by decide) ?_
                              refine zr_iret dX7_misses_73 rfl rfl ?_ rfl rfl rfl
                              (repeat (first | rw [if_pos (by omega)] | rw [if_neg (by omega)])))
                          · first
                            | (exfalso; omega)
                            | (
                              refine zr_iconst dX7_misses_60 (rfl : 60 + 1 = 61) ?_
                              refine zr_goto (tgt := 65) dX7_misses_61 (by decide) ?_
                              refine zr_iconst dX7_misses_65 (rfl : 65 + 1 = 66) ?_
                              refine zr_fnV dX7_misses_66 (rfl : 66 + 3 = 69) l_X7_171 ((by first | (rw [hrr2, if_pos (by first | omega | (simp only [bset, reduceIte, Nat.reduceEqDiff]; omega))] at L1; exact L1) | (rw [hrr2, if_neg (by first | omega | (simp only [bset, reduceIte, Nat.reduceEqDiff]; omega))] at L1; exact L1))) (by first | assumption | exact mw_167 | exact mw_168 | exact mw_169 | exact mw_170 | exact bk_0 | exact bk_1 | exact bk_2 | exact bk_3 | exact bk_4 | exact bk_5 | exact bk_6 | exact bk_7 | exact bk_8 | exact bk_9 | exact bk_10 | exact bk_11 | exact bk_12 | exact bk_13 | exact bk_14 | exact bk_15 | exact bk_16 | exact zup_self | exact (zup_ne (by first | assumption | omega)).trans (by first | assumption | exact zup_self) | exact (zup_ne (by first | assumption | omega)).trans ((zup_ne (by first | assumption | omega)).trans (by first | assumption | exact zup_self)) | exact (bk_out (by first | omega | (simp only [bset, reduceIte, Nat.reduceEqDiff]; omega))).trans (by first | exact bk_0 | exact bk_1 | exact bk_2 | exact bk_3 | exact bk_4 | exact bk_5 | exact bk_6 | exact bk_7 | exact bk_8 | exact bk_9 | exact bk_10 | exact bk_11 | exact bk_12 | exact bk_13 | exact bk_14 | exact bk_15 | exact bk_16 | exact cr_5 | exact cr_23 | exact cr_24 | exact cr_25 | exact cr_26 | exact cr_27 | exact cr_28 | exact cr_29 | exact cr_30 | assumption)) rfl rfl rfl (Nat.le_of_ble_eq_true rfl) ?_
                              refine zr_goto (tgt := 73) dX7_misses_69 (by decide) ?_
                              refine zr_iret dX7_misses_73 rfl rfl ?_ rfl rfl rfl
                              (repeat (first | rw [if_pos (by omega)] | rw [if_neg (by omega)])))))
                  · first
                    | (exfalso; omega)
                    | (
                      refine zr_iload dX7_misses_42 (rfl : 42 + 2 = 44) rfl ?_
                      refine zr_goto (tgt := 73) dX7_misses_44 (by decide) ?_
                      refine zr_iret dX7_misses_73 rfl rfl ?_ rfl rfl rfl
                      (repeat (first | rw [if_pos (by omega)] | rw [if_neg (by omega)]))))
              · first
                | (exfalso; omega)
                | (
                  refine zr_iconst dX7_misses_27 (rfl : 27 + 1 = 28) ?_
                  refine zr_goto (tgt := 32) dX7_misses_28 (by decide) ?_
                  refine zr_iconst dX7_misses_32 (rfl : 32 + 1 = 33) ?_
                  refine zr_fnV dX7_misses_33 (rfl : 33 + 3 = 36) l_X7_171 ((by first | (rw [hrr2, if_pos (by first | omega | (simp only [bset, reduceIte, Nat.reduceEqDiff]; omega))] at L0; exact L0) | (rw [hrr2, if_neg (by first | omega | (simp only [bset, reduceIte, Nat.reduceEqDiff]; omega))] at L0; exact L0))) (by first | assumption | exact mw_167 | exact mw_168 | exact mw_169 | exact mw_170 | exact bk_0 | exact bk_1 | exact bk_2 | exact bk_3 | exact bk_4 | exact bk_5 | exact bk_6 | exact bk_7 | exact bk_8 | exact bk_9 | exact bk_10 | exact bk_11 | exact bk_12 | exact bk_13 | exact bk_14 | exact bk_15 | exact bk_16 | exact zup_self | exact (zup_ne (by first | assumption | omega)).trans (by first | assumption | exact zup_self) | exact (zup_ne (by first | assumption | omega)).trans ((zup_ne (by first | assumption | omega)).trans (by first | assumption | exact zup_self)) | exact (bk_out (by first | omega | (simp only [bset, reduceIte, Nat.reduceEqDiff]; omega))).trans (by first | exact bk_0 | exact bk_1 | exact bk_2 | exact bk_3 | exact bk_4 | exact bk_5 | exact bk_6 | exact bk_7 | exact bk_8 | exact bk_9 | exact bk_10 | exact bk_11 | exact bk_12 | exact bk_13 | exact bk_14 | exact bk_15 | exact bk_16 | exact cr_5 | exact cr_23 | exact cr_24 | exact cr_25 | exact cr_26 | exact cr_27 | exact cr_28 | exact cr_29 | exact cr_30 | assumption)) rfl rfl rfl (Nat.le_of_ble_eq_true rfl) ?_
                  refine zr_istore (lv' := [_, _, _, _, _, _, _, _, _, _]) dX7_misses_36 (rfl : 36 + 2 = 38) (Nat.le_of_ble_eq_true rfl) rfl ?_
                  refine zr_iload_n dX7_misses_38 (rfl : 38 + 1 = 39) rfl ?_
                  refine zr_if_ne (tgt := 47) dX7_misses_39 (by decide) (rfl : 39 + 3 = 42) (by first | exact jb_iff | exact jI_z (by first | omega | (simp only [bset, reduceIte, Nat.reduceEqDiff]; omega)) (by first | omega | (simp only [bset, reduceIte, Nat.reduceEqDiff]; omega))) (fun h39 => ?_) (fun h39 => ?_)
                  · first
                    | (exfalso; omega)
                    | (
                      refine zr_iload dX7_misses_47 (rfl : 47 + 2 = 49) rfl ?_
                      refine zr_iconst dX7_misses_49 (rfl : 49 + 1 = 50) ?_
                      refine zr_icmp_ne (tgt := 72) dX7_misses_50 (by decide) (rfl : 50 + 3 = 53) (jI_eq (by first | omega | (simp only [bset, reduceIte, Nat.reduceEqDiff]; omega)) (by first | omega | (simp only [bset, reduceIte, Nat.reduceEqDiff]; omega)) (by first | omega | (simp only [bset, reduceIte, Nat.reduceEqDiff]; omega)) (by first | omega | (simp only [bset, reduceIte, Nat.reduceEqDiff]; omega))) (fun h50 => ?_) (fun h50 => ?_)
                      · first
                        | (exfalso; omega)
                        | (
                          refine zr_iconst dX7_misses_72 (rfl : 72 + 1 = 73) ?_
                          refine zr_iret dX7_misses_73 rfl rfl ?_ rfl rfl rfl
                          (repeat (first | rw [if_pos (by omega)] | rw [if_neg (by omega)])))
                      · first
                        | (exfalso; omega)
                        | (
                          refine zr_aload_n dX7_misses_53 (rfl : 53 + 1 = 54) rfl ?_
                          refine zr_iload_n dX7_misses_54 (rfl : 54 + 1 = 55) rfl ?_
                          refine zr_iload_n dX7_misses_55 (rfl : 55 + 1 = 56) rfl ?_
                          refine zr_iconst dX7_misses_56 (rfl : 56 + 1 = 57) ?_
                          refine zr_icmp_ne (tgt := 64) dX7_misses_57 (by decide) (rfl : 57 + 3 = 60) (jI_eq (by first | omega | (simp only [bset, reduceIte, Nat.reduceEqDiff]; omega)) (by first | omega | (simp only [bset, reduceIte, Nat.reduceEqDiff]; omega)) (by first | omega | (simp only [bset, reduceIte, Nat.reduceEqDiff]; omega)) (by first | omega | (simp only [bset, reduceIte, Nat.reduceEqDiff]; omega))) (fun h57 => ?_) (fun h57 => ?_)
                          · first
                            | (exfalso; omega)
                            | (
                              refine zr_iconst dX7_misses_64 (rfl : 64 + 1 = 65) ?_
                              refine zr_iconst dX7_misses_65 (rfl : 65 + 1 = 66) ?_
                              refine zr_fnV dX7_misses_66 (rfl : 66 + 3 = 69) l_X7_171 ((by first | (rw [hrr2, if_pos (by first | omega | (simp only [bset, reduceIte, Nat.reduceEqDiff]; omega))] at L1; exact L1) | (rw [hrr2, if_neg (by first | omega | (simp only [bset, reduceIte, Nat.reduceEqDiff]; omega))] at L1; exact L1))) (by first | assumption | exact mw_167 | exact mw_168 | exact mw_169 | exact mw_170 | exact bk_0 | exact bk_1 | exact bk_2 | exact bk_3 | exact bk_4 | exact bk_5 | exact bk_6 | exact bk_7 | exact bk_8 | exact bk_9 | exact bk_10 | exact bk_11 | exact bk_12 | exact bk_13 | exact bk_14 | exact bk_15 | exact bk_16 | exact zup_self | exact (zup_ne (by first | assumption | omega)).trans (by first | assumption | exact zup_self) | exact (zup_ne (by first | assumption | omega)).trans ((zup_ne (by first | assumption | omega)).trans (by first | assumption | exact zup_self)) | exact (bk_out (by first | omega | (simp only [bset, reduceIte, Nat.reduceEqDiff]; omega))).trans (by first | exact bk_0 | exact bk_1 | exact bk_2 | exact bk_3 | exact bk_4 | exact bk_5 | exact bk_6 | exact bk_7 | exact bk_8 | exact bk_9 | exact bk_10 | exact bk_11 | exact bk_12 | exact bk_13 | exact bk_14 | exact bk_15 | exact bk_16 | exact cr_5 | exact cr_23 | exact cr_24 | exact cr_25 | exact cr_26 | exact cr_27 | exact cr_28 | exact cr_29 | exact cr_30 | assumption)) rfl rfl rfl (Nat.le_of_ble_eq_true rfl) ?_
                              refine zr_goto (tgt := 73) dX7_misses_69 (by decide) ?_
                              refine zr_iret dX7_misses_73 rfl rfl ?_ rfl rfl rfl
                              (repeat (first | rw [if_pos (by omega)] | rw [if_neg (by omega)])))
                          · first
                            | (exfalso; omega)
                            | (
                              refine zr_iconst dX7_misses_60 (rfl : 60 + 1 = 61) ?_
                              refine zr_goto (tgt := 65) dX7_misses_61 (by decide) ?_
                              refine zr_iconst dX7_misses_65 (rfl : 65 + 1 = 66) ?_
                              refine zr_fnV dX7_misses_66 (rfl : 66 + 3 = 69) l_X7_171 ((by first | (rw [hrr2, if_pos (by first | omega | (simp only [bset, reduceIte, Nat.reduceEqDiff]; omega))] at L1; exact L1) | (rw [hrr2, if_neg (by first | omega | (simp only [bset, reduceIte, Nat.reduceEqDiff]; omega))] at L1; exact L1))) (by first | assumption | exact mw_167 | exact mw_168 | exact mw_169 | exact mw_170 | exact bk_0 | exact bk_1 | exact bk_2 | exact bk_3 | exact bk_4 | exact bk_5 | exact bk_6 | exact bk_7 | exact bk_8 | exact bk_9 | exact bk_10 | exact bk_11 | exact bk_12 | exact bk_13 | exact bk_14 | exact bk_15 | exact bk_16 | exact zup_self | exact (zup_ne (by first | assumption | omega)).trans (by first | assumption | exact zup_self) | exact (zup_ne (by first | assumption | omega)).trans ((zup_ne (by first | assumption | omega)).trans (by first | assumption | exact zup_self)) | exact (bk_out (by first | omega | (simp only [bset, reduceIte, Nat.reduceEqDiff]; omega))).trans (by first | exact bk_0 | exact bk_1 | exact bk_2 | exact bk_3 | exact bk_4 | exact bk_5 | exact bk_6 | exact bk_7 | exact bk_8 | exact bk_9 | exact bk_10 | exact bk_11 | exact bk_12 | exact bk_13 | exact bk_14 | exact bk_15 | exact bk_16 | exact cr_5 | exact cr_23 | exact cr_24 | exact cr_25 | exact cr_26 | exact cr_27 | exact cr_28 | exact cr_29 | exact cr_30 | assumption)) rfl rfl rfl (Nat.le_of_ble_eq_true rfl) ?_
                              refine zr_goto (tgt := 73) dX7_misses_69 (by decide) ?_
                              refine zr_iret dX7_misses_73 rfl rfl ?_ rfl rfl rfl
                              (repeat (first | rw [if_pos (by omega)] | rw [if_neg (by omega)])))))
                  · first
                    | (exfalso; omega)
                    | (
                      refine zr_iload dX7_misses_42 (rfl : 42 + 2 = 44) rfl ?_
                      refine zr_goto (tgt := 73) dX7_misses_44 (by decide) ?_
                      refine zr_iret dX7_misses_73 rfl rfl ?_ rfl rfl rfl
                      (repeat (first | rw [if_pos (by omega)] | rw [if_neg (by omega)])))))
          · first
            | (exfalso; omega)
            | (
              refine zr_iload_n dX7_misses_15 (rfl : 15 + 1 = 16) rfl ?_
              refine zr_iconst dX7_misses_16 (rfl : 16 + 1 = 17) ?_
              refine zr_icmp_ne (tgt := 74) dX7_misses_17 (by decide) (rfl : 17 + 3 = 20) (jI_eq (by first | omega | (simp only [bset, reduceIte, Nat.reduceEqDiff]; omega)) (by first | omega | (simp only [bset, reduceIte, Nat.reduceEqDiff]; omega)) (by first | omega | (simp only [bset, reduceIte, Nat.reduceEqDiff]; omega)) (by first | omega | (simp only [bset, reduceIte, Nat.reduceEqDiff]; omega))) (fun h17 => ?_) (fun h17 => ?_)
              · first
                | (exfalso; omega)
                | (
                  exfalso
                  omega)
              · first
                | (exfalso; omega)
                | (
                  refine zr_aload_n dX7_misses_20 (rfl : 20 + 1 = 21) rfl ?_
                  refine zr_iload_n dX7_misses_21 (rfl : 21 + 1 = 22) rfl ?_
                  refine zr_iload_n dX7_misses_22 (rfl : 22 + 1 = 23) rfl ?_
                  refine zr_iconst dX7_misses_23 (rfl : 23 + 1 = 24) ?_
                  refine zr_icmp_ne (tgt := 31) dX7_misses_24 (by decide) (rfl : 24 + 3 = 27) (jI_eq (by first | omega | (simp only [bset, reduceIte, Nat.reduceEqDiff]; omega)) (by first | omega | (simp only [bset, reduceIte, Nat.reduceEqDiff]; omega)) (by first | omega | (simp only [bset, reduceIte, Nat.reduceEqDiff]; omega)) (by first | omega | (simp only [bset, reduceIte, Nat.reduceEqDiff]; omega))) (fun h24 => ?_) (fun h24 => ?_)
                  · first
                    | (exfalso; omega)
                    | (
                      refine zr_iconst dX7_misses_31 (rfl : 31 + 1 = 32) ?_
                      refine zr_iconst dX7_misses_32 (rfl : 32 + 1 = 33) ?_
                      refine zr_fnV dX7_misses_33 (rfl : 33 + 3 = 36) l_X7_171 ((by first | (rw [hrr2, if_pos (by first | omega | (simp only [bset, reduceIte, Nat.reduceEqDiff]; omega))] at L0; exact L0) | (rw [hrr2, if_neg (by first | omega | (simp only [bset, reduceIte, Nat.reduceEqDiff]; omega))] at L0; exact L0))) (by first | assumption | exact mw_167 | exact mw_168 | exact mw_169 | exact mw_170 | exact bk_0 | exact bk_1 | exact bk_2 | exact bk_3 | exact bk_4 | exact bk_5 | exact bk_6 | exact bk_7 | exact bk_8 | exact bk_9 | exact bk_10 | exact bk_11 | exact bk_12 | exact bk_13 | exact bk_14 | exact bk_15 | exact bk_16 | exact zup_self | exact (zup_ne (by first | assumption | omega)).trans (by first | assumption | exact zup_self) | exact (zup_ne (by first | assumption | omega)).trans ((zup_ne (by first | assumption | omega)).trans (by first | assumption | exact zup_self)) | exact (bk_out (by first | omega | (simp only [bset, reduceIte, Nat.reduceEqDiff]; omega))).trans (by first | exact bk_0 | exact bk_1 | exact bk_2 | exact bk_3 | exact bk_4 | exact bk_5 | exact bk_6 | exact bk_7 | exact bk_8 | exact bk_9 | exact bk_10 | exact bk_11 | exact bk_12 | exact bk_13 | exact bk_14 | exact bk_15 | exact bk_16 | exact cr_5 | exact cr_23 | exact cr_24 | exact cr_25 | exact cr_26 | exact cr_27 | exact cr_28 | exact cr_29 | exact cr_30 | assumption)) rfl rfl rfl (Nat.le_of_ble_eq_true rfl) ?_
                      refine zr_istore (lv' := [_, _, _, _, _, _, _, _, _, _]) dX7_misses_36 (rfl : 36 + 2 = 38) (Nat.le_of_ble_eq_true rfl) rfl ?_
                      refine zr_iload_n dX7_misses_38 (rfl : 38 + 1 = 39) rfl ?_
                      refine zr_if_ne (tgt := 47) dX7_misses_39 (by decide) (rfl : 39 + 3 = 42) (by first | exact jb_iff | exact jI_z (by first | omega | (simp only [bset, reduceIte, Nat.reduceEqDiff]; omega)) (by first | omega | (simp only [bset, reduceIte, Nat.reduceEqDiff]; omega))) (fun h39 => ?_) (fun h39 => ?_)
                      · first
                        | (exfalso; omega)
                        | (
                          refine zr_iload dX7_misses_47 (rfl : 47 + 2 = 49) rfl ?_
                          refine zr_iconst dX7_misses_49 (rfl : 49 + 1 = 50) ?_
                          refine zr_icmp_ne (tgt := 72) dX7_misses_50 (by decide) (rfl : 50 + 3 = 53) (jI_eq (by first | omega | (simp only [bset, reduceIte, Nat.reduceEqDiff]; omega)) (by first | omega | (simp only [bset, reduceIte, Nat.reduceEqDiff]; omega)) (by first | omega | (simp only [bset, reduceIte, Nat.reduceEqDiff]; omega)) (by first | omega | (simp only [bset, reduceIte, Nat.reduceEqDiff]; omega))) (fun h50 => ?_) (fun h50 => ?_)
                          · first
                            | (exfalso; omega)
                            | (
                              refine zr_iconst dX7_misses_72 (rfl : 72 + 1 = 73) ?_
                              refine zr_iret dX7_misses_73 rfl rfl ?_ rfl rfl rfl
                              (repeat (first | rw [if_pos (by omega)] | rw [if_neg (by omega)])))
                          · first
                            | (exfalso; omega)
                            | (
                              refine zr_aload_n dX7_misses_53 (rfl : 53 + 1 = 54) rfl ?_
                              refine zr_iload_n dX7_misses_54 (rfl : 54 + 1 = 55) rfl ?_
                              refine zr_iload_n dX7_misses_55 (rfl : 55 + 1 = 56) rfl ?_
                              refine zr_iconst dX7_misses_56 (rfl : 56 + 1 = 57) ?_
                              refine zr_icmp_ne (tgt := 64) dX7_misses_57 (by decide) (rfl : 57 + 3 = 60) (jI_eq (by first | omega | (simp only [bset, reduceIte, Nat.reduceEqDiff]; omega)) (by first | omega | (simp only [bset, reduceIte, Nat.reduceEqDiff]; omega)) (by first | omega | (simp only [bset, reduceIte, Nat.reduceEqDiff]; omega)) (by first | omega | (simp only [bset, reduceIte, Nat.reduceEqDiff]; omega))) (fun h57 => ?_) (fun h57 => ?_)
                              · first
                                | (exfalso; omega)
                                | (
                                  refine zr_iconst dX7_misses_64 (rfl : 64 + 1 = 65) ?_
                                  refine zr_iconst dX7_misses_65 (rfl : 65 + 1 = 66) ?_
                                  refine zr_fnV dX7_misses_66 (rfl : 66 + 3 = 69) l_X7_171 ((by first | (rw [hrr2, if_pos (by first | omega | (simp only [bset, reduceIte, Nat.reduceEqDiff]; omega))] at L1; exact L1) | (rw [hrr2, if_neg (by first | omega | (simp only [bset, reduceIte, Nat.reduceEqDiff]; omega))] at L1; exact L1))) (by first | assumption | exact mw_167 | exact mw_168 | exact mw_169 | exact mw_170 | exact bk_0 | exact bk_1 | exact bk_2 | exact bk_3 | exact bk_4 | exact bk_5 | exact bk_6 | exact bk_7 | exact bk_8 | exact bk_9 | exact bk_10 | exact bk_11 | exact bk_12 | exact bk_13 | exact bk_14 | exact bk_15 | exact bk_16 | exact zup_self | exact (zup_ne (by first | assumption | omega)).trans (by first | assumption | exact zup_self) | exact (zup_ne (by first | assumption | omega)).trans ((zup_ne (by first | assumption | omega)).trans (by first | assumption | exact zup_self)) | exact (bk_out (by first | omega | (simp only [bset, reduceIte, Nat.reduceEqDiff]; omega))).trans (by first | exact bk_0 | exact bk_1 | exact bk_2 | exact bk_3 | exact bk_4 | exact bk_5 | exact bk_6 | exact bk_7 | exact bk_8 | exact bk_9 | exact bk_10 | exact bk_11 | exact bk_12 | exact bk_13 | exact bk_14 | exact bk_15 | exact bk_16 | exact cr_5 | exact cr_23 | exact cr_24 | exact cr_25 | exact cr_26 | exact cr_27 | exact cr_28 | exact cr_29 | exact cr_30 | assumption)) rfl rfl rfl (Nat.le_of_ble_eq_true rfl) ?_
                                  refine zr_goto (tgt := 73) dX7_misses_69 (by decide) ?_
                                  refine zr_iret dX7_misses_73 rfl rfl ?_ rfl rfl rfl
                                  (repeat (first | rw [if_pos (by omega)] | rw [if_neg (by omega)])))
                              · first
                                | (exfalso; omega)
                                | (
                                  refine zr_iconst dX7_misses_60 (rfl : 60 + 1 = 61) ?_
                                  refine zr_goto (tgt := 65) dX7_misses_61 (by decide) ?_
                                  refine zr_iconst dX7_misses_65 (rfl : 65 + 1 = 66) ?_
                                  refine zr_fnV dX7_misses_66 (rfl : 66 + 3 = 69) l_X7_171 ((by first | (rw [hrr2, if_pos (by first | omega | (simp only [bset, reduceIte, Nat.reduceEqDiff]; omega))] at L1; exact L1) | (rw [hrr2, if_neg (by first | omega | (simp only [bset, reduceIte, Nat.reduceEqDiff]; omega))] at L1; exact L1))) (by first | assumption | exact mw_167 | exact mw_168 | exact mw_169 | exact mw_170 | exact bk_0 | exact bk_1 | exact bk_2 | exact bk_3 | exact bk_4 | exact bk_5 | exact bk_6 | exact bk_7 | exact bk_8 | exact bk_9 | exact bk_10 | exact bk_11 | exact bk_12 | exact bk_13 | exact bk_14 | exact bk_15 | exact bk_16 | exact zup_self | exact (zup_ne (by first | assumption | omega)).trans (by first | assumption | exact zup_self) | exact (zup_ne (by first | assumption | omega)).trans ((zup_ne (by first | assumption | omega)).trans (by first | assumption | exact zup_self)) | exact (bk_out (by first | omega | (simp only [bset, reduceIte, Nat.reduceEqDiff]; omega))).trans (by first | exact bk_0 | exact bk_1 | exact bk_2 | exact bk_3 | exact bk_4 | exact bk_5 | exact bk_6 | exact bk_7 | exact bk_8 | exact bk_9 | exact bk_10 | exact bk_11 | exact bk_12 | exact bk_13 | exact bk_14 | exact bk_15 | exact bk_16 | exact cr_5 | exact cr_23 | exact cr_24 | exact cr_25 | exact cr_26 | exact cr_27 | exact cr_28 | exact cr_29 | exact cr_30 | assumption)) rfl rfl rfl (Nat.le_of_ble_eq_true rfl) ?_
                                  refine zr_goto (tgt := 73) dX7_misses_69 (by decide) ?_
                                  refine zr_iret dX7_misses_73 rfl rfl ?_ rfl rfl rfl
                                  (repeat (first | rw [if_pos (by omega)] | rw [if_neg (by omega)])))))
                      · first
                        | (exfalso; omega)
                        | (
                          refine zr_iload dX7_misses_42 (rfl : 42 + 2 = 44) rfl ?_
                          refine zr_goto (tgt := 73) dX7_misses_44 (by decide) ?_
                          refine zr_iret dX7_misses_73 rfl rfl ?_ rfl rfl rfl
                          (repeat (first | rw [if_pos (by omega)] | rw [if_neg (by omega)]))))
                  · first
                    | (exfalso; omega)
                    | (
                      refine zr_iconst dX7_misses_27 (rfl : 27 + 1 = 28) ?_
                      refine zr_goto (tgt := 32) dX7_misses_28 (by decide) ?_
                      refine zr_iconst dX7_misses_32 (rfl : 32 + 1 = 33) ?_
                      refine zr_fnV dX7_misses_33 (rfl : 33 + 3 = 36) l_X7_171 ((by first | (rw [hrr2, if_pos (by first | omega | (simp only [bset, reduceIte, Nat.reduceEqDiff]; omega))] at L0; exact L0) | (rw [hrr2, if_neg (by first | omega | (simp only [bset, reduceIte, Nat.reduceEqDiff]; omega))] at L0; exact L0))) (by first | assumption | exact mw_167 | exact mw_168 | exact mw_169 | exact mw_170 | exact bk_0 | exact bk_1 | exact bk_2 | exact bk_3 | exact bk_4 | exact bk_5 | exact bk_6 | exact bk_7 | exact bk_8 | exact bk_9 | exact bk_10 | exact bk_11 | exact bk_12 | exact bk_13 | exact bk_14 | exact bk_15 | exact bk_16 | exact zup_self | exact (zup_ne (by first | assumption | omega)).trans (by first | assumption | exact zup_self) | exact (zup_ne (by first | assumption | omega)).trans ((zup_ne (by first | assumption | omega)).trans (by first | assumption | exact zup_self)) | exact (bk_out (by first | omega | (simp only [bset, reduceIte, Nat.reduceEqDiff]; omega))).trans (by first | exact bk_0 | exact bk_1 | exact bk_2 | exact bk_3 | exact bk_4 | exact bk_5 | exact bk_6 | exact bk_7 | exact bk_8 | exact bk_9 | exact bk_10 | exact bk_11 | exact bk_12 | exact bk_13 | exact bk_14 | exact bk_15 | exact bk_16 | exact cr_5 | exact cr_23 | exact cr_24 | exact cr_25 | exact cr_26 | exact cr_27 | exact cr_28 | exact cr_29 | exact cr_30 | assumption)) rfl rfl rfl (Nat.le_of_ble_eq_true rfl) ?_
                      refine zr_istore (lv' := [_, _, _, _, _, _, _, _, _, _]) dX7_misses_36 (rfl : 36 + 2 = 38) (Nat.le_of_ble_eq_true rfl) rfl ?_
                      refine zr_iload_n dX7_misses_38 (rfl : 38 + 1 = 39) rfl ?_
                      refine zr_if_ne (tgt := 47) dX7_misses_39 (by decide) (rfl : 39 + 3 = 42) (by first | exact jb_iff | exact jI_z (by first | omega | (simp only [bset, reduceIte, Nat.reduceEqDiff]; omega)) (by first | omega | (simp only [bset, reduceIte, Nat.reduceEqDiff]; omega))) (fun h39 => ?_) (fun h39 => ?_)
                      · first
                        | (exfalso; omega)
                        | (
                          refine zr_iload dX7_misses_47 (rfl : 47 + 2 = 49) rfl ?_
                          refine zr_iconst dX7_misses_49 (rfl : 49 + 1 = 50) ?_
                          refine zr_icmp_ne (tgt := 72) dX7_misses_50 (by decide) (rfl : 50 + 3 = 53) (jI_eq (by first | omega | (simp only [bset, reduceIte, Nat.reduceEqDiff]; omega)) (by first | omega | (simp only [bset, reduceIte, Nat.reduceEqDiff]; omega)) (by first | omega | (simp only [bset, reduceIte, Nat.reduceEqDiff]; omega)) (by first | omega | (simp only [bset, reduceIte, Nat.reduceEqDiff]; omega))) (fun h50 => ?_) (fun h50 => ?_)
                          · first
                            | (exfalso; omega)
                            | (
                              refine zr_iconst dX7_misses_72 (rfl : 72 + 1 = 73) ?_
                              refine zr_iret dX7_misses_73 rfl rfl ?_ rfl rfl rfl
                              (repeat (first | rw [if_pos (by omega)] | rw [if_neg (by omega)])))
                          · first
                            | (exfalso; omega)
                            | (
                              refine zr_aload_n dX7_misses_53 (rfl : 53 + 1 = 54) rfl ?_
                              refine zr_iload_n dX7_misses_54 (rfl : 54 + 1 = 55) rfl ?_
                              refine zr_iload_n dX7_misses_55 (rfl : 55 + 1 = 56) rfl ?_
                              refine zr_iconst dX7_misses_56 (rfl : 56 + 1 = 57) ?_
                              refine zr_icmp_ne (tgt := 64) dX7_misses_57 (by decide) (rfl : 57 + 3 = 60) (jI_eq (by first | omega | (simp only [bset, reduceIte, Nat.reduceEqDiff]; omega)) (by first | omega | (simp only [bset, reduceIte, Nat.reduceEqDiff]; omega)) (by first | omega | (simp only [bset, reduceIte, Nat.reduceEqDiff]; omega)) (by first | omega | (simp only [bset, reduceIte, Nat.reduceEqDiff]; omega))) (fun h57 => ?_) (fun h57 => ?_)
                              · first
                                | (exfalso; omega)
                                | (
                                  refine zr_iconst dX7_misses_64 (rfl : 64 + 1 = 65) ?_
                                  refine zr_iconst dX7_misses_65 (rfl : 65 + 1 = 66) ?_
                                  refine zr_fnV dX7_misses_66 (rfl : 66 + 3 = 69) l_X7_171 ((by first | (rw [hrr2, if_pos (by first | omega | (simp only [bset, reduceIte, Nat.reduceEqDiff]; omega))] at L1; exact L1) | (rw [hrr2, if_neg (by first | omega | (simp only [bset, reduceIte, Nat.reduceEqDiff]; omega))] at L1; exact L1))) (by first | assumption | exact mw_167 | exact mw_168 | exact mw_169 | exact mw_170 | exact bk_0 | exact bk_1 | exact bk_2 | exact bk_3 | exact bk_4 | exact bk_5 | exact bk_6 | exact bk_7 | exact bk_8 | exact bk_9 | exact bk_10 | exact bk_11 | exact bk_12 | exact bk_13 | exact bk_14 | exact bk_15 | exact bk_16 | exact zup_self | exact (zup_ne (by first | assumption | omega)).trans (by first | assumption | exact zup_self) | exact (zup_ne (by first | assumption | omega)).trans ((zup_ne (by first | assumption | omega)).trans (by first | assumption | exact zup_self)) | exact (bk_out (by first | omega | (simp only [bset, reduceIte, Nat.reduceEqDiff]; omega))).trans (by first | exact bk_0 | exact bk_1 | exact bk_2 | exact bk_3 | exact bk_4 | exact bk_5 | exact bk_6 | exact bk_7 | exact bk_8 | exact bk_9 | exact bk_10 | exact bk_11 | exact bk_12 | exact bk_13 | exact bk_14 | exact bk_15 | exact bk_16 | exact cr_5 | exact cr_23 | exact cr_24 | exact cr_25 | exact cr_26 | exact cr_27 | exact cr_28 | exact cr_29 | exact cr_30 | assumption)) rfl rfl rfl (Nat.le_of_ble_eq_true rfl) ?_
                                  refine zr_goto (tgt := 73) dX7_misses_69 (by decide) ?_
                                  refine zr_iret dX7_misses_73 rfl rfl ?_ rfl rfl rfl
                                  (repeat (first | rw [if_pos (by omega)] | rw [if_neg (by omega)])))
                              · first
                                | (exfalso; omega)
                                | (
                                  refine zr_iconst dX7_misses_60 (rfl : 60 + 1 = 61) ?_
                                  refine zr_goto (tgt := 65) dX7_misses_61 (by decide) ?_
                                  refine zr_iconst dX7_misses_65 (rfl : 65 + 1 = 66) ?_
                                  refine zr_fnV dX7_misses_66 (rfl : 66 + 3 = 69) l_X7_171 ((by first | (rw [hrr2, if_pos (by first | omega | (simp only [bset, reduceIte, Nat.reduceEqDiff]; omega))] at L1; exact L1) | (rw [hrr2, if_neg (by first | omega | (simp only [bset, reduceIte, Nat.reduceEqDiff]; omega))] at L1; exact L1))) (by first | assumption | exact mw_167 | exact mw_168 | exact mw_169 | exact mw_170 | exact bk_0 | exact bk_1 | exact bk_2 | exact bk_3 | exact bk_4 | exact bk_5 | exact bk_6 | exact bk_7 | exact bk_8 | exact bk_9 | exact bk_10 | exact bk_11 | exact bk_12 | exact bk_13 | exact bk_14 | exact bk_15 | exact bk_16 | exact zup_self | exact (zup_ne (by first | assumption | omega)).trans (by first | assumption | exact zup_self) | exact (zup_ne (by first | assumption | omega)).trans ((zup_ne (by first | assumption | omega)).trans (by first | assumption | exact zup_self)) | exact (bk_out (by first | omega | (simp only [bset, reduceIte, Nat.reduceEqDiff]; omega))).trans (by first | exact bk_0 | exact bk_1 | exact bk_2 | exact bk_3 | exact bk_4 | exact bk_5 | exact bk_6 | exact bk_7 | exact bk_8 | exact bk_9 | exact bk_10 | exact bk_11 | exact bk_12 | exact bk_13 | exact bk_14 | exact bk_15 | exact bk_16 | exact cr_5 | exact cr_23 | exact cr_24 | exact cr_25 | exact cr_26 | exact cr_27 | exact cr_28 | exact cr_29 | exact cr_30 | assumption)) rfl rfl rfl (Nat.le_of_ble_eq_true rfl) ?_
                                  refine zr_goto (tgt := 73) dX7_misses_69 (by decide) ?_
                                  refine zr_iret dX7_misses_73 rfl rfl ?_ rfl rfl rfl
                                  (repeat (first | rw [if_pos (by omega)] | rw [if_neg (by omega)])))))
                      · first
                        | (exfalso; omega)
                        | (
                          refine zr_iload dX7_misses_42 (rfl : 42 + 2 = 44) rfl ?_
                          refine zr_goto (tgt := 73) dX7_misses_44 (by decide) ?_
                          refine zr_iret dX7_misses_73 rfl rfl ?_ rfl rfl rfl
                          (repeat (first | rw [if_pos (by omega)] | rw [if_neg (by omega)])))))))
      · first
        | (exfalso; omega)
        | (
          refine zr_iconst dX7_misses_8 (rfl : 8 + 1 = 9) ?_
          refine zr_iret dX7_misses_9 rfl rfl ?_ rfl rfl rfl
          (repeat (first | rw [if_pos (by omega)] | rw [if_neg (by omega)])))
    · -- a row, or two
      have q0 : jur (B 0) (B 7) (c * 3) = jur (B 0) (B 7) (c * 3 + 0) := by rw [Int.add_zero]
      have q1 : jfui (B 0) (B 7) (c * 3) = jfui (B 0) (B 7) (c * 3 + 0) := by rw [Int.add_zero]
      generalize hU : (fun z : Int => jur (B 0) (B 7) (c * 3 + (2 - z))) = U
      generalize hT : (fun z : Int => jgr (jlq B c (2 - z)) 90) = T
      have hres : (if k = 0 then juo (B 0) (B 7) c g else if juo (B 0) (B 7) c g = 1 then jonly (B 0) (B 7) c g else -1) = (if k = 0 then (if g = 0 then jlE U 3 else jsM U 3 - jmO U 3) else if (if g = 0 then jlE U 3 else jsM U 3 - jmO U 3) = 1 then joN U T 3 else -1) := by
        have U0 : U (0 : Nat) = jur (B 0) (B 7) (c * 3 + 2) := by rw [← hU]; rfl
        have U1 : U (1 : Nat) = jur (B 0) (B 7) (c * 3 + 1) := by rw [← hU]; rfl
        have U2 : U (2 : Nat) = jur (B 0) (B 7) (c * 3 + 0) := by rw [← hU]; rfl
        have T0 : T (0 : Nat) = jgr (jqr B (c * 3 + 2)) 90 := by rw [← hT, ← jlq_row (by decide)]; rfl
        have T1 : T (1 : Nat) = jgr (jqr B (c * 3 + 1)) 90 := by rw [← hT, ← jlq_row (by decide)]; rfl
        have T2 : T (2 : Nat) = jgr (jqr B (c * 3 + 0)) 90 := by rw [← hT, ← jlq_row (by decide)]; rfl
        have hju : juo (B 0) (B 7) c g = (if g = 0 then jlE U 3 else jsM U 3 - jmO U 3) := by
          unfold juo
          rw [if_neg (by omega), show c * 3 + 1 + 1 = c * 3 + 2 by omega, q0]
          by_cases g0 : g = 0
          · rw [if_pos g0, if_pos g0]
            show _ = (if U (2 : Nat) < (if U (1 : Nat) < (if U (0 : Nat) < 5 then U (0 : Nat) else 5) then U (1 : Nat) else (if U (0 : Nat) < 5 then U (0 : Nat) else 5)) then U (2 : Nat) else (if U (1 : Nat) < (if U (0 : Nat) < 5 then U (0 : Nat) else 5) then U (1 : Nat) else (if U (0 : Nat) < 5 then U (0 : Nat) else 5)))
            rw [U0, U1, U2]
            omega
          · rw [if_neg g0, if_neg g0, if_pos (by omega)]
            show _ = (0 + U (0 : Nat) + U (1 : Nat) + U (2 : Nat)) - (if (if (if (0 : Int) < U (0 : Nat) then U (0 : Nat) else 0) < U (1 : Nat) then U (1 : Nat) else (if (0 : Int) < U (0 : Nat) then U (0 : Nat) else 0)) < U (2 : Nat) then U (2 : Nat) else (if (if (0 : Int) < U (0 : Nat) then U (0 : Nat) else 0) < U (1 : Nat) then U (1 : Nat) else (if (0 : Int) < U (0 : Nat) then U (0 : Nat) else 0)))
            rw [U0, U1, U2]
            omega
        have hjo : jonly (B 0) (B 7) c g = joN U T 3 := by
          unfold jonly
          rw [if_neg (by omega), show c * 3 + 1 + 1 = c * 3 + 2 by omega, q0, q1]
          show _ = (if U (2 : Nat) = 1 then T (2 : Nat) else if U (1 : Nat) = 1 then T (1 : Nat) else if U (0 : Nat) = 1 then T (0 : Nat) else -1)
          rw [U0, U1, U2, T0, T1, T2]
          by_cases a0 : jur (B 0) (B 7) (c * 3 + 0) = 1
          · rw [if_pos a0, if_pos a0, f0 a0]
          · rw [if_neg a0, if_neg a0]
            by_cases a1 : jur (B 0) (B 7) (c * 3 + 1) = 1
            · rw [if_pos a1, if_pos a1, f1 a1]
            · rw [if_neg a1, if_neg a1]
              by_cases a2 : jur (B 0) (B 7) (c * 3 + 2) = 1
              · rw [if_pos a2, if_pos a2, f2 a2]
              · rw [if_neg a2, if_neg a2]
        rw [hju, hjo]
      rw [hres]
      clear hres
      have hUr : ∀ z : Int, 0 ≤ U z ∧ U z ≤ 9 := fun z => by rw [← hU]; exact jur_r _ _ _
      have hsr : ∀ n : Nat, n ≤ 3 → (0 ≤ jsM U n ∧ jsM U n ≤ 9 * n) ∧ (0 ≤ jmO U n ∧ jmO U n ≤ 9) ∧ (0 ≤ jlE U n ∧ jlE U n ≤ 5) := by
        intro n
        induction n with
        | zero => exact fun _ => ⟨⟨(by decide : (0 : Int) ≤ 0), (by decide : (0 : Int) ≤ 9 * ((0 : Nat) : Int))⟩, ⟨(by decide : (0 : Int) ≤ 0), (by decide : (0 : Int) ≤ 9)⟩, ⟨(by decide : (0 : Int) ≤ 5), (by decide : (5 : Int) ≤ 5)⟩⟩
        | succ n ih =>
          intro hn
          obtain ⟨i1, i2, i3⟩ := ih (by omega)
          have hu := hUr n
          refine ⟨?_, ?_, ?_⟩
          · show 0 ≤ jsM U n + U n ∧ jsM U n + U n ≤ 9 * ((n + 1 : Nat) : Int)
            omega
          · show 0 ≤ (if jmO U n < U n then U n else jmO U n) ∧ (if jmO U n < U n then U n else jmO U n) ≤ 9
            split <;> omega
          · show 0 ≤ (if U n < jlE U n then U n else jlE U n) ∧ (if U n < jlE U n then U n else jlE U n) ≤ 5
            split <;> omega
      have key : zRun Γ md_X7_misses (d + 3) none 89 [some (.ref 167), some (.int (jI c)), some (.int (jI g)), some (.int (jI k)), some (.int (jI 0)), some (.int (jI 0)), some (.int (jI 5)), some (.int (jI (-1))), some (.int (jI (2 - 0))), none] [] (n9, g9, 0, 0) (mw S st ik th tx ty w) (zDone md_X7_misses (some (.int (jI (if k = 0 then (if g = 0 then jlE U 3 else jsM U 3 - jmO U 3) else if (if g = 0 then jlE U 3 else jsM U 3 - jmO U 3) = 1 then joN U T 3 else -1)))) (mw S st ik th tx ty w) n9 g9) := by
        refine zfor1 0 3 (fun i (a : Int × Int × Int × Int × Option Value) => a.1 = jsM U i.toNat ∧ a.2.1 = jmO U i.toNat ∧ a.2.2.1 = jlE U i.toNat ∧ a.2.2.2.1 = joN U T i.toNat) (fun i a => [some (.ref 167), some (.int (jI c)), some (.int (jI g)), some (.int (jI k)), some (.int (jI a.1)), some (.int (jI a.2.1)), some (.int (jI a.2.2.1)), some (.int (jI a.2.2.2.1)), some (.int (jI (2 - i))), a.2.2.2.2]) (fun _ _ => (mw S st ik th tx ty w)) (0, 0, 5, -1, none) ⟨rfl, rfl, rfl, rfl⟩ ?_ ?_
        · intro i a i0 i1 hI hk2
          obtain ⟨a1, a2, a3, a4, o9⟩ := a
          obtain ⟨x1, x2, x3, x4⟩ := hI
          simp only at x1 x2 x3 x4 ⊢
          have hk3 := fun (b1 b2 b3 b4 : Int) (o : Option Value) => hk2 (b1, b2, b3, b4, o)
          simp only at hk3
          clear hk2
          have hsi := hsr i.toNat (by omega)
          have hui := hUr i
          have n1 : jsM U (i + 1).toNat = a1 + U i := by
            rw [show (i + 1).toNat = i.toNat + 1 by omega, x1]
            show jsM U i.toNat + U (i.toNat : Int) = _
            rw [show (i.toNat : Int) = i by omega]
          have n2 : jmO U (i + 1).toNat = if a2 < U i then U i else a2 := by
            rw [show (i + 1).toNat = i.toNat + 1 by omega, x2]
            show (if jmO U i.toNat < U (i.toNat : Int) then U (i.toNat : Int) else jmO U i.toNat) = _
            rw [show (i.toNat : Int) = i by omega]
          have n3 : jlE U (i + 1).toNat = if U i < a3 then U i else a3 := by
            rw [show (i + 1).toNat = i.toNat + 1 by omega, x3]
            show (if U (i.toNat : Int) < jlE U i.toNat then U (i.toNat : Int) else jlE U i.toNat) = _
            rw [show (i.toNat : Int) = i by omega]
          have n4 : joN U T (i + 1).toNat = if U i = 1 then T i else a4 := by
            rw [show (i + 1).toNat = i.toNat + 1 by omega, x4]
            show (if U (i.toNat : Int) = 1 then T (i.toNat : Int) else joN U T i.toNat) = _
            rw [show (i.toNat : Int) = i by omega]
          rw [n1, n2, n3, n4] at hk3
          rw [← x1, ← x2, ← x3] at hsi
          have L0 := L (2 - i) 0 (by omega) (Or.inl rfl)
          have L1 := L (2 - i) 1 (by omega) (Or.inr rfl)
          rw [if_pos rfl] at L0
          rw [if_neg (by decide)] at L1
          have eU : jcnt 90 (jlq B c (2 - i)) = U i := by
            rw [← hU, jlq_row (by omega)]
            exact (jur_cnt ok lk (by omega)).symm
          have eT : jgr (jlq B c (2 - i)) 90 = T i := by rw [← hT]
          rw [eU] at L0
          rw [eT] at L1
          generalize U i = Ui at hui L0 hk3
          generalize T i = Ti at L1 hk3
          clear x1 x2 x3 x4 n1 n2 n3 n4 eU eT hU hT hUr hsr
          refine zr_iload dX7_misses_89 (rfl : 89 + 2 = 91) rfl ?_
          refine zr_if_lt (tgt := 170) dX7_misses_91 (by decide) (rfl : 91 + 3 = 94) (jI_ltz (by first | omega | (simp only [bset, reduceIte, Nat.reduceEqDiff]; omega)) (by first | omega | (simp only [bset, reduceIte, Nat.reduceEqDiff]; omega))) (fun h91 => ?_) (fun h91 => ?_)
          · first
            | (exfalso; omega)
            | (
              exfalso
              omega)
          · first
            | (exfalso; omega)
            | (
              refine zr_aload_n dX7_misses_94 (rfl : 94 + 1 = 95) rfl ?_
              refine zr_iload_n dX7_misses_95 (rfl : 95 + 1 = 96) rfl ?_
              refine zr_iload dX7_misses_96 (rfl : 96 + 2 = 98) rfl ?_
              refine zr_iconst dX7_misses_98 (rfl : 98 + 1 = 99) ?_
              refine zr_fnV dX7_misses_99 (rfl : 99 + 3 = 102) l_X7_171 (L0) (by first | assumption | exact mw_167 | exact mw_168 | exact mw_169 | exact mw_170 | exact bk_0 | exact bk_1 | exact bk_2 | exact bk_3 | exact bk_4 | exact bk_5 | exact bk_6 | exact bk_7 | exact bk_8 | exact bk_9 | exact bk_10 | exact bk_11 | exact bk_12 | exact bk_13 | exact bk_14 | exact bk_15 | exact bk_16 | exact zup_self | exact (zup_ne (by first | assumption | omega)).trans (by first | assumption | exact zup_self) | exact (zup_ne (by first | assumption | omega)).trans ((zup_ne (by first | assumption | omega)).trans (by first | assumption | exact zup_self)) | exact (bk_out (by first | omega | (simp only [bset, reduceIte, Nat.reduceEqDiff]; omega))).trans (by first | exact bk_0 | exact bk_1 | exact bk_2 | exact bk_3 | exact bk_4 | exact bk_5 | exact bk_6 | exact bk_7 | exact bk_8 | exact bk_9 | exact bk_10 | exact bk_11 | exact bk_12 | exact bk_13 | exact bk_14 | exact bk_15 | exact bk_16 | exact cr_5 | exact cr_23 | exact cr_24 | exact cr_25 | exact cr_26 | exact cr_27 | exact cr_28 | exact cr_29 | exact cr_30 | assumption)) rfl rfl rfl (Nat.le_of_ble_eq_true rfl) ?_
              refine zr_istore (lv' := [_, _, _, _, _, _, _, _, _, _]) dX7_misses_102 (rfl : 102 + 2 = 104) (Nat.le_of_ble_eq_true rfl) rfl ?_
              refine zr_iload dX7_misses_104 (rfl : 104 + 2 = 106) rfl ?_
              refine zr_iload dX7_misses_106 (rfl : 106 + 2 = 108) rfl ?_
              refine zr_iadd dX7_misses_108 (rfl : 108 + 1 = 109) (by first | exact jI_add _ _ | rfl) ?_
              refine zr_istore (lv' := [_, _, _, _, _, _, _, _, _, _]) dX7_misses_109 (rfl : 109 + 2 = 111) (Nat.le_of_ble_eq_true rfl) rfl ?_
              refine zr_iload dX7_misses_111 (rfl : 111 + 2 = 113) rfl ?_
              refine zr_iload dX7_misses_113 (rfl : 113 + 2 = 115) rfl ?_
              refine zr_icmp_le (tgt := 123) dX7_misses_115 (by decide) (rfl : 115 + 3 = 118) (jI_le (by first | omega | (simp only [bset, reduceIte, Nat.reduceEqDiff]; omega)) (by first | omega | (simp only [bset, reduceIte, Nat.reduceEqDiff]; omega)) (by first | omega | (simp only [bset, reduceIte, Nat.reduceEqDiff]; omega)) (by first | omega | (simp only [bset, reduceIte, Nat.reduceEqDiff]; omega))) (fun h115 => ?_) (fun h115 => ?_)
              · first
                | (exfalso; omega)
                | (
                  refine zr_iload dX7_misses_123 (rfl : 123 + 2 = 125) rfl ?_
                  refine zr_istore (lv' := [_, _, _, _, _, _, _, _, _, _]) dX7_misses_125 (rfl : 125 + 2 = 127) (Nat.le_of_ble_eq_true rfl) rfl ?_
                  refine zr_iload dX7_misses_127 (rfl : 127 + 2 = 129) rfl ?_
                  refine zr_iload dX7_misses_129 (rfl : 129 + 2 = 131) rfl ?_
                  refine zr_icmp_ge (tgt := 139) dX7_misses_131 (by decide) (rfl : 131 + 3 = 134) (jI_le (by first | omega | (simp only [bset, reduceIte, Nat.reduceEqDiff]; omega)) (by first | omega | (simp only [bset, reduceIte, Nat.reduceEqDiff]; omega)) (by first | omega | (simp only [bset, reduceIte, Nat.reduceEqDiff]; omega)) (by first | omega | (simp only [bset, reduceIte, Nat.reduceEqDiff]; omega))) (fun h131 => ?_) (fun h131 => ?_)
                  · first
                    | (exfalso; omega)
                    | (
                      refine zr_iload dX7_misses_139 (rfl : 139 + 2 = 141) rfl ?_
                      refine zr_istore (lv' := [_, _, _, _, _, _, _, _, _, _]) dX7_misses_141 (rfl : 141 + 2 = 143) (Nat.le_of_ble_eq_true rfl) rfl ?_
                      refine zr_iload dX7_misses_143 (rfl : 143 + 2 = 145) rfl ?_
                      refine zr_iconst dX7_misses_145 (rfl : 145 + 1 = 146) ?_
                      refine zr_icmp_ne (tgt := 160) dX7_misses_146 (by decide) (rfl : 146 + 3 = 149) (jI_eq (by first | omega | (simp only [bset, reduceIte, Nat.reduceEqDiff]; omega)) (by first | omega | (simp only [bset, reduceIte, Nat.reduceEqDiff]; omega)) (by first | omega | (simp only [bset, reduceIte, Nat.reduceEqDiff]; omega)) (by first | omega | (simp only [bset, reduceIte, Nat.reduceEqDiff]; omega))) (fun h146 => ?_) (fun h146 => ?_)
                      · first
                        | (exfalso; omega)
                        | (
                          refine zr_iload dX7_misses_160 (rfl : 160 + 2 = 162) rfl ?_
                          refine zr_istore (lv' := [_, _, _, _, _, _, _, _, _, _]) dX7_misses_162 (rfl : 162 + 2 = 164) (Nat.le_of_ble_eq_true rfl) rfl ?_
                          refine zr_iinc (lv' := [_, _, _, _, _, _, _, _, _, _]) dX7_misses_164 (rfl : 164 + 3 = 167) (Nat.le_of_ble_eq_true rfl) rfl (by first | exact jI_add _ _ | rfl) rfl ?_
                          refine zr_goto (tgt := 89) dX7_misses_167 (by decide) ?_
                          rw [show 2 - i + -1 = 2 - (i + 1) by omega]
                          refine hk3 _ _ _ _ _ ⟨rfl, ?_, ?_, ?_⟩
                          · first | rw [if_pos (by omega)] | rw [if_neg (by omega)]
                          · first | rw [if_pos (by omega)] | rw [if_neg (by omega)]
                          · first | rw [if_pos (by omega)] | rw [if_neg (by omega)])
                      · first
                        | (exfalso; omega)
                        | (
                          refine zr_aload_n dX7_misses_149 (rfl : 149 + 1 = 150) rfl ?_
                          refine zr_iload_n dX7_misses_150 (rfl : 150 + 1 = 151) rfl ?_
                          refine zr_iload dX7_misses_151 (rfl : 151 + 2 = 153) rfl ?_
                          refine zr_iconst dX7_misses_153 (rfl : 153 + 1 = 154) ?_
                          refine zr_fnV dX7_misses_154 (rfl : 154 + 3 = 157) l_X7_171 (L1) (by first | assumption | exact mw_167 | exact mw_168 | exact mw_169 | exact mw_170 | exact bk_0 | exact bk_1 | exact bk_2 | exact bk_3 | exact bk_4 | exact bk_5 | exact bk_6 | exact bk_7 | exact bk_8 | exact bk_9 | exact bk_10 | exact bk_11 | exact bk_12 | exact bk_13 | exact bk_14 | exact bk_15 | exact bk_16 | exact zup_self | exact (zup_ne (by first | assumption | omega)).trans (by first | assumption | exact zup_self) | exact (zup_ne (by first | assumption | omega)).trans ((zup_ne (by first | assumption | omega)).trans (by first | assumption | exact zup_self)) | exact (bk_out (by first | omega | (simp only [bset, reduceIte, Nat.reduceEqDiff]; omega))).trans (by first | exact bk_0 | exact bk_1 | exact bk_2 | exact bk_3 | exact bk_4 | exact bk_5 | exact bk_6 | exact bk_7 | exact bk_8 | exact bk_9 | exact bk_10 | exact bk_11 | exact bk_12 | exact bk_13 | exact bk_14 | exact bk_15 | exact bk_16 | exact cr_5 | exact cr_23 | exact cr_24 | exact cr_25 | exact cr_26 | exact cr_27 | exact cr_28 | exact cr_29 | exact cr_30 | assumption)) rfl rfl rfl (Nat.le_of_ble_eq_true rfl) ?_
                          refine zr_goto (tgt := 162) dX7_misses_157 (by decide) ?_
                          refine zr_istore (lv' := [_, _, _, _, _, _, _, _, _, _]) dX7_misses_162 (rfl : 162 + 2 = 164) (Nat.le_of_ble_eq_true rfl) rfl ?_
                          refine zr_iinc (lv' := [_, _, _, _, _, _, _, _, _, _]) dX7_misses_164 (rfl : 164 + 3 = 167) (Nat.le_of_ble_eq_true rfl) rfl (by first | exact jI_add _ _ | rfl) rfl ?_
                          refine zr_goto (tgt := 89) dX7_misses_167 (by decide) ?_
                          rw [show 2 - i + -1 = 2 - (i + 1) by omega]
                          refine hk3 _ _ _ _ _ ⟨rfl, ?_, ?_, ?_⟩
                          · first | rw [if_pos (by omega)] | rw [if_neg (by omega)]
                          · first | rw [if_pos (by omega)] | rw [if_neg (by omega)]
                          · first | rw [if_pos (by omega)] | rw [if_neg (by omega)]))
                  · first
                    | (exfalso; omega)
                    | (
                      refine zr_iload dX7_misses_134 (rfl : 134 + 2 = 136) rfl ?_
                      refine zr_goto (tgt := 141) dX7_misses_136 (by decide) ?_
                      refine zr_istore (lv' := [_, _, _, _, _, _, _, _, _, _]) dX7_misses_141 (rfl : 141 + 2 = 143) (Nat.le_of_ble_eq_true rfl) rfl ?_
                      refine zr_iload dX7_misses_143 (rfl : 143 + 2 = 145) rfl ?_
                      refine zr_iconst dX7_misses_145 (rfl : 145 + 1 = 146) ?_
                      refine zr_icmp_ne (tgt := 160) dX7_misses_146 (by decide) (rfl : 146 + 3 = 149) (jI_eq (by first | omega | (simp only [bset, reduceIte, Nat.reduceEqDiff]; omega)) (by first | omega | (simp only [bset, reduceIte, Nat.reduceEqDiff]; omega)) (by first | omega | (simp only [bset, reduceIte, Nat.reduceEqDiff]; omega)) (by first | omega | (simp only [bset, reduceIte, Nat.reduceEqDiff]; omega))) (fun h146 => ?_) (fun h146 => ?_)
                      · first
                        | (exfalso; omega)
                        | (
                          refine zr_iload dX7_misses_160 (rfl : 160 + 2 = 162) rfl ?_
                          refine zr_istore (lv' := [_, _, _, _, _, _, _, _, _, _]) dX7_misses_162 (rfl : 162 + 2 = 164) (Nat.le_of_ble_eq_true rfl) rfl ?_
                          refine zr_iinc (lv' := [_, _, _, _, _, _, _, _, _, _]) dX7_misses_164 (rfl : 164 + 3 = 167) (Nat.le_of_ble_eq_true rfl) rfl (by first | exact jI_add _ _ | rfl) rfl ?_
                          refine zr_goto (tgt := 89) dX7_misses_167 (by decide) ?_
                          rw [show 2 - i + -1 = 2 - (i + 1) by omega]
                          refine hk3 _ _ _ _ _ ⟨rfl, ?_, ?_, ?_⟩
                          · first | rw [if_pos (by omega)] | rw [if_neg (by omega)]
                          · first | rw [if_pos (by omega)] | rw [if_neg (by omega)]
                          · first | rw [if_pos (by omega)] | rw [if_neg (by omega)])
                      · first
                        | (exfalso; omega)
                        | (
                          refine zr_aload_n dX7_misses_149 (rfl : 149 + 1 = 150) rfl ?_
                          refine zr_iload_n dX7_misses_150 (rfl : 150 + 1 = 151) rfl ?_
                          refine zr_iload dX7_misses_151 (rfl : 151 + 2 = 153) rfl ?_
                          refine zr_iconst dX7_misses_153 (rfl : 153 + 1 = 154) ?_
                          refine zr_fnV dX7_misses_154 (rfl : 154 + 3 = 157) l_X7_171 (L1) (by first | assumption | exact mw_167 | exact mw_168 | exact mw_169 | exact mw_170 | exact bk_0 | exact bk_1 | exact bk_2 | exact bk_3 | exact bk_4 | exact bk_5 | exact bk_6 | exact bk_7 | exact bk_8 | exact bk_9 | exact bk_10 | exact bk_11 | exact bk_12 | exact bk_13 | exact bk_14 | exact bk_15 | exact bk_16 | exact zup_self | exact (zup_ne (by first | assumption | omega)).trans (by first | assumption | exact zup_self) | exact (zup_ne (by first | assumption | omega)).trans ((zup_ne (by first | assumption | omega)).trans (by first | assumption | exact zup_self)) | exact (bk_out (by first | omega | (simp only [bset, reduceIte, Nat.reduceEqDiff]; omega))).trans (by first | exact bk_0 | exact bk_1 | exact bk_2 | exact bk_3 | exact bk_4 | exact bk_5 | exact bk_6 | exact bk_7 | exact bk_8 | exact bk_9 | exact bk_10 | exact bk_11 | exact bk_12 | exact bk_13 | exact bk_14 | exact bk_15 | exact bk_16 | exact cr_5 | exact cr_23 | exact cr_24 | exact cr_25 | exact cr_26 | exact cr_27 | exact cr_28 | exact cr_29 | exact cr_30 | assumption)) rfl rfl rfl (Nat.le_of_ble_eq_true rfl) ?_
                          refine zr_goto (tgt := 162) dX7_misses_157 (by decide) ?_
                          refine zr_istore (lv' := [_, _, _, _, _, _, _, _, _, _]) dX7_misses_162 (rfl : 162 + 2 = 164) (Nat.le_of_ble_eq_true rfl) rfl ?_
                          refine zr_iinc (lv' := [_, _, _, _, _, _, _, _, _, _]) dX7_misses_164 (rfl : 164 + 3 = 167) (Nat.le_of_ble_eq_true rfl) rfl (by first | exact jI_add _ _ | rfl) rfl ?_
                          refine zr_goto (tgt := 89) dX7_misses_167 (by decide) ?_
                          rw [show 2 - i + -1 = 2 - (i + 1) by omega]
                          refine hk3 _ _ _ _ _ ⟨rfl, ?_, ?_, ?_⟩
                          · first | rw [if_pos (by omega)] | rw [if_neg (by omega)]
                          · first | rw [if_pos (by omega)] | rw [if_neg (by omega)]
                          · first | rw [if_pos (by omega)] | rw [if_neg (by omega)])))
              · first
                | (exfalso; omega)
                | (
                  refine zr_iload dX7_misses_118 (rfl : 118 + 2 = 120) rfl ?_
                  refine zr_goto (tgt := 125) dX7_misses_120 (by decide) ?_
                  refine zr_istore (lv' := [_, _, _, _, _, _, _, _, _, _]) dX7_misses_125 (rfl : 125 + 2 = 127) (Nat.le_of_ble_eq_true rfl) rfl ?_
                  refine zr_iload dX7_misses_127 (rfl : 127 + 2 = 129) rfl ?_
                  refine zr_iload dX7_misses_129 (rfl : 129 + 2 = 131) rfl ?_
                  refine zr_icmp_ge (tgt := 139) dX7_misses_131 (by decide) (rfl : 131 + 3 = 134) (jI_le (by first | omega | (simp only [bset, reduceIte, Nat.reduceEqDiff]; omega)) (by first | omega | (simp only [bset, reduceIte, Nat.reduceEqDiff]; omega)) (by first | omega | (simp only [bset, reduceIte, Nat.reduceEqDiff]; omega)) (by first | omega | (simp only [bset, reduceIte, Nat.reduceEqDiff]; omega))) (fun h131 => ?_) (fun h131 => ?_)
                  · first
                    | (exfalso; omega)
                    | (
                      refine zr_iload dX7_misses_139 (rfl : 139 + 2 = 141) rfl ?_
                      refine zr_istore (lv' := [_, _, _, _, _, _, _, _, _, _]) dX7_misses_141 (rfl : 141 + 2 = 143) (Nat.le_of_ble_eq_true rfl) rfl ?_
                      refine zr_iload dX7_misses_143 (rfl : 143 + 2 = 145) rfl ?_
                      refine zr_iconst dX7_misses_145 (rfl : 145 + 1 = 146) ?_
                      refine zr_icmp_ne (tgt := 160) dX7_misses_146 (by decide) (rfl : 146 + 3 = 149) (jI_eq (by first | omega | (simp only [bset, reduceIte, Nat.reduceEqDiff]; omega)) (by first | omega | (simp only [bset, reduceIte, Nat.reduceEqDiff]; omega)) (by first | omega | (simp only [bset, reduceIte, Nat.reduceEqDiff]; omega)) (by first | omega | (simp only [bset, reduceIte, Nat.reduceEqDiff]; omega))) (fun h146 => ?_) (fun h146 => ?_)
                      · first
                        | (exfalso; omega)
                        | (
                          refine zr_iload dX7_misses_160 (rfl : 160 + 2 = 162) rfl ?_
                          refine zr_istore (lv' := [_, _, _, _, _, _, _, _, _, _]) dX7_misses_162 (rfl : 162 + 2 = 164) (Nat.le_of_ble_eq_true rfl) rfl ?_
                          refine zr_iinc (lv' := [_, _, _, _, _, _, _, _, _, _]) dX7_misses_164 (rfl : 164 + 3 = 167) (Nat.le_of_ble_eq_true rfl) rfl (by first | exact jI_add _ _ | rfl) rfl ?_
                          refine zr_goto (tgt := 89) dX7_misses_167 (by decide) ?_
                          rw [show 2 - i + -1 = 2 - (i + 1) by omega]
                          refine hk3 _ _ _ _ _ ⟨rfl, ?_, ?_, ?_⟩
                          · first | rw [if_pos (by omega)] | rw [if_neg (by omega)]
                          · first | rw [if_pos (by omega)] | rw [if_neg (by omega)]
                          · first | rw [if_pos (by omega)] | rw [if_neg (by omega)])
                      · first
                        | (exfalso; omega)
                        | (
                          refine zr_aload_n dX7_misses_149 (rfl : 149 + 1 = 150) rfl ?_
                          refine zr_iload_n dX7_misses_150 (rfl : 150 + 1 = 151) rfl ?_
                          refine zr_iload dX7_misses_151 (rfl : 151 + 2 = 153) rfl ?_
                          refine zr_iconst dX7_misses_153 (rfl : 153 + 1 = 154) ?_
                          refine zr_fnV dX7_misses_154 (rfl : 154 + 3 = 157) l_X7_171 (L1) (by first | assumption | exact mw_167 | exact mw_168 | exact mw_169 | exact mw_170 | exact bk_0 | exact bk_1 | exact bk_2 | exact bk_3 | exact bk_4 | exact bk_5 | exact bk_6 | exact bk_7 | exact bk_8 | exact bk_9 | exact bk_10 | exact bk_11 | exact bk_12 | exact bk_13 | exact bk_14 | exact bk_15 | exact bk_16 | exact zup_self | exact (zup_ne (by first | assumption | omega)).trans (by first | assumption | exact zup_self) | exact (zup_ne (by first | assumption | omega)).trans ((zup_ne (by first | assumption | omega)).trans (by first | assumption | exact zup_self)) | exact (bk_out (by first | omega | (simp only [bset, reduceIte, Nat.reduceEqDiff]; omega))).trans (by first | exact bk_0 | exact bk_1 | exact bk_2 | exact bk_3 | exact bk_4 | exact bk_5 | exact bk_6 | exact bk_7 | exact bk_8 | exact bk_9 | exact bk_10 | exact bk_11 | exact bk_12 | exact bk_13 | exact bk_14 | exact bk_15 | exact bk_16 | exact cr_5 | exact cr_23 | exact cr_24 | exact cr_25 | exact cr_26 | exact cr_27 | exact cr_28 | exact cr_29 | exact cr_30 | assumption)) rfl rfl rfl (Nat.le_of_ble_eq_true rfl) ?_
                          refine zr_goto (tgt := 162) dX7_misses_157 (by decide) ?_
                          refine zr_istore (lv' := [_, _, _, _, _, _, _, _, _, _]) dX7_misses_162 (rfl : 162 + 2 = 164) (Nat.le_of_ble_eq_true rfl) rfl ?_
                          refine zr_iinc (lv' := [_, _, _, _, _, _, _, _, _, _]) dX7_misses_164 (rfl : 164 + 3 = 167) (Nat.le_of_ble_eq_true rfl) rfl (by first | exact jI_add _ _ | rfl) rfl ?_
                          refine zr_goto (tgt := 89) dX7_misses_167 (by decide) ?_
                          rw [show 2 - i + -1 = 2 - (i + 1) by omega]
                          refine hk3 _ _ _ _ _ ⟨rfl, ?_, ?_, ?_⟩
                          · first | rw [if_pos (by omega)] | rw [if_neg (by omega)]
                          · first | rw [if_pos (by omega)] | rw [if_neg (by omega)]
                          · first | rw [if_pos (by omega)] | rw [if_neg (by omega)]))
                  · first
                    | (exfalso; omega)
                    | (
                      refine zr_iload dX7_misses_134 (rfl : 134 + 2 = 136) rfl ?_
                      refine zr_goto (tgt := 141) dX7_misses_136 (by decide) ?_
                      refine zr_istore (lv' := [_, _, _, _, _, _, _, _, _, _]) dX7_misses_141 (rfl : 141 + 2 = 143) (Nat.le_of_ble_eq_true rfl) rfl ?_
                      refine zr_iload dX7_misses_143 (rfl : 143 + 2 = 145) rfl ?_
                      refine zr_iconst dX7_misses_145 (rfl : 145 + 1 = 146) ?_
                      refine zr_icmp_ne (tgt := 160) dX7_misses_146 (by decide) (rfl : 146 + 3 = 149) (jI_eq (by first | omega | (simp only [bset, reduceIte, Nat.reduceEqDiff]; omega)) (by first | omega | (simp only [bset, reduceIte, Nat.reduceEqDiff]; omega)) (by first | omega | (simp only [bset, reduceIte, Nat.reduceEqDiff]; omega)) (by first | omega | (simp only [bset, reduceIte, Nat.reduceEqDiff]; omega))) (fun h146 => ?_) (fun h146 => ?_)
                      · first
                        | (exfalso; omega)
                        | (
                          refine zr_iload dX7_misses_160 (rfl : 160 + 2 = 162) rfl ?_
                          refine zr_istore (lv' := [_, _, _, _, _, _, _, _, _, _]) dX7_misses_162 (rfl : 162 + 2 = 164) (Nat.le_of_ble_eq_true rfl) rfl ?_
                          refine zr_iinc (lv' := [_, _, _, _, _, _, _, _, _, _]) dX7_misses_164 (rfl : 164 + 3 = 167) (Nat.le_of_ble_eq_true rfl) rfl (by first | exact jI_add _ _ | rfl) rfl ?_
                          refine zr_goto (tgt := 89) dX7_misses_167 (by decide) ?_
                          rw [show 2 - i + -1 = 2 - (i + 1) by omega]
                          refine hk3 _ _ _ _ _ ⟨rfl, ?_, ?_, ?_⟩
                          · first | rw [if_pos (by omega)] | rw [if_neg (by omega)]
                          · first | rw [if_pos (by omega)] | rw [if_neg (by omega)]
                          · first | rw [if_pos (by omega)] | rw [if_neg (by omega)])
                      · first
                        | (exfalso; omega)
                        | (
                          refine zr_aload_n dX7_misses_149 (rfl : 149 + 1 = 150) rfl ?_
                          refine zr_iload_n dX7_misses_150 (rfl : 150 + 1 = 151) rfl ?_
                          refine zr_iload dX7_misses_151 (rfl : 151 + 2 = 153) rfl ?_
                          refine zr_iconst dX7_misses_153 (rfl : 153 + 1 = 154) ?_
                          refine zr_fnV dX7_misses_154 (rfl : 154 + 3 = 157) l_X7_171 (L1) (by first | assumption | exact mw_167 | exact mw_168 | exact mw_169 | exact mw_170 | exact bk_0 | exact bk_1 | exact bk_2 | exact bk_3 | exact bk_4 | exact bk_5 | exact bk_6 | exact bk_7 | exact bk_8 | exact bk_9 | exact bk_10 | exact bk_11 | exact bk_12 | exact bk_13 | exact bk_14 | exact bk_15 | exact bk_16 | exact zup_self | exact (zup_ne (by first | assumption | omega)).trans (by first | assumption | exact zup_self) | exact (zup_ne (by first | assumption | omega)).trans ((zup_ne (by first | assumption | omega)).trans (by first | assumption | exact zup_self)) | exact (bk_out (by first | omega | (simp only [bset, reduceIte, Nat.reduceEqDiff]; omega))).trans (by first | exact bk_0 | exact bk_1 | exact bk_2 | exact bk_3 | exact bk_4 | exact bk_5 | exact bk_6 | exact bk_7 | exact bk_8 | exact bk_9 | exact bk_10 | exact bk_11 | exact bk_12 | exact bk_13 | exact bk_14 | exact bk_15 | exact bk_16 | exact cr_5 | exact cr_23 | exact cr_24 | exact cr_25 | exact cr_26 | exact cr_27 | exact cr_28 | exact cr_29 | exact cr_30 | assumption)) rfl rfl rfl (Nat.le_of_ble_eq_true rfl) ?_
                          refine zr_goto (tgt := 162) dX7_misses_157 (by decide) ?_
                          refine zr_istore (lv' := [_, _, _, _, _, _, _, _, _, _]) dX7_misses_162 (rfl : 162 + 2 = 164) (Nat.le_of_ble_eq_true rfl) rfl ?_
                          refine zr_iinc (lv' := [_, _, _, _, _, _, _, _, _, _]) dX7_misses_164 (rfl : 164 + 3 = 167) (Nat.le_of_ble_eq_true rfl) rfl (by first | exact jI_add _ _ | rfl) rfl ?_
                          refine zr_goto (tgt := 89) dX7_misses_167 (by decide) ?_
                          rw [show 2 - i + -1 = 2 - (i + 1) by omega]
                          refine hk3 _ _ _ _ _ ⟨rfl, ?_, ?_, ?_⟩
                          · first | rw [if_pos (by omega)] | rw [if_neg (by omega)]
                          · first | rw [if_pos (by omega)] | rw [if_neg (by omega)]
                          · first | rw [if_pos (by omega)] | rw [if_neg (by omega)]))))
        · intro a hI
          obtain ⟨a1, a2, a3, a4, o9⟩ := a
          obtain ⟨x1, x2, x3, x4⟩ := hI
          simp only at x1 x2 x3 x4 ⊢
          have h3 := hsr 3 (by omega)
          rw [show a1 = jsM U 3 from x1, show a2 = jmO U 3 from x2, show a3 = jlE U 3 from x3, show a4 = joN U T 3 from x4]
          generalize jsM U 3 = s3 at h3
          generalize jmO U 3 = m3 at h3
          generalize jlE U 3 = l3 at h3
          generalize joN U T 3 = o3
          clear x1 x2 x3 x4 hU hT hUr hsr
          rw [show (2 : Int) - ((0 : Int) + ((3 : Nat) : Int)) = -1 by omega]
          refine zr_iload dX7_misses_89 (rfl : 89 + 2 = 91) rfl ?_
          refine zr_if_lt (tgt := 170) dX7_misses_91 (by decide) (rfl : 91 + 3 = 94) (jI_ltz (by first | omega | (simp only [bset, reduceIte, Nat.reduceEqDiff]; omega)) (by first | omega | (simp only [bset, reduceIte, Nat.reduceEqDiff]; omega))) (fun h91 => ?_) (fun h91 => ?_)
          · first
            | (exfalso; omega)
            | (
              refine zr_iload_n dX7_misses_170 (rfl : 170 + 1 = 171) rfl ?_
              refine zr_if_ne (tgt := 179) dX7_misses_171 (by decide) (rfl : 171 + 3 = 174) (by first | exact jb_iff | exact jI_z (by first | omega | (simp only [bset, reduceIte, Nat.reduceEqDiff]; omega)) (by first | omega | (simp only [bset, reduceIte, Nat.reduceEqDiff]; omega))) (fun h171 => ?_) (fun h171 => ?_)
              · first
                | (exfalso; omega)
                | (
                  refine zr_iload dX7_misses_179 (rfl : 179 + 2 = 181) rfl ?_
                  refine zr_iload dX7_misses_181 (rfl : 181 + 2 = 183) rfl ?_
                  refine zr_isub dX7_misses_183 (rfl : 183 + 1 = 184) (by first | exact jI_sub _ _ | rfl) ?_
                  refine zr_istore (lv' := [_, _, _, _, _, _, _, _, _, _]) dX7_misses_184 (rfl : 184 + 2 = 186) (Nat.le_of_ble_eq_true rfl) rfl ?_
                  refine zr_iload_n dX7_misses_186 (rfl : 186 + 1 = 187) rfl ?_
                  refine zr_if_ne (tgt := 195) dX7_misses_187 (by decide) (rfl : 187 + 3 = 190) (by first | exact jb_iff | exact jI_z (by first | omega | (simp only [bset, reduceIte, Nat.reduceEqDiff]; omega)) (by first | omega | (simp only [bset, reduceIte, Nat.reduceEqDiff]; omega))) (fun h187 => ?_) (fun h187 => ?_)
                  · first
                    | (exfalso; omega)
                    | (
                      refine zr_iload dX7_misses_195 (rfl : 195 + 2 = 197) rfl ?_
                      refine zr_iconst dX7_misses_197 (rfl : 197 + 1 = 198) ?_
                      refine zr_icmp_ne (tgt := 206) dX7_misses_198 (by decide) (rfl : 198 + 3 = 201) (jI_eq (by first | omega | (simp only [bset, reduceIte, Nat.reduceEqDiff]; omega)) (by first | omega | (simp only [bset, reduceIte, Nat.reduceEqDiff]; omega)) (by first | omega | (simp only [bset, reduceIte, Nat.reduceEqDiff]; omega)) (by first | omega | (simp only [bset, reduceIte, Nat.reduceEqDiff]; omega))) (fun h198 => ?_) (fun h198 => ?_)
                      · first
                        | (exfalso; omega)
                        | (
                          refine zr_iconst dX7_misses_206 (rfl : 206 + 1 = 207) ?_
                          refine zr_iret dX7_misses_207 rfl rfl ?_ rfl rfl rfl
                          (repeat (first | rw [if_pos (by omega)] | rw [if_neg (by omega)])))
                      · first
                        | (exfalso; omega)
                        | (
                          refine zr_iload dX7_misses_201 (rfl : 201 + 2 = 203) rfl ?_
                          refine zr_goto (tgt := 207) dX7_misses_203 (by decide) ?_
                          refine zr_iret dX7_misses_207 rfl rfl ?_ rfl rfl rfl
                          (repeat (first | rw [if_pos (by omega)] | rw [if_neg (by omega)]))))
                  · first
                    | (exfalso; omega)
                    | (
                      refine zr_iload dX7_misses_190 (rfl : 190 + 2 = 192) rfl ?_
                      refine zr_goto (tgt := 207) dX7_misses_192 (by decide) ?_
                      refine zr_iret dX7_misses_207 rfl rfl ?_ rfl rfl rfl
                      (repeat (first | rw [if_pos (by omega)] | rw [if_neg (by omega)]))))
              · first
                | (exfalso; omega)
                | (
                  refine zr_iload dX7_misses_174 (rfl : 174 + 2 = 176) rfl ?_
                  refine zr_goto (tgt := 184) dX7_misses_176 (by decide) ?_
                  refine zr_istore (lv' := [_, _, _, _, _, _, _, _, _, _]) dX7_misses_184 (rfl : 184 + 2 = 186) (Nat.le_of_ble_eq_true rfl) rfl ?_
                  refine zr_iload_n dX7_misses_186 (rfl : 186 + 1 = 187) rfl ?_
                  refine zr_if_ne (tgt := 195) dX7_misses_187 (by decide) (rfl : 187 + 3 = 190) (by first | exact jb_iff | exact jI_z (by first | omega | (simp only [bset, reduceIte, Nat.reduceEqDiff]; omega)) (by first | omega | (simp only [bset, reduceIte, Nat.reduceEqDiff]; omega))) (fun h187 => ?_) (fun h187 => ?_)
                  · first
                    | (exfalso; omega)
                    | (
                      refine zr_iload dX7_misses_195 (rfl : 195 + 2 = 197) rfl ?_
                      refine zr_iconst dX7_misses_197 (rfl : 197 + 1 = 198) ?_
                      refine zr_icmp_ne (tgt := 206) dX7_misses_198 (by decide) (rfl : 198 + 3 = 201) (jI_eq (by first | omega | (simp only [bset, reduceIte, Nat.reduceEqDiff]; omega)) (by first | omega | (simp only [bset, reduceIte, Nat.reduceEqDiff]; omega)) (by first | omega | (simp only [bset, reduceIte, Nat.reduceEqDiff]; omega)) (by first | omega | (simp only [bset, reduceIte, Nat.reduceEqDiff]; omega))) (fun h198 => ?_) (fun h198 => ?_)
                      · first
                        | (exfalso; omega)
                        | (
                          refine zr_iconst dX7_misses_206 (rfl : 206 + 1 = 207) ?_
                          refine zr_iret dX7_misses_207 rfl rfl ?_ rfl rfl rfl
                          (repeat (first | rw [if_pos (by omega)] | rw [if_neg (by omega)])))
                      · first
                        | (exfalso; omega)
                        | (
                          refine zr_iload dX7_misses_201 (rfl : 201 + 2 = 203) rfl ?_
                          refine zr_goto (tgt := 207) dX7_misses_203 (by decide) ?_
                          refine zr_iret dX7_misses_207 rfl rfl ?_ rfl rfl rfl
                          (repeat (first | rw [if_pos (by omega)] | rw [if_neg (by omega)]))))
                  · first
                    | (exfalso; omega)
                    | (
                      refine zr_iload dX7_misses_190 (rfl : 190 + 2 = 192) rfl ?_
                      refine zr_goto (tgt := 207) dX7_misses_192 (by decide) ?_
                      refine zr_iret dX7_misses_207 rfl rfl ?_ rfl rfl rfl
                      (repeat (first | rw [if_pos (by omega)] | rw [if_neg (by omega)])))))
          · first
            | (exfalso; omega)
            | (
              exfalso
              omega)
      refine zr_aload_n dX7_misses_0 (rfl : 0 + 1 = 1) rfl ?_
      refine zr_iload_n dX7_misses_1 (rfl : 1 + 1 = 2) rfl ?_
      refine zr_fnV dX7_misses_2 (rfl : 2 + 3 = 5) l_X7_81 (m_isWhole c hc h ok lk) (by first | assumption | exact mw_167 | exact mw_168 | exact mw_169 | exact mw_170 | exact bk_0 | exact bk_1 | exact bk_2 | exact bk_3 | exact bk_4 | exact bk_5 | exact bk_6 | exact bk_7 | exact bk_8 | exact bk_9 | exact bk_10 | exact bk_11 | exact bk_12 | exact bk_13 | exact bk_14 | exact bk_15 | exact bk_16 | exact zup_self | exact (zup_ne (by first | assumption | omega)).trans (by first | assumption | exact zup_self) | exact (zup_ne (by first | assumption | omega)).trans ((zup_ne (by first | assumption | omega)).trans (by first | assumption | exact zup_self)) | exact (bk_out (by first | omega | (simp only [bset, reduceIte, Nat.reduceEqDiff]; omega))).trans (by first | exact bk_0 | exact bk_1 | exact bk_2 | exact bk_3 | exact bk_4 | exact bk_5 | exact bk_6 | exact bk_7 | exact bk_8 | exact bk_9 | exact bk_10 | exact bk_11 | exact bk_12 | exact bk_13 | exact bk_14 | exact bk_15 | exact bk_16 | exact cr_5 | exact cr_23 | exact cr_24 | exact cr_25 | exact cr_26 | exact cr_27 | exact cr_28 | exact cr_29 | exact cr_30 | assumption)) rfl rfl rfl (Nat.le_of_ble_eq_true rfl) ?_
      refine zr_if_ne (tgt := 10) dX7_misses_5 (by decide) (rfl : 5 + 3 = 8) (by first | exact jb_iff | exact jI_z (by first | omega | (simp only [bset, reduceIte, Nat.reduceEqDiff]; omega)) (by first | omega | (simp only [bset, reduceIte, Nat.reduceEqDiff]; omega))) (fun h5 => ?_) (fun h5 => ?_)
      · first
        | (exfalso; omega)
        | (
          refine zr_iload_n dX7_misses_10 (rfl : 10 + 1 = 11) rfl ?_
          refine zr_iconst dX7_misses_11 (rfl : 11 + 1 = 12) ?_
          refine zr_icmp_eq (tgt := 20) dX7_misses_12 (by decide) (rfl : 12 + 3 = 15) (jI_eq (by first | omega | (simp only [bset, reduceIte, Nat.reduceEqDiff]; omega)) (by first | omega | (simp only [bset, reduceIte, Nat.reduceEqDiff]; omega)) (by first | omega | (simp only [bset, reduceIte, Nat.reduceEqDiff]; omega)) (by first | omega | (simp only [bset, reduceIte, Nat.reduceEqDiff]; omega))) (fun h12 => ?_) (fun h12 => ?_)
          · first
            | (exfalso; omega)
            | (
              exfalso
              omega)
          · first
            | (exfalso; omega)
            | (
              refine zr_iload_n dX7_misses_15 (rfl : 15 + 1 = 16) rfl ?_
              refine zr_iconst dX7_misses_16 (rfl : 16 + 1 = 17) ?_
              refine zr_icmp_ne (tgt := 74) dX7_misses_17 (by decide) (rfl : 17 + 3 = 20) (jI_eq (by first | omega | (simp only [bset, reduceIte, Nat.reduceEqDiff]; omega)) (by first | omega | (simp only [bset, reduceIte, Nat.reduceEqDiff]; omega)) (by first | omega | (simp only [bset, reduceIte, Nat.reduceEqDiff]; omega)) (by first | omega | (simp only [bset, reduceIte, Nat.reduceEqDiff]; omega))) (fun h17 => ?_) (fun h17 => ?_)
              · first
                | (exfalso; omega)
                | (
                  refine zr_iconst dX7_misses_74 (rfl : 74 + 1 = 75) ?_
                  refine zr_istore (lv' := [_, _, _, _, _, _, _, _, _, _]) dX7_misses_75 (rfl : 75 + 2 = 77) (Nat.le_of_ble_eq_true rfl) rfl ?_
                  refine zr_iconst dX7_misses_77 (rfl : 77 + 1 = 78) ?_
                  refine zr_istore (lv' := [_, _, _, _, _, _, _, _, _, _]) dX7_misses_78 (rfl : 78 + 2 = 80) (Nat.le_of_ble_eq_true rfl) rfl ?_
                  refine zr_iconst dX7_misses_80 (rfl : 80 + 1 = 81) ?_
                  refine zr_istore (lv' := [_, _, _, _, _, _, _, _, _, _]) dX7_misses_81 (rfl : 81 + 2 = 83) (Nat.le_of_ble_eq_true rfl) rfl ?_
                  refine zr_iconst dX7_misses_83 (rfl : 83 + 1 = 84) ?_
                  refine zr_istore (lv' := [_, _, _, _, _, _, _, _, _, _]) dX7_misses_84 (rfl : 84 + 2 = 86) (Nat.le_of_ble_eq_true rfl) rfl ?_
                  refine zr_iconst dX7_misses_86 (rfl : 86 + 1 = 87) ?_
                  refine zr_istore (lv' := [_, _, _, _, _, _, _, _, _, _]) dX7_misses_87 (rfl : 87 + 2 = 89) (Nat.le_of_ble_eq_true rfl) rfl ?_
                  exact key)
              · first
                | (exfalso; omega)
                | (
                  exfalso
                  omega)))
      · first
        | (exfalso; omega)
        | (
          refine zr_iconst dX7_misses_8 (rfl : 8 + 1 = 9) ?_
          refine zr_iret dX7_misses_9 rfl rfl ?_ rfl rfl rfl
          first | rfl | rw [jb_pos (by first | assumption | omega)] | rw [jb_neg (by first | assumption | omega)] | rw [if_pos (by first | assumption | omega)] | rw [if_neg (by first | assumption | omega)])
  · rw [if_neg hw]
    refine zFn.of_run (lv := [some (.ref 167), some (.int (jI c)), some (.int (jI g)), some (.int (jI k)), none, none, none, none, none, none]) (by decide) rfl (Nat.le_of_ble_eq_true rfl) rfl (fun n9 g9 => ?_)
    refine zr_aload_n dX7_misses_0 (rfl : 0 + 1 = 1) rfl ?_
    refine zr_iload_n dX7_misses_1 (rfl : 1 + 1 = 2) rfl ?_
    refine zr_fnV dX7_misses_2 (rfl : 2 + 3 = 5) l_X7_81 (m_isWhole c hc h ok lk) (by first | assumption | exact mw_167 | exact mw_168 | exact mw_169 | exact mw_170 | exact bk_0 | exact bk_1 | exact bk_2 | exact bk_3 | exact bk_4 | exact bk_5 | exact bk_6 | exact bk_7 | exact bk_8 | exact bk_9 | exact bk_10 | exact bk_11 | exact bk_12 | exact bk_13 | exact bk_14 | exact bk_15 | exact bk_16 | exact zup_self | exact (zup_ne (by first | assumption | omega)).trans (by first | assumption | exact zup_self) | exact (zup_ne (by first | assumption | omega)).trans ((zup_ne (by first | assumption | omega)).trans (by first | assumption | exact zup_self)) | exact (bk_out (by first | omega | (simp only [bset, reduceIte, Nat.reduceEqDiff]; omega))).trans (by first | exact bk_0 | exact bk_1 | exact bk_2 | exact bk_3 | exact bk_4 | exact bk_5 | exact bk_6 | exact bk_7 | exact bk_8 | exact bk_9 | exact bk_10 | exact bk_11 | exact bk_12 | exact bk_13 | exact bk_14 | exact bk_15 | exact bk_16 | exact cr_5 | exact cr_23 | exact cr_24 | exact cr_25 | exact cr_26 | exact cr_27 | exact cr_28 | exact cr_29 | exact cr_30 | assumption)) rfl rfl rfl (Nat.le_of_ble_eq_true rfl) ?_
    refine zr_if_ne (tgt := 10) dX7_misses_5 (by decide) (rfl : 5 + 3 = 8) (by first | exact jb_iff | exact jI_z (by first | omega | (simp only [bset, reduceIte, Nat.reduceEqDiff]; omega)) (by first | omega | (simp only [bset, reduceIte, Nat.reduceEqDiff]; omega))) (fun h5 => ?_) (fun h5 => ?_)
    · first
      | (exfalso; omega)
      | (
        exfalso
        omega)
    · first
      | (exfalso; omega)
      | (
        refine zr_iconst dX7_misses_8 (rfl : 8 + 1 = 9) ?_
        refine zr_iret dX7_misses_9 rfl rfl ?_ rfl rfl rfl
        first | rfl | rw [jb_pos (by first | assumption | omega)] | rw [jb_neg (by first | assumption | omega)] | rw [if_pos (by first | assumption | omega)] | rw [if_neg (by first | assumption | omega)])
end LA

