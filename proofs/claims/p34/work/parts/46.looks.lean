/-! the law's looks, its small methods -/
def zu0 : zW := fun _ => none
section LK
variable {Γ : zΓ} {d : Nat} {σ : zC} {τ : zTau} {u w : zW} {B : zB}
theorem lc_5 : bk 6 B (cr σ τ u) 5 = some (zC5 σ.old σ.sc) := cr_at (by omega) cr_5
theorem w_count (k : Int) (h : 0 ≤ k ∧ k < 15) (ok : jok B) : zFnH Γ md_L_count (d + 8) [.ref 5, .int (jI k)] (bk 6 B (cr σ τ u)) (some (.int (jI (jct B σ.sc k)))) (bk 6 B (cr σ τ u)) := fun n g => lo_count lc_5 (s_count (d := d + 2) k h ok) n g
theorem w_numberOf (n k : Int) (h : (1 ≤ n ∧ n ≤ 90) ∧ 0 ≤ k ∧ k < 4) (ok : jok B) : zFnH Γ md_L_numberOf (d + 8) [.ref 5, .int (jI n), .int (jI k)] (bk 6 B (cr σ τ u)) (some (.int (jI (jno B n k)))) (bk 6 B (cr σ τ u)) := fun n9 g9 => lo_numberOf lc_5 (s_numberOf (d := d + 2) n k h ok) n9 g9
theorem w_called (a k : Int) (ha : j32 a) (h : 0 ≤ a ∧ 0 ≤ k ∧ k < 2) (ok : jok B) : zFnH Γ md_L_called (d + 8) [.ref 5, .int (jI a), .int (jI k)] (bk 6 B (cr σ τ u)) (some (.int (jI (jcl B a k)))) (bk 6 B (cr σ τ u)) := fun n9 g9 => lo_called lc_5 (s_call (d := d + 2) a k ha h ok) n9 g9
theorem w_at (c r k : Int) (h : (0 ≤ c ∧ c < 6) ∧ (0 ≤ r ∧ r < 3) ∧ 0 ≤ k ∧ k < 9) : zFnH Γ md_L_at (d + 8) [.ref 5, .int (jI c), .int (jI r), .int (jI k)] (bk 6 B (cr σ τ u)) (some (.int (jI (B 0 ((c * 3 + r) * 9 + k))))) (bk 6 B (cr σ τ u)) := fun n9 g9 => lo_at lc_5 (s_at (d := d + 2) c r k h) n9 g9
theorem w_cardOf (c k : Int) (h : 0 ≤ c ∧ c < 6) (h2 : 0 ≤ k ∧ k < 9) (ok : jok B) : zFnH Γ md_L_cardOf (d + 8) [.ref 5, .int (jI c), .int (jI k)] (bk 6 B (cr σ τ u)) (some (.int (jI (jcd B c k)))) (bk 6 B (cr σ τ u)) := fun n9 g9 => lo_cardOf lc_5 (s_cardOf (d := d + 2) c k h h2 ok) n9 g9
theorem w_gameOf (g k : Int) (h : 0 ≤ g ∧ g < 4) (h2 : 0 ≤ k ∧ k < 4) (ok : jok B) : zFnH Γ md_L_gameOf (d + 8) [.ref 5, .int (jI g), .int (jI k)] (bk 6 B (cr σ τ u)) (some (.int (jI (jga B g k)))) (bk 6 B (cr σ τ u)) := fun n9 g9 => lo_gameOf lc_5 (s_gameOf (d := d + 2) g k h h2 ok) n9 g9
theorem w_setting (s : Int) (h : 0 ≤ s ∧ s < 3) : zFnH Γ md_L_setting (d + 8) [.ref 5, .int (jI s)] (bk 6 B (cr σ τ u)) (some (.int (jI (B 23 s)))) (bk 6 B (cr σ τ u)) := fun n9 g9 => lo_setting lc_5 (s_setting (d := d + 2) s h) n9 g9
theorem w_whyNot (c r n : Int) (h : (0 ≤ c ∧ c < 6) ∧ 0 ≤ r ∧ r < 3) (h2 : 1 ≤ n ∧ n ≤ 90) (ok : jok B) : zFnH Γ md_L_whyNot (d + 8) [.ref 5, .int (jI c), .int (jI r), .int (jI n)] (bk 6 B (cr σ τ u)) (some (.int (jI (jrap B (c * 3 + r) n)))) (bk 6 B (cr σ τ u)) := fun n9 g9 => lo_whyNot lc_5 (s_whyNot (d := d + 2) c r n h h2 ok) n9 g9
theorem w_ifClaimed (c g : Int) (h : (0 ≤ c ∧ c < 6) ∧ 0 ≤ g ∧ g < 4) (ok : jok B) : zFnH Γ md_L_ifClaimed (d + 8) [.ref 5, .int (jI c), .int (jI g)] (bk 6 B (cr σ τ u)) (some (.int (jI (jic B c g)))) (bk 6 B (cr σ τ u)) := fun n9 g9 => lo_ifClaimed lc_5 (s_ifClaimed (d := d + 2) c g h ok) n9 g9
theorem w_missing (c g k : Int) (h : (0 ≤ c ∧ c < 6) ∧ 0 ≤ g ∧ g < 4) (h2 : 0 ≤ k ∧ k < 2) (ok : jok B) : zFnH Γ md_L_missing (d + 8) [.ref 5, .int (jI c), .int (jI g), .int (jI k)] (bk 6 B (cr σ τ u)) (some (.int (jI (jms B c g k)))) (bk 6 B (cr σ τ u)) := fun n9 g9 => lo_missing lc_5 (s_missing (d := d + 2) c g k h h2 ok) n9 g9
theorem w_fullAt (c k : Int) (h : 0 ≤ c ∧ c < 6) (h2 : 0 ≤ k ∧ k < 2) (ok : jok B) : ∃ τ', zFnH Γ md_L_fullAt (d + 8) [.ref 5, .int (jI c), .int (jI k)] (bk 6 B (cr σ τ u)) (some (.int (jI (jfa B c k)))) (bk 6 B (cr σ τ' u)) := by
  obtain ⟨τ', hf⟩ := s_fullAt (Γ := Γ) (d := d + 2) (σ := σ) (τ := τ) (u := u) c k h h2 ok
  exact ⟨τ', fun n9 g9 => lo_fullAt lc_5 hf n9 g9⟩
theorem w_next (m : Int) (h : 1 ≤ m ∧ m ≤ 90) (ok : jok B) : ∃ τ', zFnH Γ md_L_next (d + 8) [.ref 5, .int (jI m)] (bk 6 B (cr σ τ u)) (some (.int (jI (jnb B m)))) (bk 6 B (cr σ τ' u)) := by
  obtain ⟨τ', hf⟩ := s_next (Γ := Γ) (d := d + 2) (σ := σ) (τ := τ) (u := u) m h ok
  exact ⟨τ', fun n9 g9 => lo_next lc_5 hf n9 g9⟩
/-! what count tells -/
theorem jct_0 (sc : Int) : jct B sc 0 = B 2 0 := rfl
theorem jct_1 (sc : Int) : jct B sc 1 = jcnt 6 (fun c => decide (jcs (B 0) c = 15)) := rfl
theorem jct_2 (sc : Int) : jct B sc 2 = jbc (B 11 0) := rfl
theorem jct_3 (sc : Int) : jct B sc 3 = B 16 0 := rfl
theorem jct_4 (sc : Int) : jct B sc 4 = B 17 0 := rfl
theorem jct_5 (sc : Int) : jct B sc 5 = B 18 0 := rfl
theorem jct_6 (sc : Int) : jct B sc 6 = B 19 0 := rfl
theorem jct_7 (sc : Int) : jct B sc 7 = B 4 0 := rfl
theorem jct_8 (sc : Int) : jct B sc 8 = B 12 0 := rfl
theorem jct_9 (sc : Int) : jct B sc 9 = B 13 0 := rfl
theorem jct_10 (sc : Int) : jct B sc 10 = B 20 0 := rfl
theorem jct_11 (sc : Int) : jct B sc 11 = B 21 0 := rfl
theorem jct_14 (sc : Int) : jct B sc 14 = sc := rfl
theorem jcd_0 (c : Int) : jcd B c 0 = jcs (B 0) c := rfl
theorem jcd_1 (c : Int) : jcd B c 1 = jb (jcs (B 0) c = 15) := rfl
theorem jcd_2 (c : Int) : jcd B c 2 = jbit (B 11 0) c := jb_bit _ _
theorem jcd_3 (c : Int) : jcd B c 3 = jmc (B 0) (B 7) c := rfl
theorem jcd_4 (c : Int) : jcd B c 4 = jmc (B 0) (B 8) c := rfl
theorem jcd_6 (c : Int) : jcd B c 6 = jgw (B 9) c := rfl
theorem jcd_7 (c : Int) : jcd B c 7 = B 14 c := rfl
theorem jcd_8 (c : Int) : jcd B c 8 = B 15 c := rfl
theorem jga_0 (g : Int) : jga B g 0 = B 9 g := rfl
theorem jga_1 (g : Int) : jga B g 1 = B 10 g := rfl
theorem jga_2 (g : Int) : jga B g 2 = jpz B g * jbc (B 9 g) := rfl
theorem jga_3 (g : Int) : jga B g 3 = jpz B g := rfl
/-! small methods of the law -/
theorem s_bits (m : Int) (hm : 0 ≤ m ∧ m < 64) : zFn Γ md_L_bits d [.int (jI m)] w (some (.int (jI (jbc m)))) w := by
  refine zFn.of_run (lv := [some (.int (jI m)), none, none]) (by decide) rfl (Nat.le_of_ble_eq_true rfl) rfl (fun n9 g9 => ?_)
  refine zr_iconst dL_bits_0 (rfl : 0 + 1 = 1) ?_
  refine zr_istore_n (lv' := [_, _, _]) dL_bits_1 (rfl : 1 + 1 = 2) (Nat.le_of_ble_eq_true rfl) rfl ?_
  refine zr_iconst dL_bits_2 (rfl : 2 + 1 = 3) ?_
  refine zr_istore_n (lv' := [_, _, _]) dL_bits_3 (rfl : 3 + 1 = 4) (Nat.le_of_ble_eq_true rfl) rfl ?_
  refine zr_iload_n dL_bits_4 (rfl : 4 + 1 = 5) rfl ?_
  refine zr_bipush dL_bits_5 (rfl : 5 + 2 = 7) (by decide) ?_
  refine zr_icmp_ge (tgt := 24) dL_bits_7 (by decide) (rfl : 7 + 3 = 10) (jI_le (by first | omega | (simp only [bset, reduceIte, Nat.reduceEqDiff]; omega)) (by first | omega | (simp only [bset, reduceIte, Nat.reduceEqDiff]; omega)) (by first | omega | (simp only [bset, reduceIte, Nat.reduceEqDiff]; omega)) (by first | omega | (simp only [bset, reduceIte, Nat.reduceEqDiff]; omega))) (fun h7 => ?_) (fun h7 => ?_)
  · first
    | (exfalso; omega)
    | (
      refine zr_iload_n dL_bits_24 (rfl : 24 + 1 = 25) rfl ?_
      refine zr_iret dL_bits_25 rfl rfl ?_ rfl rfl rfl
      obtain ⟨x, rfl⟩ := jfin (N := 64) hm
      congr 2
      revert x
      decide +kernel)
  · first
    | (exfalso; omega)
    | (
      refine zr_iload_n dL_bits_10 (rfl : 10 + 1 = 11) rfl ?_
      refine zr_iload_n dL_bits_11 (rfl : 11 + 1 = 12) rfl ?_
      refine zr_iload_n dL_bits_12 (rfl : 12 + 1 = 13) rfl ?_
      refine zr_ishr dL_bits_13 (rfl : 13 + 1 = 14) rfl ?_
      refine zr_iconst dL_bits_14 (rfl : 14 + 1 = 15) ?_
      refine zr_iand dL_bits_15 (rfl : 15 + 1 = 16) rfl ?_
      refine zr_iadd dL_bits_16 (rfl : 16 + 1 = 17) (by first | exact jI_add _ _ | rfl) ?_
      refine zr_istore_n (lv' := [_, _, _]) dL_bits_17 (rfl : 17 + 1 = 18) (Nat.le_of_ble_eq_true rfl) rfl ?_
      refine zr_iinc (lv' := [_, _, _]) dL_bits_18 (rfl : 18 + 3 = 21) (Nat.le_of_ble_eq_true rfl) rfl (by first | exact jI_add _ _ | rfl) rfl ?_
      refine zr_goto (tgt := 4) dL_bits_21 (by decide) ?_
      refine zr_iload_n dL_bits_4 (rfl : 4 + 1 = 5) rfl ?_
      refine zr_bipush dL_bits_5 (rfl : 5 + 2 = 7) (by decide) ?_
      refine zr_icmp_ge (tgt := 24) dL_bits_7 (by decide) (rfl : 7 + 3 = 10) (jI_le (by first | omega | (simp only [bset, reduceIte, Nat.reduceEqDiff]; omega)) (by first | omega | (simp only [bset, reduceIte, Nat.reduceEqDiff]; omega)) (by first | omega | (simp only [bset, reduceIte, Nat.reduceEqDiff]; omega)) (by first | omega | (simp only [bset, reduceIte, Nat.reduceEqDiff]; omega))) (fun h7 => ?_) (fun h7 => ?_)
      · first
        | (exfalso; omega)
        | (
          refine zr_iload_n dL_bits_24 (rfl : 24 + 1 = 25) rfl ?_
          refine zr_iret dL_bits_25 rfl rfl ?_ rfl rfl rfl
          obtain ⟨x, rfl⟩ := jfin (N := 64) hm
          congr 2
          revert x
          decide +kernel)
      · first
        | (exfalso; omega)
        | (
          refine zr_iload_n dL_bits_10 (rfl : 10 + 1 = 11) rfl ?_
          refine zr_iload_n dL_bits_11 (rfl : 11 + 1 = 12) rfl ?_
          refine zr_iload_n dL_bits_12 (rfl : 12 + 1 = 13) rfl ?_
          refine zr_ishr dL_bits_13 (rfl : 13 + 1 = 14) rfl ?_
          refine zr_iconst dL_bits_14 (rfl : 14 + 1 = 15) ?_
          refine zr_iand dL_bits_15 (rfl : 15 + 1 = 16) rfl ?_
          refine zr_iadd dL_bits_16 (rfl : 16 + 1 = 17) (by first | exact jI_add _ _ | rfl) ?_
          refine zr_istore_n (lv' := [_, _, _]) dL_bits_17 (rfl : 17 + 1 = 18) (Nat.le_of_ble_eq_true rfl) rfl ?_
          refine zr_iinc (lv' := [_, _, _]) dL_bits_18 (rfl : 18 + 3 = 21) (Nat.le_of_ble_eq_true rfl) rfl (by first | exact jI_add _ _ | rfl) rfl ?_
          refine zr_goto (tgt := 4) dL_bits_21 (by decide) ?_
          refine zr_iload_n dL_bits_4 (rfl : 4 + 1 = 5) rfl ?_
          refine zr_bipush dL_bits_5 (rfl : 5 + 2 = 7) (by decide) ?_
          refine zr_icmp_ge (tgt := 24) dL_bits_7 (by decide) (rfl : 7 + 3 = 10) (jI_le (by first | omega | (simp only [bset, reduceIte, Nat.reduceEqDiff]; omega)) (by first | omega | (simp only [bset, reduceIte, Nat.reduceEqDiff]; omega)) (by first | omega | (simp only [bset, reduceIte, Nat.reduceEqDiff]; omega)) (by first | omega | (simp only [bset, reduceIte, Nat.reduceEqDiff]; omega))) (fun h7 => ?_) (fun h7 => ?_)
          · first
            | (exfalso; omega)
            | (
              refine zr_iload_n dL_bits_24 (rfl : 24 + 1 = 25) rfl ?_
              refine zr_iret dL_bits_25 rfl rfl ?_ rfl rfl rfl
              obtain ⟨x, rfl⟩ := jfin (N := 64) hm
              congr 2
              revert x
              decide +kernel)
          · first
            | (exfalso; omega)
            | (
              refine zr_iload_n dL_bits_10 (rfl : 10 + 1 = 11) rfl ?_
              refine zr_iload_n dL_bits_11 (rfl : 11 + 1 = 12) rfl ?_
              refine zr_iload_n dL_bits_12 (rfl : 12 + 1 = 13) rfl ?_
              refine zr_ishr dL_bits_13 (rfl : 13 + 1 = 14) rfl ?_
              refine zr_iconst dL_bits_14 (rfl : 14 + 1 = 15) ?_
              refine zr_iand dL_bits_15 (rfl : 15 + 1 = 16) rfl ?_
              refine zr_iadd dL_bits_16 (rfl : 16 + 1 = 17) (by first | exact jI_add _ _ | rfl) ?_
              refine zr_istore_n (lv' := [_, _, _]) dL_bits_17 (rfl : 17 + 1 = 18) (Nat.le_of_ble_eq_true rfl) rfl ?_
              refine zr_iinc (lv' := [_, _, _]) dL_bits_18 (rfl : 18 + 3 = 21) (Nat.le_of_ble_eq_true rfl) rfl (by first | exact jI_add _ _ | rfl) rfl ?_
              refine zr_goto (tgt := 4) dL_bits_21 (by decide) ?_
              refine zr_iload_n dL_bits_4 (rfl : 4 + 1 = 5) rfl ?_
              refine zr_bipush dL_bits_5 (rfl : 5 + 2 = 7) (by decide) ?_
              refine zr_icmp_ge (tgt := 24) dL_bits_7 (by decide) (rfl : 7 + 3 = 10) (jI_le (by first | omega | (simp only [bset, reduceIte, Nat.reduceEqDiff]; omega)) (by first | omega | (simp only [bset, reduceIte, Nat.reduceEqDiff]; omega)) (by first | omega | (simp only [bset, reduceIte, Nat.reduceEqDiff]; omega)) (by first | omega | (simp only [bset, reduceIte, Nat.reduceEqDiff]; omega))) (fun h7 => ?_) (fun h7 => ?_)
              · first
                | (exfalso; omega)
                | (
                  refine zr_iload_n dL_bits_24 (rfl : 24 + 1 = 25) rfl ?_
                  refine zr_iret dL_bits_25 rfl rfl ?_ rfl rfl rfl
                  obtain ⟨x, rfl⟩ := jfin (N := 64) hm
                  congr 2
                  revert x
                  decide +kernel)
              · first
                | (exfalso; omega)
                | (
                  refine zr_iload_n dL_bits_10 (rfl : 10 + 1 = 11) rfl ?_
                  refine zr_iload_n dL_bits_11 (rfl : 11 + 1 = 12) rfl ?_
                  refine zr_iload_n dL_bits_12 (rfl : 12 + 1 = 13) rfl ?_
                  refine zr_ishr dL_bits_13 (rfl : 13 + 1 = 14) rfl ?_
                  refine zr_iconst dL_bits_14 (rfl : 14 + 1 = 15) ?_
                  refine zr_iand dL_bits_15 (rfl : 15 + 1 = 16) rfl ?_
                  refine zr_iadd dL_bits_16 (rfl : 16 + 1 = 17) (by first | exact jI_add _ _ | rfl) ?_
                  refine zr_istore_n (lv' := [_, _, _]) dL_bits_17 (rfl : 17 + 1 = 18) (Nat.le_of_ble_eq_true rfl) rfl ?_
                  refine zr_iinc (lv' := [_, _, _]) dL_bits_18 (rfl : 18 + 3 = 21) (Nat.le_of_ble_eq_true rfl) rfl (by first | exact jI_add _ _ | rfl) rfl ?_
                  refine zr_goto (tgt := 4) dL_bits_21 (by decide) ?_
                  refine zr_iload_n dL_bits_4 (rfl : 4 + 1 = 5) rfl ?_
                  refine zr_bipush dL_bits_5 (rfl : 5 + 2 = 7) (by decide) ?_
                  refine zr_icmp_ge (tgt := 24) dL_bits_7 (by decide) (rfl : 7 + 3 = 10) (jI_le (by first | omega | (simp only [bset, reduceIte, Nat.reduceEqDiff]; omega)) (by first | omega | (simp only [bset, reduceIte, Nat.reduceEqDiff]; omega)) (by first | omega | (simp only [bset, reduceIte, Nat.reduceEqDiff]; omega)) (by first | omega | (simp only [bset, reduceIte, Nat.reduceEqDiff]; omega))) (fun h7 => ?_) (fun h7 => ?_)
                  · first
                    | (exfalso; omega)
                    | (
                      refine zr_iload_n dL_bits_24 (rfl : 24 + 1 = 25) rfl ?_
                      refine zr_iret dL_bits_25 rfl rfl ?_ rfl rfl rfl
                      obtain ⟨x, rfl⟩ := jfin (N := 64) hm
                      congr 2
                      revert x
                      decide +kernel)
                  · first
                    | (exfalso; omega)
                    | (
                      refine zr_iload_n dL_bits_10 (rfl : 10 + 1 = 11) rfl ?_
                      refine zr_iload_n dL_bits_11 (rfl : 11 + 1 = 12) rfl ?_
                      refine zr_iload_n dL_bits_12 (rfl : 12 + 1 = 13) rfl ?_
                      refine zr_ishr dL_bits_13 (rfl : 13 + 1 = 14) rfl ?_
                      refine zr_iconst dL_bits_14 (rfl : 14 + 1 = 15) ?_
                      refine zr_iand dL_bits_15 (rfl : 15 + 1 = 16) rfl ?_
                      refine zr_iadd dL_bits_16 (rfl : 16 + 1 = 17) (by first | exact jI_add _ _ | rfl) ?_
                      refine zr_istore_n (lv' := [_, _, _]) dL_bits_17 (rfl : 17 + 1 = 18) (Nat.le_of_ble_eq_true rfl) rfl ?_
                      refine zr_iinc (lv' := [_, _, _]) dL_bits_18 (rfl : 18 + 3 = 21) (Nat.le_of_ble_eq_true rfl) rfl (by first | exact jI_add _ _ | rfl) rfl ?_
                      refine zr_goto (tgt := 4) dL_bits_21 (by decide) ?_
                      refine zr_iload_n dL_bits_4 (rfl : 4 + 1 = 5) rfl ?_
                      refine zr_bipush dL_bits_5 (rfl : 5 + 2 = 7) (by decide) ?_
                      refine zr_icmp_ge (tgt := 24) dL_bits_7 (by decide) (rfl : 7 + 3 = 10) (jI_le (by first | omega | (simp only [bset, reduceIte, Nat.reduceEqDiff]; omega)) (by first | omega | (simp only [bset, reduceIte, Nat.reduceEqDiff]; omega)) (by first | omega | (simp only [bset, reduceIte, Nat.reduceEqDiff]; omega)) (by first | omega | (simp only [bset, reduceIte, Nat.reduceEqDiff]; omega))) (fun h7 => ?_) (fun h7 => ?_)
                      · first
                        | (exfalso; omega)
                        | (
                          refine zr_iload_n dL_bits_24 (rfl : 24 + 1 = 25) rfl ?_
                          refine zr_iret dL_bits_25 rfl rfl ?_ rfl rfl rfl
                          obtain ⟨x, rfl⟩ := jfin (N := 64) hm
                          congr 2
                          revert x
                          decide +kernel)
                      · first
                        | (exfalso; omega)
                        | (
                          refine zr_iload_n dL_bits_10 (rfl : 10 + 1 = 11) rfl ?_
                          refine zr_iload_n dL_bits_11 (rfl : 11 + 1 = 12) rfl ?_
                          refine zr_iload_n dL_bits_12 (rfl : 12 + 1 = 13) rfl ?_
                          refine zr_ishr dL_bits_13 (rfl : 13 + 1 = 14) rfl ?_
                          refine zr_iconst dL_bits_14 (rfl : 14 + 1 = 15) ?_
                          refine zr_iand dL_bits_15 (rfl : 15 + 1 = 16) rfl ?_
                          refine zr_iadd dL_bits_16 (rfl : 16 + 1 = 17) (by first | exact jI_add _ _ | rfl) ?_
                          refine zr_istore_n (lv' := [_, _, _]) dL_bits_17 (rfl : 17 + 1 = 18) (Nat.le_of_ble_eq_true rfl) rfl ?_
                          refine zr_iinc (lv' := [_, _, _]) dL_bits_18 (rfl : 18 + 3 = 21) (Nat.le_of_ble_eq_true rfl) rfl (by first | exact jI_add _ _ | rfl) rfl ?_
                          refine zr_goto (tgt := 4) dL_bits_21 (by decide) ?_
                          refine zr_iload_n dL_bits_4 (rfl : 4 + 1 = 5) rfl ?_
                          refine zr_bipush dL_bits_5 (rfl : 5 + 2 = 7) (by decide) ?_
                          refine zr_icmp_ge (tgt := 24) dL_bits_7 (by decide) (rfl : 7 + 3 = 10) (jI_le (by first | omega | (simp only [bset, reduceIte, Nat.reduceEqDiff]; omega)) (by first | omega | (simp only [bset, reduceIte, Nat.reduceEqDiff]; omega)) (by first | omega | (simp only [bset, reduceIte, Nat.reduceEqDiff]; omega)) (by first | omega | (simp only [bset, reduceIte, Nat.reduceEqDiff]; omega))) (fun h7 => ?_) (fun h7 => ?_)
                          · first
                            | (exfalso; omega)
                            | (
                              refine zr_iload_n dL_bits_24 (rfl : 24 + 1 = 25) rfl ?_
                              refine zr_iret dL_bits_25 rfl rfl ?_ rfl rfl rfl
                              obtain ⟨x, rfl⟩ := jfin (N := 64) hm
                              congr 2
                              revert x
                              decide +kernel)
                          · first
                            | (exfalso; omega)
                            | (
                              refine zr_iload_n dL_bits_10 (rfl : 10 + 1 = 11) rfl ?_
                              refine zr_iload_n dL_bits_11 (rfl : 11 + 1 = 12) rfl ?_
                              refine zr_iload_n dL_bits_12 (rfl : 12 + 1 = 13) rfl ?_
                              refine zr_ishr dL_bits_13 (rfl : 13 + 1 = 14) rfl ?_
                              refine zr_iconst dL_bits_14 (rfl : 14 + 1 = 15) ?_
                              refine zr_iand dL_bits_15 (rfl : 15 + 1 = 16) rfl ?_
                              refine zr_iadd dL_bits_16 (rfl : 16 + 1 = 17) (by first | exact jI_add _ _ | rfl) ?_
                              refine zr_istore_n (lv' := [_, _, _]) dL_bits_17 (rfl : 17 + 1 = 18) (Nat.le_of_ble_eq_true rfl) rfl ?_
                              refine zr_iinc (lv' := [_, _, _]) dL_bits_18 (rfl : 18 + 3 = 21) (Nat.le_of_ble_eq_true rfl) rfl (by first | exact jI_add _ _ | rfl) rfl ?_
                              refine zr_goto (tgt := 4) dL_bits_21 (by decide) ?_
                              exfalso; omega)))))))
theorem jandM (x : Int32) : ∃ m : Int, (0 ≤ m ∧ m < 2147483648) ∧ (x &&& jI 2147483647) = jI m := by
  refine ⟨(((x &&& jI 2147483647).toBitVec.toNat : Nat) : Int), ?_, ?_⟩
  · have h : (x &&& jI 2147483647).toBitVec.toNat < 2147483648 := by
      have e : (x &&& jI 2147483647).toBitVec.toNat = x.toBitVec.toNat &&& 2147483647 := by
        rw [Int32.toBitVec_and, BitVec.toNat_and]
        rfl
      rw [e, show (2147483647 : Nat) = 2 ^ 31 - 1 from rfl, Nat.and_two_pow_sub_one_eq_mod]
      exact Nat.mod_lt _ (by decide)
    omega
  · generalize (x &&& jI 2147483647) = y
    show y = Int32.ofInt (y.toBitVec.toNat : Int)
    rw [Int32.ofInt_eq_ofNat]
    exact (Int32.toBitVec_inj.mp (by simp)).symm
theorem s_cell {L : Nat} {xs : Nat → Int32} (hx : zOld Γ 0 L xs) (hL : L ≤ 260) (k : Int) (hk : 0 ≤ k ∧ k < 1000) : ∃ y : Int, (0 ≤ y ∧ y < 2147483648) ∧ zFn Γ md_L_cell d [.ref 0, .int (jI k)] w (some (.int (jI y))) w := by
  by_cases h : k < L
  · obtain ⟨y, hy, he⟩ := jandM (xs (jI k).toNatClampNeg)
    refine ⟨y, hy, ?_⟩
    refine zFn.of_run (lv := [some (.ref 0), some (.int (jI k))]) (by decide) rfl (Nat.le_of_ble_eq_true rfl) rfl (fun n9 g9 => ?_)
    refine zr_iload_n dL_cell_0 (rfl : 0 + 1 = 1) rfl ?_
    refine zr_aload_n dL_cell_1 (rfl : 1 + 1 = 2) rfl ?_
    refine zr_alenO dL_cell_2 (rfl : 2 + 1 = 3) (fun _ => hx) ?_
    refine zr_icmp_ge (tgt := 12) dL_cell_3 (by decide) (rfl : 3 + 3 = 6) (jI_le (by first | omega | (simp only [bset, reduceIte, Nat.reduceEqDiff]; omega)) (by first | omega | (simp only [bset, reduceIte, Nat.reduceEqDiff]; omega)) (by first | omega | (simp only [bset, reduceIte, Nat.reduceEqDiff]; omega)) (by first | omega | (simp only [bset, reduceIte, Nat.reduceEqDiff]; omega))) (fun h3 => ?_) (fun h3 => ?_)
    · first
      | (exfalso; omega)
      | (
        refine zr_ldc dL_cell_12 (rfl : 12 + 2 = 14) kj_L_7 ?_
        refine zr_iload_n dL_cell_14 (rfl : 14 + 1 = 15) rfl ?_
        refine zr_sipush dL_cell_15 (rfl : 15 + 3 = 18) (by decide) ?_
        refine zr_irem dL_cell_18 (rfl : 18 + 1 = 19) (fun q => absurd ((jI_z (by first | omega | (simp only [bset, reduceIte, Nat.reduceEqDiff]; omega)) (by first | omega | (simp only [bset, reduceIte, Nat.reduceEqDiff]; omega))).mp q) (by first | omega | (simp only [bset, reduceIte, Nat.reduceEqDiff]; omega))) (jI_rem (by first | omega | (simp only [bset, reduceIte, Nat.reduceEqDiff]; omega)) (by first | omega | (simp only [bset, reduceIte, Nat.reduceEqDiff]; omega)) (by first | omega | (simp only [bset, reduceIte, Nat.reduceEqDiff]; omega)) (by first | omega | (simp only [bset, reduceIte, Nat.reduceEqDiff]; omega))) ?_
        refine zr_imul dL_cell_19 (rfl : 19 + 1 = 20) (by first | exact jI_mul _ _ | rfl) ?_
        refine zr_sipush dL_cell_20 (rfl : 20 + 3 = 23) (by decide) ?_
        refine zr_iadd dL_cell_23 (rfl : 23 + 1 = 24) (by first | exact jI_add _ _ | rfl) ?_
        refine zr_ldc dL_cell_24 (rfl : 24 + 2 = 26) kj_L_8 ?_
        refine zr_iand dL_cell_26 (rfl : 26 + 1 = 27) he ?_
        refine zr_iret dL_cell_27 rfl rfl ?_ rfl rfl rfl
        first | rfl | rw [jb_pos (by first | assumption | omega)] | rw [jb_neg (by first | assumption | omega)] | rw [if_pos (by first | assumption | omega)] | rw [if_neg (by first | assumption | omega)])
    · first
      | (exfalso; omega)
      | (
        refine zr_aload_n dL_cell_6 (rfl : 6 + 1 = 7) rfl ?_
        refine zr_iload_n dL_cell_7 (rfl : 7 + 1 = 8) rfl ?_
        refine zr_ialdO dL_cell_8 (rfl : 8 + 1 = 9) (fun _ => hx) (jI_in hk.1 h (by first | omega | (simp only [bset, reduceIte, Nat.reduceEqDiff]; omega))) ?_
        refine zr_goto (tgt := 24) dL_cell_9 (by decide) ?_
        refine zr_ldc dL_cell_24 (rfl : 24 + 2 = 26) kj_L_8 ?_
        refine zr_iand dL_cell_26 (rfl : 26 + 1 = 27) he ?_
        refine zr_iret dL_cell_27 rfl rfl ?_ rfl rfl rfl
        first | rfl | rw [jb_pos (by first | assumption | omega)] | rw [jb_neg (by first | assumption | omega)] | rw [if_pos (by first | assumption | omega)] | rw [if_neg (by first | assumption | omega)])
  · obtain ⟨y, hy, he⟩ := jandM (jI (47123 * (k % 4096) + 307))
    refine ⟨y, hy, ?_⟩
    refine zFn.of_run (lv := [some (.ref 0), some (.int (jI k))]) (by decide) rfl (Nat.le_of_ble_eq_true rfl) rfl (fun n9 g9 => ?_)
    refine zr_iload_n dL_cell_0 (rfl : 0 + 1 = 1) rfl ?_
    refine zr_aload_n dL_cell_1 (rfl : 1 + 1 = 2) rfl ?_
    refine zr_alenO dL_cell_2 (rfl : 2 + 1 = 3) (fun _ => hx) ?_
    refine zr_icmp_ge (tgt := 12) dL_cell_3 (by decide) (rfl : 3 + 3 = 6) (jI_le (by first | omega | (simp only [bset, reduceIte, Nat.reduceEqDiff]; omega)) (by first | omega | (simp only [bset, reduceIte, Nat.reduceEqDiff]; omega)) (by first | omega | (simp only [bset, reduceIte, Nat.reduceEqDiff]; omega)) (by first | omega | (simp only [bset, reduceIte, Nat.reduceEqDiff]; omega))) (fun h3 => ?_) (fun h3 => ?_)
    · first
      | (exfalso; omega)
      | (
        refine zr_ldc dL_cell_12 (rfl : 12 + 2 = 14) kj_L_7 ?_
        refine zr_iload_n dL_cell_14 (rfl : 14 + 1 = 15) rfl ?_
        refine zr_sipush dL_cell_15 (rfl : 15 + 3 = 18) (by decide) ?_
        refine zr_irem dL_cell_18 (rfl : 18 + 1 = 19) (fun q => absurd ((jI_z (by first | omega | (simp only [bset, reduceIte, Nat.reduceEqDiff]; omega)) (by first | omega | (simp only [bset, reduceIte, Nat.reduceEqDiff]; omega))).mp q) (by first | omega | (simp only [bset, reduceIte, Nat.reduceEqDiff]; omega))) (jI_rem (by first | omega | (simp only [bset, reduceIte, Nat.reduceEqDiff]; omega)) (by first | omega | (simp only [bset, reduceIte, Nat.reduceEqDiff]; omega)) (by first | omega | (simp only [bset, reduceIte, Nat.reduceEqDiff]; omega)) (by first | omega | (simp only [bset, reduceIte, Nat.reduceEqDiff]; omega))) ?_
        refine zr_imul dL_cell_19 (rfl : 19 + 1 = 20) (by first | exact jI_mul _ _ | rfl) ?_
        refine zr_sipush dL_cell_20 (rfl : 20 + 3 = 23) (by decide) ?_
        refine zr_iadd dL_cell_23 (rfl : 23 + 1 = 24) (by first | exact jI_add _ _ | rfl) ?_
        refine zr_ldc dL_cell_24 (rfl : 24 + 2 = 26) kj_L_8 ?_
        refine zr_iand dL_cell_26 (rfl : 26 + 1 = 27) he ?_
        refine zr_iret dL_cell_27 rfl rfl ?_ rfl rfl rfl
        first | rfl | rw [jb_pos (by first | assumption | omega)] | rw [jb_neg (by first | assumption | omega)] | rw [if_pos (by first | assumption | omega)] | rw [if_neg (by first | assumption | omega)])
    · first
      | (exfalso; omega)
      | (
        exfalso
        omega)
end LK

