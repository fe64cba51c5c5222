/-! the digest -/
def jhs (v : Int → Int) : Nat → Int64 → Int64
  | 0, h => h
  | n + 1, h => 31 * jhs v n h + (jI (v n)).toInt64
theorem jhs_next (v : Int → Int) {i : Int} (h : 0 ≤ i) (x : Int64) : jhs v (i + 1).toNat x = 31 * jhs v i.toNat x + (jI (v i)).toInt64 := by
  rw [show (i + 1).toNat = i.toNat + 1 by omega]
  show 31 * jhs v i.toNat x + (jI (v (i.toNat : Int))).toInt64 = _
  rw [show (i.toNat : Int) = i by omega]
theorem jhs_congr {v v2 : Int → Int} (x : Int64) : ∀ n : Nat, (∀ z : Int, 0 ≤ z → z < n → v z = v2 z) → jhs v n x = jhs v2 n x
  | 0, _ => rfl
  | n + 1, h => by
    show 31 * jhs v n x + (jI (v n)).toInt64 = 31 * jhs v2 n x + (jI (v2 n)).toInt64
    rw [h n (by omega) (by omega), jhs_congr x n (fun z z0 z1 => h z z0 (by omega))]
def jh1 (B : zB) : Int → Int := fun k => jno B (k / 4 + 1) (k % 4)
def jh2 (B : zB) : Int → Int := fun k => jcl B (k / 2) (k % 2)
def jh3 (B : zB) : Int → Int := fun k => jga B (k / 4) (k % 4)
def jh4 (B : zB) : Int → Int := fun k => jrap B k 45
def jh5 (B : zB) (c : Int) : Int → Int := fun k => if k % 3 = 0 then jic B c (k / 3) else jms B c (k / 3) (k % 3 - 1)
def jhc1 (B : zB) (c : Int) (h : Int64) : Int64 := 31 * jhs (jh5 B c) 12 (jhs (jcd B c) 9 h) + (jI (jfa B c 0)).toInt64
def jhc (B : zB) : Nat → Int64 → Int64
  | 0, h => h
  | n + 1, h => jhc1 B n (jhc B n h)
def jhA (B : zB) (sc : Int) : Int64 := jhc B 6 (jhs (B 0) 162 (jhs (B 23) 3 (jhs (jct B sc) 15 3307)))
def jhB (B : zB) (h : Int64) : Int64 := jhs (jh4 B) 18 (jhs (jh3 B) 16 (jhs (jh2 B) 20 (jhs (jh1 B) 360 h)))
def jhC (B : zB) (h : Int64) : Int64 := 31 * jhs (fun k => jnb B (k + 1)) 3 (31 * h + (jI (jff B 6).1).toInt64) + (jsr B).toInt64
def jhD (kp T : Int → Int) (L : Int) (h : Int64) : Int64 := jhs T L.toNat (31 * jhs kp 2 h + (jI L).toInt64)
def jdig (σ : zC) (B : zB) : Int64 := jhD σ.kp σ.T σ.L (jhC B (jhB B (jhA B σ.sc)))
theorem zseq {P : Nat → zTau → zTau → Prop} {N : Nat} (h : ∀ i, i < N → ∀ τ, ∃ τ', P i τ τ') (τ0 : zTau) : ∃ g : Nat → zTau, g 0 = τ0 ∧ ∀ i, i < N → P i (g i) (g (i + 1)) := by
  let f : Nat → zTau → zTau := fun i τ => if hi : i < N then Classical.choose (h i hi τ) else τ
  let g : Nat → zTau := fun n => Nat.rec (motive := fun _ => zTau) τ0 (fun i t => f i t) n
  refine ⟨g, rfl, fun i hi => ?_⟩
  show P i (g i) (f i (g i))
  generalize g i = t
  have e : f i t = Classical.choose (h i hi t) := dif_pos hi
  rw [e]
  exact Classical.choose_spec (h i hi t)
section DI
variable {Γ : zΓ} {d : Nat} {σ : zC} {τ : zTau} {u w : zW} {B : zB}
theorem s_withPlaces (h : Int64) : zFn Γ md_X6_withPlaces (d + 2) [.ref 5, .long h] (bk 6 B (cr σ τ u)) (some (.long (jhs (B 0) 162 h))) (bk 6 B (cr σ τ u)) := by
  refine zFn.of_run (lv := [some (.ref 5), some (.long h), none, none, none, none, none]) (by decide) rfl (Nat.le_of_ble_eq_true rfl) rfl (fun n9 g9 => ?_)
  refine zr_lload_n dX6_withPlaces_0 (rfl : 0 + 1 = 1) rfl ?_
  refine zr_lstore_n (lv' := [_, _, _, _, _, _, _]) dX6_withPlaces_1 (rfl : 1 + 1 = 2) (Nat.le_of_ble_eq_true rfl) rfl ?_
  refine zr_iconst dX6_withPlaces_2 (rfl : 2 + 1 = 3) ?_
  refine zr_istore (lv' := [_, _, _, _, _, _, _]) dX6_withPlaces_3 (rfl : 3 + 2 = 5) (Nat.le_of_ble_eq_true rfl) rfl ?_
  refine zfor2 0 18 (fun r x _ => x = jhs (B 0) (9 * r).toNat h) (fun r x o6 => [some (.ref 5), some (.long h), none, some (.long x), none, some (.int (jI r)), o6]) (fun _ _ _ => bk 6 B (cr σ τ u)) h none rfl ?_ ?_
  · intro r x o6 r0 r1 hx hk
    refine zr_iload dX6_withPlaces_5 (rfl : 5 + 2 = 7) rfl ?_
    refine zr_bipush dX6_withPlaces_7 (rfl : 7 + 2 = 9) (by decide) ?_
    refine zr_icmp_ge (tgt := 56) dX6_withPlaces_9 (by decide) (rfl : 9 + 3 = 12) (jI_le (by first | omega | (simp only [bset, reduceIte, Nat.reduceEqDiff]; omega)) (by first | omega | (simp only [bset, reduceIte, Nat.reduceEqDiff]; omega)) (by first | omega | (simp only [bset, reduceIte, Nat.reduceEqDiff]; omega)) (by first | omega | (simp only [bset, reduceIte, Nat.reduceEqDiff]; omega))) (fun h9 => ?_) (fun h9 => ?_)
    · exfalso; omega
    · refine zr_iconst dX6_withPlaces_12 (rfl : 12 + 1 = 13) ?_
      refine zr_istore (lv' := [_, _, _, _, _, _, _]) dX6_withPlaces_13 (rfl : 13 + 2 = 15) (Nat.le_of_ble_eq_true rfl) rfl ?_
      refine zfor1 0 9 (fun c x => x = jhs (B 0) (9 * r + c).toNat h) (fun c x => [some (.ref 5), some (.long h), none, some (.long x), none, some (.int (jI r)), some (.int (jI c))]) (fun _ _ => bk 6 B (cr σ τ u)) x (by rw [Int.add_zero]; exact hx) ?_ ?_
      · intro c x c0 c1 hx hk2
        refine zr_iload dX6_withPlaces_15 (rfl : 15 + 2 = 17) rfl ?_
        refine zr_bipush dX6_withPlaces_17 (rfl : 17 + 2 = 19) (by decide) ?_
        refine zr_icmp_ge (tgt := 50) dX6_withPlaces_19 (by decide) (rfl : 19 + 3 = 22) (jI_le (by first | omega | (simp only [bset, reduceIte, Nat.reduceEqDiff]; omega)) (by first | omega | (simp only [bset, reduceIte, Nat.reduceEqDiff]; omega)) (by first | omega | (simp only [bset, reduceIte, Nat.reduceEqDiff]; omega)) (by first | omega | (simp only [bset, reduceIte, Nat.reduceEqDiff]; omega))) (fun h19 => ?_) (fun h19 => ?_)
        · exfalso; omega
        · refine zr_ldc2 dX6_withPlaces_22 (rfl : 22 + 3 = 25) k_X6_281 ?_
          refine zr_lload_n dX6_withPlaces_25 (rfl : 25 + 1 = 26) rfl ?_
          refine zr_lmul dX6_withPlaces_26 (rfl : 26 + 1 = 27) ?_
          refine zr_aload_n dX6_withPlaces_27 (rfl : 27 + 1 = 28) rfl ?_
          refine zr_getf dX6_withPlaces_28 (rfl : 28 + 3 = 31) f_X6_10 (by first | assumption | exact bk_0 | exact bk_1 | exact bk_2 | exact bk_3 | exact bk_4 | exact bk_5 | exact bk_6 | exact bk_7 | exact bk_8 | exact bk_9 | exact bk_10 | exact bk_11 | exact bk_12 | exact bk_13 | exact bk_14 | exact bk_15 | exact bk_16 | exact zup_self | exact (zup_ne (by first | assumption | omega)).trans (by first | assumption | exact zup_self) | exact (zup_ne (by first | assumption | omega)).trans ((zup_ne (by first | assumption | omega)).trans (by first | assumption | exact zup_self)) | exact (bk_out (by first | omega | (simp only [bset, reduceIte, Nat.reduceEqDiff]; omega))).trans (by first | exact bk_0 | exact bk_1 | exact bk_2 | exact bk_3 | exact bk_4 | exact bk_5 | exact bk_6 | exact bk_7 | exact bk_8 | exact bk_9 | exact bk_10 | exact bk_11 | exact bk_12 | exact bk_13 | exact bk_14 | exact bk_15 | exact bk_16 | exact cr_5 | exact cr_23 | exact cr_24 | exact cr_25 | exact cr_26 | exact cr_27 | exact cr_28 | exact cr_29 | exact cr_30 | assumption)) rfl ?_
          refine zr_getf dX6_withPlaces_31 (rfl : 31 + 3 = 34) f_X6_69 (by first | assumption | exact bk_0 | exact bk_1 | exact bk_2 | exact bk_3 | exact bk_4 | exact bk_5 | exact bk_6 | exact bk_7 | exact bk_8 | exact bk_9 | exact bk_10 | exact bk_11 | exact bk_12 | exact bk_13 | exact bk_14 | exact bk_15 | exact bk_16 | exact zup_self | exact (zup_ne (by first | assumption | omega)).trans (by first | assumption | exact zup_self) | exact (zup_ne (by first | assumption | omega)).trans ((zup_ne (by first | assumption | omega)).trans (by first | assumption | exact zup_self)) | exact (bk_out (by first | omega | (simp only [bset, reduceIte, Nat.reduceEqDiff]; omega))).trans (by first | exact bk_0 | exact bk_1 | exact bk_2 | exact bk_3 | exact bk_4 | exact bk_5 | exact bk_6 | exact bk_7 | exact bk_8 | exact bk_9 | exact bk_10 | exact bk_11 | exact bk_12 | exact bk_13 | exact bk_14 | exact bk_15 | exact bk_16 | exact cr_5 | exact cr_23 | exact cr_24 | exact cr_25 | exact cr_26 | exact cr_27 | exact cr_28 | exact cr_29 | exact cr_30 | assumption)) rfl ?_
          refine zr_iload dX6_withPlaces_34 (rfl : 34 + 2 = 36) rfl ?_
          refine zr_iload dX6_withPlaces_36 (rfl : 36 + 2 = 38) rfl ?_
          refine zr_fnV dX6_withPlaces_38 (rfl : 38 + 3 = 41) l_X6_176 (s_numberIn r c (by first | omega | (simp only [bset, reduceIte, Nat.reduceEqDiff]; omega)) (by first | omega | (simp only [bset, reduceIte, Nat.reduceEqDiff]; omega))) (by first | assumption | exact bk_0 | exact bk_1 | exact bk_2 | exact bk_3 | exact bk_4 | exact bk_5 | exact bk_6 | exact bk_7 | exact bk_8 | exact bk_9 | exact bk_10 | exact bk_11 | exact bk_12 | exact bk_13 | exact bk_14 | exact bk_15 | exact bk_16 | exact zup_self | exact (zup_ne (by first | assumption | omega)).trans (by first | assumption | exact zup_self) | exact (zup_ne (by first | assumption | omega)).trans ((zup_ne (by first | assumption | omega)).trans (by first | assumption | exact zup_self)) | exact (bk_out (by first | omega | (simp only [bset, reduceIte, Nat.reduceEqDiff]; omega))).trans (by first | exact bk_0 | exact bk_1 | exact bk_2 | exact bk_3 | exact bk_4 | exact bk_5 | exact bk_6 | exact bk_7 | exact bk_8 | exact bk_9 | exact bk_10 | exact bk_11 | exact bk_12 | exact bk_13 | exact bk_14 | exact bk_15 | exact bk_16 | exact cr_5 | exact cr_23 | exact cr_24 | exact cr_25 | exact cr_26 | exact cr_27 | exact cr_28 | exact cr_29 | exact cr_30 | assumption)) rfl rfl rfl (Nat.le_of_ble_eq_true rfl) ?_
          refine zr_i2l dX6_withPlaces_41 (rfl : 41 + 1 = 42) ?_
          refine zr_ladd dX6_withPlaces_42 (rfl : 42 + 1 = 43) ?_
          refine zr_lstore_n (lv' := [_, _, _, _, _, _, _]) dX6_withPlaces_43 (rfl : 43 + 1 = 44) (Nat.le_of_ble_eq_true rfl) rfl ?_
          refine zr_iinc (lv' := [_, _, _, _, _, _, _]) dX6_withPlaces_44 (rfl : 44 + 3 = 47) (Nat.le_of_ble_eq_true rfl) rfl (by first | exact jI_add _ _ | rfl) rfl ?_
          refine zr_goto (tgt := 15) dX6_withPlaces_47 (by decide) ?_
          refine hk2 _ ?_
          rw [show 9 * r + (c + 1) = 9 * r + c + 1 by omega, jhs_next _ (by omega), hx, show r * 9 + c = 9 * r + c by omega]
      · intro x hx
        refine zr_iload dX6_withPlaces_15 (rfl : 15 + 2 = 17) rfl ?_
        refine zr_bipush dX6_withPlaces_17 (rfl : 17 + 2 = 19) (by decide) ?_
        refine zr_icmp_ge (tgt := 50) dX6_withPlaces_19 (by decide) (rfl : 19 + 3 = 22) (jI_le (by first | omega | (simp only [bset, reduceIte, Nat.reduceEqDiff]; omega)) (by first | omega | (simp only [bset, reduceIte, Nat.reduceEqDiff]; omega)) (by first | omega | (simp only [bset, reduceIte, Nat.reduceEqDiff]; omega)) (by first | omega | (simp only [bset, reduceIte, Nat.reduceEqDiff]; omega))) (fun h19 => ?_) (fun h19 => ?_)
        · refine zr_iinc (lv' := [_, _, _, _, _, _, _]) dX6_withPlaces_50 (rfl : 50 + 3 = 53) (Nat.le_of_ble_eq_true rfl) rfl (by first | exact jI_add _ _ | rfl) rfl ?_
          refine zr_goto (tgt := 5) dX6_withPlaces_53 (by decide) ?_
          exact hk _ _ (by rw [hx, show 9 * r + ((0 : Int) + ((9 : Nat) : Int)) = 9 * (r + 1) by omega])
        · exfalso; omega
  · intro x o6 hx
    rw [show x = jhs (B 0) 162 h from hx]
    refine zr_iload dX6_withPlaces_5 (rfl : 5 + 2 = 7) rfl ?_
    refine zr_bipush dX6_withPlaces_7 (rfl : 7 + 2 = 9) (by decide) ?_
    refine zr_icmp_ge (tgt := 56) dX6_withPlaces_9 (by decide) (rfl : 9 + 3 = 12) (jI_le (by first | omega | (simp only [bset, reduceIte, Nat.reduceEqDiff]; omega)) (by first | omega | (simp only [bset, reduceIte, Nat.reduceEqDiff]; omega)) (by first | omega | (simp only [bset, reduceIte, Nat.reduceEqDiff]; omega)) (by first | omega | (simp only [bset, reduceIte, Nat.reduceEqDiff]; omega))) (fun h9 => ?_) (fun h9 => ?_)
    · refine zr_lload_n dX6_withPlaces_56 (rfl : 56 + 1 = 57) rfl ?_
      exact zr_lret dX6_withPlaces_57 rfl rfl rfl rfl rfl
    · exfalso; omega
theorem s_withCard (h : Int64) (c : Int) (hc : 0 ≤ c ∧ c < 6) (ok : jok B) : ∃ τ', zFn Γ md_X6_withCard (d + 6) [.ref 5, .long h, .int (jI c)] (bk 6 B (cr σ τ u)) (some (.long (jhc1 B c h))) (bk 6 B (cr σ τ' u)) := by
  obtain ⟨τ', hfa⟩ := s_fullAt (Γ := Γ) (d := d) (σ := σ) (τ := τ) (u := u) (B := B) c 0 hc (by decide) ok
  refine ⟨τ', ?_⟩
  refine zFn.of_run (lv := [some (.ref 5), some (.long h), none, some (.int (jI c)), none, none, none]) (by decide) rfl (Nat.le_of_ble_eq_true rfl) rfl (fun n9 g9 => ?_)
  refine zr_lload_n dX6_withCard_0 (rfl : 0 + 1 = 1) rfl ?_
  refine zr_lstore (lv' := [_, _, _, _, _, _, _]) dX6_withCard_1 (rfl : 1 + 2 = 3) (Nat.le_of_ble_eq_true rfl) rfl ?_
  refine zr_iconst dX6_withCard_3 (rfl : 3 + 1 = 4) ?_
  refine zr_istore (lv' := [_, _, _, _, _, _, _]) dX6_withCard_4 (rfl : 4 + 2 = 6) (Nat.le_of_ble_eq_true rfl) rfl ?_
  refine zfor1 0 9 (fun k x => x = jhs (jcd B c) k.toNat h) (fun k x => [some (.ref 5), some (.long h), none, some (.int (jI c)), some (.long x), none, some (.int (jI k))]) (fun _ _ => bk 6 B (cr σ τ u)) h rfl ?_ ?_
  · intro k x k0 k1 hx hk
    refine zr_iload dX6_withCard_6 (rfl : 6 + 2 = 8) rfl ?_
    refine zr_bipush dX6_withCard_8 (rfl : 8 + 2 = 10) (by decide) ?_
    refine zr_icmp_ge (tgt := 36) dX6_withCard_10 (by decide) (rfl : 10 + 3 = 13) (jI_le (by first | omega | (simp only [bset, reduceIte, Nat.reduceEqDiff]; omega)) (by first | omega | (simp only [bset, reduceIte, Nat.reduceEqDiff]; omega)) (by first | omega | (simp only [bset, reduceIte, Nat.reduceEqDiff]; omega)) (by first | omega | (simp only [bset, reduceIte, Nat.reduceEqDiff]; omega))) (fun h10 => ?_) (fun h10 => ?_)
    · exfalso; omega
    · refine zr_ldc2 dX6_withCard_13 (rfl : 13 + 3 = 16) k_X6_281 ?_
      refine zr_lload dX6_withCard_16 (rfl : 16 + 2 = 18) rfl ?_
      refine zr_lmul dX6_withCard_18 (rfl : 18 + 1 = 19) ?_
      refine zr_aload_n dX6_withCard_19 (rfl : 19 + 1 = 20) rfl ?_
      refine zr_iload_n dX6_withCard_20 (rfl : 20 + 1 = 21) rfl ?_
      refine zr_iload dX6_withCard_21 (rfl : 21 + 2 = 23) rfl ?_
      refine zr_fnV dX6_withCard_23 (rfl : 23 + 3 = 26) l_X6_317 (s_cardOf c k hc (by first | omega | (simp only [bset, reduceIte, Nat.reduceEqDiff]; omega)) ok) (by first | assumption | exact bk_0 | exact bk_1 | exact bk_2 | exact bk_3 | exact bk_4 | exact bk_5 | exact bk_6 | exact bk_7 | exact bk_8 | exact bk_9 | exact bk_10 | exact bk_11 | exact bk_12 | exact bk_13 | exact bk_14 | exact bk_15 | exact bk_16 | exact zup_self | exact (zup_ne (by first | assumption | omega)).trans (by first | assumption | exact zup_self) | exact (zup_ne (by first | assumption | omega)).trans ((zup_ne (by first | assumption | omega)).trans (by first | assumption | exact zup_self)) | exact (bk_out (by first | omega | (simp only [bset, reduceIte, Nat.reduceEqDiff]; omega))).trans (by first | exact bk_0 | exact bk_1 | exact bk_2 | exact bk_3 | exact bk_4 | exact bk_5 | exact bk_6 | exact bk_7 | exact bk_8 | exact bk_9 | exact bk_10 | exact bk_11 | exact bk_12 | exact bk_13 | exact bk_14 | exact bk_15 | exact bk_16 | exact cr_5 | exact cr_23 | exact cr_24 | exact cr_25 | exact cr_26 | exact cr_27 | exact cr_28 | exact cr_29 | exact cr_30 | assumption)) rfl rfl rfl (Nat.le_of_ble_eq_true rfl) ?_
      refine zr_i2l dX6_withCard_26 (rfl : 26 + 1 = 27) ?_
      refine zr_ladd dX6_withCard_27 (rfl : 27 + 1 = 28) ?_
      refine zr_lstore (lv' := [_, _, _, _, _, _, _]) dX6_withCard_28 (rfl : 28 + 2 = 30) (Nat.le_of_ble_eq_true rfl) rfl ?_
      refine zr_iinc (lv' := [_, _, _, _, _, _, _]) dX6_withCard_30 (rfl : 30 + 3 = 33) (Nat.le_of_ble_eq_true rfl) rfl (by first | exact jI_add _ _ | rfl) rfl ?_
      refine zr_goto (tgt := 6) dX6_withCard_33 (by decide) ?_
      exact hk _ (by rw [jhs_next _ k0, hx])
  · intro x hx
    rw [show x = jhs (jcd B c) 9 h from hx]
    refine zr_iload dX6_withCard_6 (rfl : 6 + 2 = 8) rfl ?_
    refine zr_bipush dX6_withCard_8 (rfl : 8 + 2 = 10) (by decide) ?_
    refine zr_icmp_ge (tgt := 36) dX6_withCard_10 (by decide) (rfl : 10 + 3 = 13) (jI_le (by first | omega | (simp only [bset, reduceIte, Nat.reduceEqDiff]; omega)) (by first | omega | (simp only [bset, reduceIte, Nat.reduceEqDiff]; omega)) (by first | omega | (simp only [bset, reduceIte, Nat.reduceEqDiff]; omega)) (by first | omega | (simp only [bset, reduceIte, Nat.reduceEqDiff]; omega))) (fun h10 => ?_) (fun h10 => ?_)
    · refine zr_iconst dX6_withCard_36 (rfl : 36 + 1 = 37) ?_
      refine zr_istore (lv' := [_, _, _, _, _, _, _]) dX6_withCard_37 (rfl : 37 + 2 = 39) (Nat.le_of_ble_eq_true rfl) rfl ?_
      refine zfor1 0 4 (fun g x => x = jhs (jh5 B c) (3 * g).toNat (jhs (jcd B c) 9 h)) (fun g x => [some (.ref 5), some (.long h), none, some (.int (jI c)), some (.long x), none, some (.int (jI g))]) (fun _ _ => bk 6 B (cr σ τ u)) _ rfl ?_ ?_
      · intro g x g0 g1 hx hk
        refine zr_iload dX6_withCard_39 (rfl : 39 + 2 = 41) rfl ?_
        refine zr_iconst dX6_withCard_41 (rfl : 41 + 1 = 42) ?_
        refine zr_icmp_ge (tgt := 104) dX6_withCard_42 (by decide) (rfl : 42 + 3 = 45) (jI_le (by first | omega | (simp only [bset, reduceIte, Nat.reduceEqDiff]; omega)) (by first | omega | (simp only [bset, reduceIte, Nat.reduceEqDiff]; omega)) (by first | omega | (simp only [bset, reduceIte, Nat.reduceEqDiff]; omega)) (by first | omega | (simp only [bset, reduceIte, Nat.reduceEqDiff]; omega))) (fun h42 => ?_) (fun h42 => ?_)
        · exfalso; omega
        · have e1 := jhs_next (jh5 B c) (i := 3 * g) (by omega) (jhs (jcd B c) 9 h)
          have e2 := jhs_next (jh5 B c) (i := 3 * g + 1) (by omega) (jhs (jcd B c) 9 h)
          have e3 := jhs_next (jh5 B c) (i := 3 * g + 1 + 1) (by omega) (jhs (jcd B c) 9 h)
          have f1 : jh5 B c (3 * g) = jic B c g := by
            unfold jh5
            rw [if_pos (by omega), show 3 * g / 3 = g by omega]
          have f2 : jh5 B c (3 * g + 1) = jms B c g 0 := by
            unfold jh5
            rw [if_neg (by omega), show (3 * g + 1) / 3 = g by omega, show (3 * g + 1) % 3 - 1 = 0 by omega]
          have f3 : jh5 B c (3 * g + 1 + 1) = jms B c g 1 := by
            unfold jh5
            rw [if_neg (by omega), show (3 * g + 1 + 1) / 3 = g by omega, show (3 * g + 1 + 1) % 3 - 1 = 1 by omega]
          refine zr_ldc2 dX6_withCard_45 (rfl : 45 + 3 = 48) k_X6_281 ?_
          refine zr_lload dX6_withCard_48 (rfl : 48 + 2 = 50) rfl ?_
          refine zr_lmul dX6_withCard_50 (rfl : 50 + 1 = 51) ?_
          refine zr_aload_n dX6_withCard_51 (rfl : 51 + 1 = 52) rfl ?_
          refine zr_iload_n dX6_withCard_52 (rfl : 52 + 1 = 53) rfl ?_
          refine zr_iload dX6_withCard_53 (rfl : 53 + 2 = 55) rfl ?_
          refine zr_fnV dX6_withCard_55 (rfl : 55 + 3 = 58) l_X6_320 (s_ifClaimed c g ⟨hc, by omega⟩ ok) (by first | assumption | exact bk_0 | exact bk_1 | exact bk_2 | exact bk_3 | exact bk_4 | exact bk_5 | exact bk_6 | exact bk_7 | exact bk_8 | exact bk_9 | exact bk_10 | exact bk_11 | exact bk_12 | exact bk_13 | exact bk_14 | exact bk_15 | exact bk_16 | exact zup_self | exact (zup_ne (by first | assumption | omega)).trans (by first | assumption | exact zup_self) | exact (zup_ne (by first | assumption | omega)).trans ((zup_ne (by first | assumption | omega)).trans (by first | assumption | exact zup_self)) | exact (bk_out (by first | omega | (simp only [bset, reduceIte, Nat.reduceEqDiff]; omega))).trans (by first | exact bk_0 | exact bk_1 | exact bk_2 | exact bk_3 | exact bk_4 | exact bk_5 | exact bk_6 | exact bk_7 | exact bk_8 | exact bk_9 | exact bk_10 | exact bk_11 | exact bk_12 | exact bk_13 | exact bk_14 | exact bk_15 | exact bk_16 | exact cr_5 | exact cr_23 | exact cr_24 | exact cr_25 | exact cr_26 | exact cr_27 | exact cr_28 | exact cr_29 | exact cr_30 | assumption)) rfl rfl rfl (Nat.le_of_ble_eq_true rfl) ?_
          refine zr_i2l dX6_withCard_58 (rfl : 58 + 1 = 59) ?_
          refine zr_ladd dX6_withCard_59 (rfl : 59 + 1 = 60) ?_
          refine zr_lstore (lv' := [_, _, _, _, _, _, _]) dX6_withCard_60 (rfl : 60 + 2 = 62) (Nat.le_of_ble_eq_true rfl) rfl ?_
          refine zr_ldc2 dX6_withCard_62 (rfl : 62 + 3 = 65) k_X6_281 ?_
          refine zr_lload dX6_withCard_65 (rfl : 65 + 2 = 67) rfl ?_
          refine zr_lmul dX6_withCard_67 (rfl : 67 + 1 = 68) ?_
          refine zr_aload_n dX6_withCard_68 (rfl : 68 + 1 = 69) rfl ?_
          refine zr_iload_n dX6_withCard_69 (rfl : 69 + 1 = 70) rfl ?_
          refine zr_iload dX6_withCard_70 (rfl : 70 + 2 = 72) rfl ?_
          refine zr_iconst dX6_withCard_72 (rfl : 72 + 1 = 73) ?_
          refine zr_fnV dX6_withCard_73 (rfl : 73 + 3 = 76) l_X6_323 (s_missing c g 0 ⟨hc, by omega⟩ (by decide) ok) (by first | assumption | exact bk_0 | exact bk_1 | exact bk_2 | exact bk_3 | exact bk_4 | exact bk_5 | exact bk_6 | exact bk_7 | exact bk_8 | exact bk_9 | exact bk_10 | exact bk_11 | exact bk_12 | exact bk_13 | exact bk_14 | exact bk_15 | exact bk_16 | exact zup_self | exact (zup_ne (by first | assumption | omega)).trans (by first | assumption | exact zup_self) | exact (zup_ne (by first | assumption | omega)).trans ((zup_ne (by first | assumption | omega)).trans (by first | assumption | exact zup_self)) | exact (bk_out (by first | omega | (simp only [bset, reduceIte, Nat.reduceEqDiff]; omega))).trans (by first | exact bk_0 | exact bk_1 | exact bk_2 | exact bk_3 | exact bk_4 | exact bk_5 | exact bk_6 | exact bk_7 | exact bk_8 | exact bk_9 | exact bk_10 | exact bk_11 | exact bk_12 | exact bk_13 | exact bk_14 | exact bk_15 | exact bk_16 | exact cr_5 | exact cr_23 | exact cr_24 | exact cr_25 | exact cr_26 | exact cr_27 | exact cr_28 | exact cr_29 | exact cr_30 | assumption)) rfl rfl rfl (Nat.le_of_ble_eq_true rfl) ?_
          refine zr_i2l dX6_withCard_76 (rfl : 76 + 1 = 77) ?_
          refine zr_ladd dX6_withCard_77 (rfl : 77 + 1 = 78) ?_
          refine zr_lstore (lv' := [_, _, _, _, _, _, _]) dX6_withCard_78 (rfl : 78 + 2 = 80) (Nat.le_of_ble_eq_true rfl) rfl ?_
          refine zr_ldc2 dX6_withCard_80 (rfl : 80 + 3 = 83) k_X6_281 ?_
          refine zr_lload dX6_withCard_83 (rfl : 83 + 2 = 85) rfl ?_
          refine zr_lmul dX6_withCard_85 (rfl : 85 + 1 = 86) ?_
          refine zr_aload_n dX6_withCard_86 (rfl : 86 + 1 = 87) rfl ?_
          refine zr_iload_n dX6_withCard_87 (rfl : 87 + 1 = 88) rfl ?_
          refine zr_iload dX6_withCard_88 (rfl : 88 + 2 = 90) rfl ?_
          refine zr_iconst dX6_withCard_90 (rfl : 90 + 1 = 91) ?_
          refine zr_fnV dX6_withCard_91 (rfl : 91 + 3 = 94) l_X6_323 (s_missing c g 1 ⟨hc, by omega⟩ (by decide) ok) (by first | assumption | exact bk_0 | exact bk_1 | exact bk_2 | exact bk_3 | exact bk_4 | exact bk_5 | exact bk_6 | exact bk_7 | exact bk_8 | exact bk_9 | exact bk_10 | exact bk_11 | exact bk_12 | exact bk_13 | exact bk_14 | exact bk_15 | exact bk_16 | exact zup_self | exact (zup_ne (by first | assumption | omega)).trans (by first | assumption | exact zup_self) | exact (zup_ne (by first | assumption | omega)).trans ((zup_ne (by first | assumption | omega)).trans (by first | assumption | exact zup_self)) | exact (bk_out (by first | omega | (simp only [bset, reduceIte, Nat.reduceEqDiff]; omega))).trans (by first | exact bk_0 | exact bk_1 | exact bk_2 | exact bk_3 | exact bk_4 | exact bk_5 | exact bk_6 | exact bk_7 | exact bk_8 | exact bk_9 | exact bk_10 | exact bk_11 | exact bk_12 | exact bk_13 | exact bk_14 | exact bk_15 | exact bk_16 | exact cr_5 | exact cr_23 | exact cr_24 | exact cr_25 | exact cr_26 | exact cr_27 | exact cr_28 | exact cr_29 | exact cr_30 | assumption)) rfl rfl rfl (Nat.le_of_ble_eq_true rfl) ?_
          refine zr_i2l dX6_withCard_94 (rfl : 94 + 1 = 95) ?_
          refine zr_ladd dX6_withCard_95 (rfl : 95 + 1 = 96) ?_
          refine zr_lstore (lv' := [_, _, _, _, _, _, _]) dX6_withCard_96 (rfl : 96 + 2 = 98) (Nat.le_of_ble_eq_true rfl) rfl ?_
          refine zr_iinc (lv' := [_, _, _, _, _, _, _]) dX6_withCard_98 (rfl : 98 + 3 = 101) (Nat.le_of_ble_eq_true rfl) rfl (by first | exact jI_add _ _ | rfl) rfl ?_
          refine zr_goto (tgt := 39) dX6_withCard_101 (by decide) ?_
          exact hk _ (by rw [show 3 * (g + 1) = 3 * g + 1 + 1 + 1 by omega, e3, e2, e1, f1, f2, f3, hx])
      · intro x hx
        rw [show x = jhs (jh5 B c) 12 (jhs (jcd B c) 9 h) from hx]
        refine zr_iload dX6_withCard_39 (rfl : 39 + 2 = 41) rfl ?_
        refine zr_iconst dX6_withCard_41 (rfl : 41 + 1 = 42) ?_
        refine zr_icmp_ge (tgt := 104) dX6_withCard_42 (by decide) (rfl : 42 + 3 = 45) (jI_le (by first | omega | (simp only [bset, reduceIte, Nat.reduceEqDiff]; omega)) (by first | omega | (simp only [bset, reduceIte, Nat.reduceEqDiff]; omega)) (by first | omega | (simp only [bset, reduceIte, Nat.reduceEqDiff]; omega)) (by first | omega | (simp only [bset, reduceIte, Nat.reduceEqDiff]; omega))) (fun h42 => ?_) (fun h42 => ?_)
        · refine zr_ldc2 dX6_withCard_104 (rfl : 104 + 3 = 107) k_X6_281 ?_
          refine zr_lload dX6_withCard_107 (rfl : 107 + 2 = 109) rfl ?_
          refine zr_lmul dX6_withCard_109 (rfl : 109 + 1 = 110) ?_
          refine zr_aload_n dX6_withCard_110 (rfl : 110 + 1 = 111) rfl ?_
          refine zr_iload_n dX6_withCard_111 (rfl : 111 + 1 = 112) rfl ?_
          refine zr_iconst dX6_withCard_112 (rfl : 112 + 1 = 113) ?_
          refine zr_fnV dX6_withCard_113 (rfl : 113 + 3 = 116) l_X6_327 (hfa) (by first | assumption | exact bk_0 | exact bk_1 | exact bk_2 | exact bk_3 | exact bk_4 | exact bk_5 | exact bk_6 | exact bk_7 | exact bk_8 | exact bk_9 | exact bk_10 | exact bk_11 | exact bk_12 | exact bk_13 | exact bk_14 | exact bk_15 | exact bk_16 | exact zup_self | exact (zup_ne (by first | assumption | omega)).trans (by first | assumption | exact zup_self) | exact (zup_ne (by first | assumption | omega)).trans ((zup_ne (by first | assumption | omega)).trans (by first | assumption | exact zup_self)) | exact (bk_out (by first | omega | (simp only [bset, reduceIte, Nat.reduceEqDiff]; omega))).trans (by first | exact bk_0 | exact bk_1 | exact bk_2 | exact bk_3 | exact bk_4 | exact bk_5 | exact bk_6 | exact bk_7 | exact bk_8 | exact bk_9 | exact bk_10 | exact bk_11 | exact bk_12 | exact bk_13 | exact bk_14 | exact bk_15 | exact bk_16 | exact cr_5 | exact cr_23 | exact cr_24 | exact cr_25 | exact cr_26 | exact cr_27 | exact cr_28 | exact cr_29 | exact cr_30 | assumption)) rfl rfl rfl (Nat.le_of_ble_eq_true rfl) ?_
          refine zr_i2l dX6_withCard_116 (rfl : 116 + 1 = 117) ?_
          refine zr_ladd dX6_withCard_117 (rfl : 117 + 1 = 118) ?_
          exact zr_lret dX6_withCard_118 rfl rfl rfl rfl rfl
        · exfalso; omega
    · exfalso; omega
theorem s_withNumbersAndCalls (h : Int64) (ok : jok B) : zFn Γ md_X6_withNumbersAndCalls (d + 6) [.ref 5, .long h] (bk 6 B (cr σ τ u)) (some (.long (jhs (jh2 B) 20 (jhs (jh1 B) 360 h)))) (bk 6 B (cr σ τ u)) := by
  refine zFn.of_run (lv := [some (.ref 5), some (.long h), none, none, none, none, none]) (by decide) rfl (Nat.le_of_ble_eq_true rfl) rfl (fun n9 g9 => ?_)
  refine zr_lload_n dX6_withNumbersAndCalls_0 (rfl : 0 + 1 = 1) rfl ?_
  refine zr_lstore_n (lv' := [_, _, _, _, _, _, _]) dX6_withNumbersAndCalls_1 (rfl : 1 + 1 = 2) (Nat.le_of_ble_eq_true rfl) rfl ?_
  refine zr_iconst dX6_withNumbersAndCalls_2 (rfl : 2 + 1 = 3) ?_
  refine zr_istore (lv' := [_, _, _, _, _, _, _]) dX6_withNumbersAndCalls_3 (rfl : 3 + 2 = 5) (Nat.le_of_ble_eq_true rfl) rfl ?_
  refine zfor2 1 90 (fun n x _ => x = jhs (jh1 B) (4 * (n - 1)).toNat h) (fun n x o6 => [some (.ref 5), some (.long h), none, some (.long x), none, some (.int (jI n)), o6]) (fun _ _ _ => bk 6 B (cr σ τ u)) h none rfl ?_ ?_
  · intro n x o6 n0 n1 hx hk
    refine zr_iload dX6_withNumbersAndCalls_5 (rfl : 5 + 2 = 7) rfl ?_
    refine zr_bipush dX6_withNumbersAndCalls_7 (rfl : 7 + 2 = 9) (by decide) ?_
    refine zr_icmp_gt (tgt := 49) dX6_withNumbersAndCalls_9 (by decide) (rfl : 9 + 3 = 12) (jI_lt (by first | omega | (simp only [bset, reduceIte, Nat.reduceEqDiff]; omega)) (by first | omega | (simp only [bset, reduceIte, Nat.reduceEqDiff]; omega)) (by first | omega | (simp only [bset, reduceIte, Nat.reduceEqDiff]; omega)) (by first | omega | (simp only [bset, reduceIte, Nat.reduceEqDiff]; omega))) (fun h9 => ?_) (fun h9 => ?_)
    · exfalso; omega
    · refine zr_iconst dX6_withNumbersAndCalls_12 (rfl : 12 + 1 = 13) ?_
      refine zr_istore (lv' := [_, _, _, _, _, _, _]) dX6_withNumbersAndCalls_13 (rfl : 13 + 2 = 15) (Nat.le_of_ble_eq_true rfl) rfl ?_
      refine zfor1 0 4 (fun c x => x = jhs (jh1 B) (4 * (n - 1) + c).toNat h) (fun c x => [some (.ref 5), some (.long h), none, some (.long x), none, some (.int (jI n)), some (.int (jI c))]) (fun _ _ => bk 6 B (cr σ τ u)) x (by rw [Int.add_zero]; exact hx) ?_ ?_
      · intro c x c0 c1 hx hk2
        have f1 : jh1 B (4 * (n - 1) + c) = jno B n c := by
          unfold jh1
          rw [show (4 * (n - 1) + c) / 4 + 1 = n by omega, show (4 * (n - 1) + c) % 4 = c by omega]
        refine zr_iload dX6_withNumbersAndCalls_15 (rfl : 15 + 2 = 17) rfl ?_
        refine zr_iconst dX6_withNumbersAndCalls_17 (rfl : 17 + 1 = 18) ?_
        refine zr_icmp_ge (tgt := 43) dX6_withNumbersAndCalls_18 (by decide) (rfl : 18 + 3 = 21) (jI_le (by first | omega | (simp only [bset, reduceIte, Nat.reduceEqDiff]; omega)) (by first | omega | (simp only [bset, reduceIte, Nat.reduceEqDiff]; omega)) (by first | omega | (simp only [bset, reduceIte, Nat.reduceEqDiff]; omega)) (by first | omega | (simp only [bset, reduceIte, Nat.reduceEqDiff]; omega))) (fun h18 => ?_) (fun h18 => ?_)
        · exfalso; omega
        · refine zr_ldc2 dX6_withNumbersAndCalls_21 (rfl : 21 + 3 = 24) k_X6_281 ?_
          refine zr_lload_n dX6_withNumbersAndCalls_24 (rfl : 24 + 1 = 25) rfl ?_
          refine zr_lmul dX6_withNumbersAndCalls_25 (rfl : 25 + 1 = 26) ?_
          refine zr_aload_n dX6_withNumbersAndCalls_26 (rfl : 26 + 1 = 27) rfl ?_
          refine zr_iload dX6_withNumbersAndCalls_27 (rfl : 27 + 2 = 29) rfl ?_
          refine zr_iload dX6_withNumbersAndCalls_29 (rfl : 29 + 2 = 31) rfl ?_
          refine zr_fnV dX6_withNumbersAndCalls_31 (rfl : 31 + 3 = 34) l_X6_330 (s_numberOf n c (by first | omega | (simp only [bset, reduceIte, Nat.reduceEqDiff]; omega)) ok) (by first | assumption | exact bk_0 | exact bk_1 | exact bk_2 | exact bk_3 | exact bk_4 | exact bk_5 | exact bk_6 | exact bk_7 | exact bk_8 | exact bk_9 | exact bk_10 | exact bk_11 | exact bk_12 | exact bk_13 | exact bk_14 | exact bk_15 | exact bk_16 | exact zup_self | exact (zup_ne (by first | assumption | omega)).trans (by first | assumption | exact zup_self) | exact (zup_ne (by first | assumption | omega)).trans ((zup_ne (by first | assumption | omega)).trans (by first | assumption | exact zup_self)) | exact (bk_out (by first | omega | (simp only [bset, reduceIte, Nat.reduceEqDiff]; omega))).trans (by first | exact bk_0 | exact bk_1 | exact bk_2 | exact bk_3 | exact bk_4 | exact bk_5 | exact bk_6 | exact bk_7 | exact bk_8 | exact bk_9 | exact bk_10 | exact bk_11 | exact bk_12 | exact bk_13 | exact bk_14 | exact bk_15 | exact bk_16 | exact cr_5 | exact cr_23 | exact cr_24 | exact cr_25 | exact cr_26 | exact cr_27 | exact cr_28 | exact cr_29 | exact cr_30 | assumption)) rfl rfl rfl (Nat.le_of_ble_eq_true rfl) ?_
          refine zr_i2l dX6_withNumbersAndCalls_34 (rfl : 34 + 1 = 35) ?_
          refine zr_ladd dX6_withNumbersAndCalls_35 (rfl : 35 + 1 = 36) ?_
          refine zr_lstore_n (lv' := [_, _, _, _, _, _, _]) dX6_withNumbersAndCalls_36 (rfl : 36 + 1 = 37) (Nat.le_of_ble_eq_true rfl) rfl ?_
          refine zr_iinc (lv' := [_, _, _, _, _, _, _]) dX6_withNumbersAndCalls_37 (rfl : 37 + 3 = 40) (Nat.le_of_ble_eq_true rfl) rfl (by first | exact jI_add _ _ | rfl) rfl ?_
          refine zr_goto (tgt := 15) dX6_withNumbersAndCalls_40 (by decide) ?_
          refine hk2 _ ?_
          rw [show 4 * (n - 1) + (c + 1) = 4 * (n - 1) + c + 1 by omega, jhs_next _ (by omega), hx, f1]
      · intro x hx
        refine zr_iload dX6_withNumbersAndCalls_15 (rfl : 15 + 2 = 17) rfl ?_
        refine zr_iconst dX6_withNumbersAndCalls_17 (rfl : 17 + 1 = 18) ?_
        refine zr_icmp_ge (tgt := 43) dX6_withNumbersAndCalls_18 (by decide) (rfl : 18 + 3 = 21) (jI_le (by first | omega | (simp only [bset, reduceIte, Nat.reduceEqDiff]; omega)) (by first | omega | (simp only [bset, reduceIte, Nat.reduceEqDiff]; omega)) (by first | omega | (simp only [bset, reduceIte, Nat.reduceEqDiff]; omega)) (by first | omega | (simp only [bset, reduceIte, Nat.reduceEqDiff]; omega))) (fun h18 => ?_) (fun h18 => ?_)
        · refine zr_iinc (lv' := [_, _, _, _, _, _, _]) dX6_withNumbersAndCalls_43 (rfl : 43 + 3 = 46) (Nat.le_of_ble_eq_true rfl) rfl (by first | exact jI_add _ _ | rfl) rfl ?_
          refine zr_goto (tgt := 5) dX6_withNumbersAndCalls_46 (by decide) ?_
          exact hk _ _ (by rw [hx, show 4 * (n - 1) + ((0 : Int) + ((4 : Nat) : Int)) = 4 * (n + 1 - 1) by omega])
        · exfalso; omega
  · intro x o6 hx
    rw [show x = jhs (jh1 B) 360 h from hx]
    refine zr_iload dX6_withNumbersAndCalls_5 (rfl : 5 + 2 = 7) rfl ?_
    refine zr_bipush dX6_withNumbersAndCalls_7 (rfl : 7 + 2 = 9) (by decide) ?_
    refine zr_icmp_gt (tgt := 49) dX6_withNumbersAndCalls_9 (by decide) (rfl : 9 + 3 = 12) (jI_lt (by first | omega | (simp only [bset, reduceIte, Nat.reduceEqDiff]; omega)) (by first | omega | (simp only [bset, reduceIte, Nat.reduceEqDiff]; omega)) (by first | omega | (simp only [bset, reduceIte, Nat.reduceEqDiff]; omega)) (by first | omega | (simp only [bset, reduceIte, Nat.reduceEqDiff]; omega))) (fun h9 => ?_) (fun h9 => ?_)
    · refine zr_iconst dX6_withNumbersAndCalls_49 (rfl : 49 + 1 = 50) ?_
      refine zr_istore (lv' := [_, _, _, _, _, _, _]) dX6_withNumbersAndCalls_50 (rfl : 50 + 2 = 52) (Nat.le_of_ble_eq_true rfl) rfl ?_
      refine zfor1 0 10 (fun a x => x = jhs (jh2 B) (2 * a).toNat (jhs (jh1 B) 360 h)) (fun a x => [some (.ref 5), some (.long h), none, some (.long x), none, some (.int (jI a)), o6]) (fun _ _ => bk 6 B (cr σ τ u)) _ rfl ?_ ?_
      · intro a x a0 a1 hx hk
        refine zr_iload dX6_withNumbersAndCalls_52 (rfl : 52 + 2 = 54) rfl ?_
        refine zr_bipush dX6_withNumbersAndCalls_54 (rfl : 54 + 2 = 56) (by decide) ?_
        refine zr_icmp_ge (tgt := 95) dX6_withNumbersAndCalls_56 (by decide) (rfl : 56 + 3 = 59) (jI_le (by first | omega | (simp only [bset, reduceIte, Nat.reduceEqDiff]; omega)) (by first | omega | (simp only [bset, reduceIte, Nat.reduceEqDiff]; omega)) (by first | omega | (simp only [bset, reduceIte, Nat.reduceEqDiff]; omega)) (by first | omega | (simp only [bset, reduceIte, Nat.reduceEqDiff]; omega))) (fun h56 => ?_) (fun h56 => ?_)
        · exfalso; omega
        · have e1 := jhs_next (jh2 B) (i := 2 * a) (by omega) (jhs (jh1 B) 360 h)
          have e2 := jhs_next (jh2 B) (i := 2 * a + 1) (by omega) (jhs (jh1 B) 360 h)
          have f1 : jh2 B (2 * a) = jcl B a 0 := by
            unfold jh2
            rw [show 2 * a / 2 = a by omega, show 2 * a % 2 = 0 by omega]
          have f2 : jh2 B (2 * a + 1) = jcl B a 1 := by
            unfold jh2
            rw [show (2 * a + 1) / 2 = a by omega, show (2 * a + 1) % 2 = 1 by omega]
          refine zr_ldc2 dX6_withNumbersAndCalls_59 (rfl : 59 + 3 = 62) k_X6_281 ?_
          refine zr_lload_n dX6_withNumbersAndCalls_62 (rfl : 62 + 1 = 63) rfl ?_
          refine zr_lmul dX6_withNumbersAndCalls_63 (rfl : 63 + 1 = 64) ?_
          refine zr_aload_n dX6_withNumbersAndCalls_64 (rfl : 64 + 1 = 65) rfl ?_
          refine zr_iload dX6_withNumbersAndCalls_65 (rfl : 65 + 2 = 67) rfl ?_
          refine zr_iconst dX6_withNumbersAndCalls_67 (rfl : 67 + 1 = 68) ?_
          refine zr_fnV dX6_withNumbersAndCalls_68 (rfl : 68 + 3 = 71) l_X6_333 (s_call a 0 (by first | omega | (simp only [bset, reduceIte, Nat.reduceEqDiff]; omega)) (by first | omega | (simp only [bset, reduceIte, Nat.reduceEqDiff]; omega)) ok) (by first | assumption | exact bk_0 | exact bk_1 | exact bk_2 | exact bk_3 | exact bk_4 | exact bk_5 | exact bk_6 | exact bk_7 | exact bk_8 | exact bk_9 | exact bk_10 | exact bk_11 | exact bk_12 | exact bk_13 | exact bk_14 | exact bk_15 | exact bk_16 | exact zup_self | exact (zup_ne (by first | assumption | omega)).trans (by first | assumption | exact zup_self) | exact (zup_ne (by first | assumption | omega)).trans ((zup_ne (by first | assumption | omega)).trans (by first | assumption | exact zup_self)) | exact (bk_out (by first | omega | (simp only [bset, reduceIte, Nat.reduceEqDiff]; omega))).trans (by first | exact bk_0 | exact bk_1 | exact bk_2 | exact bk_3 | exact bk_4 | exact bk_5 | exact bk_6 | exact bk_7 | exact bk_8 | exact bk_9 | exact bk_10 | exact bk_11 | exact bk_12 | exact bk_13 | exact bk_14 | exact bk_15 | exact bk_16 | exact cr_5 | exact cr_23 | exact cr_24 | exact cr_25 | exact cr_26 | exact cr_27 | exact cr_28 | exact cr_29 | exact cr_30 | assumption)) rfl rfl rfl (Nat.le_of_ble_eq_true rfl) ?_
          refine zr_i2l dX6_withNumbersAndCalls_71 (rfl : 71 + 1 = 72) ?_
          refine zr_ladd dX6_withNumbersAndCalls_72 (rfl : 72 + 1 = 73) ?_
          refine zr_lstore_n (lv' := [_, _, _, _, _, _, _]) dX6_withNumbersAndCalls_73 (rfl : 73 + 1 = 74) (Nat.le_of_ble_eq_true rfl) rfl ?_
          refine zr_ldc2 dX6_withNumbersAndCalls_74 (rfl : 74 + 3 = 77) k_X6_281 ?_
          refine zr_lload_n dX6_withNumbersAndCalls_77 (rfl : 77 + 1 = 78) rfl ?_
          refine zr_lmul dX6_withNumbersAndCalls_78 (rfl : 78 + 1 = 79) ?_
          refine zr_aload_n dX6_withNumbersAndCalls_79 (rfl : 79 + 1 = 80) rfl ?_
          refine zr_iload dX6_withNumbersAndCalls_80 (rfl : 80 + 2 = 82) rfl ?_
          refine zr_iconst dX6_withNumbersAndCalls_82 (rfl : 82 + 1 = 83) ?_
          refine zr_fnV dX6_withNumbersAndCalls_83 (rfl : 83 + 3 = 86) l_X6_333 (s_call a 1 (by first | omega | (simp only [bset, reduceIte, Nat.reduceEqDiff]; omega)) (by first | omega | (simp only [bset, reduceIte, Nat.reduceEqDiff]; omega)) ok) (by first | assumption | exact bk_0 | exact bk_1 | exact bk_2 | exact bk_3 | exact bk_4 | exact bk_5 | exact bk_6 | exact bk_7 | exact bk_8 | exact bk_9 | exact bk_10 | exact bk_11 | exact bk_12 | exact bk_13 | exact bk_14 | exact bk_15 | exact bk_16 | exact zup_self | exact (zup_ne (by first | assumption | omega)).trans (by first | assumption | exact zup_self) | exact (zup_ne (by first | assumption | omega)).trans ((zup_ne (by first | assumption | omega)).trans (by first | assumption | exact zup_self)) | exact (bk_out (by first | omega | (simp only [bset, reduceIte, Nat.reduceEqDiff]; omega))).trans (by first | exact bk_0 | exact bk_1 | exact bk_2 | exact bk_3 | exact bk_4 | exact bk_5 | exact bk_6 | exact bk_7 | exact bk_8 | exact bk_9 | exact bk_10 | exact bk_11 | exact bk_12 | exact bk_13 | exact bk_14 | exact bk_15 | exact bk_16 | exact cr_5 | exact cr_23 | exact cr_24 | exact cr_25 | exact cr_26 | exact cr_27 | exact cr_28 | exact cr_29 | exact cr_30 | assumption)) rfl rfl rfl (Nat.le_of_ble_eq_true rfl) ?_
          refine zr_i2l dX6_withNumbersAndCalls_86 (rfl : 86 + 1 = 87) ?_
          refine zr_ladd dX6_withNumbersAndCalls_87 (rfl : 87 + 1 = 88) ?_
          refine zr_lstore_n (lv' := [_, _, _, _, _, _, _]) dX6_withNumbersAndCalls_88 (rfl : 88 + 1 = 89) (Nat.le_of_ble_eq_true rfl) rfl ?_
          refine zr_iinc (lv' := [_, _, _, _, _, _, _]) dX6_withNumbersAndCalls_89 (rfl : 89 + 3 = 92) (Nat.le_of_ble_eq_true rfl) rfl (by first | exact jI_add _ _ | rfl) rfl ?_
          refine zr_goto (tgt := 52) dX6_withNumbersAndCalls_92 (by decide) ?_
          exact hk _ (by rw [show 2 * (a + 1) = 2 * a + 1 + 1 by omega, e2, e1, f1, f2, hx])
      · intro x hx
        rw [show x = jhs (jh2 B) 20 (jhs (jh1 B) 360 h) from hx]
        refine zr_iload dX6_withNumbersAndCalls_52 (rfl : 52 + 2 = 54) rfl ?_
        refine zr_bipush dX6_withNumbersAndCalls_54 (rfl : 54 + 2 = 56) (by decide) ?_
        refine zr_icmp_ge (tgt := 95) dX6_withNumbersAndCalls_56 (by decide) (rfl : 56 + 3 = 59) (jI_le (by first | omega | (simp only [bset, reduceIte, Nat.reduceEqDiff]; omega)) (by first | omega | (simp only [bset, reduceIte, Nat.reduceEqDiff]; omega)) (by first | omega | (simp only [bset, reduceIte, Nat.reduceEqDiff]; omega)) (by first | omega | (simp only [bset, reduceIte, Nat.reduceEqDiff]; omega))) (fun h56 => ?_) (fun h56 => ?_)
        · refine zr_lload_n dX6_withNumbersAndCalls_95 (rfl : 95 + 1 = 96) rfl ?_
          exact zr_lret dX6_withNumbersAndCalls_96 rfl rfl rfl rfl rfl
        · exfalso; omega
    · exfalso; omega
theorem s_withGamesAndRows (h : Int64) (ok : jok B) : zFn Γ md_X6_withGamesAndRows (d + 6) [.ref 5, .long h] (bk 6 B (cr σ τ u)) (some (.long (jhs (jh4 B) 18 (jhs (jh3 B) 16 h)))) (bk 6 B (cr σ τ u)) := by
  refine zFn.of_run (lv := [some (.ref 5), some (.long h), none, none, none, none, none]) (by decide) rfl (Nat.le_of_ble_eq_true rfl) rfl (fun n9 g9 => ?_)
  refine zr_lload_n dX6_withGamesAndRows_0 (rfl : 0 + 1 = 1) rfl ?_
  refine zr_lstore_n (lv' := [_, _, _, _, _, _, _]) dX6_withGamesAndRows_1 (rfl : 1 + 1 = 2) (Nat.le_of_ble_eq_true rfl) rfl ?_
  refine zr_iconst dX6_withGamesAndRows_2 (rfl : 2 + 1 = 3) ?_
  refine zr_istore (lv' := [_, _, _, _, _, _, _]) dX6_withGamesAndRows_3 (rfl : 3 + 2 = 5) (Nat.le_of_ble_eq_true rfl) rfl ?_
  refine zfor2 0 4 (fun n x _ => x = jhs (jh3 B) (4 * n).toNat h) (fun n x o6 => [some (.ref 5), some (.long h), none, some (.long x), none, some (.int (jI n)), o6]) (fun _ _ _ => bk 6 B (cr σ τ u)) h none rfl ?_ ?_
  · intro n x o6 n0 n1 hx hk
    refine zr_iload dX6_withGamesAndRows_5 (rfl : 5 + 2 = 7) rfl ?_
    refine zr_iconst dX6_withGamesAndRows_7 (rfl : 7 + 1 = 8) ?_
    refine zr_icmp_ge (tgt := 48) dX6_withGamesAndRows_8 (by decide) (rfl : 8 + 3 = 11) (jI_le (by first | omega | (simp only [bset, reduceIte, Nat.reduceEqDiff]; omega)) (by first | omega | (simp only [bset, reduceIte, Nat.reduceEqDiff]; omega)) (by first | omega | (simp only [bset, reduceIte, Nat.reduceEqDiff]; omega)) (by first | omega | (simp only [bset, reduceIte, Nat.reduceEqDiff]; omega))) (fun h9 => ?_) (fun h9 => ?_)
    · exfalso; omega
    · refine zr_iconst dX6_withGamesAndRows_11 (rfl : 11 + 1 = 12) ?_
      refine zr_istore (lv' := [_, _, _, _, _, _, _]) dX6_withGamesAndRows_12 (rfl : 12 + 2 = 14) (Nat.le_of_ble_eq_true rfl) rfl ?_
      refine zfor1 0 4 (fun c x => x = jhs (jh3 B) (4 * n + c).toNat h) (fun c x => [some (.ref 5), some (.long h), none, some (.long x), none, some (.int (jI n)), some (.int (jI c))]) (fun _ _ => bk 6 B (cr σ τ u)) x (by rw [Int.add_zero]; exact hx) ?_ ?_
      · intro c x c0 c1 hx hk2
        have f1 : jh3 B (4 * n + c) = jga B n c := by
          unfold jh3
          rw [show (4 * n + c) / 4 = n by omega, show (4 * n + c) % 4 = c by omega]
        refine zr_iload dX6_withGamesAndRows_14 (rfl : 14 + 2 = 16) rfl ?_
        refine zr_iconst dX6_withGamesAndRows_16 (rfl : 16 + 1 = 17) ?_
        refine zr_icmp_ge (tgt := 42) dX6_withGamesAndRows_17 (by decide) (rfl : 17 + 3 = 20) (jI_le (by first | omega | (simp only [bset, reduceIte, Nat.reduceEqDiff]; omega)) (by first | omega | (simp only [bset, reduceIte, Nat.reduceEqDiff]; omega)) (by first | omega | (simp only [bset, reduceIte, Nat.reduceEqDiff]; omega)) (by first | omega | (simp only [bset, reduceIte, Nat.reduceEqDiff]; omega))) (fun h18 => ?_) (fun h18 => ?_)
        · exfalso; omega
        · refine zr_ldc2 dX6_withGamesAndRows_20 (rfl : 20 + 3 = 23) k_X6_281 ?_
          refine zr_lload_n dX6_withGamesAndRows_23 (rfl : 23 + 1 = 24) rfl ?_
          refine zr_lmul dX6_withGamesAndRows_24 (rfl : 24 + 1 = 25) ?_
          refine zr_aload_n dX6_withGamesAndRows_25 (rfl : 25 + 1 = 26) rfl ?_
          refine zr_iload dX6_withGamesAndRows_26 (rfl : 26 + 2 = 28) rfl ?_
          refine zr_iload dX6_withGamesAndRows_28 (rfl : 28 + 2 = 30) rfl ?_
          refine zr_fnV dX6_withGamesAndRows_30 (rfl : 30 + 3 = 33) l_X6_336 (s_gameOf n c (by first | omega | (simp only [bset, reduceIte, Nat.reduceEqDiff]; omega)) (by first | omega | (simp only [bset, reduceIte, Nat.reduceEqDiff]; omega)) ok) (by first | assumption | exact bk_0 | exact bk_1 | exact bk_2 | exact bk_3 | exact bk_4 | exact bk_5 | exact bk_6 | exact bk_7 | exact bk_8 | exact bk_9 | exact bk_10 | exact bk_11 | exact bk_12 | exact bk_13 | exact bk_14 | exact bk_15 | exact bk_16 | exact zup_self | exact (zup_ne (by first | assumption | omega)).trans (by first | assumption | exact zup_self) | exact (zup_ne (by first | assumption | omega)).trans ((zup_ne (by first | assumption | omega)).trans (by first | assumption | exact zup_self)) | exact (bk_out (by first | omega | (simp only [bset, reduceIte, Nat.reduceEqDiff]; omega))).trans (by first | exact bk_0 | exact bk_1 | exact bk_2 | exact bk_3 | exact bk_4 | exact bk_5 | exact bk_6 | exact bk_7 | exact bk_8 | exact bk_9 | exact bk_10 | exact bk_11 | exact bk_12 | exact bk_13 | exact bk_14 | exact bk_15 | exact bk_16 | exact cr_5 | exact cr_23 | exact cr_24 | exact cr_25 | exact cr_26 | exact cr_27 | exact cr_28 | exact cr_29 | exact cr_30 | assumption)) rfl rfl rfl (Nat.le_of_ble_eq_true rfl) ?_
          refine zr_i2l dX6_withGamesAndRows_33 (rfl : 33 + 1 = 34) ?_
          refine zr_ladd dX6_withGamesAndRows_34 (rfl : 34 + 1 = 35) ?_
          refine zr_lstore_n (lv' := [_, _, _, _, _, _, _]) dX6_withGamesAndRows_35 (rfl : 35 + 1 = 36) (Nat.le_of_ble_eq_true rfl) rfl ?_
          refine zr_iinc (lv' := [_, _, _, _, _, _, _]) dX6_withGamesAndRows_36 (rfl : 36 + 3 = 39) (Nat.le_of_ble_eq_true rfl) rfl (by first | exact jI_add _ _ | rfl) rfl ?_
          refine zr_goto (tgt := 14) dX6_withGamesAndRows_39 (by decide) ?_
          refine hk2 _ ?_
          rw [show 4 * n + (c + 1) = 4 * n + c + 1 by omega, jhs_next _ (by omega), hx, f1]
      · intro x hx
        refine zr_iload dX6_withGamesAndRows_14 (rfl : 14 + 2 = 16) rfl ?_
        refine zr_iconst dX6_withGamesAndRows_16 (rfl : 16 + 1 = 17) ?_
        refine zr_icmp_ge (tgt := 42) dX6_withGamesAndRows_17 (by decide) (rfl : 17 + 3 = 20) (jI_le (by first | omega | (simp only [bset, reduceIte, Nat.reduceEqDiff]; omega)) (by first | omega | (simp only [bset, reduceIte, Nat.reduceEqDiff]; omega)) (by first | omega | (simp only [bset, reduceIte, Nat.reduceEqDiff]; omega)) (by first | omega | (simp only [bset, reduceIte, Nat.reduceEqDiff]; omega))) (fun h18 => ?_) (fun h18 => ?_)
        · refine zr_iinc (lv' := [_, _, _, _, _, _, _]) dX6_withGamesAndRows_42 (rfl : 42 + 3 = 45) (Nat.le_of_ble_eq_true rfl) rfl (by first | exact jI_add _ _ | rfl) rfl ?_
          refine zr_goto (tgt := 5) dX6_withGamesAndRows_45 (by decide) ?_
          exact hk _ _ (by rw [hx, show 4 * n + ((0 : Int) + ((4 : Nat) : Int)) = 4 * (n + 1) by omega])
        · exfalso; omega
  · intro x o6 hx
    rw [show x = jhs (jh3 B) 16 h from hx]
    refine zr_iload dX6_withGamesAndRows_5 (rfl : 5 + 2 = 7) rfl ?_
    refine zr_iconst dX6_withGamesAndRows_7 (rfl : 7 + 1 = 8) ?_
    refine zr_icmp_ge (tgt := 48) dX6_withGamesAndRows_8 (by decide) (rfl : 8 + 3 = 11) (jI_le (by first | omega | (simp only [bset, reduceIte, Nat.reduceEqDiff]; omega)) (by first | omega | (simp only [bset, reduceIte, Nat.reduceEqDiff]; omega)) (by first | omega | (simp only [bset, reduceIte, Nat.reduceEqDiff]; omega)) (by first | omega | (simp only [bset, reduceIte, Nat.reduceEqDiff]; omega))) (fun h9 => ?_) (fun h9 => ?_)
    · refine zr_iconst dX6_withGamesAndRows_48 (rfl : 48 + 1 = 49) ?_
      refine zr_istore (lv' := [_, _, _, _, _, _, _]) dX6_withGamesAndRows_49 (rfl : 49 + 2 = 51) (Nat.le_of_ble_eq_true rfl) rfl ?_
      refine zfor1 0 18 (fun a x => x = jhs (jh4 B) a.toNat (jhs (jh3 B) 16 h)) (fun a x => [some (.ref 5), some (.long h), none, some (.long x), none, some (.int (jI a)), o6]) (fun _ _ => bk 6 B (cr σ τ u)) _ rfl ?_ ?_
      · intro a x a0 a1 hx hk
        refine zr_iload dX6_withGamesAndRows_51 (rfl : 51 + 2 = 53) rfl ?_
        refine zr_bipush dX6_withGamesAndRows_53 (rfl : 53 + 2 = 55) (by decide) ?_
        refine zr_icmp_ge (tgt := 83) dX6_withGamesAndRows_55 (by decide) (rfl : 55 + 3 = 58) (jI_le (by first | omega | (simp only [bset, reduceIte, Nat.reduceEqDiff]; omega)) (by first | omega | (simp only [bset, reduceIte, Nat.reduceEqDiff]; omega)) (by first | omega | (simp only [bset, reduceIte, Nat.reduceEqDiff]; omega)) (by first | omega | (simp only [bset, reduceIte, Nat.reduceEqDiff]; omega))) (fun h56 => ?_) (fun h56 => ?_)
        · exfalso; omega
        · refine zr_ldc2 dX6_withGamesAndRows_58 (rfl : 58 + 3 = 61) k_X6_281 ?_
          refine zr_lload_n dX6_withGamesAndRows_61 (rfl : 61 + 1 = 62) rfl ?_
          refine zr_lmul dX6_withGamesAndRows_62 (rfl : 62 + 1 = 63) ?_
          refine zr_aload_n dX6_withGamesAndRows_63 (rfl : 63 + 1 = 64) rfl ?_
          refine zr_getf dX6_withGamesAndRows_64 (rfl : 64 + 3 = 67) f_X6_10 (by first | assumption | exact bk_0 | exact bk_1 | exact bk_2 | exact bk_3 | exact bk_4 | exact bk_5 | exact bk_6 | exact bk_7 | exact bk_8 | exact bk_9 | exact bk_10 | exact bk_11 | exact bk_12 | exact bk_13 | exact bk_14 | exact bk_15 | exact bk_16 | exact zup_self | exact (zup_ne (by first | assumption | omega)).trans (by first | assumption | exact zup_self) | exact (zup_ne (by first | assumption | omega)).trans ((zup_ne (by first | assumption | omega)).trans (by first | assumption | exact zup_self)) | exact (bk_out (by first | omega | (simp only [bset, reduceIte, Nat.reduceEqDiff]; omega))).trans (by first | exact bk_0 | exact bk_1 | exact bk_2 | exact bk_3 | exact bk_4 | exact bk_5 | exact bk_6 | exact bk_7 | exact bk_8 | exact bk_9 | exact bk_10 | exact bk_11 | exact bk_12 | exact bk_13 | exact bk_14 | exact bk_15 | exact bk_16 | exact cr_5 | exact cr_23 | exact cr_24 | exact cr_25 | exact cr_26 | exact cr_27 | exact cr_28 | exact cr_29 | exact cr_30 | assumption)) rfl ?_
          refine zr_iload dX6_withGamesAndRows_67 (rfl : 67 + 2 = 69) rfl ?_
          refine zr_bipush dX6_withGamesAndRows_69 (rfl : 69 + 2 = 71) (by decide) ?_
          refine zr_fnV dX6_withGamesAndRows_71 (rfl : 71 + 3 = 74) l_X6_248 (s_reasonAgainstPlace a 45 (by first | omega | (simp only [bset, reduceIte, Nat.reduceEqDiff]; omega)) (by decide) ok) (by first | assumption | exact bk_0 | exact bk_1 | exact bk_2 | exact bk_3 | exact bk_4 | exact bk_5 | exact bk_6 | exact bk_7 | exact bk_8 | exact bk_9 | exact bk_10 | exact bk_11 | exact bk_12 | exact bk_13 | exact bk_14 | exact bk_15 | exact bk_16 | exact zup_self | exact (zup_ne (by first | assumption | omega)).trans (by first | assumption | exact zup_self) | exact (zup_ne (by first | assumption | omega)).trans ((zup_ne (by first | assumption | omega)).trans (by first | assumption | exact zup_self)) | exact (bk_out (by first | omega | (simp only [bset, reduceIte, Nat.reduceEqDiff]; omega))).trans (by first | exact bk_0 | exact bk_1 | exact bk_2 | exact bk_3 | exact bk_4 | exact bk_5 | exact bk_6 | exact bk_7 | exact bk_8 | exact bk_9 | exact bk_10 | exact bk_11 | exact bk_12 | exact bk_13 | exact bk_14 | exact bk_15 | exact bk_16 | exact cr_5 | exact cr_23 | exact cr_24 | exact cr_25 | exact cr_26 | exact cr_27 | exact cr_28 | exact cr_29 | exact cr_30 | assumption)) rfl rfl rfl (Nat.le_of_ble_eq_true rfl) ?_
          refine zr_i2l dX6_withGamesAndRows_74 (rfl : 74 + 1 = 75) ?_
          refine zr_ladd dX6_withGamesAndRows_75 (rfl : 75 + 1 = 76) ?_
          refine zr_lstore_n (lv' := [_, _, _, _, _, _, _]) dX6_withGamesAndRows_76 (rfl : 76 + 1 = 77) (Nat.le_of_ble_eq_true rfl) rfl ?_
          refine zr_iinc (lv' := [_, _, _, _, _, _, _]) dX6_withGamesAndRows_77 (rfl : 77 + 3 = 80) (Nat.le_of_ble_eq_true rfl) rfl (by first | exact jI_add _ _ | rfl) rfl ?_
          refine zr_goto (tgt := 51) dX6_withGamesAndRows_80 (by decide) ?_
          exact hk _ (by rw [jhs_next _ a0, hx]; rfl)
      · intro x hx
        rw [show x = jhs (jh4 B) 18 (jhs (jh3 B) 16 h) from hx]
        refine zr_iload dX6_withGamesAndRows_51 (rfl : 51 + 2 = 53) rfl ?_
        refine zr_bipush dX6_withGamesAndRows_53 (rfl : 53 + 2 = 55) (by decide) ?_
        refine zr_icmp_ge (tgt := 83) dX6_withGamesAndRows_55 (by decide) (rfl : 55 + 3 = 58) (jI_le (by first | omega | (simp only [bset, reduceIte, Nat.reduceEqDiff]; omega)) (by first | omega | (simp only [bset, reduceIte, Nat.reduceEqDiff]; omega)) (by first | omega | (simp only [bset, reduceIte, Nat.reduceEqDiff]; omega)) (by first | omega | (simp only [bset, reduceIte, Nat.reduceEqDiff]; omega))) (fun h56 => ?_) (fun h56 => ?_)
        · refine zr_lload_n dX6_withGamesAndRows_83 (rfl : 83 + 1 = 84) rfl ?_
          exact zr_lret dX6_withGamesAndRows_84 rfl rfl rfl rfl rfl
        · exfalso; omega
    · exfalso; omega
theorem s_withSlotsAndBuffer (h : Int64) (ck : cok σ) : zFn Γ md_X6_withSlotsAndBuffer (d + 6) [.ref 5, .long h] (bk 6 B (cr σ τ u)) (some (.long (jhD σ.kp σ.T σ.L h))) (bk 6 B (cr σ τ u)) := by
  have hL := ck.L
  have hx26 : bk 6 B (cr σ τ u) 26 = some (.inr (5, [.ref 27, .int (jI σ.L)])) := cr_at (by omega) cr_26
  have hc27 : bk 6 B (cr σ τ u) 27 = some (zia 60 σ.T) := cr_at (by omega) cr_27
  refine zFn.of_run (lv := [some (.ref 5), some (.long h), none, none, none, none]) (by decide) rfl (Nat.le_of_ble_eq_true rfl) rfl (fun n9 g9 => ?_)
  refine zr_lload_n dX6_withSlotsAndBuffer_0 (rfl : 0 + 1 = 1) rfl ?_
  refine zr_lstore_n (lv' := [_, _, _, _, _, _]) dX6_withSlotsAndBuffer_1 (rfl : 1 + 1 = 2) (Nat.le_of_ble_eq_true rfl) rfl ?_
  refine zr_iconst dX6_withSlotsAndBuffer_2 (rfl : 2 + 1 = 3) ?_
  refine zr_istore (lv' := [_, _, _, _, _, _]) dX6_withSlotsAndBuffer_3 (rfl : 3 + 2 = 5) (Nat.le_of_ble_eq_true rfl) rfl ?_
  refine zfor1 0 2 (fun k x => x = jhs σ.kp k.toNat h) (fun k x => [some (.ref 5), some (.long h), none, some (.long x), none, some (.int (jI k))]) (fun _ _ => bk 6 B (cr σ τ u)) h rfl ?_ ?_
  · intro k x k0 k1 hx hk
    have hkp := ck.kp k
    have e := jhs_next σ.kp k0 h
    refine zr_iload dX6_withSlotsAndBuffer_5 (rfl : 5 + 2 = 7) rfl ?_
    refine zr_iconst dX6_withSlotsAndBuffer_7 (rfl : 7 + 1 = 8) ?_
    refine zr_icmp_ge (tgt := 40) dX6_withSlotsAndBuffer_8 (by decide) (rfl : 8 + 3 = 11) (jI_le (by first | omega | (simp only [bset, reduceIte, Nat.reduceEqDiff]; omega)) (by first | omega | (simp only [bset, reduceIte, Nat.reduceEqDiff]; omega)) (by first | omega | (simp only [bset, reduceIte, Nat.reduceEqDiff]; omega)) (by first | omega | (simp only [bset, reduceIte, Nat.reduceEqDiff]; omega))) (fun h8 => ?_) (fun h8 => ?_)
    · exfalso; omega
    · refine zr_ldc2 dX6_withSlotsAndBuffer_11 (rfl : 11 + 3 = 14) k_X6_281 ?_
      refine zr_lload_n dX6_withSlotsAndBuffer_14 (rfl : 14 + 1 = 15) rfl ?_
      refine zr_lmul dX6_withSlotsAndBuffer_15 (rfl : 15 + 1 = 16) ?_
      refine zr_aload_n dX6_withSlotsAndBuffer_16 (rfl : 16 + 1 = 17) rfl ?_
      refine zr_getf dX6_withSlotsAndBuffer_17 (rfl : 17 + 3 = 20) f_X6_20 (by first | assumption | exact bk_0 | exact bk_1 | exact bk_2 | exact bk_3 | exact bk_4 | exact bk_5 | exact bk_6 | exact bk_7 | exact bk_8 | exact bk_9 | exact bk_10 | exact bk_11 | exact bk_12 | exact bk_13 | exact bk_14 | exact bk_15 | exact bk_16 | exact zup_self | exact (zup_ne (by first | assumption | omega)).trans (by first | assumption | exact zup_self) | exact (zup_ne (by first | assumption | omega)).trans ((zup_ne (by first | assumption | omega)).trans (by first | assumption | exact zup_self)) | exact (bk_out (by first | omega | (simp only [bset, reduceIte, Nat.reduceEqDiff]; omega))).trans (by first | exact bk_0 | exact bk_1 | exact bk_2 | exact bk_3 | exact bk_4 | exact bk_5 | exact bk_6 | exact bk_7 | exact bk_8 | exact bk_9 | exact bk_10 | exact bk_11 | exact bk_12 | exact bk_13 | exact bk_14 | exact bk_15 | exact bk_16 | exact cr_5 | exact cr_23 | exact cr_24 | exact cr_25 | exact cr_26 | exact cr_27 | exact cr_28 | exact cr_29 | exact cr_30 | assumption)) rfl ?_
      refine zr_iload dX6_withSlotsAndBuffer_20 (rfl : 20 + 2 = 22) rfl ?_
      refine zr_zald dX6_withSlotsAndBuffer_22 (rfl : 22 + 1 = 23) (by first | assumption | exact bk_0 | exact bk_1 | exact bk_2 | exact bk_3 | exact bk_4 | exact bk_5 | exact bk_6 | exact bk_7 | exact bk_8 | exact bk_9 | exact bk_10 | exact bk_11 | exact bk_12 | exact bk_13 | exact bk_14 | exact bk_15 | exact bk_16 | exact zup_self | exact (zup_ne (by first | assumption | omega)).trans (by first | assumption | exact zup_self) | exact (zup_ne (by first | assumption | omega)).trans ((zup_ne (by first | assumption | omega)).trans (by first | assumption | exact zup_self)) | exact (bk_out (by first | omega | (simp only [bset, reduceIte, Nat.reduceEqDiff]; omega))).trans (by first | exact bk_0 | exact bk_1 | exact bk_2 | exact bk_3 | exact bk_4 | exact bk_5 | exact bk_6 | exact bk_7 | exact bk_8 | exact bk_9 | exact bk_10 | exact bk_11 | exact bk_12 | exact bk_13 | exact bk_14 | exact bk_15 | exact bk_16 | exact cr_5 | exact cr_23 | exact cr_24 | exact cr_25 | exact cr_26 | exact cr_27 | exact cr_28 | exact cr_29 | exact cr_30 | assumption)) (by decide) (by first | omega | (simp only [bset, reduceIte, Nat.reduceEqDiff]; omega)) (by first | omega | (simp only [bset, reduceIte, Nat.reduceEqDiff]; omega)) ?_
      refine zr_if_eq (tgt := 30) dX6_withSlotsAndBuffer_23 (by decide) (rfl : 23 + 3 = 26) (by first | exact jb_iff | exact jI_z (by first | omega | (simp only [bset, reduceIte, Nat.reduceEqDiff]; omega)) (by first | omega | (simp only [bset, reduceIte, Nat.reduceEqDiff]; omega))) (fun h23 => ?_) (fun h23 => ?_)
      · rw [h23] at e
        refine zr_iconst dX6_withSlotsAndBuffer_30 (rfl : 30 + 1 = 31) ?_
        refine zr_i2l dX6_withSlotsAndBuffer_31 (rfl : 31 + 1 = 32) ?_
        refine zr_ladd dX6_withSlotsAndBuffer_32 (rfl : 32 + 1 = 33) ?_
        refine zr_lstore_n (lv' := [_, _, _, _, _, _]) dX6_withSlotsAndBuffer_33 (rfl : 33 + 1 = 34) (Nat.le_of_ble_eq_true rfl) rfl ?_
        refine zr_iinc (lv' := [_, _, _, _, _, _]) dX6_withSlotsAndBuffer_34 (rfl : 34 + 3 = 37) (Nat.le_of_ble_eq_true rfl) rfl (by first | exact jI_add _ _ | rfl) rfl ?_
        refine zr_goto (tgt := 5) dX6_withSlotsAndBuffer_37 (by decide) ?_
        exact hk _ (by rw [e, hx])
      · rw [show σ.kp k = 1 by omega] at e
        refine zr_iconst dX6_withSlotsAndBuffer_26 (rfl : 26 + 1 = 27) ?_
        refine zr_goto (tgt := 31) dX6_withSlotsAndBuffer_27 (by decide) ?_
        refine zr_i2l dX6_withSlotsAndBuffer_31 (rfl : 31 + 1 = 32) ?_
        refine zr_ladd dX6_withSlotsAndBuffer_32 (rfl : 32 + 1 = 33) ?_
        refine zr_lstore_n (lv' := [_, _, _, _, _, _]) dX6_withSlotsAndBuffer_33 (rfl : 33 + 1 = 34) (Nat.le_of_ble_eq_true rfl) rfl ?_
        refine zr_iinc (lv' := [_, _, _, _, _, _]) dX6_withSlotsAndBuffer_34 (rfl : 34 + 3 = 37) (Nat.le_of_ble_eq_true rfl) rfl (by first | exact jI_add _ _ | rfl) rfl ?_
        refine zr_goto (tgt := 5) dX6_withSlotsAndBuffer_37 (by decide) ?_
        exact hk _ (by rw [e, hx])
  · intro x hx
    rw [show x = jhs σ.kp 2 h from hx]
    refine zr_iload dX6_withSlotsAndBuffer_5 (rfl : 5 + 2 = 7) rfl ?_
    refine zr_iconst dX6_withSlotsAndBuffer_7 (rfl : 7 + 1 = 8) ?_
    refine zr_icmp_ge (tgt := 40) dX6_withSlotsAndBuffer_8 (by decide) (rfl : 8 + 3 = 11) (jI_le (by first | omega | (simp only [bset, reduceIte, Nat.reduceEqDiff]; omega)) (by first | omega | (simp only [bset, reduceIte, Nat.reduceEqDiff]; omega)) (by first | omega | (simp only [bset, reduceIte, Nat.reduceEqDiff]; omega)) (by first | omega | (simp only [bset, reduceIte, Nat.reduceEqDiff]; omega))) (fun h8 => ?_) (fun h8 => ?_)
    · refine zr_ldc2 dX6_withSlotsAndBuffer_40 (rfl : 40 + 3 = 43) k_X6_281 ?_
      refine zr_lload_n dX6_withSlotsAndBuffer_43 (rfl : 43 + 1 = 44) rfl ?_
      refine zr_lmul dX6_withSlotsAndBuffer_44 (rfl : 44 + 1 = 45) ?_
      refine zr_aload_n dX6_withSlotsAndBuffer_45 (rfl : 45 + 1 = 46) rfl ?_
      refine zr_getf dX6_withSlotsAndBuffer_46 (rfl : 46 + 3 = 49) f_X6_30 (by first | assumption | exact bk_0 | exact bk_1 | exact bk_2 | exact bk_3 | exact bk_4 | exact bk_5 | exact bk_6 | exact bk_7 | exact bk_8 | exact bk_9 | exact bk_10 | exact bk_11 | exact bk_12 | exact bk_13 | exact bk_14 | exact bk_15 | exact bk_16 | exact zup_self | exact (zup_ne (by first | assumption | omega)).trans (by first | assumption | exact zup_self) | exact (zup_ne (by first | assumption | omega)).trans ((zup_ne (by first | assumption | omega)).trans (by first | assumption | exact zup_self)) | exact (bk_out (by first | omega | (simp only [bset, reduceIte, Nat.reduceEqDiff]; omega))).trans (by first | exact bk_0 | exact bk_1 | exact bk_2 | exact bk_3 | exact bk_4 | exact bk_5 | exact bk_6 | exact bk_7 | exact bk_8 | exact bk_9 | exact bk_10 | exact bk_11 | exact bk_12 | exact bk_13 | exact bk_14 | exact bk_15 | exact bk_16 | exact cr_5 | exact cr_23 | exact cr_24 | exact cr_25 | exact cr_26 | exact cr_27 | exact cr_28 | exact cr_29 | exact cr_30 | assumption)) rfl ?_
      refine zr_getf dX6_withSlotsAndBuffer_49 (rfl : 49 + 3 = 52) f_X6_140 (by first | assumption | exact bk_0 | exact bk_1 | exact bk_2 | exact bk_3 | exact bk_4 | exact bk_5 | exact bk_6 | exact bk_7 | exact bk_8 | exact bk_9 | exact bk_10 | exact bk_11 | exact bk_12 | exact bk_13 | exact bk_14 | exact bk_15 | exact bk_16 | exact zup_self | exact (zup_ne (by first | assumption | omega)).trans (by first | assumption | exact zup_self) | exact (zup_ne (by first | assumption | omega)).trans ((zup_ne (by first | assumption | omega)).trans (by first | assumption | exact zup_self)) | exact (bk_out (by first | omega | (simp only [bset, reduceIte, Nat.reduceEqDiff]; omega))).trans (by first | exact bk_0 | exact bk_1 | exact bk_2 | exact bk_3 | exact bk_4 | exact bk_5 | exact bk_6 | exact bk_7 | exact bk_8 | exact bk_9 | exact bk_10 | exact bk_11 | exact bk_12 | exact bk_13 | exact bk_14 | exact bk_15 | exact bk_16 | exact cr_5 | exact cr_23 | exact cr_24 | exact cr_25 | exact cr_26 | exact cr_27 | exact cr_28 | exact cr_29 | exact cr_30 | assumption)) rfl ?_
      refine zr_i2l dX6_withSlotsAndBuffer_52 (rfl : 52 + 1 = 53) ?_
      refine zr_ladd dX6_withSlotsAndBuffer_53 (rfl : 53 + 1 = 54) ?_
      refine zr_lstore_n (lv' := [_, _, _, _, _, _]) dX6_withSlotsAndBuffer_54 (rfl : 54 + 1 = 55) (Nat.le_of_ble_eq_true rfl) rfl ?_
      refine zr_iconst dX6_withSlotsAndBuffer_55 (rfl : 55 + 1 = 56) ?_
      refine zr_istore (lv' := [_, _, _, _, _, _]) dX6_withSlotsAndBuffer_56 (rfl : 56 + 2 = 58) (Nat.le_of_ble_eq_true rfl) rfl ?_
      refine zfor1 0 σ.L.toNat (fun k x => x = jhs σ.T k.toNat (31 * jhs σ.kp 2 h + (jI σ.L).toInt64)) (fun k x => [some (.ref 5), some (.long h), none, some (.long x), none, some (.int (jI k))]) (fun _ _ => bk 6 B (cr σ τ u)) _ rfl ?_ ?_
      · intro k x k0 k1 hx hk
        have e : jca σ.T σ.L k = σ.T k := by
          unfold jca
          rw [if_pos (by omega)]
        refine zr_iload dX6_withSlotsAndBuffer_58 (rfl : 58 + 2 = 60) rfl ?_
        refine zr_aload_n dX6_withSlotsAndBuffer_60 (rfl : 60 + 1 = 61) rfl ?_
        refine zr_getf dX6_withSlotsAndBuffer_61 (rfl : 61 + 3 = 64) f_X6_30 (by first | assumption | exact bk_0 | exact bk_1 | exact bk_2 | exact bk_3 | exact bk_4 | exact bk_5 | exact bk_6 | exact bk_7 | exact bk_8 | exact bk_9 | exact bk_10 | exact bk_11 | exact bk_12 | exact bk_13 | exact bk_14 | exact bk_15 | exact bk_16 | exact zup_self | exact (zup_ne (by first | assumption | omega)).trans (by first | assumption | exact zup_self) | exact (zup_ne (by first | assumption | omega)).trans ((zup_ne (by first | assumption | omega)).trans (by first | assumption | exact zup_self)) | exact (bk_out (by first | omega | (simp only [bset, reduceIte, Nat.reduceEqDiff]; omega))).trans (by first | exact bk_0 | exact bk_1 | exact bk_2 | exact bk_3 | exact bk_4 | exact bk_5 | exact bk_6 | exact bk_7 | exact bk_8 | exact bk_9 | exact bk_10 | exact bk_11 | exact bk_12 | exact bk_13 | exact bk_14 | exact bk_15 | exact bk_16 | exact cr_5 | exact cr_23 | exact cr_24 | exact cr_25 | exact cr_26 | exact cr_27 | exact cr_28 | exact cr_29 | exact cr_30 | assumption)) rfl ?_
        refine zr_getf dX6_withSlotsAndBuffer_64 (rfl : 64 + 3 = 67) f_X6_140 (by first | assumption | exact bk_0 | exact bk_1 | exact bk_2 | exact bk_3 | exact bk_4 | exact bk_5 | exact bk_6 | exact bk_7 | exact bk_8 | exact bk_9 | exact bk_10 | exact bk_11 | exact bk_12 | exact bk_13 | exact bk_14 | exact bk_15 | exact bk_16 | exact zup_self | exact (zup_ne (by first | assumption | omega)).trans (by first | assumption | exact zup_self) | exact (zup_ne (by first | assumption | omega)).trans ((zup_ne (by first | assumption | omega)).trans (by first | assumption | exact zup_self)) | exact (bk_out (by first | omega | (simp only [bset, reduceIte, Nat.reduceEqDiff]; omega))).trans (by first | exact bk_0 | exact bk_1 | exact bk_2 | exact bk_3 | exact bk_4 | exact bk_5 | exact bk_6 | exact bk_7 | exact bk_8 | exact bk_9 | exact bk_10 | exact bk_11 | exact bk_12 | exact bk_13 | exact bk_14 | exact bk_15 | exact bk_16 | exact cr_5 | exact cr_23 | exact cr_24 | exact cr_25 | exact cr_26 | exact cr_27 | exact cr_28 | exact cr_29 | exact cr_30 | assumption)) rfl ?_
        refine zr_icmp_ge (tgt := 93) dX6_withSlotsAndBuffer_67 (by decide) (rfl : 67 + 3 = 70) (jI_le (by first | omega | (simp only [bset, reduceIte, Nat.reduceEqDiff]; omega)) (by first | omega | (simp only [bset, reduceIte, Nat.reduceEqDiff]; omega)) (by first | omega | (simp only [bset, reduceIte, Nat.reduceEqDiff]; omega)) (by first | omega | (simp only [bset, reduceIte, Nat.reduceEqDiff]; omega))) (fun h67 => ?_) (fun h67 => ?_)
        · exfalso; omega
        · refine zr_ldc2 dX6_withSlotsAndBuffer_70 (rfl : 70 + 3 = 73) k_X6_281 ?_
          refine zr_lload_n dX6_withSlotsAndBuffer_73 (rfl : 73 + 1 = 74) rfl ?_
          refine zr_lmul dX6_withSlotsAndBuffer_74 (rfl : 74 + 1 = 75) ?_
          refine zr_aload_n dX6_withSlotsAndBuffer_75 (rfl : 75 + 1 = 76) rfl ?_
          refine zr_getf dX6_withSlotsAndBuffer_76 (rfl : 76 + 3 = 79) f_X6_30 (by first | assumption | exact bk_0 | exact bk_1 | exact bk_2 | exact bk_3 | exact bk_4 | exact bk_5 | exact bk_6 | exact bk_7 | exact bk_8 | exact bk_9 | exact bk_10 | exact bk_11 | exact bk_12 | exact bk_13 | exact bk_14 | exact bk_15 | exact bk_16 | exact zup_self | exact (zup_ne (by first | assumption | omega)).trans (by first | assumption | exact zup_self) | exact (zup_ne (by first | assumption | omega)).trans ((zup_ne (by first | assumption | omega)).trans (by first | assumption | exact zup_self)) | exact (bk_out (by first | omega | (simp only [bset, reduceIte, Nat.reduceEqDiff]; omega))).trans (by first | exact bk_0 | exact bk_1 | exact bk_2 | exact bk_3 | exact bk_4 | exact bk_5 | exact bk_6 | exact bk_7 | exact bk_8 | exact bk_9 | exact bk_10 | exact bk_11 | exact bk_12 | exact bk_13 | exact bk_14 | exact bk_15 | exact bk_16 | exact cr_5 | exact cr_23 | exact cr_24 | exact cr_25 | exact cr_26 | exact cr_27 | exact cr_28 | exact cr_29 | exact cr_30 | assumption)) rfl ?_
          refine zr_iload dX6_withSlotsAndBuffer_79 (rfl : 79 + 2 = 81) rfl ?_
          refine zr_fnV dX6_withSlotsAndBuffer_81 (rfl : 81 + 3 = 84) l_X6_156 (s_codeAt k (by first | omega | (simp only [bset, reduceIte, Nat.reduceEqDiff]; omega)) hL hx26 hc27) (by first | assumption | exact bk_0 | exact bk_1 | exact bk_2 | exact bk_3 | exact bk_4 | exact bk_5 | exact bk_6 | exact bk_7 | exact bk_8 | exact bk_9 | exact bk_10 | exact bk_11 | exact bk_12 | exact bk_13 | exact bk_14 | exact bk_15 | exact bk_16 | exact zup_self | exact (zup_ne (by first | assumption | omega)).trans (by first | assumption | exact zup_self) | exact (zup_ne (by first | assumption | omega)).trans ((zup_ne (by first | assumption | omega)).trans (by first | assumption | exact zup_self)) | exact (bk_out (by first | omega | (simp only [bset, reduceIte, Nat.reduceEqDiff]; omega))).trans (by first | exact bk_0 | exact bk_1 | exact bk_2 | exact bk_3 | exact bk_4 | exact bk_5 | exact bk_6 | exact bk_7 | exact bk_8 | exact bk_9 | exact bk_10 | exact bk_11 | exact bk_12 | exact bk_13 | exact bk_14 | exact bk_15 | exact bk_16 | exact cr_5 | exact cr_23 | exact cr_24 | exact cr_25 | exact cr_26 | exact cr_27 | exact cr_28 | exact cr_29 | exact cr_30 | assumption)) rfl rfl rfl (Nat.le_of_ble_eq_true rfl) ?_
          refine zr_i2l dX6_withSlotsAndBuffer_84 (rfl : 84 + 1 = 85) ?_
          refine zr_ladd dX6_withSlotsAndBuffer_85 (rfl : 85 + 1 = 86) ?_
          refine zr_lstore_n (lv' := [_, _, _, _, _, _]) dX6_withSlotsAndBuffer_86 (rfl : 86 + 1 = 87) (Nat.le_of_ble_eq_true rfl) rfl ?_
          refine zr_iinc (lv' := [_, _, _, _, _, _]) dX6_withSlotsAndBuffer_87 (rfl : 87 + 3 = 90) (Nat.le_of_ble_eq_true rfl) rfl (by first | exact jI_add _ _ | rfl) rfl ?_
          refine zr_goto (tgt := 58) dX6_withSlotsAndBuffer_90 (by decide) ?_
          exact hk _ (by rw [jhs_next _ k0, hx, e])
      · intro x hx
        rw [show ((0 : Int) + (σ.L.toNat : Int)) = σ.L by omega] at hx ⊢
        refine zr_iload dX6_withSlotsAndBuffer_58 (rfl : 58 + 2 = 60) rfl ?_
        refine zr_aload_n dX6_withSlotsAndBuffer_60 (rfl : 60 + 1 = 61) rfl ?_
        refine zr_getf dX6_withSlotsAndBuffer_61 (rfl : 61 + 3 = 64) f_X6_30 (by first | assumption | exact bk_0 | exact bk_1 | exact bk_2 | exact bk_3 | exact bk_4 | exact bk_5 | exact bk_6 | exact bk_7 | exact bk_8 | exact bk_9 | exact bk_10 | exact bk_11 | exact bk_12 | exact bk_13 | exact bk_14 | exact bk_15 | exact bk_16 | exact zup_self | exact (zup_ne (by first | assumption | omega)).trans (by first | assumption | exact zup_self) | exact (zup_ne (by first | assumption | omega)).trans ((zup_ne (by first | assumption | omega)).trans (by first | assumption | exact zup_self)) | exact (bk_out (by first | omega | (simp only [bset, reduceIte, Nat.reduceEqDiff]; omega))).trans (by first | exact bk_0 | exact bk_1 | exact bk_2 | exact bk_3 | exact bk_4 | exact bk_5 | exact bk_6 | exact bk_7 | exact bk_8 | exact bk_9 | exact bk_10 | exact bk_11 | exact bk_12 | exact bk_13 | exact bk_14 | exact bk_15 | exact bk_16 | exact cr_5 | exact cr_23 | exact cr_24 | exact cr_25 | exact cr_26 | exact cr_27 | exact cr_28 | exact cr_29 | exact cr_30 | assumption)) rfl ?_
        refine zr_getf dX6_withSlotsAndBuffer_64 (rfl : 64 + 3 = 67) f_X6_140 (by first | assumption | exact bk_0 | exact bk_1 | exact bk_2 | exact bk_3 | exact bk_4 | exact bk_5 | exact bk_6 | exact bk_7 | exact bk_8 | exact bk_9 | exact bk_10 | exact bk_11 | exact bk_12 | exact bk_13 | exact bk_14 | exact bk_15 | exact bk_16 | exact zup_self | exact (zup_ne (by first | assumption | omega)).trans (by first | assumption | exact zup_self) | exact (zup_ne (by first | assumption | omega)).trans ((zup_ne (by first | assumption | omega)).trans (by first | assumption | exact zup_self)) | exact (bk_out (by first | omega | (simp only [bset, reduceIte, Nat.reduceEqDiff]; omega))).trans (by first | exact bk_0 | exact bk_1 | exact bk_2 | exact bk_3 | exact bk_4 | exact bk_5 | exact bk_6 | exact bk_7 | exact bk_8 | exact bk_9 | exact bk_10 | exact bk_11 | exact bk_12 | exact bk_13 | exact bk_14 | exact bk_15 | exact bk_16 | exact cr_5 | exact cr_23 | exact cr_24 | exact cr_25 | exact cr_26 | exact cr_27 | exact cr_28 | exact cr_29 | exact cr_30 | assumption)) rfl ?_
        refine zr_icmp_ge (tgt := 93) dX6_withSlotsAndBuffer_67 (by decide) (rfl : 67 + 3 = 70) (jI_le (by first | omega | (simp only [bset, reduceIte, Nat.reduceEqDiff]; omega)) (by first | omega | (simp only [bset, reduceIte, Nat.reduceEqDiff]; omega)) (by first | omega | (simp only [bset, reduceIte, Nat.reduceEqDiff]; omega)) (by first | omega | (simp only [bset, reduceIte, Nat.reduceEqDiff]; omega))) (fun h67 => ?_) (fun h67 => ?_)
        · refine zr_lload_n dX6_withSlotsAndBuffer_93 (rfl : 93 + 1 = 94) rfl ?_
          refine zr_lret dX6_withSlotsAndBuffer_94 rfl ?_ rfl rfl rfl
          rw [hx]
          rfl
        · exfalso; omega
    · exfalso; omega
theorem s_digest (ck : cok σ) (ok : jok B) (h2 : 0 ≤ B 2 0 ∧ B 2 0 ≤ 90) (h3 : 0 ≤ jdn B ∧ jdn B ≤ B 2 0) : ∃ τ', zFn Γ md_X6_digest (d + 7) [.ref 5] (bk 6 B (cr σ τ u)) (some (.long (jdig σ B))) (bk 6 B (cr σ τ' u)) := by
  obtain ⟨g, hg0, hg⟩ := zseq (N := 6) (P := fun i τ τ' => zFn Γ md_X6_withCard (d + 6) [.ref 5, .long (jhc B i (jhs (B 0) 162 (jhs (B 23) 3 (jhs (jct B σ.sc) 15 3307)))), .int (jI (i : Int))] (bk 6 B (cr σ τ u)) (some (.long (jhc1 B i (jhc B i (jhs (B 0) 162 (jhs (B 23) 3 (jhs (jct B σ.sc) 15 3307))))))) (bk 6 B (cr σ τ' u))) (fun i hi τ => s_withCard _ _ (by omega) ok) τ
  obtain ⟨τ1, hff⟩ := s_firstFull (Γ := Γ) (d := d + 1) (σ := σ) (τ := g 6) (u := u) ok
  obtain ⟨g2, hg20, hg2⟩ := zseq (N := 3) (P := fun i τ τ' => zFn Γ md_X6_next (d + 6) [.ref 5, .int (jI ((i : Int) + 1))] (bk 6 B (cr σ τ u)) (some (.int (jI (jnb B ((i : Int) + 1))))) (bk 6 B (cr σ τ' u))) (fun i hi τ => s_next (Γ := Γ) (d := d + 1) _ (by omega) ok) τ1
  have hck := jck_sr h2 h3
  refine ⟨g2 3, ?_⟩
  rw [← hg0]
  refine zFn.of_run (lv := [some (.ref 5), none, none, none]) (by decide) rfl (Nat.le_of_ble_eq_true rfl) rfl (fun n9 g9 => ?_)
  refine zr_ldc2 dX6_digest_0 (rfl : 0 + 3 = 3) k_X6_279 ?_
  refine zr_lstore_n (lv' := [_, _, _, _]) dX6_digest_3 (rfl : 3 + 1 = 4) (Nat.le_of_ble_eq_true rfl) rfl ?_
  refine zr_iconst dX6_digest_4 (rfl : 4 + 1 = 5) ?_
  refine zr_istore_n (lv' := [_, _, _, _]) dX6_digest_5 (rfl : 5 + 1 = 6) (Nat.le_of_ble_eq_true rfl) rfl ?_
  refine zfor1 0 15 (fun k x => x = jhs (jct B σ.sc) k.toNat 3307) (fun k x => [some (.ref 5), some (.long x), none, some (.int (jI k))]) (fun _ _ => bk 6 B (cr σ (g 0) u)) 3307 rfl ?_ ?_
  · intro k x k0 k1 hx hk
    refine zr_iload_n dX6_digest_6 (rfl : 6 + 1 = 7) rfl ?_
    refine zr_bipush dX6_digest_7 (rfl : 7 + 2 = 9) (by decide) ?_
    refine zr_icmp_ge (tgt := 31) dX6_digest_9 (by decide) (rfl : 9 + 3 = 12) (jI_le (by first | omega | (simp only [bset, reduceIte, Nat.reduceEqDiff]; omega)) (by first | omega | (simp only [bset, reduceIte, Nat.reduceEqDiff]; omega)) (by first | omega | (simp only [bset, reduceIte, Nat.reduceEqDiff]; omega)) (by first | omega | (simp only [bset, reduceIte, Nat.reduceEqDiff]; omega))) (fun h9 => ?_) (fun h9 => ?_)
    · exfalso; omega
    · refine zr_ldc2 dX6_digest_12 (rfl : 12 + 3 = 15) k_X6_281 ?_
      refine zr_lload_n dX6_digest_15 (rfl : 15 + 1 = 16) rfl ?_
      refine zr_lmul dX6_digest_16 (rfl : 16 + 1 = 17) ?_
      refine zr_aload_n dX6_digest_17 (rfl : 17 + 1 = 18) rfl ?_
      refine zr_iload_n dX6_digest_18 (rfl : 18 + 1 = 19) rfl ?_
      refine zr_fnV dX6_digest_19 (rfl : 19 + 3 = 22) l_X6_283 (s_count k (by first | omega | (simp only [bset, reduceIte, Nat.reduceEqDiff]; omega)) ok) (by first | assumption | exact bk_0 | exact bk_1 | exact bk_2 | exact bk_3 | exact bk_4 | exact bk_5 | exact bk_6 | exact bk_7 | exact bk_8 | exact bk_9 | exact bk_10 | exact bk_11 | exact bk_12 | exact bk_13 | exact bk_14 | exact bk_15 | exact bk_16 | exact zup_self | exact (zup_ne (by first | assumption | omega)).trans (by first | assumption | exact zup_self) | exact (zup_ne (by first | assumption | omega)).trans ((zup_ne (by first | assumption | omega)).trans (by first | assumption | exact zup_self)) | exact (bk_out (by first | omega | (simp only [bset, reduceIte, Nat.reduceEqDiff]; omega))).trans (by first | exact bk_0 | exact bk_1 | exact bk_2 | exact bk_3 | exact bk_4 | exact bk_5 | exact bk_6 | exact bk_7 | exact bk_8 | exact bk_9 | exact bk_10 | exact bk_11 | exact bk_12 | exact bk_13 | exact bk_14 | exact bk_15 | exact bk_16 | exact cr_5 | exact cr_23 | exact cr_24 | exact cr_25 | exact cr_26 | exact cr_27 | exact cr_28 | exact cr_29 | exact cr_30 | assumption)) rfl rfl rfl (Nat.le_of_ble_eq_true rfl) ?_
      refine zr_i2l dX6_digest_22 (rfl : 22 + 1 = 23) ?_
      refine zr_ladd dX6_digest_23 (rfl : 23 + 1 = 24) ?_
      refine zr_lstore_n (lv' := [_, _, _, _]) dX6_digest_24 (rfl : 24 + 1 = 25) (Nat.le_of_ble_eq_true rfl) rfl ?_
      refine zr_iinc (lv' := [_, _, _, _]) dX6_digest_25 (rfl : 25 + 3 = 28) (Nat.le_of_ble_eq_true rfl) rfl (by first | exact jI_add _ _ | rfl) rfl ?_
      refine zr_goto (tgt := 6) dX6_digest_28 (by decide) ?_
      exact hk _ (by rw [jhs_next _ k0, hx])
  · intro x hx
    rw [show x = jhs (jct B σ.sc) 15 3307 from hx]
    refine zr_iload_n dX6_digest_6 (rfl : 6 + 1 = 7) rfl ?_
    refine zr_bipush dX6_digest_7 (rfl : 7 + 2 = 9) (by decide) ?_
    refine zr_icmp_ge (tgt := 31) dX6_digest_9 (by decide) (rfl : 9 + 3 = 12) (jI_le (by first | omega | (simp only [bset, reduceIte, Nat.reduceEqDiff]; omega)) (by first | omega | (simp only [bset, reduceIte, Nat.reduceEqDiff]; omega)) (by first | omega | (simp only [bset, reduceIte, Nat.reduceEqDiff]; omega)) (by first | omega | (simp only [bset, reduceIte, Nat.reduceEqDiff]; omega))) (fun h9 => ?_) (fun h9 => ?_)
    · refine zr_iconst dX6_digest_31 (rfl : 31 + 1 = 32) ?_
      refine zr_istore_n (lv' := [_, _, _, _]) dX6_digest_32 (rfl : 32 + 1 = 33) (Nat.le_of_ble_eq_true rfl) rfl ?_
      refine zfor1 0 3 (fun k x => x = jhs (B 23) k.toNat (jhs (jct B σ.sc) 15 3307)) (fun k x => [some (.ref 5), some (.long x), none, some (.int (jI k))]) (fun _ _ => bk 6 B (cr σ (g 0) u)) _ rfl ?_ ?_
      · intro k x k0 k1 hx hk
        refine zr_iload_n dX6_digest_33 (rfl : 33 + 1 = 34) rfl ?_
        refine zr_iconst dX6_digest_34 (rfl : 34 + 1 = 35) ?_
        refine zr_icmp_ge (tgt := 61) dX6_digest_35 (by decide) (rfl : 35 + 3 = 38) (jI_le (by first | omega | (simp only [bset, reduceIte, Nat.reduceEqDiff]; omega)) (by first | omega | (simp only [bset, reduceIte, Nat.reduceEqDiff]; omega)) (by first | omega | (simp only [bset, reduceIte, Nat.reduceEqDiff]; omega)) (by first | omega | (simp only [bset, reduceIte, Nat.reduceEqDiff]; omega))) (fun h35 => ?_) (fun h35 => ?_)
        · exfalso; omega
        · refine zr_ldc2 dX6_digest_38 (rfl : 38 + 3 = 41) k_X6_281 ?_
          refine zr_lload_n dX6_digest_41 (rfl : 41 + 1 = 42) rfl ?_
          refine zr_lmul dX6_digest_42 (rfl : 42 + 1 = 43) ?_
          refine zr_aload_n dX6_digest_43 (rfl : 43 + 1 = 44) rfl ?_
          refine zr_getf dX6_digest_44 (rfl : 44 + 3 = 47) f_X6_10 (by first | assumption | exact bk_0 | exact bk_1 | exact bk_2 | exact bk_3 | exact bk_4 | exact bk_5 | exact bk_6 | exact bk_7 | exact bk_8 | exact bk_9 | exact bk_10 | exact bk_11 | exact bk_12 | exact bk_13 | exact bk_14 | exact bk_15 | exact bk_16 | exact zup_self | exact (zup_ne (by first | assumption | omega)).trans (by first | assumption | exact zup_self) | exact (zup_ne (by first | assumption | omega)).trans ((zup_ne (by first | assumption | omega)).trans (by first | assumption | exact zup_self)) | exact (bk_out (by first | omega | (simp only [bset, reduceIte, Nat.reduceEqDiff]; omega))).trans (by first | exact bk_0 | exact bk_1 | exact bk_2 | exact bk_3 | exact bk_4 | exact bk_5 | exact bk_6 | exact bk_7 | exact bk_8 | exact bk_9 | exact bk_10 | exact bk_11 | exact bk_12 | exact bk_13 | exact bk_14 | exact bk_15 | exact bk_16 | exact cr_5 | exact cr_23 | exact cr_24 | exact cr_25 | exact cr_26 | exact cr_27 | exact cr_28 | exact cr_29 | exact cr_30 | assumption)) rfl ?_
          refine zr_getf dX6_digest_47 (rfl : 47 + 3 = 50) f_X6_118 (by first | assumption | exact bk_0 | exact bk_1 | exact bk_2 | exact bk_3 | exact bk_4 | exact bk_5 | exact bk_6 | exact bk_7 | exact bk_8 | exact bk_9 | exact bk_10 | exact bk_11 | exact bk_12 | exact bk_13 | exact bk_14 | exact bk_15 | exact bk_16 | exact zup_self | exact (zup_ne (by first | assumption | omega)).trans (by first | assumption | exact zup_self) | exact (zup_ne (by first | assumption | omega)).trans ((zup_ne (by first | assumption | omega)).trans (by first | assumption | exact zup_self)) | exact (bk_out (by first | omega | (simp only [bset, reduceIte, Nat.reduceEqDiff]; omega))).trans (by first | exact bk_0 | exact bk_1 | exact bk_2 | exact bk_3 | exact bk_4 | exact bk_5 | exact bk_6 | exact bk_7 | exact bk_8 | exact bk_9 | exact bk_10 | exact bk_11 | exact bk_12 | exact bk_13 | exact bk_14 | exact bk_15 | exact bk_16 | exact cr_5 | exact cr_23 | exact cr_24 | exact cr_25 | exact cr_26 | exact cr_27 | exact cr_28 | exact cr_29 | exact cr_30 | assumption)) rfl ?_
          refine zr_iload_n dX6_digest_50 (rfl : 50 + 1 = 51) rfl ?_
          refine zr_iald dX6_digest_51 (rfl : 51 + 1 = 52) (by first | assumption | exact bk_0 | exact bk_1 | exact bk_2 | exact bk_3 | exact bk_4 | exact bk_5 | exact bk_6 | exact bk_7 | exact bk_8 | exact bk_9 | exact bk_10 | exact bk_11 | exact bk_12 | exact bk_13 | exact bk_14 | exact bk_15 | exact bk_16 | exact zup_self | exact (zup_ne (by first | assumption | omega)).trans (by first | assumption | exact zup_self) | exact (zup_ne (by first | assumption | omega)).trans ((zup_ne (by first | assumption | omega)).trans (by first | assumption | exact zup_self)) | exact (bk_out (by first | omega | (simp only [bset, reduceIte, Nat.reduceEqDiff]; omega))).trans (by first | exact bk_0 | exact bk_1 | exact bk_2 | exact bk_3 | exact bk_4 | exact bk_5 | exact bk_6 | exact bk_7 | exact bk_8 | exact bk_9 | exact bk_10 | exact bk_11 | exact bk_12 | exact bk_13 | exact bk_14 | exact bk_15 | exact bk_16 | exact cr_5 | exact cr_23 | exact cr_24 | exact cr_25 | exact cr_26 | exact cr_27 | exact cr_28 | exact cr_29 | exact cr_30 | assumption)) (by decide) (by first | omega | (simp only [bset, reduceIte, Nat.reduceEqDiff]; omega)) (by first | omega | (simp only [bset, reduceIte, Nat.reduceEqDiff]; omega)) ?_
          refine zr_i2l dX6_digest_52 (rfl : 52 + 1 = 53) ?_
          refine zr_ladd dX6_digest_53 (rfl : 53 + 1 = 54) ?_
          refine zr_lstore_n (lv' := [_, _, _, _]) dX6_digest_54 (rfl : 54 + 1 = 55) (Nat.le_of_ble_eq_true rfl) rfl ?_
          refine zr_iinc (lv' := [_, _, _, _]) dX6_digest_55 (rfl : 55 + 3 = 58) (Nat.le_of_ble_eq_true rfl) rfl (by first | exact jI_add _ _ | rfl) rfl ?_
          refine zr_goto (tgt := 33) dX6_digest_58 (by decide) ?_
          exact hk _ (by rw [jhs_next _ k0, hx])
      · intro x hx
        rw [show x = jhs (B 23) 3 (jhs (jct B σ.sc) 15 3307) from hx]
        refine zr_iload_n dX6_digest_33 (rfl : 33 + 1 = 34) rfl ?_
        refine zr_iconst dX6_digest_34 (rfl : 34 + 1 = 35) ?_
        refine zr_icmp_ge (tgt := 61) dX6_digest_35 (by decide) (rfl : 35 + 3 = 38) (jI_le (by first | omega | (simp only [bset, reduceIte, Nat.reduceEqDiff]; omega)) (by first | omega | (simp only [bset, reduceIte, Nat.reduceEqDiff]; omega)) (by first | omega | (simp only [bset, reduceIte, Nat.reduceEqDiff]; omega)) (by first | omega | (simp only [bset, reduceIte, Nat.reduceEqDiff]; omega))) (fun h35 => ?_) (fun h35 => ?_)
        · refine zr_aload_n dX6_digest_61 (rfl : 61 + 1 = 62) rfl ?_
          refine zr_lload_n dX6_digest_62 (rfl : 62 + 1 = 63) rfl ?_
          refine zr_fnV dX6_digest_63 (rfl : 63 + 3 = 66) l_X6_286 (s_withPlaces _) (by first | assumption | exact bk_0 | exact bk_1 | exact bk_2 | exact bk_3 | exact bk_4 | exact bk_5 | exact bk_6 | exact bk_7 | exact bk_8 | exact bk_9 | exact bk_10 | exact bk_11 | exact bk_12 | exact bk_13 | exact bk_14 | exact bk_15 | exact bk_16 | exact zup_self | exact (zup_ne (by first | assumption | omega)).trans (by first | assumption | exact zup_self) | exact (zup_ne (by first | assumption | omega)).trans ((zup_ne (by first | assumption | omega)).trans (by first | assumption | exact zup_self)) | exact (bk_out (by first | omega | (simp only [bset, reduceIte, Nat.reduceEqDiff]; omega))).trans (by first | exact bk_0 | exact bk_1 | exact bk_2 | exact bk_3 | exact bk_4 | exact bk_5 | exact bk_6 | exact bk_7 | exact bk_8 | exact bk_9 | exact bk_10 | exact bk_11 | exact bk_12 | exact bk_13 | exact bk_14 | exact bk_15 | exact bk_16 | exact cr_5 | exact cr_23 | exact cr_24 | exact cr_25 | exact cr_26 | exact cr_27 | exact cr_28 | exact cr_29 | exact cr_30 | assumption)) rfl rfl rfl (Nat.le_of_ble_eq_true rfl) ?_
          refine zr_lstore_n (lv' := [_, _, _, _]) dX6_digest_66 (rfl : 66 + 1 = 67) (Nat.le_of_ble_eq_true rfl) rfl ?_
          refine zr_iconst dX6_digest_67 (rfl : 67 + 1 = 68) ?_
          refine zr_istore_n (lv' := [_, _, _, _]) dX6_digest_68 (rfl : 68 + 1 = 69) (Nat.le_of_ble_eq_true rfl) rfl ?_
          refine zfor1 0 6 (fun k x => x = jhc B k.toNat (jhs (B 0) 162 (jhs (B 23) 3 (jhs (jct B σ.sc) 15 3307)))) (fun k x => [some (.ref 5), some (.long x), none, some (.int (jI k))]) (fun k _ => bk 6 B (cr σ (g k.toNat) u)) _ rfl ?_ ?_
          · intro k x k0 k1 hx hk
            have hgk := hg k.toNat (by omega)
            rw [← hx, show (k.toNat : Int) = k by omega, show k.toNat + 1 = (k + 1).toNat by omega] at hgk
            refine zr_iload_n dX6_digest_69 (rfl : 69 + 1 = 70) rfl ?_
            refine zr_bipush dX6_digest_70 (rfl : 70 + 2 = 72) (by decide) ?_
            refine zr_icmp_ge (tgt := 88) dX6_digest_72 (by decide) (rfl : 72 + 3 = 75) (jI_le (by first | omega | (simp only [bset, reduceIte, Nat.reduceEqDiff]; omega)) (by first | omega | (simp only [bset, reduceIte, Nat.reduceEqDiff]; omega)) (by first | omega | (simp only [bset, reduceIte, Nat.reduceEqDiff]; omega)) (by first | omega | (simp only [bset, reduceIte, Nat.reduceEqDiff]; omega))) (fun h72 => ?_) (fun h72 => ?_)
            · exfalso; omega
            · refine zr_aload_n dX6_digest_75 (rfl : 75 + 1 = 76) rfl ?_
              refine zr_lload_n dX6_digest_76 (rfl : 76 + 1 = 77) rfl ?_
              refine zr_iload_n dX6_digest_77 (rfl : 77 + 1 = 78) rfl ?_
              refine zr_fnV dX6_digest_78 (rfl : 78 + 3 = 81) l_X6_290 (hgk) (by first | assumption | exact bk_0 | exact bk_1 | exact bk_2 | exact bk_3 | exact bk_4 | exact bk_5 | exact bk_6 | exact bk_7 | exact bk_8 | exact bk_9 | exact bk_10 | exact bk_11 | exact bk_12 | exact bk_13 | exact bk_14 | exact bk_15 | exact bk_16 | exact zup_self | exact (zup_ne (by first | assumption | omega)).trans (by first | assumption | exact zup_self) | exact (zup_ne (by first | assumption | omega)).trans ((zup_ne (by first | assumption | omega)).trans (by first | assumption | exact zup_self)) | exact (bk_out (by first | omega | (simp only [bset, reduceIte, Nat.reduceEqDiff]; omega))).trans (by first | exact bk_0 | exact bk_1 | exact bk_2 | exact bk_3 | exact bk_4 | exact bk_5 | exact bk_6 | exact bk_7 | exact bk_8 | exact bk_9 | exact bk_10 | exact bk_11 | exact bk_12 | exact bk_13 | exact bk_14 | exact bk_15 | exact bk_16 | exact cr_5 | exact cr_23 | exact cr_24 | exact cr_25 | exact cr_26 | exact cr_27 | exact cr_28 | exact cr_29 | exact cr_30 | assumption)) rfl rfl rfl (Nat.le_of_ble_eq_true rfl) ?_
              refine zr_lstore_n (lv' := [_, _, _, _]) dX6_digest_81 (rfl : 81 + 1 = 82) (Nat.le_of_ble_eq_true rfl) rfl ?_
              refine zr_iinc (lv' := [_, _, _, _]) dX6_digest_82 (rfl : 82 + 3 = 85) (Nat.le_of_ble_eq_true rfl) rfl (by first | exact jI_add _ _ | rfl) rfl ?_
              refine zr_goto (tgt := 69) dX6_digest_85 (by decide) ?_
              refine hk _ ?_
              rw [show (k + 1).toNat = k.toNat + 1 by omega]
              show _ = jhc1 B (k.toNat : Int) (jhc B k.toNat _)
              rw [← hx, show (k.toNat : Int) = k by omega]
          · intro x hx
            rw [show x = jhA B σ.sc from hx, show ((0 : Int) + ((6 : Nat) : Int)).toNat = 6 from rfl]
            refine zr_iload_n dX6_digest_69 (rfl : 69 + 1 = 70) rfl ?_
            refine zr_bipush dX6_digest_70 (rfl : 70 + 2 = 72) (by decide) ?_
            refine zr_icmp_ge (tgt := 88) dX6_digest_72 (by decide) (rfl : 72 + 3 = 75) (jI_le (by first | omega | (simp only [bset, reduceIte, Nat.reduceEqDiff]; omega)) (by first | omega | (simp only [bset, reduceIte, Nat.reduceEqDiff]; omega)) (by first | omega | (simp only [bset, reduceIte, Nat.reduceEqDiff]; omega)) (by first | omega | (simp only [bset, reduceIte, Nat.reduceEqDiff]; omega))) (fun h72 => ?_) (fun h72 => ?_)
            · refine zr_aload_n dX6_digest_88 (rfl : 88 + 1 = 89) rfl ?_
              refine zr_lload_n dX6_digest_89 (rfl : 89 + 1 = 90) rfl ?_
              refine zr_fnV dX6_digest_90 (rfl : 90 + 3 = 93) l_X6_294 (s_withNumbersAndCalls _ ok) (by first | assumption | exact bk_0 | exact bk_1 | exact bk_2 | exact bk_3 | exact bk_4 | exact bk_5 | exact bk_6 | exact bk_7 | exact bk_8 | exact bk_9 | exact bk_10 | exact bk_11 | exact bk_12 | exact bk_13 | exact bk_14 | exact bk_15 | exact bk_16 | exact zup_self | exact (zup_ne (by first | assumption | omega)).trans (by first | assumption | exact zup_self) | exact (zup_ne (by first | assumption | omega)).trans ((zup_ne (by first | assumption | omega)).trans (by first | assumption | exact zup_self)) | exact (bk_out (by first | omega | (simp only [bset, reduceIte, Nat.reduceEqDiff]; omega))).trans (by first | exact bk_0 | exact bk_1 | exact bk_2 | exact bk_3 | exact bk_4 | exact bk_5 | exact bk_6 | exact bk_7 | exact bk_8 | exact bk_9 | exact bk_10 | exact bk_11 | exact bk_12 | exact bk_13 | exact bk_14 | exact bk_15 | exact bk_16 | exact cr_5 | exact cr_23 | exact cr_24 | exact cr_25 | exact cr_26 | exact cr_27 | exact cr_28 | exact cr_29 | exact cr_30 | assumption)) rfl rfl rfl (Nat.le_of_ble_eq_true rfl) ?_
              refine zr_lstore_n (lv' := [_, _, _, _]) dX6_digest_93 (rfl : 93 + 1 = 94) (Nat.le_of_ble_eq_true rfl) rfl ?_
              refine zr_aload_n dX6_digest_94 (rfl : 94 + 1 = 95) rfl ?_
              refine zr_lload_n dX6_digest_95 (rfl : 95 + 1 = 96) rfl ?_
              refine zr_fnV dX6_digest_96 (rfl : 96 + 3 = 99) l_X6_297 (s_withGamesAndRows _ ok) (by first | assumption | exact bk_0 | exact bk_1 | exact bk_2 | exact bk_3 | exact bk_4 | exact bk_5 | exact bk_6 | exact bk_7 | exact bk_8 | exact bk_9 | exact bk_10 | exact bk_11 | exact bk_12 | exact bk_13 | exact bk_14 | exact bk_15 | exact bk_16 | exact zup_self | exact (zup_ne (by first | assumption | omega)).trans (by first | assumption | exact zup_self) | exact (zup_ne (by first | assumption | omega)).trans ((zup_ne (by first | assumption | omega)).trans (by first | assumption | exact zup_self)) | exact (bk_out (by first | omega | (simp only [bset, reduceIte, Nat.reduceEqDiff]; omega))).trans (by first | exact bk_0 | exact bk_1 | exact bk_2 | exact bk_3 | exact bk_4 | exact bk_5 | exact bk_6 | exact bk_7 | exact bk_8 | exact bk_9 | exact bk_10 | exact bk_11 | exact bk_12 | exact bk_13 | exact bk_14 | exact bk_15 | exact bk_16 | exact cr_5 | exact cr_23 | exact cr_24 | exact cr_25 | exact cr_26 | exact cr_27 | exact cr_28 | exact cr_29 | exact cr_30 | assumption)) rfl rfl rfl (Nat.le_of_ble_eq_true rfl) ?_
              refine zr_lstore_n (lv' := [_, _, _, _]) dX6_digest_99 (rfl : 99 + 1 = 100) (Nat.le_of_ble_eq_true rfl) rfl ?_
              refine zr_ldc2 dX6_digest_100 (rfl : 100 + 3 = 103) k_X6_281 ?_
              refine zr_lload_n dX6_digest_103 (rfl : 103 + 1 = 104) rfl ?_
              refine zr_lmul dX6_digest_104 (rfl : 104 + 1 = 105) ?_
              refine zr_aload_n dX6_digest_105 (rfl : 105 + 1 = 106) rfl ?_
              refine zr_fnV dX6_digest_106 (rfl : 106 + 3 = 109) l_X6_300 (hff) (by first | assumption | exact bk_0 | exact bk_1 | exact bk_2 | exact bk_3 | exact bk_4 | exact bk_5 | exact bk_6 | exact bk_7 | exact bk_8 | exact bk_9 | exact bk_10 | exact bk_11 | exact bk_12 | exact bk_13 | exact bk_14 | exact bk_15 | exact bk_16 | exact zup_self | exact (zup_ne (by first | assumption | omega)).trans (by first | assumption | exact zup_self) | exact (zup_ne (by first | assumption | omega)).trans ((zup_ne (by first | assumption | omega)).trans (by first | assumption | exact zup_self)) | exact (bk_out (by first | omega | (simp only [bset, reduceIte, Nat.reduceEqDiff]; omega))).trans (by first | exact bk_0 | exact bk_1 | exact bk_2 | exact bk_3 | exact bk_4 | exact bk_5 | exact bk_6 | exact bk_7 | exact bk_8 | exact bk_9 | exact bk_10 | exact bk_11 | exact bk_12 | exact bk_13 | exact bk_14 | exact bk_15 | exact bk_16 | exact cr_5 | exact cr_23 | exact cr_24 | exact cr_25 | exact cr_26 | exact cr_27 | exact cr_28 | exact cr_29 | exact cr_30 | assumption)) rfl rfl rfl (Nat.le_of_ble_eq_true rfl) ?_
              refine zr_i2l dX6_digest_109 (rfl : 109 + 1 = 110) ?_
              refine zr_ladd dX6_digest_110 (rfl : 110 + 1 = 111) ?_
              refine zr_lstore_n (lv' := [_, _, _, _]) dX6_digest_111 (rfl : 111 + 1 = 112) (Nat.le_of_ble_eq_true rfl) rfl ?_
              refine zr_iconst dX6_digest_112 (rfl : 112 + 1 = 113) ?_
              refine zr_istore_n (lv' := [_, _, _, _]) dX6_digest_113 (rfl : 113 + 1 = 114) (Nat.le_of_ble_eq_true rfl) rfl ?_
              rw [← hg20]
              rw [show jhs (jh4 B) 18 (jhs (jh3 B) 16 (jhs (jh2 B) 20 (jhs (jh1 B) 360 (jhA B σ.sc)))) = jhB B (jhA B σ.sc) from rfl]
              rw [show jdig σ B = jhD σ.kp σ.T σ.L (31 * jhs (fun k => jnb B (k + 1)) 3 (31 * jhB B (jhA B σ.sc) + (jI (jff B 6).1).toInt64) + (jsr B).toInt64) from rfl]
              generalize 31 * jhB B (jhA B σ.sc) + (jI (jff B 6).1).toInt64 = H
              have key : zRun Γ md_X6_digest (d + 7) none 114 [some (.ref 5), some (.long (jhs (fun k => jnb B (k + 1)) ((1 : Int) - 1).toNat H)), none, some (.int (jI 1))] [] (n9, g9, 0, 0) (bk 6 B (cr σ (g2 ((1 : Int) - 1).toNat) u)) (zDone md_X6_digest (some (.long (jhD σ.kp σ.T σ.L (31 * jhs (fun k => jnb B (k + 1)) 3 H + (jsr B).toInt64)))) (bk 6 B (cr σ (g2 3) u)) n9 g9) := by
                refine zfor1 1 3 (fun k x => x = jhs (fun k => jnb B (k + 1)) (k - 1).toNat H) (fun k x => [some (.ref 5), some (.long x), none, some (.int (jI k))]) (fun k _ => bk 6 B (cr σ (g2 (k - 1).toNat) u)) (jhs (fun k => jnb B (k + 1)) ((1 : Int) - 1).toNat H) (Eq.refl (jhs (fun k => jnb B (k + 1)) ((1 : Int) - 1).toNat H)) ?_ ?_
                · intro k x k0 k1 hx hk
                  have hgk := hg2 (k - 1).toNat (by omega)
                  rw [show (((k - 1).toNat : Nat) : Int) + 1 = k by omega, show (k - 1).toNat + 1 = (k + 1 - 1).toNat by omega] at hgk
                  refine zr_iload_n dX6_digest_114 (rfl : 114 + 1 = 115) rfl ?_
                  refine zr_iconst dX6_digest_115 (rfl : 115 + 1 = 116) ?_
                  refine zr_icmp_gt (tgt := 138) dX6_digest_116 (by decide) (rfl : 116 + 3 = 119) (jI_lt (by first | omega | (simp only [bset, reduceIte, Nat.reduceEqDiff]; omega)) (by first | omega | (simp only [bset, reduceIte, Nat.reduceEqDiff]; omega)) (by first | omega | (simp only [bset, reduceIte, Nat.reduceEqDiff]; omega)) (by first | omega | (simp only [bset, reduceIte, Nat.reduceEqDiff]; omega))) (fun h116 => ?_) (fun h116 => ?_)
                  · exfalso; omega
                  · refine zr_ldc2 dX6_digest_119 (rfl : 119 + 3 = 122) k_X6_281 ?_
                    refine zr_lload_n dX6_digest_122 (rfl : 122 + 1 = 123) rfl ?_
                    refine zr_lmul dX6_digest_123 (rfl : 123 + 1 = 124) ?_
                    refine zr_aload_n dX6_digest_124 (rfl : 124 + 1 = 125) rfl ?_
                    refine zr_iload_n dX6_digest_125 (rfl : 125 + 1 = 126) rfl ?_
                    refine zr_fnV dX6_digest_126 (rfl : 126 + 3 = 129) l_X6_303 (hgk) (by first | assumption | exact bk_0 | exact bk_1 | exact bk_2 | exact bk_3 | exact bk_4 | exact bk_5 | exact bk_6 | exact bk_7 | exact bk_8 | exact bk_9 | exact bk_10 | exact bk_11 | exact bk_12 | exact bk_13 | exact bk_14 | exact bk_15 | exact bk_16 | exact zup_self | exact (zup_ne (by first | assumption | omega)).trans (by first | assumption | exact zup_self) | exact (zup_ne (by first | assumption | omega)).trans ((zup_ne (by first | assumption | omega)).trans (by first | assumption | exact zup_self)) | exact (bk_out (by first | omega | (simp only [bset, reduceIte, Nat.reduceEqDiff]; omega))).trans (by first | exact bk_0 | exact bk_1 | exact bk_2 | exact bk_3 | exact bk_4 | exact bk_5 | exact bk_6 | exact bk_7 | exact bk_8 | exact bk_9 | exact bk_10 | exact bk_11 | exact bk_12 | exact bk_13 | exact bk_14 | exact bk_15 | exact bk_16 | exact cr_5 | exact cr_23 | exact cr_24 | exact cr_25 | exact cr_26 | exact cr_27 | exact cr_28 | exact cr_29 | exact cr_30 | assumption)) rfl rfl rfl (Nat.le_of_ble_eq_true rfl) ?_
                    refine zr_i2l dX6_digest_129 (rfl : 129 + 1 = 130) ?_
                    refine zr_ladd dX6_digest_130 (rfl : 130 + 1 = 131) ?_
                    refine zr_lstore_n (lv' := [_, _, _, _]) dX6_digest_131 (rfl : 131 + 1 = 132) (Nat.le_of_ble_eq_true rfl) rfl ?_
                    refine zr_iinc (lv' := [_, _, _, _]) dX6_digest_132 (rfl : 132 + 3 = 135) (Nat.le_of_ble_eq_true rfl) rfl (by first | exact jI_add _ _ | rfl) rfl ?_
                    refine zr_goto (tgt := 114) dX6_digest_135 (by decide) ?_
                    refine hk _ ?_
                    rw [show k + 1 - 1 = k - 1 + 1 by omega, jhs_next _ (by omega), hx]
                    show _ = 31 * _ + (jI (jnb B (k - 1 + 1))).toInt64
                    rw [show k - 1 + 1 = k by omega]
                · intro x hx
                  have hx : x = jhs (fun k => jnb B (k + 1)) 3 H := hx
                  rw [hx, show ((1 : Int) + ((3 : Nat) : Int) - 1).toNat = 3 from rfl]
                  generalize jhs (fun k => jnb B (k + 1)) 3 H = H2
                  refine zr_iload_n dX6_digest_114 (rfl : 114 + 1 = 115) rfl ?_
                  refine zr_iconst dX6_digest_115 (rfl : 115 + 1 = 116) ?_
                  refine zr_icmp_gt (tgt := 138) dX6_digest_116 (by decide) (rfl : 116 + 3 = 119) (jI_lt (by first | omega | (simp only [bset, reduceIte, Nat.reduceEqDiff]; omega)) (by first | omega | (simp only [bset, reduceIte, Nat.reduceEqDiff]; omega)) (by first | omega | (simp only [bset, reduceIte, Nat.reduceEqDiff]; omega)) (by first | omega | (simp only [bset, reduceIte, Nat.reduceEqDiff]; omega))) (fun h116 => ?_) (fun h116 => ?_)
                  · refine zr_ldc2 dX6_digest_138 (rfl : 138 + 3 = 141) k_X6_281 ?_
                    refine zr_lload_n dX6_digest_141 (rfl : 141 + 1 = 142) rfl ?_
                    refine zr_lmul dX6_digest_142 (rfl : 142 + 1 = 143) ?_
                    refine zr_aload_n dX6_digest_143 (rfl : 143 + 1 = 144) rfl ?_
                    refine zr_fnV dX6_digest_144 (rfl : 144 + 3 = 147) l_X6_306 (s_drawnShare ok h2 h3) (by first | assumption | exact bk_0 | exact bk_1 | exact bk_2 | exact bk_3 | exact bk_4 | exact bk_5 | exact bk_6 | exact bk_7 | exact bk_8 | exact bk_9 | exact bk_10 | exact bk_11 | exact bk_12 | exact bk_13 | exact bk_14 | exact bk_15 | exact bk_16 | exact zup_self | exact (zup_ne (by first | assumption | omega)).trans (by first | assumption | exact zup_self) | exact (zup_ne (by first | assumption | omega)).trans ((zup_ne (by first | assumption | omega)).trans (by first | assumption | exact zup_self)) | exact (bk_out (by first | omega | (simp only [bset, reduceIte, Nat.reduceEqDiff]; omega))).trans (by first | exact bk_0 | exact bk_1 | exact bk_2 | exact bk_3 | exact bk_4 | exact bk_5 | exact bk_6 | exact bk_7 | exact bk_8 | exact bk_9 | exact bk_10 | exact bk_11 | exact bk_12 | exact bk_13 | exact bk_14 | exact bk_15 | exact bk_16 | exact cr_5 | exact cr_23 | exact cr_24 | exact cr_25 | exact cr_26 | exact cr_27 | exact cr_28 | exact cr_29 | exact cr_30 | assumption)) rfl rfl rfl (Nat.le_of_ble_eq_true rfl) ?_
                    refine zr_fnS dX6_digest_147 (rfl : 147 + 3 = 150) l_X6_310 (s_bitsOfShare _ hck) rfl rfl (Nat.le_of_ble_eq_true rfl) ?_
                    refine zr_ladd dX6_digest_150 (rfl : 150 + 1 = 151) ?_
                    refine zr_lstore_n (lv' := [_, _, _, _]) dX6_digest_151 (rfl : 151 + 1 = 152) (Nat.le_of_ble_eq_true rfl) rfl ?_
                    refine zr_aload_n dX6_digest_152 (rfl : 152 + 1 = 153) rfl ?_
                    refine zr_lload_n dX6_digest_153 (rfl : 153 + 1 = 154) rfl ?_
                    refine zr_fnV dX6_digest_154 (rfl : 154 + 3 = 157) l_X6_314 (s_withSlotsAndBuffer _ ck) (by first | assumption | exact bk_0 | exact bk_1 | exact bk_2 | exact bk_3 | exact bk_4 | exact bk_5 | exact bk_6 | exact bk_7 | exact bk_8 | exact bk_9 | exact bk_10 | exact bk_11 | exact bk_12 | exact bk_13 | exact bk_14 | exact bk_15 | exact bk_16 | exact zup_self | exact (zup_ne (by first | assumption | omega)).trans (by first | assumption | exact zup_self) | exact (zup_ne (by first | assumption | omega)).trans ((zup_ne (by first | assumption | omega)).trans (by first | assumption | exact zup_self)) | exact (bk_out (by first | omega | (simp only [bset, reduceIte, Nat.reduceEqDiff]; omega))).trans (by first | exact bk_0 | exact bk_1 | exact bk_2 | exact bk_3 | exact bk_4 | exact bk_5 | exact bk_6 | exact bk_7 | exact bk_8 | exact bk_9 | exact bk_10 | exact bk_11 | exact bk_12 | exact bk_13 | exact bk_14 | exact bk_15 | exact bk_16 | exact cr_5 | exact cr_23 | exact cr_24 | exact cr_25 | exact cr_26 | exact cr_27 | exact cr_28 | exact cr_29 | exact cr_30 | assumption)) rfl rfl rfl (Nat.le_of_ble_eq_true rfl) ?_
                    exact zr_lret dX6_digest_157 rfl rfl rfl rfl rfl
                  · exfalso; omega
              rw [show jhs (fun k => jnb B (k + 1)) ((1 : Int) - 1).toNat H = H from rfl, show ((1 : Int) - 1).toNat = 0 from rfl] at key
              exact key
            · exfalso; omega
        · exfalso; omega
    · exfalso; omega
end DI

