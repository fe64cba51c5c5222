/-! filling by lot -/
/-- the trial drum, at a and p, outside of the book -/
def tw (a p : Nat) (f : Int → Int) (s : Int) (w : zW) : zW := zup (zup w a (zdr p s)) p (zia 90 f)
section TW
variable {b a p : Nat} {B : zB} {f f' : Int → Int} {s s' : Int} {w : zW}
theorem tw_a (ha : a < b ∨ b + 17 ≤ a) (hap : a ≠ p) : bk b B (tw a p f s w) a = some (zdr p s) := by
  rw [bk_out ha]
  unfold tw
  rw [zup_ne hap, zup_self]
theorem tw_p (hp : p < b ∨ b + 17 ≤ p) : bk b B (tw a p f s w) p = some (zia 90 f) := by
  rw [bk_out hp]
  exact zup_self
theorem bk_zup {j : Nat} {e : va_E} (hj : j < b ∨ b + 17 ≤ j) : zup (bk b B w) j e = bk b B (zup w j e) := by
  funext i
  unfold zup bk
  by_cases h : i = j
  · rw [if_pos h, if_neg (by omega), if_pos h]
  · rw [if_neg h]
    split
    · rfl
    · rw [if_neg h]
theorem tw_ua (ha : a < b ∨ b + 17 ≤ a) (hap : a ≠ p) : zup (bk b B (tw a p f s w)) a (zdr p s') = bk b B (tw a p f s' w) := by
  rw [bk_zup ha]
  congr 1
  funext i
  unfold tw zup
  by_cases h1 : i = a
  · rw [if_pos h1, if_neg (by omega), if_pos h1]
  · rw [if_neg h1]
    by_cases h2 : i = p
    · rw [if_pos h2, if_pos h2]
    · rw [if_neg h2, if_neg h1, if_neg h2, if_neg h1]
theorem tw_up (hp : p < b ∨ b + 17 ≤ p) : zup (bk b B (tw a p f s w)) p (zia 90 f') = bk b B (tw a p f' s w) := by
  rw [bk_zup hp]
  congr 1
  funext i
  unfold tw zup
  by_cases h2 : i = p
  · rw [if_pos h2, if_pos h2]
  · rw [if_neg h2, if_neg h2, if_neg h2]
theorem tw_self {w : zW} (ha : w a = some (zdr p s)) (hp : w p = some (zia 90 f)) : w = tw a p f s w := by
  funext i
  unfold tw zup
  by_cases h2 : i = p
  · rw [if_pos h2, h2, hp]
  · rw [if_neg h2]
    by_cases h1 : i = a
    · rw [if_pos h1, h1, ha]
    · rw [if_neg h1]
end TW
/-- the numbers that are not in the book -/
def jfree (B : zB) : Int → Bool := fun n => decide (B 1 n = -1)
def jflB (c : Int) : Nat → zB → zB × Int
  | 0, B => (B, 0)
  | n + 1, B =>
    if jall (jfree (jflB c n B).1) = 0 then jflB c n B else
    if jfrf (bset (jflB c n B).1 24 (fun _ => jlot ((jflB c n B).1 24 0))) c (jnth (jfree (jflB c n B).1) (jlot ((jflB c n B).1 24 0) % jall (jfree (jflB c n B).1))) = -1 then (bset (jflB c n B).1 24 (fun _ => jlot ((jflB c n B).1 24 0)), (jflB c n B).2)
    else (jst (bset (jflB c n B).1 24 (fun _ => jlot ((jflB c n B).1 24 0))) (jfrf (bset (jflB c n B).1 24 (fun _ => jlot ((jflB c n B).1 24 0))) c (jnth (jfree (jflB c n B).1) (jlot ((jflB c n B).1 24 0) % jall (jfree (jflB c n B).1)))) (jnth (jfree (jflB c n B).1) (jlot ((jflB c n B).1 24 0) % jall (jfree (jflB c n B).1))), (jflB c n B).2 + 1)
/-- one turn of it -/
def jfl1 (c : Int) (B : zB) (k : Int) : zB × Int :=
    if jall (jfree B) = 0 then (B, k) else
    if jfrf (bset B 24 (fun _ => jlot (B 24 0))) c (jnth (jfree B) (jlot (B 24 0) % jall (jfree B))) = -1 then (bset B 24 (fun _ => jlot (B 24 0)), k)
    else (jst (bset B 24 (fun _ => jlot (B 24 0))) (jfrf (bset B 24 (fun _ => jlot (B 24 0))) c (jnth (jfree B) (jlot (B 24 0) % jall (jfree B)))) (jnth (jfree B) (jlot (B 24 0) % jall (jfree B))), k + 1)
theorem jflB_succ (c : Int) (n : Nat) (B : zB) : jflB c (n + 1) B = jfl1 c (jflB c n B).1 (jflB c n B).2 := rfl
theorem jfl1_stuck {c : Int} {B : zB} {k : Int} (h : jall (jfree B) = 0) : jfl1 c B k = (B, k) := by unfold jfl1; rw [if_pos h]
theorem jflB_stuck {c : Int} {n : Nat} {B : zB} (h : jall (jfree (jflB c n B).1) = 0) : ∀ m : Nat, jflB c (n + m) B = jflB c n B
  | 0 => rfl
  | m + 1 => by
    have ih := jflB_stuck h m
    show jflB c (n + m + 1) B = _
    rw [jflB_succ, ih, jfl1_stuck h]
theorem jfrf_r (B : zB) {c n : Int} (hc : 0 ≤ c ∧ c < 6) : jfrf B c n = -1 ∨ (0 ≤ jfrf B c n ∧ jfrf B c n < 18 ∧ jfrf B c n / 3 = c ∧ jrap B (jfrf B c n) n = 0) := by
  unfold jfrf
  by_cases h1 : jrap B (c * 3) n = 0
  · rw [if_pos h1]
    exact Or.inr ⟨by omega, by omega, by omega, h1⟩
  · rw [if_neg h1]
    by_cases h2 : jrap B (c * 3 + 1) n = 0
    · rw [if_pos h2]
      exact Or.inr ⟨by omega, by omega, by omega, h2⟩
    · rw [if_neg h2]
      by_cases h3 : jrap B (c * 3 + 1 + 1) n = 0
      · rw [if_pos h3]
        exact Or.inr ⟨by omega, by omega, by omega, h3⟩
      · rw [if_neg h3]
        exact Or.inl rfl
theorem jok_st {B : zB} {r n : Int} (ok : jok B) (hr : 0 ≤ r ∧ r < 18) (hn : 1 ≤ n ∧ n ≤ 90) : jok (jst B r n) := by
  refine ⟨?_, ?_, ok.bo, ok.ca, ok.W, ok.wa, ok.da, ok.sa, ok.lo, ok.se, ok.ds, ok.nu, ok.dr, ok.sd, ok.po, ok.da2, ok.sa2⟩
  · intro z
    show 0 ≤ jup (B 0) (r * 9 + jcol n) n z ∧ jup (B 0) (r * 9 + jcol n) n z ≤ 90
    unfold jup
    split
    · omega
    · exact ok.P z
  · intro z
    show -1 ≤ jup (B 1) n r z ∧ jup (B 1) n r z < 18
    unfold jup
    split
    · omega
    · exact ok.R z
theorem jok_lot {B : zB} {x : Int} (ok : jok B) (hx : 0 ≤ x ∧ x < 10000) : jok (bset B 24 (fun _ => x)) :=
  ⟨ok.P, ok.R, ok.bo, ok.ca, ok.W, ok.wa, ok.da, ok.sa, hx, ok.se, ok.ds, ok.nu, ok.dr, ok.sd, ok.po, ok.da2, ok.sa2⟩
theorem jfree_st {B : zB} {r n : Int} (hr : 0 ≤ r) : jfree (jst B r n) = jwo (jfree B) n := by
  funext m
  show decide (jup (B 1) n r m = -1) = (decide (B 1 m = -1) && decide (m ≠ n))
  unfold jup
  by_cases h : m = n
  · rw [if_pos h]
    simp [h]
    omega
  · rw [if_neg h]
    simp [h]
theorem jok_fl1 {c : Int} {B : zB} {k : Int} (ok : jok B) (hc : 0 ≤ c ∧ c < 6) : jok (jfl1 c B k).1 := by
  unfold jfl1
  by_cases h0 : jall (jfree B) = 0
  · rw [if_pos h0]
    exact ok
  · rw [if_neg h0]
    have hl := jlot_r ok.lo
    have ok1 := jok_lot ok hl
    have ha := jall_r (jfree B)
    obtain ⟨n1, n2, -, -⟩ := jnth_spec (q := jfree B) (k := jlot (B 24 0) % jall (jfree B)) (Int.emod_nonneg _ (by omega)) (Int.emod_lt_of_pos _ (by omega))
    split
    · exact ok1
    · rename_i h
      rcases jfrf_r (bset B 24 (fun _ => jlot (B 24 0))) (n := jnth (jfree B) (jlot (B 24 0) % jall (jfree B))) hc with h2 | ⟨h2, h3, -, -⟩
      · exact absurd h2 h
      · exact jok_st ok1 ⟨h2, h3⟩ ⟨n1, n2⟩
theorem jok_flB {c : Int} {B : zB} (ok : jok B) (hc : 0 ≤ c ∧ c < 6) : ∀ n : Nat, jok (jflB c n B).1
  | 0 => ok
  | n + 1 => by rw [jflB_succ]; exact jok_fl1 (jok_flB ok hc n) hc
section PL
variable {Γ : zΓ} {d : Nat} {w : zW} {b a p : Nat} {B : zB} {f : Int → Int} {s : Int}
theorem s_holdNumbersOutOf (ha : a < b ∨ b + 17 ≤ a) (hp : p < b ∨ b + 17 ≤ p) (hap : a ≠ p) (ok : jok B) : ∃ f', jdi (jfree B) f' (jall (jfree B)) ∧ zFn Γ md_X2_holdNumbersOutOf d [.ref a, .ref (b + 1)] (bk b B (tw a p f s w)) none (bk b B (tw a p f' (jall (jfree B)) w)) := by
  have step : ∀ (f : Int → Int) (n : Int), 1 ≤ n → n ≤ 90 → (∀ j, 0 ≤ j → j < jrk (jfree B) n → f j = jnth (jfree B) j) → (jfree B n = true → ∀ j, 0 ≤ j → j < jrk (jfree B) (n + 1) → jup f (jrk (jfree B) n) n j = jnth (jfree B) j) ∧ (¬ jfree B n = true → ∀ j, 0 ≤ j → j < jrk (jfree B) (n + 1) → f j = jnth (jfree B) j) := by
    intro f n h1 h2 hf
    have hs := jrk_succ (q := jfree B) h1
    refine ⟨fun hq j j0 j1 => ?_, fun hq j j0 j1 => ?_⟩
    · rw [jb_pos hq] at hs
      unfold jup
      by_cases hj : j = jrk (jfree B) n
      · rw [if_pos hj, hj, jnth_at h1 h2 hq]
      · rw [if_neg hj]
        exact hf j j0 (by omega)
    · rw [jb_neg hq] at hs
      exact hf j j0 (by omega)
  have main : ∀ F : (Int → Int) → Prop, True := fun _ => trivial
  let g : Nat → Int → Int := fun k => Nat.rec (motive := fun _ => Int → Int) f (fun k gk => if jfree B ((k : Int) + 1) = true then jup gk (jrk (jfree B) ((k : Int) + 1)) ((k : Int) + 1) else gk) k
  have hg0 : g 0 = f := rfl
  have hgs : ∀ k : Nat, g (k + 1) = if jfree B ((k : Int) + 1) = true then jup (g k) (jrk (jfree B) ((k : Int) + 1)) ((k : Int) + 1) else g k := fun _ => rfl
  have hgi : ∀ k : Nat, k ≤ 90 → ∀ j, 0 ≤ j → j < jrk (jfree B) ((k : Int) + 1) → g k j = jnth (jfree B) j := by
    intro k
    induction k with
    | zero =>
      intro _ j j0 j1
      rw [show (((0 : Nat) : Int) + 1) = 1 by omega, jrk_1] at j1
      omega
    | succ k ih =>
      intro hk j j0 j1
      have st := step (g k) ((k : Int) + 1) (by omega) (by omega) (ih (by omega))
      rw [show (((k + 1 : Nat) : Int) + 1) = (k : Int) + 1 + 1 by omega] at j1
      rw [hgs]
      split
      · rename_i h
        exact st.1 h j j0 j1
      · rename_i h
        exact st.2 h j j0 j1
  refine ⟨g 90, ⟨rfl, fun j j0 j1 => hgi 90 (Nat.le_refl _) j j0 (by rw [← jrk_91] at j1; exact j1)⟩, ?_⟩
  clear main step
  generalize g = g at hg0 hgs hgi ⊢
  have hpa : p ≠ a := Ne.symm hap
  have hall := jall_r (jfree B)
  refine zFn.of_run (lv := [some (.ref a), some (.ref (b + 1)), none]) (by decide) rfl (Nat.le_of_ble_eq_true rfl) rfl (fun n9 g9 => ?_)
  refine zr_aload_n dX2_holdNumbersOutOf_0 (rfl : 0 + 1 = 1) rfl ?_
  refine zr_iconst dX2_holdNumbersOutOf_1 (rfl : 1 + 1 = 2) ?_
  refine zr_putf (fs' := [_, _]) dX2_holdNumbersOutOf_2 (rfl : 2 + 3 = 5) f_X2_15 ft_2_1 (tw_a ha hap) (Nat.le_of_ble_eq_true rfl) rfl rfl rfl ?_
  rw [tw_ua ha hap]
  refine zr_iconst dX2_holdNumbersOutOf_5 (rfl : 5 + 1 = 6) ?_
  refine zr_istore_n (lv' := [_, _, _]) dX2_holdNumbersOutOf_6 (rfl : 6 + 1 = 7) (Nat.le_of_ble_eq_true rfl) rfl ?_
  have e1 : (0 : Int) = jrk (jfree B) 1 := jrk_1 _
  have key : zRun Γ md_X2_holdNumbersOutOf d none 7 [some (.ref a), some (.ref (b + 1)), some (.int (jI 1))] [] (n9, g9, 0, 0) (bk b B (tw a p (g ((1 : Int) - 1).toNat) (jrk (jfree B) 1) w)) (zDone md_X2_holdNumbersOutOf none (bk b B (tw a p (g 90) (jall (jfree B)) w)) n9 g9) := by
    refine zfor1 1 90 (fun _ _ => True) (fun n (_ : Unit) => [some (.ref a), some (.ref (b + 1)), some (.int (jI n))]) (fun n _ => bk b B (tw a p (g (n - 1).toNat) (jrk (jfree B) n) w)) () trivial ?_ ?_
    · intro n _ h1 h9 _ hk
      have hR := ok.R n
      have hs := jrk_succ (q := jfree B) h1
      have hnn := jrk_nn (jfree B) n
      have hle : jrk (jfree B) n ≤ n - 1 := by have := (jcnt_nn (n - 1).toNat (fun z => jfree B (z + 1))).2; unfold jrk; omega
      have hgn : g (n + 1 - 1).toNat = if jfree B n = true then jup (g (n - 1).toNat) (jrk (jfree B) n) n else g (n - 1).toNat := by
        have := hgs (n - 1).toNat
        rw [show (((n - 1).toNat : Nat) : Int) + 1 = n by omega] at this
        rw [show (n + 1 - 1).toNat = (n - 1).toNat + 1 by omega, this]
      have hk' := hk () trivial
      rw [hgn] at hk'
      refine zr_iload_n dX2_holdNumbersOutOf_7 (rfl : 7 + 1 = 8) rfl ?_
      refine zr_bipush dX2_holdNumbersOutOf_8 (rfl : 8 + 2 = 10) (by decide) ?_
      refine zr_icmp_gt (tgt := 49) dX2_holdNumbersOutOf_10 (by decide) (rfl : 10 + 3 = 13) (jI_lt (by first | omega | (simp only [bset, reduceIte, Nat.reduceEqDiff]; omega)) (by first | omega | (simp only [bset, reduceIte, Nat.reduceEqDiff]; omega)) (by first | omega | (simp only [bset, reduceIte, Nat.reduceEqDiff]; omega)) (by first | omega | (simp only [bset, reduceIte, Nat.reduceEqDiff]; omega))) (fun h10 => ?_) (fun h10 => ?_)
      · exfalso; omega
      · refine zr_aload_n dX2_holdNumbersOutOf_13 (rfl : 13 + 1 = 14) rfl ?_
        refine zr_getf dX2_holdNumbersOutOf_14 (rfl : 14 + 3 = 17) f_X2_25 (by first | assumption | exact bk_0 | exact bk_1 | exact bk_2 | exact bk_3 | exact bk_4 | exact bk_5 | exact bk_6 | exact bk_7 | exact bk_8 | exact bk_9 | exact bk_10 | exact bk_11 | exact bk_12 | exact bk_13 | exact bk_14 | exact bk_15 | exact bk_16 | exact zup_self | exact (zup_ne (by first | assumption | omega)).trans (by first | assumption | exact zup_self) | exact (zup_ne (by first | assumption | omega)).trans ((zup_ne (by first | assumption | omega)).trans (by first | assumption | exact zup_self)) | exact (bk_out (by first | omega | (simp only [bset, reduceIte, Nat.reduceEqDiff]; omega))).trans (by first | exact bk_0 | exact bk_1 | exact bk_2 | exact bk_3 | exact bk_4 | exact bk_5 | exact bk_6 | exact bk_7 | exact bk_8 | exact bk_9 | exact bk_10 | exact bk_11 | exact bk_12 | exact bk_13 | exact bk_14 | exact bk_15 | exact bk_16 | assumption)) rfl ?_
        refine zr_iload_n dX2_holdNumbersOutOf_17 (rfl : 17 + 1 = 18) rfl ?_
        refine zr_iald dX2_holdNumbersOutOf_18 (rfl : 18 + 1 = 19) (by first | assumption | exact bk_0 | exact bk_1 | exact bk_2 | exact bk_3 | exact bk_4 | exact bk_5 | exact bk_6 | exact bk_7 | exact bk_8 | exact bk_9 | exact bk_10 | exact bk_11 | exact bk_12 | exact bk_13 | exact bk_14 | exact bk_15 | exact bk_16 | exact zup_self | exact (zup_ne (by first | assumption | omega)).trans (by first | assumption | exact zup_self) | exact (zup_ne (by first | assumption | omega)).trans ((zup_ne (by first | assumption | omega)).trans (by first | assumption | exact zup_self)) | exact (bk_out (by first | omega | (simp only [bset, reduceIte, Nat.reduceEqDiff]; omega))).trans (by first | exact bk_0 | exact bk_1 | exact bk_2 | exact bk_3 | exact bk_4 | exact bk_5 | exact bk_6 | exact bk_7 | exact bk_8 | exact bk_9 | exact bk_10 | exact bk_11 | exact bk_12 | exact bk_13 | exact bk_14 | exact bk_15 | exact bk_16 | assumption)) (by decide) (by first | omega | (simp only [bset, reduceIte, Nat.reduceEqDiff]; omega)) (by first | omega | (simp only [bset, reduceIte, Nat.reduceEqDiff]; omega)) ?_
        refine zr_iconst dX2_holdNumbersOutOf_19 (rfl : 19 + 1 = 20) ?_
        refine zr_icmp_ne (tgt := 43) dX2_holdNumbersOutOf_20 (by decide) (rfl : 20 + 3 = 23) (jI_eq (by first | omega | (simp only [bset, reduceIte, Nat.reduceEqDiff]; omega)) (by first | omega | (simp only [bset, reduceIte, Nat.reduceEqDiff]; omega)) (by first | omega | (simp only [bset, reduceIte, Nat.reduceEqDiff]; omega)) (by first | omega | (simp only [bset, reduceIte, Nat.reduceEqDiff]; omega))) (fun h20 => ?_) (fun h20 => ?_)
        · have hq : ¬ jfree B n = true := by unfold jfree; simpa using h20
          rw [jb_neg hq, Int.add_zero] at hs
          rw [if_neg hq, hs] at hk'
          refine zr_iinc (lv' := [_, _, _]) dX2_holdNumbersOutOf_43 (rfl : 43 + 3 = 46) (Nat.le_of_ble_eq_true rfl) rfl (by first | exact jI_add _ _ | rfl) rfl ?_
          refine zr_goto (tgt := 7) dX2_holdNumbersOutOf_46 (by decide) ?_
          exact hk'
        · have hq : jfree B n = true := by unfold jfree; simpa using h20
          rw [jb_pos hq] at hs
          rw [if_pos hq, hs] at hk'
          refine zr_aload_n dX2_holdNumbersOutOf_23 (rfl : 23 + 1 = 24) rfl ?_
          refine zr_getf dX2_holdNumbersOutOf_24 (rfl : 24 + 3 = 27) f_X2_9 (tw_a ha hap) rfl ?_
          refine zr_aload_n dX2_holdNumbersOutOf_27 (rfl : 27 + 1 = 28) rfl ?_
          refine zr_getf dX2_holdNumbersOutOf_28 (rfl : 28 + 3 = 31) f_X2_15 (tw_a ha hap) rfl ?_
          refine zr_iload_n dX2_holdNumbersOutOf_31 (rfl : 31 + 1 = 32) rfl ?_
          refine zr_iast dX2_holdNumbersOutOf_32 (rfl : 32 + 1 = 33) (tw_p hp) (by decide) (by first | omega | (simp only [bset, reduceIte, Nat.reduceEqDiff]; omega)) (by first | omega | (simp only [bset, reduceIte, Nat.reduceEqDiff]; omega)) rfl ?_
          rw [tw_up hp]
          refine zr_aload_n dX2_holdNumbersOutOf_33 (rfl : 33 + 1 = 34) rfl ?_
          refine zr_dup dX2_holdNumbersOutOf_34 (rfl : 34 + 1 = 35) rfl ?_
          refine zr_getf dX2_holdNumbersOutOf_35 (rfl : 35 + 3 = 38) f_X2_15 (tw_a ha hap) rfl ?_
          refine zr_iconst dX2_holdNumbersOutOf_38 (rfl : 38 + 1 = 39) ?_
          refine zr_iadd dX2_holdNumbersOutOf_39 (rfl : 39 + 1 = 40) (by first | exact jI_add _ _ | rfl) ?_
          refine zr_putf (fs' := [_, _]) dX2_holdNumbersOutOf_40 (rfl : 40 + 3 = 43) f_X2_15 ft_2_1 (tw_a ha hap) (Nat.le_of_ble_eq_true rfl) rfl rfl rfl ?_
          rw [tw_ua ha hap]
          refine zr_iinc (lv' := [_, _, _]) dX2_holdNumbersOutOf_43 (rfl : 43 + 3 = 46) (Nat.le_of_ble_eq_true rfl) rfl (by first | exact jI_add _ _ | rfl) rfl ?_
          refine zr_goto (tgt := 7) dX2_holdNumbersOutOf_46 (by decide) ?_
          exact hk'
    · intro _ _
      have e90 : g ((1 : Int) + ((90 : Nat) : Int) - 1).toNat = g 90 := rfl
      have e91 : jrk (jfree B) ((1 : Int) + ((90 : Nat) : Int)) = jall (jfree B) := rfl
      rw [e90, e91]
      refine zr_iload_n dX2_holdNumbersOutOf_7 (rfl : 7 + 1 = 8) rfl ?_
      refine zr_bipush dX2_holdNumbersOutOf_8 (rfl : 8 + 2 = 10) (by decide) ?_
      refine zr_icmp_gt (tgt := 49) dX2_holdNumbersOutOf_10 (by decide) (rfl : 10 + 3 = 13) (jI_lt (by first | omega | (simp only [bset, reduceIte, Nat.reduceEqDiff]; omega)) (by first | omega | (simp only [bset, reduceIte, Nat.reduceEqDiff]; omega)) (by first | omega | (simp only [bset, reduceIte, Nat.reduceEqDiff]; omega)) (by first | omega | (simp only [bset, reduceIte, Nat.reduceEqDiff]; omega))) (fun h10 => ?_) (fun h10 => ?_)
      · first
        | (exfalso; omega)
        | (
          exact zr_vret dX2_holdNumbersOutOf_49 rfl rfl rfl rfl)
      · first
        | (exfalso; omega)
        | (
          refine zr_aload_n dX2_holdNumbersOutOf_13 (rfl : 13 + 1 = 14) rfl ?_
          refine zr_getf dX2_holdNumbersOutOf_14 (rfl : 14 + 3 = 17) f_X2_25 (by first | assumption | exact bk_0 | exact bk_1 | exact bk_2 | exact bk_3 | exact bk_4 | exact bk_5 | exact bk_6 | exact bk_7 | exact bk_8 | exact bk_9 | exact bk_10 | exact bk_11 | exact bk_12 | exact bk_13 | exact bk_14 | exact bk_15 | exact bk_16 | exact zup_self | exact (zup_ne (by first | assumption | omega)).trans (by first | assumption | exact zup_self) | exact (zup_ne (by first | assumption | omega)).trans ((zup_ne (by first | assumption | omega)).trans (by first | assumption | exact zup_self)) | exact (bk_out (by first | omega | (simp only [bset, reduceIte, Nat.reduceEqDiff]; omega))).trans (by first | exact bk_0 | exact bk_1 | exact bk_2 | exact bk_3 | exact bk_4 | exact bk_5 | exact bk_6 | exact bk_7 | exact bk_8 | exact bk_9 | exact bk_10 | exact bk_11 | exact bk_12 | exact bk_13 | exact bk_14 | exact bk_15 | exact bk_16 | assumption)) rfl ?_
          refine zr_iload_n dX2_holdNumbersOutOf_17 (rfl : 17 + 1 = 18) rfl ?_
          refine zr_iald dX2_holdNumbersOutOf_18 (rfl : 18 + 1 = 19) (by first | assumption | exact bk_0 | exact bk_1 | exact bk_2 | exact bk_3 | exact bk_4 | exact bk_5 | exact bk_6 | exact bk_7 | exact bk_8 | exact bk_9 | exact bk_10 | exact bk_11 | exact bk_12 | exact bk_13 | exact bk_14 | exact bk_15 | exact bk_16 | exact zup_self | exact (zup_ne (by first | assumption | omega)).trans (by first | assumption | exact zup_self) | exact (zup_ne (by first | assumption | omega)).trans ((zup_ne (by first | assumption | omega)).trans (by first | assumption | exact zup_self)) | exact (bk_out (by first | omega | (simp only [bset, reduceIte, Nat.reduceEqDiff]; omega))).trans (by first | exact bk_0 | exact bk_1 | exact bk_2 | exact bk_3 | exact bk_4 | exact bk_5 | exact bk_6 | exact bk_7 | exact bk_8 | exact bk_9 | exact bk_10 | exact bk_11 | exact bk_12 | exact bk_13 | exact bk_14 | exact bk_15 | exact bk_16 | assumption)) (by decide) (by first | omega | (simp only [bset, reduceIte, Nat.reduceEqDiff]; omega)) (by first | omega | (simp only [bset, reduceIte, Nat.reduceEqDiff]; omega)) ?_
          refine zr_iconst dX2_holdNumbersOutOf_19 (rfl : 19 + 1 = 20) ?_
          refine zr_icmp_ne (tgt := 43) dX2_holdNumbersOutOf_20 (by decide) (rfl : 20 + 3 = 23) (jI_eq (by first | omega | (simp only [bset, reduceIte, Nat.reduceEqDiff]; omega)) (by first | omega | (simp only [bset, reduceIte, Nat.reduceEqDiff]; omega)) (by first | omega | (simp only [bset, reduceIte, Nat.reduceEqDiff]; omega)) (by first | omega | (simp only [bset, reduceIte, Nat.reduceEqDiff]; omega))) (fun h20 => ?_) (fun h20 => ?_)
          · first
            | (exfalso; omega)
            | (
              refine zr_iinc (lv' := [_, _, _]) dX2_holdNumbersOutOf_43 (rfl : 43 + 3 = 46) (Nat.le_of_ble_eq_true rfl) rfl (by first | exact jI_add _ _ | rfl) rfl ?_
              refine zr_goto (tgt := 7) dX2_holdNumbersOutOf_46 (by decide) ?_
              exfalso; omega)
          · first
            | (exfalso; omega)
            | (
              refine zr_aload_n dX2_holdNumbersOutOf_23 (rfl : 23 + 1 = 24) rfl ?_
              refine zr_getf dX2_holdNumbersOutOf_24 (rfl : 24 + 3 = 27) f_X2_9 (by first | assumption | exact bk_0 | exact bk_1 | exact bk_2 | exact bk_3 | exact bk_4 | exact bk_5 | exact bk_6 | exact bk_7 | exact bk_8 | exact bk_9 | exact bk_10 | exact bk_11 | exact bk_12 | exact bk_13 | exact bk_14 | exact bk_15 | exact bk_16 | exact zup_self | exact (zup_ne (by first | assumption | omega)).trans (by first | assumption | exact zup_self) | exact (zup_ne (by first | assumption | omega)).trans ((zup_ne (by first | assumption | omega)).trans (by first | assumption | exact zup_self)) | exact (bk_out (by first | omega | (simp only [bset, reduceIte, Nat.reduceEqDiff]; omega))).trans (by first | exact bk_0 | exact bk_1 | exact bk_2 | exact bk_3 | exact bk_4 | exact bk_5 | exact bk_6 | exact bk_7 | exact bk_8 | exact bk_9 | exact bk_10 | exact bk_11 | exact bk_12 | exact bk_13 | exact bk_14 | exact bk_15 | exact bk_16 | assumption)) rfl ?_
              refine zr_aload_n dX2_holdNumbersOutOf_27 (rfl : 27 + 1 = 28) rfl ?_
              refine zr_getf dX2_holdNumbersOutOf_28 (rfl : 28 + 3 = 31) f_X2_15 (by first | assumption | exact bk_0 | exact bk_1 | exact bk_2 | exact bk_3 | exact bk_4 | exact bk_5 | exact bk_6 | exact bk_7 | exact bk_8 | exact bk_9 | exact bk_10 | exact bk_11 | exact bk_12 | exact bk_13 | exact bk_14 | exact bk_15 | exact bk_16 | exact zup_self | exact (zup_ne (by first | assumption | omega)).trans (by first | assumption | exact zup_self) | exact (zup_ne (by first | assumption | omega)).trans ((zup_ne (by first | assumption | omega)).trans (by first | assumption | exact zup_self)) | exact (bk_out (by first | omega | (simp only [bset, reduceIte, Nat.reduceEqDiff]; omega))).trans (by first | exact bk_0 | exact bk_1 | exact bk_2 | exact bk_3 | exact bk_4 | exact bk_5 | exact bk_6 | exact bk_7 | exact bk_8 | exact bk_9 | exact bk_10 | exact bk_11 | exact bk_12 | exact bk_13 | exact bk_14 | exact bk_15 | exact bk_16 | assumption)) rfl ?_
              refine zr_iload_n dX2_holdNumbersOutOf_31 (rfl : 31 + 1 = 32) rfl ?_
              refine zr_iast dX2_holdNumbersOutOf_32 (rfl : 32 + 1 = 33) (by first | assumption | exact bk_0 | exact bk_1 | exact bk_2 | exact bk_3 | exact bk_4 | exact bk_5 | exact bk_6 | exact bk_7 | exact bk_8 | exact bk_9 | exact bk_10 | exact bk_11 | exact bk_12 | exact bk_13 | exact bk_14 | exact bk_15 | exact bk_16 | exact zup_self | exact (zup_ne (by first | assumption | omega)).trans (by first | assumption | exact zup_self) | exact (zup_ne (by first | assumption | omega)).trans ((zup_ne (by first | assumption | omega)).trans (by first | assumption | exact zup_self)) | exact (bk_out (by first | omega | (simp only [bset, reduceIte, Nat.reduceEqDiff]; omega))).trans (by first | exact bk_0 | exact bk_1 | exact bk_2 | exact bk_3 | exact bk_4 | exact bk_5 | exact bk_6 | exact bk_7 | exact bk_8 | exact bk_9 | exact bk_10 | exact bk_11 | exact bk_12 | exact bk_13 | exact bk_14 | exact bk_15 | exact bk_16 | assumption)) (by decide) (by first | omega | (simp only [bset, reduceIte, Nat.reduceEqDiff]; omega)) (by first | omega | (simp only [bset, reduceIte, Nat.reduceEqDiff]; omega)) rfl ?_
              refine zr_aload_n dX2_holdNumbersOutOf_33 (rfl : 33 + 1 = 34) rfl ?_
              refine zr_dup dX2_holdNumbersOutOf_34 (rfl : 34 + 1 = 35) rfl ?_
              refine zr_getf dX2_holdNumbersOutOf_35 (rfl : 35 + 3 = 38) f_X2_15 (by first | assumption | exact bk_0 | exact bk_1 | exact bk_2 | exact bk_3 | exact bk_4 | exact bk_5 | exact bk_6 | exact bk_7 | exact bk_8 | exact bk_9 | exact bk_10 | exact bk_11 | exact bk_12 | exact bk_13 | exact bk_14 | exact bk_15 | exact bk_16 | exact zup_self | exact (zup_ne (by first | assumption | omega)).trans (by first | assumption | exact zup_self) | exact (zup_ne (by first | assumption | omega)).trans ((zup_ne (by first | assumption | omega)).trans (by first | assumption | exact zup_self)) | exact (bk_out (by first | omega | (simp only [bset, reduceIte, Nat.reduceEqDiff]; omega))).trans (by first | exact bk_0 | exact bk_1 | exact bk_2 | exact bk_3 | exact bk_4 | exact bk_5 | exact bk_6 | exact bk_7 | exact bk_8 | exact bk_9 | exact bk_10 | exact bk_11 | exact bk_12 | exact bk_13 | exact bk_14 | exact bk_15 | exact bk_16 | assumption)) rfl ?_
              refine zr_iconst dX2_holdNumbersOutOf_38 (rfl : 38 + 1 = 39) ?_
              refine zr_iadd dX2_holdNumbersOutOf_39 (rfl : 39 + 1 = 40) (by first | exact jI_add _ _ | rfl) ?_
              refine zr_putf (fs' := [_, _]) dX2_holdNumbersOutOf_40 (rfl : 40 + 3 = 43) f_X2_15 ft_2_1 (by first | assumption | exact bk_0 | exact bk_1 | exact bk_2 | exact bk_3 | exact bk_4 | exact bk_5 | exact bk_6 | exact bk_7 | exact bk_8 | exact bk_9 | exact bk_10 | exact bk_11 | exact bk_12 | exact bk_13 | exact bk_14 | exact bk_15 | exact bk_16 | exact zup_self | exact (zup_ne (by first | assumption | omega)).trans (by first | assumption | exact zup_self) | exact (zup_ne (by first | assumption | omega)).trans ((zup_ne (by first | assumption | omega)).trans (by first | assumption | exact zup_self)) | exact (bk_out (by first | omega | (simp only [bset, reduceIte, Nat.reduceEqDiff]; omega))).trans (by first | exact bk_0 | exact bk_1 | exact bk_2 | exact bk_3 | exact bk_4 | exact bk_5 | exact bk_6 | exact bk_7 | exact bk_8 | exact bk_9 | exact bk_10 | exact bk_11 | exact bk_12 | exact bk_13 | exact bk_14 | exact bk_15 | exact bk_16 | assumption)) (Nat.le_of_ble_eq_true rfl) rfl rfl rfl ?_
              refine zr_iinc (lv' := [_, _, _]) dX2_holdNumbersOutOf_43 (rfl : 43 + 3 = 46) (Nat.le_of_ble_eq_true rfl) rfl (by first | exact jI_add _ _ | rfl) rfl ?_
              refine zr_goto (tgt := 7) dX2_holdNumbersOutOf_46 (by decide) ?_
              exfalso; omega))
  rw [show g ((1 : Int) - 1).toNat = f from hg0, ← e1] at key
  exact key
theorem s_placeByLot (c : Int) (m : Nat) (hm : 1 ≤ m ∧ m ≤ 60) (hc : 0 ≤ c ∧ c < 6) (ha : a < b ∨ b + 17 ≤ a) (hp : p < b ∨ b + 17 ≤ p) (hap : a ≠ p) (ok : jok B) : ∃ f' s', zFn Γ md_X0_placeByLot (d + 5) [.ref b, .int (jI c), .int (jI m), .ref a] (bk b B (tw a p f s w)) (some (.int (jI (jflB c m B).2))) (bk b (jflB c m B).1 (tw a p f' s' w)) := by
  sorry
end PL

