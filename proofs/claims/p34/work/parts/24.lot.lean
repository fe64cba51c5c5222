/-! filling by lot -/
/-- the trial drum, at a and p, outside of the book -/
def tw (a p : Nat) (f : Int → Int) (s : Int) (w : zW) : zW := zup (zup w a (zdr p s)) p (zia 90 f)
section TW
variable {b a p : Nat} {B : zB} {f f' : Int → Int} {s s' : Int} {w : zW}
theorem tw_a (ha : a < b ∨ b + 17 ≤ a) (hap : a ≠ p) : bk b B (tw a p f s w) a = some (zdr p s) := by
  rw [bk_out ha]
  unfold tw
  rw [zup_ne hap, zup_self]
theorem tw_p (hp : p < b ∨ b + 17 ≤ p) : bk b B (tw a p f s w) p = some (zia 90 f) := by
  rw [bk_out hp]
  exact zup_self
theorem bk_zup {j : Nat} {e : va_E} (hj : j < b ∨ b + 17 ≤ j) : zup (bk b B w) j e = bk b B (zup w j e) := by
  funext i
  by_cases h : i = j
  · subst h
    rw [zup_self, bk_out hj, zup_self]
  · rw [zup_ne h]
    unfold bk
    split
    · rfl
    · rw [zup_ne h]
theorem tw_ua (ha : a < b ∨ b + 17 ≤ a) (hap : a ≠ p) : zup (bk b B (tw a p f s w)) a (zdr p s') = bk b B (tw a p f s' w) := by
  rw [bk_zup ha]
  congr 1
  funext i
  unfold tw zup
  by_cases h1 : i = a
  · rw [if_pos h1, if_neg (by omega), if_pos h1]
  · rw [if_neg h1]
    by_cases h2 : i = p
    · rw [if_pos h2, if_pos h2]
    · rw [if_neg h2, if_neg h1, if_neg h2, if_neg h1]
theorem tw_up (hp : p < b ∨ b + 17 ≤ p) : zup (bk b B (tw a p f s w)) p (zia 90 f') = bk b B (tw a p f' s w) := by
  rw [bk_zup hp]
  congr 1
  funext i
  unfold tw zup
  by_cases h2 : i = p
  · rw [if_pos h2, if_pos h2]
  · rw [if_neg h2, if_neg h2, if_neg h2]
theorem tw_self {w : zW} (ha : w a = some (zdr p s)) (hp : w p = some (zia 90 f)) : w = tw a p f s w := by
  funext i
  unfold tw zup
  by_cases h2 : i = p
  · rw [if_pos h2, h2, hp]
  · rw [if_neg h2]
    by_cases h1 : i = a
    · rw [if_pos h1, h1, ha]
    · rw [if_neg h1]
end TW
/-- the numbers that are not in the book -/
def jfree (B : zB) : Int → Bool := fun n => decide (B 1 n = -1)
def jflB (c : Int) : Nat → zB → zB × Int
  | 0, B => (B, 0)
  | n + 1, B =>
    if jall (jfree (jflB c n B).1) = 0 then jflB c n B else
    if jfrf (bset (jflB c n B).1 24 (fun _ => jlot ((jflB c n B).1 24 0))) c (jnth (jfree (jflB c n B).1) (jlot ((jflB c n B).1 24 0) % jall (jfree (jflB c n B).1))) = -1 then (bset (jflB c n B).1 24 (fun _ => jlot ((jflB c n B).1 24 0)), (jflB c n B).2)
    else (jst (bset (jflB c n B).1 24 (fun _ => jlot ((jflB c n B).1 24 0))) (jfrf (bset (jflB c n B).1 24 (fun _ => jlot ((jflB c n B).1 24 0))) c (jnth (jfree (jflB c n B).1) (jlot ((jflB c n B).1 24 0) % jall (jfree (jflB c n B).1)))) (jnth (jfree (jflB c n B).1) (jlot ((jflB c n B).1 24 0) % jall (jfree (jflB c n B).1))), (jflB c n B).2 + 1)
/-- one turn of it -/
def jfl1 (c : Int) (B : zB) (k : Int) : zB × Int :=
    if jall (jfree B) = 0 then (B, k) else
    if jfrf (bset B 24 (fun _ => jlot (B 24 0))) c (jnth (jfree B) (jlot (B 24 0) % jall (jfree B))) = -1 then (bset B 24 (fun _ => jlot (B 24 0)), k)
    else (jst (bset B 24 (fun _ => jlot (B 24 0))) (jfrf (bset B 24 (fun _ => jlot (B 24 0))) c (jnth (jfree B) (jlot (B 24 0) % jall (jfree B)))) (jnth (jfree B) (jlot (B 24 0) % jall (jfree B))), k + 1)
theorem jflB_succ (c : Int) (n : Nat) (B : zB) : jflB c (n + 1) B = jfl1 c (jflB c n B).1 (jflB c n B).2 := rfl
theorem jfl1_stuck {c : Int} {B : zB} {k : Int} (h : jall (jfree B) = 0) : jfl1 c B k = (B, k) := by unfold jfl1; rw [if_pos h]
theorem jflB_stuck {c : Int} {n : Nat} {B : zB} (h : jall (jfree (jflB c n B).1) = 0) : ∀ m : Nat, jflB c (n + m) B = jflB c n B
  | 0 => rfl
  | m + 1 => by
    have ih := jflB_stuck h m
    show jflB c (n + m + 1) B = _
    rw [jflB_succ, ih, jfl1_stuck h]
theorem jfrf_r (B : zB) {c n : Int} (hc : 0 ≤ c ∧ c < 6) : jfrf B c n = -1 ∨ (0 ≤ jfrf B c n ∧ jfrf B c n < 18 ∧ jfrf B c n / 3 = c ∧ jrap B (jfrf B c n) n = 0) := by
  unfold jfrf
  by_cases h1 : jrap B (c * 3) n = 0
  · rw [if_pos h1]
    exact Or.inr ⟨by omega, by omega, by omega, h1⟩
  · rw [if_neg h1]
    by_cases h2 : jrap B (c * 3 + 1) n = 0
    · rw [if_pos h2]
      exact Or.inr ⟨by omega, by omega, by omega, h2⟩
    · rw [if_neg h2]
      by_cases h3 : jrap B (c * 3 + 1 + 1) n = 0
      · rw [if_pos h3]
        exact Or.inr ⟨by omega, by omega, by omega, h3⟩
      · rw [if_neg h3]
        exact Or.inl rfl
theorem jok_st {B : zB} {r n : Int} (ok : jok B) (hr : 0 ≤ r ∧ r < 18) (hn : 1 ≤ n ∧ n ≤ 90) : jok (jst B r n) := by
  refine ⟨?_, ?_, ok.bo, ok.ca, ok.W, ok.wa, ok.da, ok.sa, ok.lo, ok.se, ok.ds, ok.nu, ok.dr, ok.sd, ok.po, ok.da2, ok.sa2⟩
  · intro z
    show 0 ≤ jup (B 0) (r * 9 + jcol n) n z ∧ jup (B 0) (r * 9 + jcol n) n z ≤ 90
    unfold jup
    split
    · omega
    · exact ok.P z
  · intro z
    show -1 ≤ jup (B 1) n r z ∧ jup (B 1) n r z < 18
    unfold jup
    split
    · omega
    · exact ok.R z
theorem jok_lot {B : zB} {x : Int} (ok : jok B) (hx : 0 ≤ x ∧ x < 10000) : jok (bset B 24 (fun _ => x)) :=
  ⟨ok.P, ok.R, ok.bo, ok.ca, ok.W, ok.wa, ok.da, ok.sa, hx, ok.se, ok.ds, ok.nu, ok.dr, ok.sd, ok.po, ok.da2, ok.sa2⟩
theorem jfree_st {B : zB} {r n : Int} (hr : 0 ≤ r) : jfree (jst B r n) = jwo (jfree B) n := by
  funext m
  show decide (jup (B 1) n r m = -1) = (decide (B 1 m = -1) && decide (m ≠ n))
  unfold jup
  by_cases h : m = n
  · rw [if_pos h]
    simp [h]
    omega
  · rw [if_neg h]
    simp [h]
theorem jok_fl1 {c : Int} {B : zB} {k : Int} (ok : jok B) (hc : 0 ≤ c ∧ c < 6) : jok (jfl1 c B k).1 := by
  unfold jfl1
  by_cases h0 : jall (jfree B) = 0
  · rw [if_pos h0]
    exact ok
  · rw [if_neg h0]
    have hl := jlot_r ok.lo
    have ok1 := jok_lot ok hl
    have ha := jall_r (jfree B)
    obtain ⟨n1, n2, -, -⟩ := jnth_spec (q := jfree B) (k := jlot (B 24 0) % jall (jfree B)) (Int.emod_nonneg _ (by omega)) (Int.emod_lt_of_pos _ (by omega))
    split
    · exact ok1
    · rename_i h
      rcases jfrf_r (bset B 24 (fun _ => jlot (B 24 0))) (n := jnth (jfree B) (jlot (B 24 0) % jall (jfree B))) hc with h2 | ⟨h2, h3, -, -⟩
      · exact absurd h2 h
      · exact jok_st ok1 ⟨h2, h3⟩ ⟨n1, n2⟩
theorem jok_flB {c : Int} {B : zB} (ok : jok B) (hc : 0 ≤ c ∧ c < 6) : ∀ n : Nat, jok (jflB c n B).1
  | 0 => ok
  | n + 1 => by rw [jflB_succ]; exact jok_fl1 (jok_flB ok hc n) hc
section PL
variable {Γ : zΓ} {d : Nat} {w : zW} {b a p : Nat} {B : zB} {f : Int → Int} {s : Int}
theorem s_holdNumbersOutOf (ha : a < b ∨ b + 17 ≤ a) (hp : p < b ∨ b + 17 ≤ p) (hap : a ≠ p) (ok : jok B) : ∃ f', jdi (jfree B) f' (jall (jfree B)) ∧ zFn Γ md_X2_holdNumbersOutOf d [.ref a, .ref (b + 1)] (bk b B (tw a p f s w)) none (bk b B (tw a p f' (jall (jfree B)) w)) := by
  have step : ∀ (f : Int → Int) (n : Int), 1 ≤ n → n ≤ 90 → (∀ j, 0 ≤ j → j < jrk (jfree B) n → f j = jnth (jfree B) j) → (jfree B n = true → ∀ j, 0 ≤ j → j < jrk (jfree B) (n + 1) → jup f (jrk (jfree B) n) n j = jnth (jfree B) j) ∧ (¬ jfree B n = true → ∀ j, 0 ≤ j → j < jrk (jfree B) (n + 1) → f j = jnth (jfree B) j) := by
    intro f n h1 h2 hf
    have hs := jrk_succ (q := jfree B) h1
    refine ⟨fun hq j j0 j1 => ?_, fun hq j j0 j1 => ?_⟩
    · rw [jb_pos hq] at hs
      unfold jup
      by_cases hj : j = jrk (jfree B) n
      · rw [if_pos hj, hj, jnth_at h1 h2 hq]
      · rw [if_neg hj]
        exact hf j j0 (by omega)
    · rw [jb_neg hq] at hs
      exact hf j j0 (by omega)
  have main : ∀ F : (Int → Int) → Prop, True := fun _ => trivial
  let g : Nat → Int → Int := fun k => Nat.rec (motive := fun _ => Int → Int) f (fun k gk => if jfree B ((k : Int) + 1) = true then jup gk (jrk (jfree B) ((k : Int) + 1)) ((k : Int) + 1) else gk) k
  have hg0 : g 0 = f := rfl
  have hgs : ∀ k : Nat, g (k + 1) = if jfree B ((k : Int) + 1) = true then jup (g k) (jrk (jfree B) ((k : Int) + 1)) ((k : Int) + 1) else g k := fun _ => rfl
  have hgi : ∀ k : Nat, k ≤ 90 → ∀ j, 0 ≤ j → j < jrk (jfree B) ((k : Int) + 1) → g k j = jnth (jfree B) j := by
    intro k
    induction k with
    | zero =>
      intro _ j j0 j1
      rw [show (((0 : Nat) : Int) + 1) = 1 by omega, jrk_1] at j1
      omega
    | succ k ih =>
      intro hk j j0 j1
      have st := step (g k) ((k : Int) + 1) (by omega) (by omega) (ih (by omega))
      rw [show (((k + 1 : Nat) : Int) + 1) = (k : Int) + 1 + 1 by omega] at j1
      rw [hgs]
      split
      · rename_i h
        exact st.1 h j j0 j1
      · rename_i h
        exact st.2 h j j0 j1
  refine ⟨g 90, ⟨rfl, fun j j0 j1 => hgi 90 (Nat.le_refl _) j j0 (by rw [← jrk_91] at j1; exact j1)⟩, ?_⟩
  clear main step
  generalize g = g at hg0 hgs hgi ⊢
  have hpa : p ≠ a := Ne.symm hap
  have hall := jall_r (jfree B)
  refine zFn.of_run (lv := [some (.ref a), some (.ref (b + 1)), none]) (by decide) rfl (Nat.le_of_ble_eq_true rfl) rfl (fun n9 g9 => ?_)
  refine zr_aload_n dX2_holdNumbersOutOf_0 (rfl : 0 + 1 = 1) rfl ?_
  refine zr_iconst dX2_holdNumbersOutOf_1 (rfl : 1 + 1 = 2) ?_
  refine zr_putf (fs' := [_, _]) dX2_holdNumbersOutOf_2 (rfl : 2 + 3 = 5) f_X2_15 ft_2_1 (tw_a ha hap) (Nat.le_of_ble_eq_true rfl) rfl rfl rfl ?_
  rw [tw_ua ha hap]
  refine zr_iconst dX2_holdNumbersOutOf_5 (rfl : 5 + 1 = 6) ?_
  refine zr_istore_n (lv' := [_, _, _]) dX2_holdNumbersOutOf_6 (rfl : 6 + 1 = 7) (Nat.le_of_ble_eq_true rfl) rfl ?_
  have e1 : (0 : Int) = jrk (jfree B) 1 := (jrk_1 _).symm
  have key : zRun Γ md_X2_holdNumbersOutOf d none 7 [some (.ref a), some (.ref (b + 1)), some (.int (jI 1))] [] (n9, g9, 0, 0) (bk b B (tw a p (g ((1 : Int) - 1).toNat) (jrk (jfree B) 1) w)) (zDone md_X2_holdNumbersOutOf none (bk b B (tw a p (g 90) (jall (jfree B)) w)) n9 g9) := by
    refine zfor1 1 90 (fun _ _ => True) (fun n (_ : Unit) => [some (.ref a), some (.ref (b + 1)), some (.int (jI n))]) (fun n _ => bk b B (tw a p (g (n - 1).toNat) (jrk (jfree B) n) w)) () trivial ?_ ?_
    · intro n _ h1 h9 _ hk
      have hR := ok.R n
      have hs := jrk_succ (q := jfree B) h1
      have hnn := jrk_nn (jfree B) n
      have hle : jrk (jfree B) n ≤ n - 1 := by have := (jcnt_nn (n - 1).toNat (fun z => jfree B (z + 1))).2; unfold jrk; omega
      have hgn : g (n + 1 - 1).toNat = if jfree B n = true then jup (g (n - 1).toNat) (jrk (jfree B) n) n else g (n - 1).toNat := by
        have := hgs (n - 1).toNat
        rw [show (((n - 1).toNat : Nat) : Int) + 1 = n by omega] at this
        rw [show (n + 1 - 1).toNat = (n - 1).toNat + 1 by omega, this]
      have hk' := hk () trivial
      rw [hgn] at hk'
      refine zr_iload_n dX2_holdNumbersOutOf_7 (rfl : 7 + 1 = 8) rfl ?_
      refine zr_bipush dX2_holdNumbersOutOf_8 (rfl : 8 + 2 = 10) (by decide) ?_
      refine zr_icmp_gt (tgt := 49) dX2_holdNumbersOutOf_10 (by decide) (rfl : 10 + 3 = 13) (jI_lt (by first | omega | (simp only [bset, reduceIte, Nat.reduceEqDiff]; omega)) (by first | omega | (simp only [bset, reduceIte, Nat.reduceEqDiff]; omega)) (by first | omega | (simp only [bset, reduceIte, Nat.reduceEqDiff]; omega)) (by first | omega | (simp only [bset, reduceIte, Nat.reduceEqDiff]; omega))) (fun h10 => ?_) (fun h10 => ?_)
      · exfalso; omega
      · refine zr_aload_n dX2_holdNumbersOutOf_13 (rfl : 13 + 1 = 14) rfl ?_
        refine zr_getf dX2_holdNumbersOutOf_14 (rfl : 14 + 3 = 17) f_X2_25 (by first | assumption | exact mw_167 | exact mw_168 | exact mw_169 | exact mw_170 | exact bk_0 | exact bk_1 | exact bk_2 | exact bk_3 | exact bk_4 | exact bk_5 | exact bk_6 | exact bk_7 | exact bk_8 | exact bk_9 | exact bk_10 | exact bk_11 | exact bk_12 | exact bk_13 | exact bk_14 | exact bk_15 | exact bk_16 | exact zup_self | exact (zup_ne (by first | assumption | omega)).trans (by first | assumption | exact zup_self) | exact (zup_ne (by first | assumption | omega)).trans ((zup_ne (by first | assumption | omega)).trans (by first | assumption | exact zup_self)) | exact (bk_out (by first | omega | (simp only [bset, reduceIte, Nat.reduceEqDiff]; omega))).trans (by first | exact bk_0 | exact bk_1 | exact bk_2 | exact bk_3 | exact bk_4 | exact bk_5 | exact bk_6 | exact bk_7 | exact bk_8 | exact bk_9 | exact bk_10 | exact bk_11 | exact bk_12 | exact bk_13 | exact bk_14 | exact bk_15 | exact bk_16 | exact cr_5 | exact cr_23 | exact cr_24 | exact cr_25 | exact cr_26 | exact cr_27 | exact cr_28 | exact cr_29 | exact cr_30 | assumption)) rfl ?_
        refine zr_iload_n dX2_holdNumbersOutOf_17 (rfl : 17 + 1 = 18) rfl ?_
        refine zr_iald dX2_holdNumbersOutOf_18 (rfl : 18 + 1 = 19) (by first | assumption | exact mw_167 | exact mw_168 | exact mw_169 | exact mw_170 | exact bk_0 | exact bk_1 | exact bk_2 | exact bk_3 | exact bk_4 | exact bk_5 | exact bk_6 | exact bk_7 | exact bk_8 | exact bk_9 | exact bk_10 | exact bk_11 | exact bk_12 | exact bk_13 | exact bk_14 | exact bk_15 | exact bk_16 | exact zup_self | exact (zup_ne (by first | assumption | omega)).trans (by first | assumption | exact zup_self) | exact (zup_ne (by first | assumption | omega)).trans ((zup_ne (by first | assumption | omega)).trans (by first | assumption | exact zup_self)) | exact (bk_out (by first | omega | (simp only [bset, reduceIte, Nat.reduceEqDiff]; omega))).trans (by first | exact bk_0 | exact bk_1 | exact bk_2 | exact bk_3 | exact bk_4 | exact bk_5 | exact bk_6 | exact bk_7 | exact bk_8 | exact bk_9 | exact bk_10 | exact bk_11 | exact bk_12 | exact bk_13 | exact bk_14 | exact bk_15 | exact bk_16 | exact cr_5 | exact cr_23 | exact cr_24 | exact cr_25 | exact cr_26 | exact cr_27 | exact cr_28 | exact cr_29 | exact cr_30 | assumption)) (by decide) (by first | omega | (simp only [bset, reduceIte, Nat.reduceEqDiff]; omega)) (by first | omega | (simp only [bset, reduceIte, Nat.reduceEqDiff]; omega)) ?_
        refine zr_iconst dX2_holdNumbersOutOf_19 (rfl : 19 + 1 = 20) ?_
        refine zr_icmp_ne (tgt := 43) dX2_holdNumbersOutOf_20 (by decide) (rfl : 20 + 3 = 23) (jI_eq (by first | omega | (simp only [bset, reduceIte, Nat.reduceEqDiff]; omega)) (by first | omega | (simp only [bset, reduceIte, Nat.reduceEqDiff]; omega)) (by first | omega | (simp only [bset, reduceIte, Nat.reduceEqDiff]; omega)) (by first | omega | (simp only [bset, reduceIte, Nat.reduceEqDiff]; omega))) (fun h20 => ?_) (fun h20 => ?_)
        · have hq : ¬ jfree B n = true := by unfold jfree; simpa using h20
          rw [jb_neg hq, Int.add_zero] at hs
          rw [if_neg hq, hs] at hk'
          refine zr_iinc (lv' := [_, _, _]) dX2_holdNumbersOutOf_43 (rfl : 43 + 3 = 46) (Nat.le_of_ble_eq_true rfl) rfl (by first | exact jI_add _ _ | rfl) rfl ?_
          refine zr_goto (tgt := 7) dX2_holdNumbersOutOf_46 (by decide) ?_
          exact hk'
        · have hq : jfree B n = true := by unfold jfree; simpa using h20
          rw [jb_pos hq] at hs
          rw [if_pos hq, hs] at hk'
          refine zr_aload_n dX2_holdNumbersOutOf_23 (rfl : 23 + 1 = 24) rfl ?_
          refine zr_getf dX2_holdNumbersOutOf_24 (rfl : 24 + 3 = 27) f_X2_9 (tw_a ha hap) rfl ?_
          refine zr_aload_n dX2_holdNumbersOutOf_27 (rfl : 27 + 1 = 28) rfl ?_
          refine zr_getf dX2_holdNumbersOutOf_28 (rfl : 28 + 3 = 31) f_X2_15 (tw_a ha hap) rfl ?_
          refine zr_iload_n dX2_holdNumbersOutOf_31 (rfl : 31 + 1 = 32) rfl ?_
          refine zr_iast dX2_holdNumbersOutOf_32 (rfl : 32 + 1 = 33) (tw_p hp) (by decide) (by first | omega | (simp only [bset, reduceIte, Nat.reduceEqDiff]; omega)) (by first | omega | (simp only [bset, reduceIte, Nat.reduceEqDiff]; omega)) rfl ?_
          rw [tw_up hp]
          refine zr_aload_n dX2_holdNumbersOutOf_33 (rfl : 33 + 1 = 34) rfl ?_
          refine zr_dup dX2_holdNumbersOutOf_34 (rfl : 34 + 1 = 35) rfl ?_
          refine zr_getf dX2_holdNumbersOutOf_35 (rfl : 35 + 3 = 38) f_X2_15 (tw_a ha hap) rfl ?_
          refine zr_iconst dX2_holdNumbersOutOf_38 (rfl : 38 + 1 = 39) ?_
          refine zr_iadd dX2_holdNumbersOutOf_39 (rfl : 39 + 1 = 40) (by first | exact jI_add _ _ | rfl) ?_
          refine zr_putf (fs' := [_, _]) dX2_holdNumbersOutOf_40 (rfl : 40 + 3 = 43) f_X2_15 ft_2_1 (tw_a ha hap) (Nat.le_of_ble_eq_true rfl) rfl rfl rfl ?_
          rw [tw_ua ha hap]
          refine zr_iinc (lv' := [_, _, _]) dX2_holdNumbersOutOf_43 (rfl : 43 + 3 = 46) (Nat.le_of_ble_eq_true rfl) rfl (by first | exact jI_add _ _ | rfl) rfl ?_
          refine zr_goto (tgt := 7) dX2_holdNumbersOutOf_46 (by decide) ?_
          exact hk'
    · intro _ _
      have e90 : g ((1 : Int) + ((90 : Nat) : Int) - 1).toNat = g 90 := rfl
      have e91 : jrk (jfree B) ((1 : Int) + ((90 : Nat) : Int)) = jall (jfree B) := rfl
      rw [e90, e91]
      refine zr_iload_n dX2_holdNumbersOutOf_7 (rfl : 7 + 1 = 8) rfl ?_
      refine zr_bipush dX2_holdNumbersOutOf_8 (rfl : 8 + 2 = 10) (by decide) ?_
      refine zr_icmp_gt (tgt := 49) dX2_holdNumbersOutOf_10 (by decide) (rfl : 10 + 3 = 13) (jI_lt (by first | omega | (simp only [bset, reduceIte, Nat.reduceEqDiff]; omega)) (by first | omega | (simp only [bset, reduceIte, Nat.reduceEqDiff]; omega)) (by first | omega | (simp only [bset, reduceIte, Nat.reduceEqDiff]; omega)) (by first | omega | (simp only [bset, reduceIte, Nat.reduceEqDiff]; omega))) (fun h10 => ?_) (fun h10 => ?_)
      · first
        | (exfalso; omega)
        | (
          exact zr_vret dX2_holdNumbersOutOf_49 rfl rfl rfl rfl)
      · first
        | (exfalso; omega)
        | (
          refine zr_aload_n dX2_holdNumbersOutOf_13 (rfl : 13 + 1 = 14) rfl ?_
          refine zr_getf dX2_holdNumbersOutOf_14 (rfl : 14 + 3 = 17) f_X2_25 (by first | assumption | exact mw_167 | exact mw_168 | exact mw_169 | exact mw_170 | exact bk_0 | exact bk_1 | exact bk_2 | exact bk_3 | exact bk_4 | exact bk_5 | exact bk_6 | exact bk_7 | exact bk_8 | exact bk_9 | exact bk_10 | exact bk_11 | exact bk_12 | exact bk_13 | exact bk_14 | exact bk_15 | exact bk_16 | exact zup_self | exact (zup_ne (by first | assumption | omega)).trans (by first | assumption | exact zup_self) | exact (zup_ne (by first | assumption | omega)).trans ((zup_ne (by first | assumption | omega)).trans (by first | assumption | exact zup_self)) | exact (bk_out (by first | omega | (simp only [bset, reduceIte, Nat.reduceEqDiff]; omega))).trans (by first | exact bk_0 | exact bk_1 | exact bk_2 | exact bk_3 | exact bk_4 | exact bk_5 | exact bk_6 | exact bk_7 | exact bk_8 | exact bk_9 | exact bk_10 | exact bk_11 | exact bk_12 | exact bk_13 | exact bk_14 | exact bk_15 | exact bk_16 | exact cr_5 | exact cr_23 | exact cr_24 | exact cr_25 | exact cr_26 | exact cr_27 | exact cr_28 | exact cr_29 | exact cr_30 | assumption)) rfl ?_
          refine zr_iload_n dX2_holdNumbersOutOf_17 (rfl : 17 + 1 = 18) rfl ?_
          refine zr_iald dX2_holdNumbersOutOf_18 (rfl : 18 + 1 = 19) (by first | assumption | exact mw_167 | exact mw_168 | exact mw_169 | exact mw_170 | exact bk_0 | exact bk_1 | exact bk_2 | exact bk_3 | exact bk_4 | exact bk_5 | exact bk_6 | exact bk_7 | exact bk_8 | exact bk_9 | exact bk_10 | exact bk_11 | exact bk_12 | exact bk_13 | exact bk_14 | exact bk_15 | exact bk_16 | exact zup_self | exact (zup_ne (by first | assumption | omega)).trans (by first | assumption | exact zup_self) | exact (zup_ne (by first | assumption | omega)).trans ((zup_ne (by first | assumption | omega)).trans (by first | assumption | exact zup_self)) | exact (bk_out (by first | omega | (simp only [bset, reduceIte, Nat.reduceEqDiff]; omega))).trans (by first | exact bk_0 | exact bk_1 | exact bk_2 | exact bk_3 | exact bk_4 | exact bk_5 | exact bk_6 | exact bk_7 | exact bk_8 | exact bk_9 | exact bk_10 | exact bk_11 | exact bk_12 | exact bk_13 | exact bk_14 | exact bk_15 | exact bk_16 | exact cr_5 | exact cr_23 | exact cr_24 | exact cr_25 | exact cr_26 | exact cr_27 | exact cr_28 | exact cr_29 | exact cr_30 | assumption)) (by decide) (by first | omega | (simp only [bset, reduceIte, Nat.reduceEqDiff]; omega)) (by first | omega | (simp only [bset, reduceIte, Nat.reduceEqDiff]; omega)) ?_
          refine zr_iconst dX2_holdNumbersOutOf_19 (rfl : 19 + 1 = 20) ?_
          refine zr_icmp_ne (tgt := 43) dX2_holdNumbersOutOf_20 (by decide) (rfl : 20 + 3 = 23) (jI_eq (by first | omega | (simp only [bset, reduceIte, Nat.reduceEqDiff]; omega)) (by first | omega | (simp only [bset, reduceIte, Nat.reduceEqDiff]; omega)) (by first | omega | (simp only [bset, reduceIte, Nat.reduceEqDiff]; omega)) (by first | omega | (simp only [bset, reduceIte, Nat.reduceEqDiff]; omega))) (fun h20 => ?_) (fun h20 => ?_)
          · first
            | (exfalso; omega)
            | (
              refine zr_iinc (lv' := [_, _, _]) dX2_holdNumbersOutOf_43 (rfl : 43 + 3 = 46) (Nat.le_of_ble_eq_true rfl) rfl (by first | exact jI_add _ _ | rfl) rfl ?_
              refine zr_goto (tgt := 7) dX2_holdNumbersOutOf_46 (by decide) ?_
              exfalso; omega)
          · first
            | (exfalso; omega)
            | (
              refine zr_aload_n dX2_holdNumbersOutOf_23 (rfl : 23 + 1 = 24) rfl ?_
              refine zr_getf dX2_holdNumbersOutOf_24 (rfl : 24 + 3 = 27) f_X2_9 (by first | assumption | exact mw_167 | exact mw_168 | exact mw_169 | exact mw_170 | exact bk_0 | exact bk_1 | exact bk_2 | exact bk_3 | exact bk_4 | exact bk_5 | exact bk_6 | exact bk_7 | exact bk_8 | exact bk_9 | exact bk_10 | exact bk_11 | exact bk_12 | exact bk_13 | exact bk_14 | exact bk_15 | exact bk_16 | exact zup_self | exact (zup_ne (by first | assumption | omega)).trans (by first | assumption | exact zup_self) | exact (zup_ne (by first | assumption | omega)).trans ((zup_ne (by first | assumption | omega)).trans (by first | assumption | exact zup_self)) | exact (bk_out (by first | omega | (simp only [bset, reduceIte, Nat.reduceEqDiff]; omega))).trans (by first | exact bk_0 | exact bk_1 | exact bk_2 | exact bk_3 | exact bk_4 | exact bk_5 | exact bk_6 | exact bk_7 | exact bk_8 | exact bk_9 | exact bk_10 | exact bk_11 | exact bk_12 | exact bk_13 | exact bk_14 | exact bk_15 | exact bk_16 | exact cr_5 | exact cr_23 | exact cr_24 | exact cr_25 | exact cr_26 | exact cr_27 | exact cr_28 | exact cr_29 | exact cr_30 | assumption)) rfl ?_
              refine zr_aload_n dX2_holdNumbersOutOf_27 (rfl : 27 + 1 = 28) rfl ?_
              refine zr_getf dX2_holdNumbersOutOf_28 (rfl : 28 + 3 = 31) f_X2_15 (by first | assumption | exact mw_167 | exact mw_168 | exact mw_169 | exact mw_170 | exact bk_0 | exact bk_1 | exact bk_2 | exact bk_3 | exact bk_4 | exact bk_5 | exact bk_6 | exact bk_7 | exact bk_8 | exact bk_9 | exact bk_10 | exact bk_11 | exact bk_12 | exact bk_13 | exact bk_14 | exact bk_15 | exact bk_16 | exact zup_self | exact (zup_ne (by first | assumption | omega)).trans (by first | assumption | exact zup_self) | exact (zup_ne (by first | assumption | omega)).trans ((zup_ne (by first | assumption | omega)).trans (by first | assumption | exact zup_self)) | exact (bk_out (by first | omega | (simp only [bset, reduceIte, Nat.reduceEqDiff]; omega))).trans (by first | exact bk_0 | exact bk_1 | exact bk_2 | exact bk_3 | exact bk_4 | exact bk_5 | exact bk_6 | exact bk_7 | exact bk_8 | exact bk_9 | exact bk_10 | exact bk_11 | exact bk_12 | exact bk_13 | exact bk_14 | exact bk_15 | exact bk_16 | exact cr_5 | exact cr_23 | exact cr_24 | exact cr_25 | exact cr_26 | exact cr_27 | exact cr_28 | exact cr_29 | exact cr_30 | assumption)) rfl ?_
              refine zr_iload_n dX2_holdNumbersOutOf_31 (rfl : 31 + 1 = 32) rfl ?_
              refine zr_iast dX2_holdNumbersOutOf_32 (rfl : 32 + 1 = 33) (by first | assumption | exact mw_167 | exact mw_168 | exact mw_169 | exact mw_170 | exact bk_0 | exact bk_1 | exact bk_2 | exact bk_3 | exact bk_4 | exact bk_5 | exact bk_6 | exact bk_7 | exact bk_8 | exact bk_9 | exact bk_10 | exact bk_11 | exact bk_12 | exact bk_13 | exact bk_14 | exact bk_15 | exact bk_16 | exact zup_self | exact (zup_ne (by first | assumption | omega)).trans (by first | assumption | exact zup_self) | exact (zup_ne (by first | assumption | omega)).trans ((zup_ne (by first | assumption | omega)).trans (by first | assumption | exact zup_self)) | exact (bk_out (by first | omega | (simp only [bset, reduceIte, Nat.reduceEqDiff]; omega))).trans (by first | exact bk_0 | exact bk_1 | exact bk_2 | exact bk_3 | exact bk_4 | exact bk_5 | exact bk_6 | exact bk_7 | exact bk_8 | exact bk_9 | exact bk_10 | exact bk_11 | exact bk_12 | exact bk_13 | exact bk_14 | exact bk_15 | exact bk_16 | exact cr_5 | exact cr_23 | exact cr_24 | exact cr_25 | exact cr_26 | exact cr_27 | exact cr_28 | exact cr_29 | exact cr_30 | assumption)) (by decide) (by first | omega | (simp only [bset, reduceIte, Nat.reduceEqDiff]; omega)) (by first | omega | (simp only [bset, reduceIte, Nat.reduceEqDiff]; omega)) rfl ?_
              refine zr_aload_n dX2_holdNumbersOutOf_33 (rfl : 33 + 1 = 34) rfl ?_
              refine zr_dup dX2_holdNumbersOutOf_34 (rfl : 34 + 1 = 35) rfl ?_
              refine zr_getf dX2_holdNumbersOutOf_35 (rfl : 35 + 3 = 38) f_X2_15 (by first | assumption | exact mw_167 | exact mw_168 | exact mw_169 | exact mw_170 | exact bk_0 | exact bk_1 | exact bk_2 | exact bk_3 | exact bk_4 | exact bk_5 | exact bk_6 | exact bk_7 | exact bk_8 | exact bk_9 | exact bk_10 | exact bk_11 | exact bk_12 | exact bk_13 | exact bk_14 | exact bk_15 | exact bk_16 | exact zup_self | exact (zup_ne (by first | assumption | omega)).trans (by first | assumption | exact zup_self) | exact (zup_ne (by first | assumption | omega)).trans ((zup_ne (by first | assumption | omega)).trans (by first | assumption | exact zup_self)) | exact (bk_out (by first | omega | (simp only [bset, reduceIte, Nat.reduceEqDiff]; omega))).trans (by first | exact bk_0 | exact bk_1 | exact bk_2 | exact bk_3 | exact bk_4 | exact bk_5 | exact bk_6 | exact bk_7 | exact bk_8 | exact bk_9 | exact bk_10 | exact bk_11 | exact bk_12 | exact bk_13 | exact bk_14 | exact bk_15 | exact bk_16 | exact cr_5 | exact cr_23 | exact cr_24 | exact cr_25 | exact cr_26 | exact cr_27 | exact cr_28 | exact cr_29 | exact cr_30 | assumption)) rfl ?_
              refine zr_iconst dX2_holdNumbersOutOf_38 (rfl : 38 + 1 = 39) ?_
              refine zr_iadd dX2_holdNumbersOutOf_39 (rfl : 39 + 1 = 40) (by first | exact jI_add _ _ | rfl) ?_
              refine zr_putf (fs' := [_, _]) dX2_holdNumbersOutOf_40 (rfl : 40 + 3 = 43) f_X2_15 ft_2_1 (by first | assumption | exact mw_167 | exact mw_168 | exact mw_169 | exact mw_170 | exact bk_0 | exact bk_1 | exact bk_2 | exact bk_3 | exact bk_4 | exact bk_5 | exact bk_6 | exact bk_7 | exact bk_8 | exact bk_9 | exact bk_10 | exact bk_11 | exact bk_12 | exact bk_13 | exact bk_14 | exact bk_15 | exact bk_16 | exact zup_self | exact (zup_ne (by first | assumption | omega)).trans (by first | assumption | exact zup_self) | exact (zup_ne (by first | assumption | omega)).trans ((zup_ne (by first | assumption | omega)).trans (by first | assumption | exact zup_self)) | exact (bk_out (by first | omega | (simp only [bset, reduceIte, Nat.reduceEqDiff]; omega))).trans (by first | exact bk_0 | exact bk_1 | exact bk_2 | exact bk_3 | exact bk_4 | exact bk_5 | exact bk_6 | exact bk_7 | exact bk_8 | exact bk_9 | exact bk_10 | exact bk_11 | exact bk_12 | exact bk_13 | exact bk_14 | exact bk_15 | exact bk_16 | exact cr_5 | exact cr_23 | exact cr_24 | exact cr_25 | exact cr_26 | exact cr_27 | exact cr_28 | exact cr_29 | exact cr_30 | assumption)) (Nat.le_of_ble_eq_true rfl) rfl rfl rfl ?_
              refine zr_iinc (lv' := [_, _, _]) dX2_holdNumbersOutOf_43 (rfl : 43 + 3 = 46) (Nat.le_of_ble_eq_true rfl) rfl (by first | exact jI_add _ _ | rfl) rfl ?_
              refine zr_goto (tgt := 7) dX2_holdNumbersOutOf_46 (by decide) ?_
              exfalso; omega))
  rw [show g ((1 : Int) - 1).toNat = f from hg0, ← e1] at key
  exact key

/-- one turn, with the trial drum -/
def jtf1 (c : Int) (B : zB) (k : Int) (f : Int → Int) (s : Int) : zB × Int × (Int → Int) × Int :=
  if s = 0 then (B, k, f, s) else
  if jfrf (bset B 24 (fun _ => jlot (B 24 0))) c (f (jlot (B 24 0) % s)) = -1 then (bset B 24 (fun _ => jlot (B 24 0)), k, f, s)
  else (jst (bset B 24 (fun _ => jlot (B 24 0))) (jfrf (bset B 24 (fun _ => jlot (B 24 0))) c (f (jlot (B 24 0) % s))) (f (jlot (B 24 0) % s)), k + 1, jtk f s (jlot (B 24 0) % s), s - 1)
def jtf (c : Int) (B : zB) (f : Int → Int) (s : Int) : Nat → zB × Int × (Int → Int) × Int
  | 0 => (B, 0, f, s)
  | n + 1 => jtf1 c (jtf c B f s n).1 (jtf c B f s n).2.1 (jtf c B f s n).2.2.1 (jtf c B f s n).2.2.2
theorem jtf1_spec {c : Int} {B : zB} {k : Int} {f : Int → Int} {s : Int} (hc : 0 ≤ c ∧ c < 6) (ok : jok B) (hd : jdi (jfree B) f s) : (jtf1 c B k f s).1 = (jfl1 c B k).1 ∧ (jtf1 c B k f s).2.1 = (jfl1 c B k).2 ∧ jdi (jfree (jtf1 c B k f s).1) (jtf1 c B k f s).2.2.1 (jtf1 c B k f s).2.2.2 := by
  have ha := jall_r (jfree B)
  unfold jtf1 jfl1
  by_cases h0 : s = 0
  · rw [if_pos h0, if_pos (by rw [← hd.1]; exact h0)]
    exact ⟨rfl, rfl, hd⟩
  · have h0' : ¬ jall (jfree B) = 0 := by rw [← hd.1]; exact h0
    rw [if_neg h0, if_neg h0']
    have hs : 0 < s := by rw [hd.1] at h0 ⊢; omega
    have hm0 : 0 ≤ jlot (B 24 0) % s := Int.emod_nonneg _ (by omega)
    have hm1 : jlot (B 24 0) % s < s := Int.emod_lt_of_pos _ (by omega)
    have hf := hd.2 _ hm0 hm1
    rw [← hd.1, ← hf]
    by_cases h1 : jfrf (bset B 24 (fun _ => jlot (B 24 0))) c (f (jlot (B 24 0) % s)) = -1
    · rw [if_pos h1, if_pos h1]
      exact ⟨rfl, rfl, hd⟩
    · rw [if_neg h1, if_neg h1]
      refine ⟨rfl, rfl, ?_⟩
      rcases jfrf_r (bset B 24 (fun _ => jlot (B 24 0))) (n := f (jlot (B 24 0) % s)) hc with h2 | ⟨h2, h3, -, -⟩
      · exact absurd h2 h1
      · show jdi (jfree (jst _ _ _)) _ _
        rw [jfree_st h2]
        have := jdi_take hd hm0 hm1
        rw [← hf] at this
        exact this
theorem jtf_spec {c : Int} {B : zB} {f : Int → Int} {s : Int} (hc : 0 ≤ c ∧ c < 6) (ok : jok B) (hd : jdi (jfree B) f s) : ∀ n : Nat, (jtf c B f s n).1 = (jflB c n B).1 ∧ (jtf c B f s n).2.1 = (jflB c n B).2 ∧ jdi (jfree (jtf c B f s n).1) (jtf c B f s n).2.2.1 (jtf c B f s n).2.2.2
  | 0 => ⟨rfl, rfl, hd⟩
  | n + 1 => by
    obtain ⟨h1, h2, h3⟩ := jtf_spec hc ok hd n
    have := jtf1_spec (k := (jtf c B f s n).2.1) hc (by rw [h1]; exact jok_flB ok hc n) h3
    rw [jflB_succ, ← h1, ← h2]
    exact this
theorem jtf_stuck {c : Int} {B : zB} {f : Int → Int} {s : Int} {n : Nat} (h : (jtf c B f s n).2.2.2 = 0) : ∀ m : Nat, jtf c B f s (n + m) = jtf c B f s n
  | 0 => rfl
  | m + 1 => by
    have ih := jtf_stuck h m
    show jtf1 c (jtf c B f s (n + m)).1 (jtf c B f s (n + m)).2.1 (jtf c B f s (n + m)).2.2.1 (jtf c B f s (n + m)).2.2.2 = _
    rw [ih]
    unfold jtf1
    rw [if_pos h]
theorem s_placeByLot (c m : Int) (hm : 1 ≤ m ∧ m ≤ 60) (hc : 0 ≤ c ∧ c < 6) (ha : a < b ∨ b + 17 ≤ a) (hp : p < b ∨ b + 17 ≤ p) (hap : a ≠ p) (ok : jok B) : ∃ f' s', jok (jflB c m.toNat B).1 ∧ zFn Γ md_X0_placeByLot (d + 5) [.ref b, .int (jI c), .int (jI m), .ref a] (bk b B (tw a p f s w)) (some (.int (jI (jflB c m.toNat B).2))) (bk b (jflB c m.toNat B).1 (tw a p f' s' w)) := by
  obtain ⟨f0, hd0, s0⟩ := s_holdNumbersOutOf (Γ := Γ) (d := d + 4) (w := w) (f := f) (s := s) ha hp hap ok
  have hA := jtf_spec hc ok hd0
  refine ⟨(jtf c B f0 (jall (jfree B)) m.toNat).2.2.1, (jtf c B f0 (jall (jfree B)) m.toNat).2.2.2, jok_flB ok hc _, ?_⟩
  rw [← (hA m.toNat).1, ← (hA m.toNat).2.1]
  have hst : ∀ n k, (jtf c B f0 (jall (jfree B)) n).2.2.2 = 0 → jtf c B f0 (jall (jfree B)) (n + k) = jtf c B f0 (jall (jfree B)) n := fun n k h => jtf_stuck h k
  have hsu : ∀ n, jtf c B f0 (jall (jfree B)) (n + 1) = jtf1 c (jtf c B f0 (jall (jfree B)) n).1 (jtf c B f0 (jall (jfree B)) n).2.1 (jtf c B f0 (jall (jfree B)) n).2.2.1 (jtf c B f0 (jall (jfree B)) n).2.2.2 := fun n => rfl
  have hok : ∀ n, jok (jtf c B f0 (jall (jfree B)) n).1 := fun n => by rw [(hA n).1]; exact jok_flB ok hc n
  have hdi : ∀ n, jdi (jfree (jtf c B f0 (jall (jfree B)) n).1) (jtf c B f0 (jall (jfree B)) n).2.2.1 (jtf c B f0 (jall (jfree B)) n).2.2.2 := fun n => (hA n).2.2
  have hz : jtf c B f0 (jall (jfree B)) 0 = (B, 0, f0, jall (jfree B)) := rfl
  generalize jtf c B f0 (jall (jfree B)) = A at hst hsu hok hdi hz ⊢
  clear hA
  refine zFn.of_run (lv := [some (.ref b), some (.int (jI c)), some (.int (jI m)), some (.ref a), none, none, none, none]) (by decide) rfl (Nat.le_of_ble_eq_true rfl) rfl (fun n9 g9 => ?_)
  refine zr_aload_n dX0_placeByLot_0 (rfl : 0 + 1 = 1) rfl ?_
  refine zr_aload_n dX0_placeByLot_1 (rfl : 1 + 1 = 2) rfl ?_
  refine zr_getf dX0_placeByLot_2 (rfl : 2 + 3 = 5) f_X0_12 (by first | assumption | exact mw_167 | exact mw_168 | exact mw_169 | exact mw_170 | exact bk_0 | exact bk_1 | exact bk_2 | exact bk_3 | exact bk_4 | exact bk_5 | exact bk_6 | exact bk_7 | exact bk_8 | exact bk_9 | exact bk_10 | exact bk_11 | exact bk_12 | exact bk_13 | exact bk_14 | exact bk_15 | exact bk_16 | exact zup_self | exact (zup_ne (by first | assumption | omega)).trans (by first | assumption | exact zup_self) | exact (zup_ne (by first | assumption | omega)).trans ((zup_ne (by first | assumption | omega)).trans (by first | assumption | exact zup_self)) | exact (bk_out (by first | omega | (simp only [bset, reduceIte, Nat.reduceEqDiff]; omega))).trans (by first | exact bk_0 | exact bk_1 | exact bk_2 | exact bk_3 | exact bk_4 | exact bk_5 | exact bk_6 | exact bk_7 | exact bk_8 | exact bk_9 | exact bk_10 | exact bk_11 | exact bk_12 | exact bk_13 | exact bk_14 | exact bk_15 | exact bk_16 | exact cr_5 | exact cr_23 | exact cr_24 | exact cr_25 | exact cr_26 | exact cr_27 | exact cr_28 | exact cr_29 | exact cr_30 | assumption)) rfl ?_
  refine zr_fnV dX0_placeByLot_5 (rfl : 5 + 3 = 8) l_X0_74 (s0) (tw_a ha hap) rfl rfl rfl (Nat.le_of_ble_eq_true rfl) ?_
  refine zr_iconst dX0_placeByLot_8 (rfl : 8 + 1 = 9) ?_
  refine zr_istore (lv' := [_, _, _, _, _, _, _, _]) dX0_placeByLot_9 (rfl : 9 + 2 = 11) (Nat.le_of_ble_eq_true rfl) rfl ?_
  refine zr_iconst dX0_placeByLot_11 (rfl : 11 + 1 = 12) ?_
  refine zr_istore (lv' := [_, _, _, _, _, _, _, _]) dX0_placeByLot_12 (rfl : 12 + 2 = 14) (Nat.le_of_ble_eq_true rfl) rfl ?_
  have key : zRun Γ md_X0_placeByLot (d + 5) none 14 [some (.ref b), some (.int (jI c)), some (.int (jI m)), some (.ref a), some (.int (jI (A ((0 : Int)).toNat).2.1)), some (.int (jI 0)), none, none] [] (n9, g9, 0, 0) (bk b (A ((0 : Int)).toNat).1 (tw a p (A ((0 : Int)).toNat).2.2.1 (A ((0 : Int)).toNat).2.2.2 w)) (zDone md_X0_placeByLot (some (.int (jI (A m.toNat).2.1))) (bk b (A m.toNat).1 (tw a p (A m.toNat).2.2.1 (A m.toNat).2.2.2 w)) n9 g9) := by
    refine zfor2 0 m.toNat (fun _ _ _ => True) (fun i x6 x7 => [some (.ref b), some (.int (jI c)), some (.int (jI m)), some (.ref a), some (.int (jI (A i.toNat).2.1)), some (.int (jI i)), x6, x7]) (fun i _ _ => bk b (A i.toNat).1 (tw a p (A i.toNat).2.2.1 (A i.toNat).2.2.2 w)) none none trivial ?_ ?_
    · intro i x6 x7 h0 h1 _ hk
      have hk := hk
      have hsi := hsu i.toNat
      have hoki := hok i.toNat
      have hdii := hdi i.toNat
      have hsti := fun h => hst i.toNat (m.toNat - i.toNat) h
      rw [show i.toNat + (m.toNat - i.toNat) = m.toNat by omega] at hsti
      rw [show (i + 1).toNat = i.toNat + 1 by omega, hsi] at hk
      generalize A i.toNat = Ai at hk hsti hoki hdii ⊢
      clear hsi
      obtain ⟨B1, k1, f1, s1⟩ := Ai
      simp only at hk hsti hoki hdii ⊢
      have hs1 : 0 ≤ s1 ∧ s1 ≤ 90 := by rw [hdii.1]; exact jall_r _
      refine zr_iload dX0_placeByLot_14 (rfl : 14 + 2 = 16) rfl ?_
      refine zr_iload_n dX0_placeByLot_16 (rfl : 16 + 1 = 17) rfl ?_
      refine zr_icmp_ge (tgt := 92) dX0_placeByLot_17 (by decide) (rfl : 17 + 3 = 20) (jI_le (by first | omega | (simp only [bset, reduceIte, Nat.reduceEqDiff]; omega)) (by first | omega | (simp only [bset, reduceIte, Nat.reduceEqDiff]; omega)) (by first | omega | (simp only [bset, reduceIte, Nat.reduceEqDiff]; omega)) (by first | omega | (simp only [bset, reduceIte, Nat.reduceEqDiff]; omega))) (fun h17 => ?_) (fun h17 => ?_)
      · exfalso; omega
      · refine zr_aload_n dX0_placeByLot_20 (rfl : 20 + 1 = 21) rfl ?_
        refine zr_getf dX0_placeByLot_21 (rfl : 21 + 3 = 24) f_X0_79 (tw_a ha hap) rfl ?_
        refine zr_if_le (tgt := 92) dX0_placeByLot_24 (by decide) (rfl : 24 + 3 = 27) (jI_lez (by first | omega | (simp only [bset, reduceIte, Nat.reduceEqDiff]; omega)) (by first | omega | (simp only [bset, reduceIte, Nat.reduceEqDiff]; omega))) (fun h24 => ?_) (fun h24 => ?_)
        · have hs0 : s1 = 0 := by omega
          rw [hsti hs0]
          refine zr_iload dX0_placeByLot_92 (rfl : 92 + 2 = 94) rfl ?_
          refine zr_iret dX0_placeByLot_94 rfl rfl ?_ rfl rfl rfl
          rfl
        · have hl := jlot_r hoki.lo
          have hm0 : 0 ≤ jlot (B1 24 0) % s1 := Int.emod_nonneg _ (by omega)
          have hm1 : jlot (B1 24 0) % s1 < s1 := Int.emod_lt_of_pos _ (by omega)
          have hf := hdii.2 _ hm0 hm1
          have hn := jnth_spec (q := jfree B1) hm0 (by rw [← hdii.1]; exact hm1)
          rw [← hf] at hn
          have ok2 := jok_lot hoki hl
          have hr := jfrf_r (bset B1 24 (fun _ => jlot (B1 24 0))) (n := f1 (jlot (B1 24 0) % s1)) hc
          unfold jtf1 at hk
          rw [if_neg (by omega)] at hk
          refine zr_aload_n dX0_placeByLot_27 (rfl : 27 + 1 = 28) rfl ?_
          refine zr_aload_n dX0_placeByLot_28 (rfl : 28 + 1 = 29) rfl ?_
          refine zr_getf dX0_placeByLot_29 (rfl : 29 + 3 = 32) f_X0_36 (by first | assumption | exact mw_167 | exact mw_168 | exact mw_169 | exact mw_170 | exact bk_0 | exact bk_1 | exact bk_2 | exact bk_3 | exact bk_4 | exact bk_5 | exact bk_6 | exact bk_7 | exact bk_8 | exact bk_9 | exact bk_10 | exact bk_11 | exact bk_12 | exact bk_13 | exact bk_14 | exact bk_15 | exact bk_16 | exact zup_self | exact (zup_ne (by first | assumption | omega)).trans (by first | assumption | exact zup_self) | exact (zup_ne (by first | assumption | omega)).trans ((zup_ne (by first | assumption | omega)).trans (by first | assumption | exact zup_self)) | exact (bk_out (by first | omega | (simp only [bset, reduceIte, Nat.reduceEqDiff]; omega))).trans (by first | exact bk_0 | exact bk_1 | exact bk_2 | exact bk_3 | exact bk_4 | exact bk_5 | exact bk_6 | exact bk_7 | exact bk_8 | exact bk_9 | exact bk_10 | exact bk_11 | exact bk_12 | exact bk_13 | exact bk_14 | exact bk_15 | exact bk_16 | exact cr_5 | exact cr_23 | exact cr_24 | exact cr_25 | exact cr_26 | exact cr_27 | exact cr_28 | exact cr_29 | exact cr_30 | assumption)) rfl ?_
          refine zr_fnSN dX0_placeByLot_32 (rfl : 32 + 3 = 35) l_X0_82 (s_lotAfter (B1 24 0) hoki.lo) rfl rfl (Nat.le_of_ble_eq_true rfl) ?_
          refine zr_putf (fs' := [_, _, _, _, _]) dX0_placeByLot_35 (rfl : 35 + 3 = 38) f_X0_36 ft_0_4 (by first | assumption | exact mw_167 | exact mw_168 | exact mw_169 | exact mw_170 | exact bk_0 | exact bk_1 | exact bk_2 | exact bk_3 | exact bk_4 | exact bk_5 | exact bk_6 | exact bk_7 | exact bk_8 | exact bk_9 | exact bk_10 | exact bk_11 | exact bk_12 | exact bk_13 | exact bk_14 | exact bk_15 | exact bk_16 | exact zup_self | exact (zup_ne (by first | assumption | omega)).trans (by first | assumption | exact zup_self) | exact (zup_ne (by first | assumption | omega)).trans ((zup_ne (by first | assumption | omega)).trans (by first | assumption | exact zup_self)) | exact (bk_out (by first | omega | (simp only [bset, reduceIte, Nat.reduceEqDiff]; omega))).trans (by first | exact bk_0 | exact bk_1 | exact bk_2 | exact bk_3 | exact bk_4 | exact bk_5 | exact bk_6 | exact bk_7 | exact bk_8 | exact bk_9 | exact bk_10 | exact bk_11 | exact bk_12 | exact bk_13 | exact bk_14 | exact bk_15 | exact bk_16 | exact cr_5 | exact cr_23 | exact cr_24 | exact cr_25 | exact cr_26 | exact cr_27 | exact cr_28 | exact cr_29 | exact cr_30 | assumption)) (Nat.le_of_ble_eq_true rfl) rfl rfl rfl ?_
          rw [bku_24]
          refine zr_aload_n dX0_placeByLot_38 (rfl : 38 + 1 = 39) rfl ?_
          refine zr_aload_n dX0_placeByLot_39 (rfl : 39 + 1 = 40) rfl ?_
          refine zr_getf dX0_placeByLot_40 (rfl : 40 + 3 = 43) f_X0_36 (by first | assumption | exact mw_167 | exact mw_168 | exact mw_169 | exact mw_170 | exact bk_0 | exact bk_1 | exact bk_2 | exact bk_3 | exact bk_4 | exact bk_5 | exact bk_6 | exact bk_7 | exact bk_8 | exact bk_9 | exact bk_10 | exact bk_11 | exact bk_12 | exact bk_13 | exact bk_14 | exact bk_15 | exact bk_16 | exact zup_self | exact (zup_ne (by first | assumption | omega)).trans (by first | assumption | exact zup_self) | exact (zup_ne (by first | assumption | omega)).trans ((zup_ne (by first | assumption | omega)).trans (by first | assumption | exact zup_self)) | exact (bk_out (by first | omega | (simp only [bset, reduceIte, Nat.reduceEqDiff]; omega))).trans (by first | exact bk_0 | exact bk_1 | exact bk_2 | exact bk_3 | exact bk_4 | exact bk_5 | exact bk_6 | exact bk_7 | exact bk_8 | exact bk_9 | exact bk_10 | exact bk_11 | exact bk_12 | exact bk_13 | exact bk_14 | exact bk_15 | exact bk_16 | exact cr_5 | exact cr_23 | exact cr_24 | exact cr_25 | exact cr_26 | exact cr_27 | exact cr_28 | exact cr_29 | exact cr_30 | assumption)) rfl ?_
          refine zr_fnV dX0_placeByLot_43 (rfl : 43 + 3 = 46) l_X0_86 (s_byLot (jlot (B1 24 0)) hl hs1 (tw_a ha hap) (tw_p hp)) (tw_a ha hap) rfl rfl rfl (Nat.le_of_ble_eq_true rfl) ?_
          rw [if_pos (by omega)]
          refine zr_istore (lv' := [_, _, _, _, _, _, _, _]) dX0_placeByLot_46 (rfl : 46 + 2 = 48) (Nat.le_of_ble_eq_true rfl) rfl ?_
          refine zr_aload_n dX0_placeByLot_48 (rfl : 48 + 1 = 49) rfl ?_
          refine zr_iload_n dX0_placeByLot_49 (rfl : 49 + 1 = 50) rfl ?_
          refine zr_iload dX0_placeByLot_50 (rfl : 50 + 2 = 52) rfl ?_
          refine zr_fnV dX0_placeByLot_52 (rfl : 52 + 3 = 55) l_X0_89 (s_firstRowFor c (f1 (jlot (B1 24 0) % s1)) hc ⟨hn.1, hn.2.1⟩ ok2) (by first | assumption | exact mw_167 | exact mw_168 | exact mw_169 | exact mw_170 | exact bk_0 | exact bk_1 | exact bk_2 | exact bk_3 | exact bk_4 | exact bk_5 | exact bk_6 | exact bk_7 | exact bk_8 | exact bk_9 | exact bk_10 | exact bk_11 | exact bk_12 | exact bk_13 | exact bk_14 | exact bk_15 | exact bk_16 | exact zup_self | exact (zup_ne (by first | assumption | omega)).trans (by first | assumption | exact zup_self) | exact (zup_ne (by first | assumption | omega)).trans ((zup_ne (by first | assumption | omega)).trans (by first | assumption | exact zup_self)) | exact (bk_out (by first | omega | (simp only [bset, reduceIte, Nat.reduceEqDiff]; omega))).trans (by first | exact bk_0 | exact bk_1 | exact bk_2 | exact bk_3 | exact bk_4 | exact bk_5 | exact bk_6 | exact bk_7 | exact bk_8 | exact bk_9 | exact bk_10 | exact bk_11 | exact bk_12 | exact bk_13 | exact bk_14 | exact bk_15 | exact bk_16 | exact cr_5 | exact cr_23 | exact cr_24 | exact cr_25 | exact cr_26 | exact cr_27 | exact cr_28 | exact cr_29 | exact cr_30 | assumption)) rfl rfl rfl (Nat.le_of_ble_eq_true rfl) ?_
          refine zr_istore (lv' := [_, _, _, _, _, _, _, _]) dX0_placeByLot_55 (rfl : 55 + 2 = 57) (Nat.le_of_ble_eq_true rfl) rfl ?_
          refine zr_iload dX0_placeByLot_57 (rfl : 57 + 2 = 59) rfl ?_
          refine zr_iconst dX0_placeByLot_59 (rfl : 59 + 1 = 60) ?_
          refine zr_icmp_eq (tgt := 86) dX0_placeByLot_60 (by decide) (rfl : 60 + 3 = 63) (jI_eq (by first | omega | (simp only [bset, reduceIte, Nat.reduceEqDiff]; omega)) (by first | omega | (simp only [bset, reduceIte, Nat.reduceEqDiff]; omega)) (by first | omega | (simp only [bset, reduceIte, Nat.reduceEqDiff]; omega)) (by first | omega | (simp only [bset, reduceIte, Nat.reduceEqDiff]; omega))) (fun h60 => ?_) (fun h60 => ?_)
          · rw [if_pos h60] at hk
            refine zr_iinc (lv' := [_, _, _, _, _, _, _, _]) dX0_placeByLot_86 (rfl : 86 + 3 = 89) (Nat.le_of_ble_eq_true rfl) rfl (by first | exact jI_add _ _ | rfl) rfl ?_
            refine zr_goto (tgt := 14) dX0_placeByLot_89 (by decide) ?_
            exact hk _ _ trivial
          · rw [if_neg h60] at hk
            have hr2 : 0 ≤ jfrf (bset B1 24 (fun _ => jlot (B1 24 0))) c (f1 (jlot (B1 24 0) % s1)) ∧ jfrf (bset B1 24 (fun _ => jlot (B1 24 0))) c (f1 (jlot (B1 24 0) % s1)) < 18 := by omega
            refine zr_aload_n dX0_placeByLot_63 (rfl : 63 + 1 = 64) rfl ?_
            refine zr_aload_n dX0_placeByLot_64 (rfl : 64 + 1 = 65) rfl ?_
            refine zr_getf dX0_placeByLot_65 (rfl : 65 + 3 = 68) f_X0_36 (by first | assumption | exact mw_167 | exact mw_168 | exact mw_169 | exact mw_170 | exact bk_0 | exact bk_1 | exact bk_2 | exact bk_3 | exact bk_4 | exact bk_5 | exact bk_6 | exact bk_7 | exact bk_8 | exact bk_9 | exact bk_10 | exact bk_11 | exact bk_12 | exact bk_13 | exact bk_14 | exact bk_15 | exact bk_16 | exact zup_self | exact (zup_ne (by first | assumption | omega)).trans (by first | assumption | exact zup_self) | exact (zup_ne (by first | assumption | omega)).trans ((zup_ne (by first | assumption | omega)).trans (by first | assumption | exact zup_self)) | exact (bk_out (by first | omega | (simp only [bset, reduceIte, Nat.reduceEqDiff]; omega))).trans (by first | exact bk_0 | exact bk_1 | exact bk_2 | exact bk_3 | exact bk_4 | exact bk_5 | exact bk_6 | exact bk_7 | exact bk_8 | exact bk_9 | exact bk_10 | exact bk_11 | exact bk_12 | exact bk_13 | exact bk_14 | exact bk_15 | exact bk_16 | exact cr_5 | exact cr_23 | exact cr_24 | exact cr_25 | exact cr_26 | exact cr_27 | exact cr_28 | exact cr_29 | exact cr_30 | assumption)) rfl ?_
            refine zr_fnV dX0_placeByLot_68 (rfl : 68 + 3 = 71) l_X0_92 (s_takeOut (jlot (B1 24 0)) hl ⟨by omega, hs1.2⟩ hap (tw_a ha hap) (tw_p hp)) (tw_a ha hap) rfl rfl rfl (Nat.le_of_ble_eq_true rfl) ?_
            rw [tw_ua ha hap, tw_up hp]
            refine zr_pop dX0_placeByLot_71 (rfl : 71 + 1 = 72) rfl ?_
            refine zr_aload_n dX0_placeByLot_72 (rfl : 72 + 1 = 73) rfl ?_
            refine zr_getf dX0_placeByLot_73 (rfl : 73 + 3 = 76) f_X0_12 (by first | assumption | exact mw_167 | exact mw_168 | exact mw_169 | exact mw_170 | exact bk_0 | exact bk_1 | exact bk_2 | exact bk_3 | exact bk_4 | exact bk_5 | exact bk_6 | exact bk_7 | exact bk_8 | exact bk_9 | exact bk_10 | exact bk_11 | exact bk_12 | exact bk_13 | exact bk_14 | exact bk_15 | exact bk_16 | exact zup_self | exact (zup_ne (by first | assumption | omega)).trans (by first | assumption | exact zup_self) | exact (zup_ne (by first | assumption | omega)).trans ((zup_ne (by first | assumption | omega)).trans (by first | assumption | exact zup_self)) | exact (bk_out (by first | omega | (simp only [bset, reduceIte, Nat.reduceEqDiff]; omega))).trans (by first | exact bk_0 | exact bk_1 | exact bk_2 | exact bk_3 | exact bk_4 | exact bk_5 | exact bk_6 | exact bk_7 | exact bk_8 | exact bk_9 | exact bk_10 | exact bk_11 | exact bk_12 | exact bk_13 | exact bk_14 | exact bk_15 | exact bk_16 | exact cr_5 | exact cr_23 | exact cr_24 | exact cr_25 | exact cr_26 | exact cr_27 | exact cr_28 | exact cr_29 | exact cr_30 | assumption)) rfl ?_
            refine zr_iload dX0_placeByLot_76 (rfl : 76 + 2 = 78) rfl ?_
            refine zr_iload dX0_placeByLot_78 (rfl : 78 + 2 = 80) rfl ?_
            refine zr_fnV dX0_placeByLot_80 (rfl : 80 + 3 = 83) l_X0_70 (s_stand _ _ hr2 ⟨hn.1, hn.2.1⟩) (by first | assumption | exact mw_167 | exact mw_168 | exact mw_169 | exact mw_170 | exact bk_0 | exact bk_1 | exact bk_2 | exact bk_3 | exact bk_4 | exact bk_5 | exact bk_6 | exact bk_7 | exact bk_8 | exact bk_9 | exact bk_10 | exact bk_11 | exact bk_12 | exact bk_13 | exact bk_14 | exact bk_15 | exact bk_16 | exact zup_self | exact (zup_ne (by first | assumption | omega)).trans (by first | assumption | exact zup_self) | exact (zup_ne (by first | assumption | omega)).trans ((zup_ne (by first | assumption | omega)).trans (by first | assumption | exact zup_self)) | exact (bk_out (by first | omega | (simp only [bset, reduceIte, Nat.reduceEqDiff]; omega))).trans (by first | exact bk_0 | exact bk_1 | exact bk_2 | exact bk_3 | exact bk_4 | exact bk_5 | exact bk_6 | exact bk_7 | exact bk_8 | exact bk_9 | exact bk_10 | exact bk_11 | exact bk_12 | exact bk_13 | exact bk_14 | exact bk_15 | exact bk_16 | exact cr_5 | exact cr_23 | exact cr_24 | exact cr_25 | exact cr_26 | exact cr_27 | exact cr_28 | exact cr_29 | exact cr_30 | assumption)) rfl rfl rfl (Nat.le_of_ble_eq_true rfl) ?_
            refine zr_iinc (lv' := [_, _, _, _, _, _, _, _]) dX0_placeByLot_83 (rfl : 83 + 3 = 86) (Nat.le_of_ble_eq_true rfl) rfl (by first | exact jI_add _ _ | rfl) rfl ?_
            refine zr_iinc (lv' := [_, _, _, _, _, _, _, _]) dX0_placeByLot_86 (rfl : 86 + 3 = 89) (Nat.le_of_ble_eq_true rfl) rfl (by first | exact jI_add _ _ | rfl) rfl ?_
            refine zr_goto (tgt := 14) dX0_placeByLot_89 (by decide) ?_
            exact hk _ _ trivial
    · intro x6 x7 _
      rw [show ((0 : Int) + (m.toNat : Int)).toNat = m.toNat by omega, show ((0 : Int) + (m.toNat : Int)) = m by omega]
      refine zr_iload dX0_placeByLot_14 (rfl : 14 + 2 = 16) rfl ?_
      refine zr_iload_n dX0_placeByLot_16 (rfl : 16 + 1 = 17) rfl ?_
      refine zr_icmp_ge (tgt := 92) dX0_placeByLot_17 (by decide) (rfl : 17 + 3 = 20) (jI_le (by first | omega | (simp only [bset, reduceIte, Nat.reduceEqDiff]; omega)) (by first | omega | (simp only [bset, reduceIte, Nat.reduceEqDiff]; omega)) (by first | omega | (simp only [bset, reduceIte, Nat.reduceEqDiff]; omega)) (by first | omega | (simp only [bset, reduceIte, Nat.reduceEqDiff]; omega))) (fun h17 => ?_) (fun h17 => ?_)
      · refine zr_iload dX0_placeByLot_92 (rfl : 92 + 2 = 94) rfl ?_
        refine zr_iret dX0_placeByLot_94 rfl rfl ?_ rfl rfl rfl
        rfl
      · exfalso; omega
  rw [show A ((0 : Int)).toNat = _ from hz] at key
  exact key
end PL

