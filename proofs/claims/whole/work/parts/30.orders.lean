/-! what the buffer tells, told from order to order -/
/-- from i on, n characters of the order at s are left: the place behind it, or -1 minus the first that is wrong -/
def jbp (T : Int → Int) (L s : Int) : Nat → Int → Int
  | 0, i => i
  | n + 1, i => if i < L ∧ jfit T L s i = 1 then jbp T L s n (i + 1) else -1 - i
def joe (T : Int → Int) (L s : Int) : Int := if 0 < jol (jca T L s) then jbp T L s (jol (jca T L s) - 1).toNat (s + 1) else -1 - s
def jer (T : Int → Int) (L : Int) : Nat → Int → Int
  | 0, _ => L
  | n + 1, s => if joe T L s < 0 then -1 - joe T L s else if joe T L s < L then jer T L n (joe T L s) else -1
def jch (T : Int → Int) (L : Int) : Nat → Int → Prop
  | 0, _ => False
  | n + 1, s => jgo T L s ∧ (s + jol (jca T L s) = L ∨ (s + jol (jca T L s) < L ∧ jch T L n (s + jol (jca T L s))))
section OR
variable {T : Int → Int} {L : Int}
theorem jbp_succ (s : Int) (n : Nat) (i : Int) : jbp T L s (n + 1) i = if i < L ∧ jfit T L s i = 1 then jbp T L s n (i + 1) else -1 - i := rfl
theorem jer_succ (n : Nat) (s : Int) : jer T L (n + 1) s = if joe T L s < 0 then -1 - joe T L s else if joe T L s < L then jer T L n (joe T L s) else -1 := rfl
theorem jca_lt {s : Int} (h : 0 < jol (jca T L s)) : s < L ∧ 0 ≤ s := by
  by_cases hc : 0 ≤ s ∧ s < L
  · exact ⟨hc.2, hc.1⟩
  · unfold jca at h
    rw [if_neg hc] at h
    exact absurd h (by decide)
theorem jbp_nn (s : Int) : ∀ (n : Nat) (i : Int), 0 ≤ i → (0 ≤ jbp T L s n i → jbp T L s n i = i + n ∧ (0 < n → i + n ≤ L) ∧ ∀ j, i ≤ j → j < i + n → jfit T L s j = 1) ∧ (jbp T L s n i < 0 → i ≤ -1 - jbp T L s n i ∧ (-1 - jbp T L s n i) < i + n)
  | 0, i, h => ⟨fun _ => ⟨by show i = i + ((0 : Nat) : Int); omega, fun h => absurd h (by decide), fun j h1 h2 => absurd h2 (by omega)⟩, fun h2 => absurd (show i < 0 from h2) (by omega)⟩
  | n + 1, i, h => by
    rw [jbp_succ]
    by_cases hc : i < L ∧ jfit T L s i = 1
    · rw [if_pos hc]
      have ih := jbp_nn s n (i + 1) (by omega)
      refine ⟨fun h0 => ?_, fun h0 => ?_⟩
      · obtain ⟨h1, h2, h3⟩ := ih.1 h0
        refine ⟨by omega, fun _ => ?_, fun j j0 j1 => ?_⟩
        · by_cases hn : 0 < n
          · have := h2 hn
            omega
          · omega
        · by_cases hj : j = i
          · rw [hj]
            exact hc.2
          · exact h3 j (by omega) (by omega)
      · have := ih.2 h0
        omega
    · rw [if_neg hc]
      exact ⟨fun h0 => absurd h0 (by omega), fun _ => by omega⟩
theorem joe_nn {s : Int} (h0 : 0 ≤ s) (h : 0 ≤ joe T L s) : jgo T L s ∧ joe T L s = s + jol (jca T L s) := by
  unfold joe at h ⊢
  by_cases hc : 0 < jol (jca T L s)
  · rw [if_pos hc] at h ⊢
    have hl := jca_lt hc
    obtain ⟨h1, h2, h3⟩ := (jbp_nn s _ (s + 1) (by omega)).1 h
    refine ⟨⟨hc, ?_, fun i i0 i1 => ?_⟩, by omega⟩
    · by_cases hn : 0 < (jol (jca T L s) - 1).toNat
      · have := h2 hn
        omega
      · omega
    · by_cases hi : i = s
      · unfold jfit
        rw [if_pos hi, jb_pos hc]
      · exact h3 i (by omega) (by omega)
  · rw [if_neg hc] at h
    omega
theorem jbp_good {s : Int} : ∀ (n : Nat) (i : Int), (∀ j, i ≤ j → j < i + n → j < L ∧ jfit T L s j = 1) → jbp T L s n i = i + n
  | 0, i, _ => by show i = i + ((0 : Nat) : Int); omega
  | n + 1, i, h => by
    rw [jbp_succ, if_pos (h i (by omega) (by omega)), jbp_good n (i + 1) (fun j h1 h2 => h j (by omega) (by omega))]
    omega
theorem joe_go {s : Int} (h : jgo T L s) : joe T L s = s + jol (jca T L s) := by
  unfold joe
  have h1 := h.1
  have h2 := h.2.1
  rw [if_pos h1, jbp_good]
  · omega
  · intro j j0 j1
    exact ⟨by omega, h.2.2 j (by omega) (by omega)⟩
theorem jfw_shift {s i : Int} (h : i - s = jol (jca T L s)) (hs : s < i) (n : Nat) : jfw T L n s i = jfw T L n i i := by
  cases n with
  | zero => rfl
  | succ n =>
    have e1 : jnx T L s i = i := by unfold jnx; rw [if_pos ⟨hs, h⟩]
    have e2 : jnx T L i i = i := by unfold jnx; rw [if_neg (by omega)]
    rw [jfw_succ, jfw_succ, e1, e2]
/-- within an order -/
theorem jfw_bp {s : Int} (h0 : 0 ≤ s) : ∀ (m : Nat) (i : Int), s < i → i ≤ L → i - s + m = jol (jca T L s) → jfw T L (L - i).toNat s i = if jbp T L s m i < 0 then -1 - jbp T L s m i else jfw T L (L - jbp T L s m i).toNat (jbp T L s m i) (jbp T L s m i)
  | 0, i, h1, h2, h3 => by
    show jfw T L (L - i).toNat s i = if i < 0 then -1 - i else jfw T L (L - i).toNat i i
    rw [if_neg (by omega)]
    exact jfw_shift (by omega) h1 _
  | m + 1, i, h1, h2, h3 => by
    rw [jbp_succ]
    by_cases hL : i < L
    · have e1 : jnx T L s i = s := by unfold jnx; rw [if_neg (by omega)]
      have hf := jfit_r T L s i
      rw [show (L - i).toNat = (L - (i + 1)).toNat + 1 by omega, jfw_succ, e1]
      by_cases hq : jfit T L s i = 0
      · rw [if_pos hq, if_neg (c := i < L ∧ jfit T L s i = 1) (by omega), if_pos (by omega)]
        omega
      · rw [if_neg hq, if_pos (c := i < L ∧ jfit T L s i = 1) (by omega)]
        exact jfw_bp h0 m (i + 1) (by omega) (by omega) (by omega)
    · rw [if_neg (c := i < L ∧ jfit T L s i = 1) (by omega), if_pos (by omega), show (L - i).toNat = 0 by omega]
      show L = -1 - (-1 - i)
      omega
theorem jfw_oe {s : Int} (h0 : 0 ≤ s) (h1 : s ≤ L) : jfw T L (L - s).toNat s s = if joe T L s < 0 then -1 - joe T L s else jfw T L (L - joe T L s).toNat (joe T L s) (joe T L s) := by
  unfold joe
  by_cases hc : 0 < jol (jca T L s)
  · rw [if_pos hc, ← jfw_bp h0 _ (s + 1) (by omega) (by have := jca_lt hc; omega) (by omega)]
    have hl := jca_lt hc
    have e2 : jnx T L s s = s := by unfold jnx; rw [if_neg (by omega)]
    have hf : jfit T L s s = 1 := by
      unfold jfit
      rw [if_pos rfl, jb_pos hc]
    rw [show (L - s).toNat = (L - (s + 1)).toNat + 1 by omega, jfw_succ, e2, if_neg (by omega)]
  · rw [if_neg hc, if_pos (by omega)]
    by_cases hl : s < L
    · have e2 : jnx T L s s = s := by unfold jnx; rw [if_neg (by omega)]
      have hf : jfit T L s s = 0 := by
        unfold jfit
        rw [if_pos rfl, jb_neg hc]
      rw [show (L - s).toNat = (L - (s + 1)).toNat + 1 by omega, jfw_succ, e2, if_pos hf]
      omega
    · rw [show (L - s).toNat = 0 by omega]
      show L = _
      omega
/-- the first wrong character, both ways -/
theorem jfw_er : ∀ (n : Nat) (s : Int), 0 ≤ s → s ≤ L → L - s < n → jfw T L (L - s).toNat s s = if jer T L n s < 0 then L else jer T L n s
  | 0, s, h0, h1, h2 => absurd h2 (by omega)
  | n + 1, s, h0, h1, h2 => by
    rw [jfw_oe h0 h1, jer_succ]
    by_cases hj : joe T L s < 0
    · rw [if_pos hj, if_pos hj, if_neg (by omega)]
    · rw [if_neg hj, if_neg hj]
      obtain ⟨hg, he⟩ := joe_nn h0 (by omega : 0 ≤ joe T L s)
      have h3 := hg.1
      have h4 := hg.2.1
      by_cases hl : joe T L s < L
      · rw [if_pos hl]
        exact jfw_er n _ (by omega) (by omega) (by omega)
      · rw [if_neg hl, if_pos (by decide), show (L - joe T L s).toNat = 0 by omega]
        rfl
theorem jer_ch : ∀ (n : Nat) (s : Int), 0 ≤ s → 0 ≤ L → jer T L n s < 0 → jch T L n s
  | 0, s, h0, hL, h => absurd (show L < 0 from h) (by omega)
  | n + 1, s, h0, hL, h => by
    rw [jer_succ] at h
    by_cases hj : joe T L s < 0
    · rw [if_pos hj] at h
      omega
    · rw [if_neg hj] at h
      obtain ⟨hg, he⟩ := joe_nn h0 (by omega : 0 ≤ joe T L s)
      have h3 := hg.1
      have h4 := hg.2.1
      refine ⟨hg, ?_⟩
      by_cases hl : joe T L s < L
      · rw [if_pos hl, he] at h
        exact Or.inr ⟨by omega, jer_ch n _ (by omega) hL h⟩
      · exact Or.inl (by omega)
theorem jad_succ (n : Nat) : jad T L (n + 1) = if jad T L n < L then jad T L n + jol (jca T L (jad T L n)) else jad T L n := rfl
theorem jch_ad : ∀ (n k : Nat) (s : Int), jad T L k = s → s < L → jch T L n s → jad T L (k + n) = L
  | 0, _, _, _, _, h => h.elim
  | n + 1, k, s, hk, hs, h => by
    have e : jad T L (k + 1) = s + jol (jca T L s) := by rw [jad_succ, hk, if_pos hs]
    rcases h.2 with h2 | h2
    · rw [show k + (n + 1) = k + 1 + n by omega, jad_stuck (by omega), e, h2]
    · rw [show k + (n + 1) = k + 1 + n by omega]
      exact jch_ad n (k + 1) _ e h2.1 h2.2
/-- an order that isn't at its end -/
theorem jer_L : ∀ (n k : Nat) (s : Int), jad T L k = s → 0 ≤ s → s < L → L - s < n → jer T L n s = L → ∃ m, jad T L m ≠ L ∧ ¬ jad T L m < L ∧ m ≤ k + n
  | 0, k, s, hk, h0, hs, hn, h => absurd hn (by omega)
  | n + 1, k, s, hk, h0, hs, hn, h => by
    have e : jad T L (k + 1) = s + jol (jca T L s) := by rw [jad_succ, hk, if_pos hs]
    rw [jer_succ] at h
    by_cases hj : joe T L s < 0
    · rw [if_pos hj] at h
      unfold joe at h hj
      by_cases hc : 0 < jol (jca T L s)
      · rw [if_pos hc] at h hj
        have := (jbp_nn (T := T) (L := L) s (jol (jca T L s) - 1).toNat (s + 1) (by omega)).2 hj
        exact ⟨k + 1, by omega, by omega, by omega⟩
      · rw [if_neg hc] at h
        omega
    · rw [if_neg hj] at h
      obtain ⟨hg, he⟩ := joe_nn h0 (by omega : 0 ≤ joe T L s)
      have h3 := hg.1
      by_cases hl : joe T L s < L
      · rw [if_pos hl] at h
        obtain ⟨m, m1, m2, m3⟩ := jer_L n (k + 1) _ (by rw [e, he]) (by omega) hl (by omega) h
        exact ⟨m, m1, m2, by omega⟩
      · rw [if_neg hl] at h
        omega
theorem jad_mono (h : ¬ jad T L 60 < L) : ∀ m : Nat, ¬ jad T L m < L → jad T L m = jad T L 60 := by
  intro m hm
  by_cases h60 : m ≤ 60
  · have := jad_stuck hm (60 - m)
    rw [show m + (60 - m) = 60 by omega] at this
    exact this.symm
  · have := jad_stuck h (m - 60)
    rw [show 60 + (m - 60) = m by omega] at this
    exact this
theorem jfw_all (hL : 0 ≤ L ∧ L ≤ 60) : jfw T L L.toNat 0 0 = if jer T L 61 0 < 0 then L else jer T L 61 0 := by
  have := jfw_er (T := T) (L := L) 61 0 (by decide) (by omega) (by omega)
  rw [Int.sub_zero] at this
  exact this
theorem jch_ge : ∀ (n : Nat) (s : Int), 0 ≤ s → jch T L n s → ∀ m : Nat, L - s < m → jch T L m s
  | 0, _, _, h, _, _ => h.elim
  | n + 1, s, h0, h, m, hm => by
    have h3 := h.1.1
    have h4 := h.1.2.1
    cases m with
    | zero => omega
    | succ m =>
      refine ⟨h.1, ?_⟩
      rcases h.2 with h2 | h2
      · exact Or.inl h2
      · exact Or.inr ⟨h2.1, jch_ge n _ (by omega) h2.2 m (by omega)⟩
theorem jtev_er (hL : 0 ≤ L ∧ L ≤ 60) : (0 < L ∧ jad T L 60 = L ∧ jfw T L L.toNat 0 0 = L) ↔ jer T L 61 0 < 0 := by
  constructor
  · intro ⟨h1, h2, h3⟩
    refine Int.not_le.mp fun h4 => ?_
    rw [jfw_all hL, if_neg (by omega)] at h3
    obtain ⟨m, m1, m2, m3⟩ := jer_L 61 0 0 rfl (by omega) h1 (by omega) h3
    have := jad_mono (by omega) m m2
    omega
  · intro h
    have hc := jer_ch 61 0 (by omega) hL.1 h
    have h1 := hc.1.1
    have h2 := hc.1.2.1
    refine ⟨by omega, ?_, ?_⟩
    · have h5 := jch_ad 61 0 0 rfl (by omega) hc
      have h6 := jad_succ (T := T) (L := L) 60
      by_cases h7 : jad T L 60 < L
      · -- more orders than characters
        exfalso
        have grow : ∀ k : Nat, jad T L k < L → (k : Int) ≤ jad T L k ∧ ∃ n, jch T L n (jad T L k) := by
          intro k
          induction k with
          | zero => exact fun _ => ⟨Int.le_refl _, 61, hc⟩
          | succ k ih =>
            intro hk
            by_cases hk2 : jad T L k < L
            · obtain ⟨i1, n, i2⟩ := ih hk2
              cases n with
              | zero => exact i2.elim
              | succ n =>
                have e : jad T L (k + 1) = jad T L k + jol (jca T L (jad T L k)) := by rw [jad_succ, if_pos hk2]
                have g1 := i2.1.1
                rcases i2.2 with g2 | g2
                · omega
                · refine ⟨by omega, n, ?_⟩
                  rw [e]
                  exact g2.2
            · have e : jad T L (k + 1) = jad T L k := by rw [jad_succ, if_neg hk2]
              rw [e] at hk
              exact absurd hk hk2
        have := (grow 60 h7).1
        omega
      · rw [if_neg h7] at h6
        rw [← h6]
        exact h5
    · rw [jfw_all hL, if_pos h]
theorem jtev_eq (hL : 0 ≤ L ∧ L ≤ 60) : jtev T L = jb (jer T L 61 0 < 0) := jb_congr (jtev_er hL)
end OR
section RN
variable {Γ : zΓ} {d : Nat} {σ : zC} {τ : zTau} {u w : zW} {B : zB}
theorem t_run1 (ck : cok σ) (h : ¬ jer σ.T σ.L 61 0 < 0) : zThr Γ md_X6_run (d + 7) [.ref 5] (bk 6 B (cr σ τ u)) zIAE := by
  refine zThr.of_run (lv := [some (.ref 5), none, none, none]) (by decide) rfl (Nat.le_of_ble_eq_true rfl) rfl (fun n9 g9 => ?_)
  refine zr_aload_n dX6_run_0 (rfl : 0 + 1 = 1) rfl ?_
  refine zr_getf dX6_run_1 (rfl : 1 + 3 = 4) f_X6_30 (by first | assumption | exact bk_0 | exact bk_1 | exact bk_2 | exact bk_3 | exact bk_4 | exact bk_5 | exact bk_6 | exact bk_7 | exact bk_8 | exact bk_9 | exact bk_10 | exact bk_11 | exact bk_12 | exact bk_13 | exact bk_14 | exact bk_15 | exact bk_16 | exact zup_self | exact (zup_ne (by first | assumption | omega)).trans (by first | assumption | exact zup_self) | exact (zup_ne (by first | assumption | omega)).trans ((zup_ne (by first | assumption | omega)).trans (by first | assumption | exact zup_self)) | exact (bk_out (by first | omega | (simp only [bset, reduceIte, Nat.reduceEqDiff]; omega))).trans (by first | exact bk_0 | exact bk_1 | exact bk_2 | exact bk_3 | exact bk_4 | exact bk_5 | exact bk_6 | exact bk_7 | exact bk_8 | exact bk_9 | exact bk_10 | exact bk_11 | exact bk_12 | exact bk_13 | exact bk_14 | exact bk_15 | exact bk_16 | exact cr_5 | exact cr_23 | exact cr_24 | exact cr_25 | exact cr_26 | exact cr_27 | exact cr_28 | exact cr_29 | exact cr_30 | assumption)) rfl ?_
  refine zr_fnV dX6_run_4 (rfl : 4 + 3 = 7) l_X6_149 (s_tellsEvening ck.L ck.T (cr_at (by first | omega | (simp only [bset, reduceIte, Nat.reduceEqDiff]; omega)) cr_26) (cr_at (by first | omega | (simp only [bset, reduceIte, Nat.reduceEqDiff]; omega)) cr_27)) (by first | assumption | exact bk_0 | exact bk_1 | exact bk_2 | exact bk_3 | exact bk_4 | exact bk_5 | exact bk_6 | exact bk_7 | exact bk_8 | exact bk_9 | exact bk_10 | exact bk_11 | exact bk_12 | exact bk_13 | exact bk_14 | exact bk_15 | exact bk_16 | exact zup_self | exact (zup_ne (by first | assumption | omega)).trans (by first | assumption | exact zup_self) | exact (zup_ne (by first | assumption | omega)).trans ((zup_ne (by first | assumption | omega)).trans (by first | assumption | exact zup_self)) | exact (bk_out (by first | omega | (simp only [bset, reduceIte, Nat.reduceEqDiff]; omega))).trans (by first | exact bk_0 | exact bk_1 | exact bk_2 | exact bk_3 | exact bk_4 | exact bk_5 | exact bk_6 | exact bk_7 | exact bk_8 | exact bk_9 | exact bk_10 | exact bk_11 | exact bk_12 | exact bk_13 | exact bk_14 | exact bk_15 | exact bk_16 | exact cr_5 | exact cr_23 | exact cr_24 | exact cr_25 | exact cr_26 | exact cr_27 | exact cr_28 | exact cr_29 | exact cr_30 | assumption)) rfl rfl rfl (Nat.le_of_ble_eq_true rfl) ?_
  rw [jtev_eq ck.L, jb_neg h]
  refine zr_thS dX6_run_7 l_X6_59 (t_needValue) rfl rfl (Nat.le_of_ble_eq_true rfl) (Nat.le_of_ble_eq_true rfl) (Nat.le_of_ble_eq_true rfl) ?_
  exact zr_raised rfl
theorem jdo_r (T : Int → Int) (L s : Int) (B : zB) : 0 ≤ (jdo T L s B).2 ∧ (jdo T L s B).2 ≤ 1 := by
  unfold jdo
  repeat' split
  all_goals first | exact jb_r | exact ⟨(by decide : (0 : Int) ≤ 0), (by decide : (0 : Int) ≤ 1)⟩ | exact ⟨(by decide : (0 : Int) ≤ 1), (by decide : (1 : Int) ≤ 1)⟩
def jrun (T : Int → Int) (L : Int) (B : zB) : zB × Int := jrn T L 60 0 B
theorem jok_rn {T : Int → Int} {L : Int} : ∀ (n : Nat) (m : Nat) (s : Int) (B : zB), 0 ≤ s → (s < L → jch T L m s) → jok B → jok (jrn T L n s B).1
  | 0, _, _, _, _, _, ok => ok
  | n + 1, m, s, B, h0, hc, ok => by
    unfold jrn
    by_cases hs : s < L
    · rw [if_pos hs]
      have hc := hc hs
      cases m with
      | zero => exact hc.elim
      | succ m =>
        have ok1 := jok_do hc.1 h0 ok
        split
        · exact ok1
        · have := hc.1.1
          refine jok_rn n m _ _ (by omega) (fun h => ?_) ok1
          rcases hc.2 with h2 | h2
          · omega
          · exact h2.2
    · rw [if_neg hs]
      exact ok
theorem s_run (ck : cok σ) (ok : jok B) (h : jer σ.T σ.L 61 0 < 0) : zFn Γ md_X6_run (d + 7) [.ref 5] (bk 6 B (cr σ τ u)) (some (.int (jI (jrun σ.T σ.L B).2))) (bk 6 (jrun σ.T σ.L B).1 (cr (zC.sL (jsv σ B) 0) τ u)) := by
  have hL := ck.L
  have hch := jer_ch 61 0 (by decide) hL.1 h
  have ck1 := cok_save ck ok
  refine zFn.of_run (lv := [some (.ref 5), none, none, none]) (by decide) rfl (Nat.le_of_ble_eq_true rfl) rfl (fun n9 g9 => ?_)
  refine zr_aload_n dX6_run_0 (rfl : 0 + 1 = 1) rfl ?_
  refine zr_getf dX6_run_1 (rfl : 1 + 3 = 4) f_X6_30 (by first | assumption | exact bk_0 | exact bk_1 | exact bk_2 | exact bk_3 | exact bk_4 | exact bk_5 | exact bk_6 | exact bk_7 | exact bk_8 | exact bk_9 | exact bk_10 | exact bk_11 | exact bk_12 | exact bk_13 | exact bk_14 | exact bk_15 | exact bk_16 | exact zup_self | exact (zup_ne (by first | assumption | omega)).trans (by first | assumption | exact zup_self) | exact (zup_ne (by first | assumption | omega)).trans ((zup_ne (by first | assumption | omega)).trans (by first | assumption | exact zup_self)) | exact (bk_out (by first | omega | (simp only [bset, reduceIte, Nat.reduceEqDiff]; omega))).trans (by first | exact bk_0 | exact bk_1 | exact bk_2 | exact bk_3 | exact bk_4 | exact bk_5 | exact bk_6 | exact bk_7 | exact bk_8 | exact bk_9 | exact bk_10 | exact bk_11 | exact bk_12 | exact bk_13 | exact bk_14 | exact bk_15 | exact bk_16 | exact cr_5 | exact cr_23 | exact cr_24 | exact cr_25 | exact cr_26 | exact cr_27 | exact cr_28 | exact cr_29 | exact cr_30 | assumption)) rfl ?_
  refine zr_fnV dX6_run_4 (rfl : 4 + 3 = 7) l_X6_149 (s_tellsEvening ck.L ck.T (cr_at (by first | omega | (simp only [bset, reduceIte, Nat.reduceEqDiff]; omega)) cr_26) (cr_at (by first | omega | (simp only [bset, reduceIte, Nat.reduceEqDiff]; omega)) cr_27)) (by first | assumption | exact bk_0 | exact bk_1 | exact bk_2 | exact bk_3 | exact bk_4 | exact bk_5 | exact bk_6 | exact bk_7 | exact bk_8 | exact bk_9 | exact bk_10 | exact bk_11 | exact bk_12 | exact bk_13 | exact bk_14 | exact bk_15 | exact bk_16 | exact zup_self | exact (zup_ne (by first | assumption | omega)).trans (by first | assumption | exact zup_self) | exact (zup_ne (by first | assumption | omega)).trans ((zup_ne (by first | assumption | omega)).trans (by first | assumption | exact zup_self)) | exact (bk_out (by first | omega | (simp only [bset, reduceIte, Nat.reduceEqDiff]; omega))).trans (by first | exact bk_0 | exact bk_1 | exact bk_2 | exact bk_3 | exact bk_4 | exact bk_5 | exact bk_6 | exact bk_7 | exact bk_8 | exact bk_9 | exact bk_10 | exact bk_11 | exact bk_12 | exact bk_13 | exact bk_14 | exact bk_15 | exact bk_16 | exact cr_5 | exact cr_23 | exact cr_24 | exact cr_25 | exact cr_26 | exact cr_27 | exact cr_28 | exact cr_29 | exact cr_30 | assumption)) rfl rfl rfl (Nat.le_of_ble_eq_true rfl) ?_
  rw [jtev_eq ck.L, jb_pos h]
  refine zr_fnS dX6_run_7 (rfl : 7 + 3 = 10) l_X6_59 (s_needValue) rfl rfl (Nat.le_of_ble_eq_true rfl) ?_
  refine zr_aload_n dX6_run_10 (rfl : 10 + 1 = 11) rfl ?_
  refine zr_fnV dX6_run_11 (rfl : 11 + 3 = 14) l_X6_62 (s_save ck ok) (by first | assumption | exact bk_0 | exact bk_1 | exact bk_2 | exact bk_3 | exact bk_4 | exact bk_5 | exact bk_6 | exact bk_7 | exact bk_8 | exact bk_9 | exact bk_10 | exact bk_11 | exact bk_12 | exact bk_13 | exact bk_14 | exact bk_15 | exact bk_16 | exact zup_self | exact (zup_ne (by first | assumption | omega)).trans (by first | assumption | exact zup_self) | exact (zup_ne (by first | assumption | omega)).trans ((zup_ne (by first | assumption | omega)).trans (by first | assumption | exact zup_self)) | exact (bk_out (by first | omega | (simp only [bset, reduceIte, Nat.reduceEqDiff]; omega))).trans (by first | exact bk_0 | exact bk_1 | exact bk_2 | exact bk_3 | exact bk_4 | exact bk_5 | exact bk_6 | exact bk_7 | exact bk_8 | exact bk_9 | exact bk_10 | exact bk_11 | exact bk_12 | exact bk_13 | exact bk_14 | exact bk_15 | exact bk_16 | exact cr_5 | exact cr_23 | exact cr_24 | exact cr_25 | exact cr_26 | exact cr_27 | exact cr_28 | exact cr_29 | exact cr_30 | assumption)) rfl rfl rfl (Nat.le_of_ble_eq_true rfl) ?_
  refine zr_iconst dX6_run_14 (rfl : 14 + 1 = 15) ?_
  refine zr_istore_n (lv' := [_, _, _, _]) dX6_run_15 (rfl : 15 + 1 = 16) (Nat.le_of_ble_eq_true rfl) rfl ?_
  refine zr_iconst dX6_run_16 (rfl : 16 + 1 = 17) ?_
  refine zr_istore_n (lv' := [_, _, _, _]) dX6_run_17 (rfl : 17 + 1 = 18) (Nat.le_of_ble_eq_true rfl) rfl ?_
  refine zr_iconst dX6_run_18 (rfl : 18 + 1 = 19) ?_
  refine zr_istore_n (lv' := [_, _, _, _]) dX6_run_19 (rfl : 19 + 1 = 20) (Nat.le_of_ble_eq_true rfl) rfl ?_
  have t1 : (jsv σ B).T = σ.T := rfl
  have t2 : (jsv σ B).L = σ.L := rfl
  generalize jsv σ B = σ1 at ck1 t1 t2 ⊢
  have fin : ∀ (B1 : zB) (k s t : Int), B1 = (jrun σ.T σ.L B).1 → k = (jrun σ.T σ.L B).2 → zRun Γ md_X6_run (d + 7) none 71 [some (.ref 5), some (.int (jI k)), some (.int (jI s)), some (.int (jI t))] [] (n9, g9, 0, 0) (bk 6 B1 (cr σ1 τ u)) (zDone md_X6_run (some (.int (jI (jrun σ.T σ.L B).2))) (bk 6 (jrun σ.T σ.L B).1 (cr (zC.sL σ1 0) τ u)) n9 g9) := by
    intro B1 k s t e1 e2
    refine zr_aload_n dX6_run_71 (rfl : 71 + 1 = 72) rfl ?_
    refine zr_getf dX6_run_72 (rfl : 72 + 3 = 75) f_X6_30 (by first | assumption | exact bk_0 | exact bk_1 | exact bk_2 | exact bk_3 | exact bk_4 | exact bk_5 | exact bk_6 | exact bk_7 | exact bk_8 | exact bk_9 | exact bk_10 | exact bk_11 | exact bk_12 | exact bk_13 | exact bk_14 | exact bk_15 | exact bk_16 | exact zup_self | exact (zup_ne (by first | assumption | omega)).trans (by first | assumption | exact zup_self) | exact (zup_ne (by first | assumption | omega)).trans ((zup_ne (by first | assumption | omega)).trans (by first | assumption | exact zup_self)) | exact (bk_out (by first | omega | (simp only [bset, reduceIte, Nat.reduceEqDiff]; omega))).trans (by first | exact bk_0 | exact bk_1 | exact bk_2 | exact bk_3 | exact bk_4 | exact bk_5 | exact bk_6 | exact bk_7 | exact bk_8 | exact bk_9 | exact bk_10 | exact bk_11 | exact bk_12 | exact bk_13 | exact bk_14 | exact bk_15 | exact bk_16 | exact cr_5 | exact cr_23 | exact cr_24 | exact cr_25 | exact cr_26 | exact cr_27 | exact cr_28 | exact cr_29 | exact cr_30 | assumption)) rfl ?_
    refine zr_iconst dX6_run_75 (rfl : 75 + 1 = 76) ?_
    refine zr_putf (fs' := [_, _]) dX6_run_76 (rfl : 76 + 3 = 79) f_X6_140 ft_5_1 (by first | assumption | exact bk_0 | exact bk_1 | exact bk_2 | exact bk_3 | exact bk_4 | exact bk_5 | exact bk_6 | exact bk_7 | exact bk_8 | exact bk_9 | exact bk_10 | exact bk_11 | exact bk_12 | exact bk_13 | exact bk_14 | exact bk_15 | exact bk_16 | exact zup_self | exact (zup_ne (by first | assumption | omega)).trans (by first | assumption | exact zup_self) | exact (zup_ne (by first | assumption | omega)).trans ((zup_ne (by first | assumption | omega)).trans (by first | assumption | exact zup_self)) | exact (bk_out (by first | omega | (simp only [bset, reduceIte, Nat.reduceEqDiff]; omega))).trans (by first | exact bk_0 | exact bk_1 | exact bk_2 | exact bk_3 | exact bk_4 | exact bk_5 | exact bk_6 | exact bk_7 | exact bk_8 | exact bk_9 | exact bk_10 | exact bk_11 | exact bk_12 | exact bk_13 | exact bk_14 | exact bk_15 | exact bk_16 | exact cr_5 | exact cr_23 | exact cr_24 | exact cr_25 | exact cr_26 | exact cr_27 | exact cr_28 | exact cr_29 | exact cr_30 | assumption)) (Nat.le_of_ble_eq_true rfl) rfl rfl rfl ?_
    rw [cru_26, e1, e2]
    refine zr_iload_n dX6_run_79 (rfl : 79 + 1 = 80) rfl ?_
    refine zr_iret dX6_run_80 rfl (by first | rfl | exact jb_nar) ?_ rfl rfl rfl
    first | rfl | rw [jb_pos (by first | assumption | omega)] | rw [jb_neg (by first | assumption | omega)] | rw [if_pos (by first | assumption | omega)] | rw [if_neg (by first | assumption | omega)]
  refine zfor3 0 60 (fun t B1 k s => 0 ≤ s ∧ s ≤ σ.L ∧ jok B1 ∧ (s < σ.L → ∃ m, jch σ.T σ.L m s) ∧ (jrn σ.T σ.L (60 - t).toNat s B1).1 = (jrun σ.T σ.L B).1 ∧ k + (jrn σ.T σ.L (60 - t).toNat s B1).2 = (jrun σ.T σ.L B).2) (fun t B1 k s => [some (.ref 5), some (.int (jI k)), some (.int (jI s)), some (.int (jI t))]) (fun t B1 k s => bk 6 B1 (cr σ1 τ u)) B 0 0 ⟨by decide, hL.1, ok, fun _ => ⟨61, hch⟩, rfl, Int.zero_add _⟩ ?_ ?_
  · intro t B1 k s t0 t6 hI hk
    obtain ⟨s0, s1, ok1, hc, hr1, hr2⟩ := hI
    have L1 : 0 ≤ σ1.L ∧ σ1.L ≤ 60 := by rw [t2]; exact hL
    rw [show (60 - t).toNat = (60 - (t + 1)).toNat + 1 by omega] at hr1 hr2
    unfold jrn at hr1 hr2
    refine zr_iload_n dX6_run_20 (rfl : 20 + 1 = 21) rfl ?_
    refine zr_bipush dX6_run_21 (rfl : 21 + 2 = 23) (by decide) ?_
    refine zr_icmp_ge (tgt := 71) dX6_run_23 (by decide) (rfl : 23 + 3 = 26) (jI_le (by first | omega | (simp only [bset, reduceIte, Nat.reduceEqDiff]; omega)) (by first | omega | (simp only [bset, reduceIte, Nat.reduceEqDiff]; omega)) (by first | omega | (simp only [bset, reduceIte, Nat.reduceEqDiff]; omega)) (by first | omega | (simp only [bset, reduceIte, Nat.reduceEqDiff]; omega))) (fun h23 => ?_) (fun h23 => ?_)
    · exfalso; omega
    · refine zr_iload_n dX6_run_26 (rfl : 26 + 1 = 27) rfl ?_
      refine zr_aload_n dX6_run_27 (rfl : 27 + 1 = 28) rfl ?_
      refine zr_getf dX6_run_28 (rfl : 28 + 3 = 31) f_X6_30 (by first | assumption | exact bk_0 | exact bk_1 | exact bk_2 | exact bk_3 | exact bk_4 | exact bk_5 | exact bk_6 | exact bk_7 | exact bk_8 | exact bk_9 | exact bk_10 | exact bk_11 | exact bk_12 | exact bk_13 | exact bk_14 | exact bk_15 | exact bk_16 | exact zup_self | exact (zup_ne (by first | assumption | omega)).trans (by first | assumption | exact zup_self) | exact (zup_ne (by first | assumption | omega)).trans ((zup_ne (by first | assumption | omega)).trans (by first | assumption | exact zup_self)) | exact (bk_out (by first | omega | (simp only [bset, reduceIte, Nat.reduceEqDiff]; omega))).trans (by first | exact bk_0 | exact bk_1 | exact bk_2 | exact bk_3 | exact bk_4 | exact bk_5 | exact bk_6 | exact bk_7 | exact bk_8 | exact bk_9 | exact bk_10 | exact bk_11 | exact bk_12 | exact bk_13 | exact bk_14 | exact bk_15 | exact bk_16 | exact cr_5 | exact cr_23 | exact cr_24 | exact cr_25 | exact cr_26 | exact cr_27 | exact cr_28 | exact cr_29 | exact cr_30 | assumption)) rfl ?_
      refine zr_getf dX6_run_31 (rfl : 31 + 3 = 34) f_X6_140 (by first | assumption | exact bk_0 | exact bk_1 | exact bk_2 | exact bk_3 | exact bk_4 | exact bk_5 | exact bk_6 | exact bk_7 | exact bk_8 | exact bk_9 | exact bk_10 | exact bk_11 | exact bk_12 | exact bk_13 | exact bk_14 | exact bk_15 | exact bk_16 | exact zup_self | exact (zup_ne (by first | assumption | omega)).trans (by first | assumption | exact zup_self) | exact (zup_ne (by first | assumption | omega)).trans ((zup_ne (by first | assumption | omega)).trans (by first | assumption | exact zup_self)) | exact (bk_out (by first | omega | (simp only [bset, reduceIte, Nat.reduceEqDiff]; omega))).trans (by first | exact bk_0 | exact bk_1 | exact bk_2 | exact bk_3 | exact bk_4 | exact bk_5 | exact bk_6 | exact bk_7 | exact bk_8 | exact bk_9 | exact bk_10 | exact bk_11 | exact bk_12 | exact bk_13 | exact bk_14 | exact bk_15 | exact bk_16 | exact cr_5 | exact cr_23 | exact cr_24 | exact cr_25 | exact cr_26 | exact cr_27 | exact cr_28 | exact cr_29 | exact cr_30 | assumption)) rfl ?_
      rw [t2]
      refine zr_icmp_ge (tgt := 71) dX6_run_34 (by decide) (rfl : 34 + 3 = 37) (jI_le (by first | omega | (simp only [bset, reduceIte, Nat.reduceEqDiff]; omega)) (by first | omega | (simp only [bset, reduceIte, Nat.reduceEqDiff]; omega)) (by first | omega | (simp only [bset, reduceIte, Nat.reduceEqDiff]; omega)) (by first | omega | (simp only [bset, reduceIte, Nat.reduceEqDiff]; omega))) (fun h34 => ?_) (fun h34 => ?_)
      · rw [if_neg (by omega)] at hr1 hr2
        exact fin _ _ _ _ hr1 (by rw [← hr2]; exact (Int.add_zero _).symm)
      · rw [if_pos (by omega)] at hr1 hr2
        obtain ⟨m, hc⟩ := hc (by omega)
        have hgo : jgo σ.T σ.L s := by
          cases m with
          | zero => exact hc.elim
          | succ m => exact hc.1
        have hsd := s_doOrder (Γ := Γ) (d := d) (σ := σ1) (τ := τ) (u := u) (B := B1) s (by rw [t1, t2]; exact hgo) (by omega) ck1 ok1
        have okd := jok_do hgo s0 ok1
        have hdr := jdo_r σ.T σ.L s B1
        rw [t1, t2] at hsd
        generalize jdo σ.T σ.L s B1 = D at hr1 hr2 hsd okd hdr
        refine zr_aload_n dX6_run_37 (rfl : 37 + 1 = 38) rfl ?_
        refine zr_iload_n dX6_run_38 (rfl : 38 + 1 = 39) rfl ?_
        refine zr_fnV dX6_run_39 (rfl : 39 + 3 = 42) l_X6_153 (hsd) (by first | assumption | exact bk_0 | exact bk_1 | exact bk_2 | exact bk_3 | exact bk_4 | exact bk_5 | exact bk_6 | exact bk_7 | exact bk_8 | exact bk_9 | exact bk_10 | exact bk_11 | exact bk_12 | exact bk_13 | exact bk_14 | exact bk_15 | exact bk_16 | exact zup_self | exact (zup_ne (by first | assumption | omega)).trans (by first | assumption | exact zup_self) | exact (zup_ne (by first | assumption | omega)).trans ((zup_ne (by first | assumption | omega)).trans (by first | assumption | exact zup_self)) | exact (bk_out (by first | omega | (simp only [bset, reduceIte, Nat.reduceEqDiff]; omega))).trans (by first | exact bk_0 | exact bk_1 | exact bk_2 | exact bk_3 | exact bk_4 | exact bk_5 | exact bk_6 | exact bk_7 | exact bk_8 | exact bk_9 | exact bk_10 | exact bk_11 | exact bk_12 | exact bk_13 | exact bk_14 | exact bk_15 | exact bk_16 | exact cr_5 | exact cr_23 | exact cr_24 | exact cr_25 | exact cr_26 | exact cr_27 | exact cr_28 | exact cr_29 | exact cr_30 | assumption)) rfl rfl rfl (Nat.le_of_ble_eq_true rfl) ?_
        refine zr_if_ne (tgt := 48) dX6_run_42 (by decide) (rfl : 42 + 3 = 45) (by first | exact jb_iff | exact jI_z (by first | omega | (simp only [bset, reduceIte, Nat.reduceEqDiff]; omega)) (by first | omega | (simp only [bset, reduceIte, Nat.reduceEqDiff]; omega))) (fun h42 => ?_) (fun h42 => ?_)
        · rw [if_neg h42] at hr1 hr2
          have g1 := hgo.1
          have g2 := hgo.2.1
          have T1 := jca_r (L := σ.L) ck.T s
          refine zr_iload_n dX6_run_48 (rfl : 48 + 1 = 49) rfl ?_
          refine zr_aload_n dX6_run_49 (rfl : 49 + 1 = 50) rfl ?_
          refine zr_getf dX6_run_50 (rfl : 50 + 3 = 53) f_X6_30 (by first | assumption | exact bk_0 | exact bk_1 | exact bk_2 | exact bk_3 | exact bk_4 | exact bk_5 | exact bk_6 | exact bk_7 | exact bk_8 | exact bk_9 | exact bk_10 | exact bk_11 | exact bk_12 | exact bk_13 | exact bk_14 | exact bk_15 | exact bk_16 | exact zup_self | exact (zup_ne (by first | assumption | omega)).trans (by first | assumption | exact zup_self) | exact (zup_ne (by first | assumption | omega)).trans ((zup_ne (by first | assumption | omega)).trans (by first | assumption | exact zup_self)) | exact (bk_out (by first | omega | (simp only [bset, reduceIte, Nat.reduceEqDiff]; omega))).trans (by first | exact bk_0 | exact bk_1 | exact bk_2 | exact bk_3 | exact bk_4 | exact bk_5 | exact bk_6 | exact bk_7 | exact bk_8 | exact bk_9 | exact bk_10 | exact bk_11 | exact bk_12 | exact bk_13 | exact bk_14 | exact bk_15 | exact bk_16 | exact cr_5 | exact cr_23 | exact cr_24 | exact cr_25 | exact cr_26 | exact cr_27 | exact cr_28 | exact cr_29 | exact cr_30 | assumption)) rfl ?_
          refine zr_iload_n dX6_run_53 (rfl : 53 + 1 = 54) rfl ?_
          refine zr_fnV dX6_run_54 (rfl : 54 + 3 = 57) l_X6_156 (s_codeAt s (by first | omega | (simp only [bset, reduceIte, Nat.reduceEqDiff]; omega)) L1 (cr_at (by first | omega | (simp only [bset, reduceIte, Nat.reduceEqDiff]; omega)) cr_26) (cr_at (by first | omega | (simp only [bset, reduceIte, Nat.reduceEqDiff]; omega)) cr_27)) (by first | assumption | exact bk_0 | exact bk_1 | exact bk_2 | exact bk_3 | exact bk_4 | exact bk_5 | exact bk_6 | exact bk_7 | exact bk_8 | exact bk_9 | exact bk_10 | exact bk_11 | exact bk_12 | exact bk_13 | exact bk_14 | exact bk_15 | exact bk_16 | exact zup_self | exact (zup_ne (by first | assumption | omega)).trans (by first | assumption | exact zup_self) | exact (zup_ne (by first | assumption | omega)).trans ((zup_ne (by first | assumption | omega)).trans (by first | assumption | exact zup_self)) | exact (bk_out (by first | omega | (simp only [bset, reduceIte, Nat.reduceEqDiff]; omega))).trans (by first | exact bk_0 | exact bk_1 | exact bk_2 | exact bk_3 | exact bk_4 | exact bk_5 | exact bk_6 | exact bk_7 | exact bk_8 | exact bk_9 | exact bk_10 | exact bk_11 | exact bk_12 | exact bk_13 | exact bk_14 | exact bk_15 | exact bk_16 | exact cr_5 | exact cr_23 | exact cr_24 | exact cr_25 | exact cr_26 | exact cr_27 | exact cr_28 | exact cr_29 | exact cr_30 | assumption)) rfl rfl rfl (Nat.le_of_ble_eq_true rfl) ?_
          refine zr_fnS dX6_run_57 (rfl : 57 + 3 = 60) l_X6_159 (s_orderLength (jca σ1.T σ1.L s) (by rw [t1, t2]; omega)) rfl rfl (Nat.le_of_ble_eq_true rfl) ?_
          refine zr_iadd dX6_run_60 (rfl : 60 + 1 = 61) (by first | exact jI_add _ _ | rfl) ?_
          refine zr_istore_n (lv' := [_, _, _, _]) dX6_run_61 (rfl : 61 + 1 = 62) (Nat.le_of_ble_eq_true rfl) rfl ?_
          refine zr_iinc (lv' := [_, _, _, _]) dX6_run_62 (rfl : 62 + 3 = 65) (Nat.le_of_ble_eq_true rfl) rfl (by first | exact jI_add _ _ | rfl) rfl ?_
          refine zr_iinc (lv' := [_, _, _, _]) dX6_run_65 (rfl : 65 + 3 = 68) (Nat.le_of_ble_eq_true rfl) rfl (by first | exact jI_add _ _ | rfl) rfl ?_
          refine zr_goto (tgt := 20) dX6_run_68 (by decide) ?_
          rw [t1, t2]
          refine hk D.1 (k + 1) (s + jol (jca σ.T σ.L s)) ⟨by omega, by omega, okd, fun h => ?_, hr1, by omega⟩
          cases m with
          | zero => exact hc.elim
          | succ m =>
            rcases hc.2 with h2 | h2
            · omega
            · exact ⟨m, h2.2⟩
        · rw [if_pos (by omega)] at hr1 hr2
          refine zr_goto (tgt := 71) dX6_run_45 (by decide) ?_
          exact fin _ _ _ _ hr1 (by rw [← hr2]; exact (Int.add_zero _).symm)
  · intro B1 k s hI
    obtain ⟨s0, s1, ok1, hc, hr1, hr2⟩ := hI
    have e0 : (60 - ((0 : Int) + ((60 : Nat) : Int))).toNat = 0 := rfl
    rw [e0] at hr1 hr2
    refine zr_iload_n dX6_run_20 (rfl : 20 + 1 = 21) rfl ?_
    refine zr_bipush dX6_run_21 (rfl : 21 + 2 = 23) (by decide) ?_
    refine zr_icmp_ge (tgt := 71) dX6_run_23 (by decide) (rfl : 23 + 3 = 26) (jI_le (by first | omega | (simp only [bset, reduceIte, Nat.reduceEqDiff]; omega)) (by first | omega | (simp only [bset, reduceIte, Nat.reduceEqDiff]; omega)) (by first | omega | (simp only [bset, reduceIte, Nat.reduceEqDiff]; omega)) (by first | omega | (simp only [bset, reduceIte, Nat.reduceEqDiff]; omega))) (fun h23 => ?_) (fun h23 => ?_)
    · exact fin _ _ _ _ hr1 (by rw [← hr2]; exact (Int.add_zero _).symm)
    · exfalso; omega
end RN

