/-! what keeps a book's bounds -/
section KP
variable {B B2 : zB}
theorem jup_r {p : Int → Int} {z v lo hi : Int} (h : ∀ z, lo ≤ p z ∧ p z ≤ hi) (hv : lo ≤ v ∧ v ≤ hi) : ∀ k, lo ≤ jup p z v k ∧ jup p z v k ≤ hi := by
  intro k
  unfold jup
  split
  · exact hv
  · exact h k
theorem jup_rl {p : Int → Int} {z v lo hi : Int} (h : ∀ z, lo ≤ p z ∧ p z < hi) (hv : lo ≤ v ∧ v < hi) : ∀ k, lo ≤ jup p z v k ∧ jup p z v k < hi := by
  intro k
  unfold jup
  split
  · exact hv
  · exact h k
theorem jok_pl {r n : Int} (ok : jok B) (hr : 0 ≤ r ∧ r < 18) (hn : 1 ≤ n ∧ n ≤ 90) : jok (jpl B r n) := by
  unfold jpl
  split
  · exact jok_st ok hr hn
  · exact ok
theorem jok_lift {n : Int} (ok : jok B) : jok (jlift B n) :=
  ⟨jup_r ok.P (by decide), jup_rl ok.R (by decide), ok.bo, ok.ca, ok.W, ok.wa, ok.da, ok.sa, ok.lo, ok.se, ok.ds, ok.nu, ok.dr, ok.sd, ok.po, ok.da2, ok.sa2⟩
theorem jok_set {s x : Int} (ok : jok B) (hx : 0 ≤ x ∧ x < 100) : jok (bset B 23 (jup (B 23) s x)) :=
  ⟨ok.P, ok.R, ok.bo, ok.ca, ok.W, ok.wa, ok.da, ok.sa, ok.lo, jup_rl ok.se hx, ok.ds, ok.nu, ok.dr, ok.sd, ok.po, ok.da2, ok.sa2⟩
theorem jbc_jset {m k : Int} (hm : 0 ≤ m ∧ m < 64) (hk : 0 ≤ k ∧ k < 6) (h : jbit m k ≠ 1) : jbc (jset m k) = jbc m + 1 := by
  have key : ∀ (x : Fin 64) (y : Fin 6), jbit ((x.val : Nat) : Int) ((y.val : Nat) : Int) ≠ 1 → jbc (jset ((x.val : Nat) : Int) ((y.val : Nat) : Int)) = jbc ((x.val : Nat) : Int) + 1 := by decide +kernel
  obtain ⟨x, rfl⟩ := jfin (N := 64) hm
  obtain ⟨y, rfl⟩ := jfin (N := 6) hk
  exact key x y h
theorem jok_sell {c : Int} (ok : jok B) (hc : 0 ≤ c ∧ c < 6) (h : jfs B c) : jok (jsell B c) := by
  have h1 : jbit (B 11 0) c ≠ 1 := by have := h.1; omega
  have h2 := jbc_jset ok.bo hc h1
  have h3 := ok.po
  have h4 := ok.se 0
  refine ⟨ok.P, ok.R, jset_r ok.bo hc, ok.ca, ok.W, ok.wa, ok.da, ok.sa, ok.lo, ok.se, ok.ds, ok.nu, ok.dr, ok.sd, ?_, ok.da2, ok.sa2⟩
  show 0 ≤ B 16 0 + B 23 0 ∧ B 16 0 + B 23 0 ≤ 99 * jbc (jset (B 11 0) c)
  omega
theorem jok_sc {c g : Int} (ok : jok B) (hc : 0 ≤ c ∧ c < 6) : jok (jsc B c g) := by
  unfold jsc
  split
  · exact ⟨ok.P, ok.R, ok.bo, ok.ca, jup_rl ok.W (jset_r (ok.W g) hc), jup_r ok.wa ok.ca, ok.da, ok.sa, ok.lo, ok.se, ok.ds, ok.nu, ok.dr, ok.sd, ok.po, ok.da2, ok.sa2⟩
  · exact ⟨ok.P, ok.R, ok.bo, ok.ca, ok.W, ok.wa, ok.da, ok.sa, ok.lo, ok.se, ok.ds, ok.nu, ok.dr, ok.sd, ok.po, ok.da2, ok.sa2⟩
theorem jfil_r {p : Int → Int} {n v lo hi : Int} (h : ∀ z, lo ≤ p z ∧ p z ≤ hi) (hv : lo ≤ v ∧ v ≤ hi) : ∀ k, lo ≤ jfil n v p k ∧ jfil n v p k ≤ hi := by
  intro k
  unfold jfil
  split
  · exact hv
  · exact h k
theorem jfil_rl {p : Int → Int} {n v lo hi : Int} (h : ∀ z, lo ≤ p z ∧ p z < hi) (hv : lo ≤ v ∧ v < hi) : ∀ k, lo ≤ jfil n v p k ∧ jfil n v p k < hi := by
  intro k
  unfold jfil
  split
  · exact hv
  · exact h k
theorem jok_end (ok : jok B) : jok (jend B) := by
  have e0 : ∀ i, i ≠ 14 → i ≠ 18 → jpo 4 B i = B i := fun i h1 h2 => jpo_ne h1 h2 B 4
  have g0 : ∀ i : Nat, i ≠ 3 → i ≠ 4 → i ≠ 7 → i ≠ 8 → i ≠ 9 → i ≠ 10 → i ≠ 11 → i ≠ 12 → i ≠ 13 → i ≠ 14 → i ≠ 16 → i ≠ 18 → i ≠ 19 → i ≠ 22 → jend B i = B i := by
    intro i h3 h4 h7 h8 h9 h10 h11 h12 h13 h14 h16 h18 h19 h22
    unfold jend jbeg
    rw [bset_ne h13, bset_ne h12, bset_ne h11, bset_ne h10, bset_ne h9, bset_ne h8, bset_ne h7, bset_ne h4, bset_ne h3, bset_ne h22, bset_ne h16, bset_ne h19]
    exact e0 i h14 h18
  have g3 : jend B 3 = fun z => if 0 ≤ z ∧ z < 90 then z + 1 else B 3 z := by
    rw [← e0 3 (by decide) (by decide)]
    rfl
  have g7 : jend B 7 = jfil 91 0 (B 7) := by
    rw [← e0 7 (by decide) (by decide)]
    rfl
  have g8 : jend B 8 = jfil 91 0 (B 8) := by
    rw [← e0 8 (by decide) (by decide)]
    rfl
  have g9 : jend B 9 = jfil 4 0 (B 9) := by
    rw [← e0 9 (by decide) (by decide)]
    rfl
  have g10 : jend B 10 = jfil 4 0 (B 10) := by
    rw [← e0 10 (by decide) (by decide)]
    rfl
  have g4 : jend B 4 0 = 90 := rfl
  have g11 : jend B 11 0 = 0 := rfl
  have g12 : jend B 12 0 = 0 := rfl
  have g16 : jend B 16 0 = 0 := rfl
  unfold jok
  rw [g0 0 (by decide) (by decide) (by decide) (by decide) (by decide) (by decide) (by decide) (by decide) (by decide) (by decide) (by decide) (by decide) (by decide) (by decide), g0 1 (by decide) (by decide) (by decide) (by decide) (by decide) (by decide) (by decide) (by decide) (by decide) (by decide) (by decide) (by decide) (by decide) (by decide), g0 24 (by decide) (by decide) (by decide) (by decide) (by decide) (by decide) (by decide) (by decide) (by decide) (by decide) (by decide) (by decide) (by decide) (by decide), g0 23 (by decide) (by decide) (by decide) (by decide) (by decide) (by decide) (by decide) (by decide) (by decide) (by decide) (by decide) (by decide) (by decide) (by decide), g0 5 (by decide) (by decide) (by decide) (by decide) (by decide) (by decide) (by decide) (by decide) (by decide) (by decide) (by decide) (by decide) (by decide) (by decide), g0 6 (by decide) (by decide) (by decide) (by decide) (by decide) (by decide) (by decide) (by decide) (by decide) (by decide) (by decide) (by decide) (by decide) (by decide), g3, g7, g8, g9, g10, g4, g11, g12, g16]
  refine ⟨ok.P, ok.R, by decide, by decide, jfil_rl ok.W (by decide), jfil_r ok.wa (by decide), jfil_r ok.da (by decide), jfil_r ok.sa (by decide), ok.lo, ok.se, by decide, ?_, ok.dr, ok.sd, by decide, ?_, ?_⟩
  · intro z h0 h1
    show 1 ≤ (if 0 ≤ z ∧ z < 90 then z + 1 else B 3 z) ∧ (if 0 ≤ z ∧ z < 90 then z + 1 else B 3 z) ≤ 90
    rw [if_pos ⟨h0, h1⟩]
    omega
  · intro z h0 h1
    unfold jfil
    rw [if_pos ⟨h0, h1⟩]
    decide
  · intro z h0 h1
    unfold jfil
    rw [if_pos ⟨h0, h1⟩]
    decide
theorem jcpy_r {p q : Int → Int} {n lo hi : Int} (h : ∀ z, lo ≤ p z ∧ p z ≤ hi) (h2 : ∀ z, lo ≤ q z ∧ q z ≤ hi) : ∀ k, lo ≤ jcpy p q 0 0 n k ∧ jcpy p q 0 0 n k ≤ hi := by
  intro k
  unfold jcpy
  split
  · exact h _
  · exact h2 k
theorem jcpy_rl {p q : Int → Int} {n lo hi : Int} (h : ∀ z, lo ≤ p z ∧ p z < hi) (h2 : ∀ z, lo ≤ q z ∧ q z < hi) : ∀ k, lo ≤ jcpy p q 0 0 n k ∧ jcpy p q 0 0 n k < hi := by
  intro k
  unfold jcpy
  split
  · exact h _
  · exact h2 k
theorem jcpy_at {p q : Int → Int} {n z : Int} (h : 0 ≤ z ∧ z < n) : jcpy p q 0 0 n z = p z := by
  unfold jcpy
  rw [if_pos (by omega), show 0 + (z - 0) = z by omega]
theorem jok_cp (ok : jok B) (ok2 : jok B2) : jok (jcp B B2) := by
  have h0 : jcp B B2 0 = jcpy (B2 0) (B 0) 0 0 162 := rfl
  have h1 : jcp B B2 1 = jcpy (B2 1) (B 1) 0 0 91 := rfl
  have h3 : jcp B B2 3 = jcpy (B2 3) (B 3) 0 0 (B2 4 0) := rfl
  have h4 : jcp B B2 4 = fun _ => B2 4 0 := rfl
  have h5 : jcp B B2 5 = jcpy (B2 5) (B 5) 0 0 90 := rfl
  have h6 : jcp B B2 6 = jcpy (B2 6) (B 6) 0 0 90 := rfl
  have h7 : jcp B B2 7 = jcpy (B2 7) (B 7) 0 0 91 := rfl
  have h8 : jcp B B2 8 = jcpy (B2 8) (B 8) 0 0 91 := rfl
  have h9 : jcp B B2 9 = jcpy (B2 9) (B 9) 0 0 4 := rfl
  have h10 : jcp B B2 10 = jcpy (B2 10) (B 10) 0 0 4 := rfl
  have h11 : jcp B B2 11 = fun _ => B2 11 0 := rfl
  have h12 : jcp B B2 12 = fun _ => B2 12 0 := rfl
  have h16 : jcp B B2 16 = fun _ => B2 16 0 := rfl
  have h23 : jcp B B2 23 = jcpy (B2 23) (B 23) 0 0 3 := rfl
  have h24 : jcp B B2 24 = fun _ => B2 24 0 := rfl
  unfold jok
  rw [h0, h1, h3, h4, h5, h6, h7, h8, h9, h10, h11, h12, h16, h23, h24]
  refine ⟨jcpy_r ok2.P ok.P, jcpy_rl ok2.R ok.R, ok2.bo, ok2.ca, jcpy_rl ok2.W ok.W, jcpy_r ok2.wa ok.wa, jcpy_r ok2.da ok.da, jcpy_r ok2.sa ok.sa, ok2.lo, jcpy_rl ok2.se ok.se, ok2.ds, ?_, jcpy_r ok2.dr ok.dr, jcpy_r ok2.sd ok.sd, ok2.po, ?_, ?_⟩
  · intro z z0 z9
    unfold jcpy
    split
    · exact ok2.nu _ (by omega) (by omega)
    · exact ok.nu z z0 z9
  · intro z z0 z9
    rw [jcpy_at ⟨z0, z9⟩]
    exact ok2.da2 z z0 z9
  · intro z z0 z9
    rw [jcpy_at ⟨z0, z9⟩]
    exact ok2.sa2 z z0 z9
end KP
section CK
variable {σ : zC} {B Y : zB}
theorem cok_xu {i : Nat} (ck : cok σ) (ok : jok Y) : cok (zC.sX σ (zxu σ.X i Y)) := by
  refine ⟨fun k hk => ?_, ck.2⟩
  show jok (zxu σ.X i Y k)
  unfold zxu
  split
  · exact ok
  · exact ck.X k hk
theorem cok_save (ck : cok σ) (ok : jok B) : cok (jsv σ B) := by
  obtain ⟨h3, h4, h5, h6⟩ := cok_sv ck
  have h := cok_xu (i := jsi σ) ck (jok_cp (ck.X _ h5) ok)
  exact ⟨h.1, h.2.1, h3, by show 0 ≤ js2 σ + 1 ∧ js2 σ + 1 ≤ 6; omega, h.2.2.2.2⟩
end CK

