/-! the class's state: the main book is at 6 .. 22; the rest of the cells -/
abbrev zC : Type := (Nat → zB) × (Int → Int) × Int × Int × (Int → Int) × Int
abbrev zC.X (σ : zC) : Nat → zB := σ.1
abbrev zC.kp (σ : zC) : Int → Int := σ.2.1
abbrev zC.old (σ : zC) : Int := σ.2.2.1
abbrev zC.sc (σ : zC) : Int := σ.2.2.2.1
abbrev zC.T (σ : zC) : Int → Int := σ.2.2.2.2.1
abbrev zC.L (σ : zC) : Int := σ.2.2.2.2.2
abbrev zC.sX (σ : zC) (X : Nat → zB) : zC := (X, σ.2)
abbrev zC.sk (σ : zC) (p : Int → Int) : zC := (σ.1, p, σ.2.2)
abbrev zC.os (σ : zC) (o s : Int) : zC := (σ.1, σ.2.1, o, s, σ.2.2.2.2)
abbrev zC.sT (σ : zC) (p : Int → Int) : zC := (σ.1, σ.2.1, σ.2.2.1, σ.2.2.2.1, p, σ.2.2.2.2.2)
abbrev zC.sL (σ : zC) (l : Int) : zC := (σ.1, σ.2.1, σ.2.2.1, σ.2.2.2.1, σ.2.2.2.2.1, l)
abbrev zTau : Type := (Int → Int) × Int × (Int → Int)
abbrev zTau.tf (τ : zTau) : Int → Int := τ.1
abbrev zTau.ts (τ : zTau) : Int := τ.2.1
abbrev zTau.od (τ : zTau) : Int → Int := τ.2.2
abbrev zC5 (old sc : Int) : va_E := .inr (6, [.ref 6, .ref 23, .ref 24, .ref 25, .int (jI old), .int (jI sc), .ref 26, .ref 28, .ref 30])
abbrev zTx (L : Int) : va_E := .inr (5, [.ref 27, .int (jI L)])
abbrev zRa (N b : Nat) : va_E := .inl (4, N, .inr (.inr (.inr (.inr (fun i => if i < N then some (b + 17 * i) else none)))))
def zbx (X : Nat → zB) (j : Nat) : va_E := bkc (X ((j - 31) / 17)) (31 + 17 * ((j - 31) / 17)) ((j - 31) % 17)
def cr (σ : zC) (τ : zTau) (u : zW) : zW := fun j =>
  if j = 5 then some (zC5 σ.old σ.sc) else if j = 23 then some (zRa 2 31) else if j = 24 then some (zba 2 σ.kp) else if j = 25 then some (zRa 6 65) else
  if j = 26 then some (zTx σ.L) else if j = 27 then some (zia 60 σ.T) else if j = 28 then some (zdr 29 τ.ts) else if j = 29 then some (zia 90 τ.tf) else if j = 30 then some (zia 90 τ.od) else
  if 31 ≤ j ∧ j < 167 then some (zbx σ.X j) else u j
section CR
variable {σ : zC} {τ : zTau} {u : zW} {B : zB}
theorem cr_5 : cr σ τ u 5 = some (zC5 σ.old σ.sc) := rfl
theorem cr_23 : cr σ τ u 23 = some (zRa 2 31) := rfl
theorem cr_24 : cr σ τ u 24 = some (zba 2 σ.kp) := rfl
theorem cr_25 : cr σ τ u 25 = some (zRa 6 65) := rfl
theorem cr_26 : cr σ τ u 26 = some (zTx σ.L) := rfl
theorem cr_27 : cr σ τ u 27 = some (zia 60 σ.T) := rfl
theorem cr_28 : cr σ τ u 28 = some (zdr 29 τ.ts) := rfl
theorem cr_29 : cr σ τ u 29 = some (zia 90 τ.tf) := rfl
theorem cr_30 : cr σ τ u 30 = some (zia 90 τ.od) := rfl
theorem cr_bx {j : Nat} (h : 31 ≤ j ∧ j < 167) : cr σ τ u j = some (zbx σ.X j) := by
  unfold cr
  rw [if_neg (by omega), if_neg (by omega), if_neg (by omega), if_neg (by omega), if_neg (by omega), if_neg (by omega), if_neg (by omega), if_neg (by omega), if_neg (by omega), if_pos h]
theorem cr_out {j : Nat} (h : j < 5 ∨ (5 < j ∧ j < 23) ∨ 167 ≤ j) : cr σ τ u j = u j := by
  unfold cr
  rw [if_neg (by omega), if_neg (by omega), if_neg (by omega), if_neg (by omega), if_neg (by omega), if_neg (by omega), if_neg (by omega), if_neg (by omega), if_neg (by omega), if_neg (by omega)]
theorem cr_at {j : Nat} {e : va_E} (hj : j < 6 ∨ 23 ≤ j) (h : cr σ τ u j = some e) : bk 6 B (cr σ τ u) j = some e := (bk_out (by omega)).trans h
/-- a write beside the books -/
theorem cr_upd {j : Nat} {e : va_E} {σ' : zC} {τ' : zTau} (hj : j = 5 ∨ (23 < j ∧ j < 31)) (he : cr σ' τ' u j = some e) (ho : ∀ i, i ≠ j → cr σ' τ' u i = cr σ τ u i) : zup (bk 6 B (cr σ τ u)) j e = bk 6 B (cr σ' τ' u) := by
  rw [bk_zup (by omega)]
  congr 1
  funext i
  unfold zup
  by_cases h : i = j
  · rw [if_pos h, h, he]
  · rw [if_neg h, ho i h]
theorem cru_5 {o s : Int} : zup (bk 6 B (cr σ τ u)) 5 (zC5 o s) = bk 6 B (cr (zC.os σ o s) τ u) :=
  cr_upd (Or.inl rfl) rfl (fun i h => by unfold cr; rw [if_neg h, if_neg h])
theorem cru_24 {p : Int → Int} : zup (bk 6 B (cr σ τ u)) 24 (zba 2 p) = bk 6 B (cr (zC.sk σ p) τ u) :=
  cr_upd (Or.inr (by omega)) rfl (fun i h => by
    unfold cr
    rw [if_neg (c := i = 24) h, if_neg (c := i = 24) h])
theorem cru_26 {l : Int} : zup (bk 6 B (cr σ τ u)) 26 (zTx l) = bk 6 B (cr (zC.sL σ l) τ u) :=
  cr_upd (Or.inr (by omega)) rfl (fun i h => by
    unfold cr
    rw [if_neg (c := i = 26) h, if_neg (c := i = 26) h])
theorem cru_27 {p : Int → Int} : zup (bk 6 B (cr σ τ u)) 27 (zia 60 p) = bk 6 B (cr (zC.sT σ p) τ u) :=
  cr_upd (Or.inr (by omega)) rfl (fun i h => by
    unfold cr
    rw [if_neg (c := i = 27) h, if_neg (c := i = 27) h])
theorem cru_28 {s : Int} : zup (bk 6 B (cr σ τ u)) 28 (zdr 29 s) = bk 6 B (cr σ (τ.1, s, τ.2.2) u) :=
  cr_upd (Or.inr (by omega)) rfl (fun i h => by
    unfold cr
    rw [if_neg (c := i = 28) h, if_neg (c := i = 28) h])
theorem cru_29 {p : Int → Int} : zup (bk 6 B (cr σ τ u)) 29 (zia 90 p) = bk 6 B (cr σ (p, τ.2) u) :=
  cr_upd (Or.inr (by omega)) rfl (fun i h => by
    unfold cr
    rw [if_neg (c := i = 29) h, if_neg (c := i = 29) h])
theorem cru_30 {p : Int → Int} : zup (bk 6 B (cr σ τ u)) 30 (zia 90 p) = bk 6 B (cr σ (τ.1, τ.2.1, p) u) :=
  cr_upd (Or.inr (by omega)) rfl (fun i h => by
    unfold cr
    rw [if_neg (c := i = 30) h, if_neg (c := i = 30) h])
/-- the trial drum's world -/
theorem cr_tw : bk 6 B (cr σ τ u) = bk 6 B (tw 28 29 τ.tf τ.ts (cr σ τ u)) := by
  congr 1
  exact tw_self rfl rfl
theorem tw_cr {f : Int → Int} {s : Int} : tw 28 29 f s (cr σ τ u) = cr σ (f, s, τ.2.2) u := by
  funext i
  unfold tw zup
  by_cases h1 : i = 29
  · rw [if_pos h1, h1]
    rfl
  · rw [if_neg h1]
    by_cases h2 : i = 28
    · rw [if_pos h2, h2]
      rfl
    · rw [if_neg h2]
      unfold cr
      rw [if_neg (c := i = 28) h2, if_neg (c := i = 28) h2, if_neg (c := i = 29) h1, if_neg (c := i = 29) h1]
/-- the other books -/
def zxu (X : Nat → zB) (i : Nat) (Y : zB) : Nat → zB := fun k => if k = i then Y else X k
theorem cr_bk {i : Nat} (hi : i < 8) : cr σ τ u = bk (31 + 17 * i) (σ.X i) (cr σ τ u) := by
  funext j
  by_cases h : 31 + 17 * i ≤ j ∧ j < 31 + 17 * i + 17
  · rw [cr_bx (by omega)]
    unfold bk zbx
    rw [if_pos h, show (j - 31) / 17 = i by omega, show (j - 31) % 17 = j - (31 + 17 * i) by omega]
  · rw [bk_out (by omega)]
theorem bk_cr {i : Nat} (hi : i < 8) {Y : zB} : bk (31 + 17 * i) Y (cr σ τ u) = cr (zC.sX σ (zxu σ.X i Y)) τ u := by
  funext j
  by_cases h2 : 31 ≤ j ∧ j < 167
  · refine Eq.trans ?_ (cr_bx h2).symm
    show _ = some (bkc (zxu σ.X i Y ((j - 31) / 17)) (31 + 17 * ((j - 31) / 17)) ((j - 31) % 17))
    unfold zxu
    by_cases h : 31 + 17 * i ≤ j ∧ j < 31 + 17 * i + 17
    · unfold bk
      rw [if_pos h, if_pos (by omega), show (j - 31) / 17 = i by omega, show (j - 31) % 17 = j - (31 + 17 * i) by omega]
    · rw [bk_out (by omega), cr_bx h2, if_neg (by omega)]
      rfl
  · rw [bk_out (by omega)]
    unfold cr
    rw [if_neg h2, if_neg h2]
theorem bk_comm {b b2 : Nat} {B2 : zB} {w : zW} (h : b + 17 ≤ b2 ∨ b2 + 17 ≤ b) : bk b B (bk b2 B2 w) = bk b2 B2 (bk b B w) := by
  funext j
  by_cases h1 : b ≤ j ∧ j < b + 17
  · rw [bk_out (b := b2) (by omega)]
    unfold bk
    rw [if_pos h1, if_pos h1]
  · rw [bk_out (b := b) (by omega)]
    by_cases h2 : b2 ≤ j ∧ j < b2 + 17
    · unfold bk
      rw [if_pos h2, if_pos h2]
    · rw [bk_out (b := b2) (by omega), bk_out (b := b2) (by omega), bk_out (b := b) (by omega)]
end CR
section SV
variable {Γ : zΓ} {d : Nat} {σ : zC} {τ : zTau} {u w : zW} {B : zB}
theorem s_needPlace : zFn Γ md_X6_needPlace d [.int (jI 1)] w none w := by
  refine zFn.of_run (lv := [some (.int (jI 1))]) (by decide) rfl (Nat.le_of_ble_eq_true rfl) rfl (fun n9 g9 => ?_)
  refine zr_iload_n dX6_needPlace_0 (rfl : 0 + 1 = 1) rfl ?_
  refine zr_if_ne (tgt := 15) dX6_needPlace_1 (by decide) (rfl : 1 + 3 = 4) (by first | exact jb_iff | exact jI_z (by first | omega | (simp only [bset, reduceIte, Nat.reduceEqDiff]; omega)) (by first | omega | (simp only [bset, reduceIte, Nat.reduceEqDiff]; omega))) (fun h1 => ?_) (fun h1 => ?_)
  · first
    | (exfalso; omega)
    | (
      exact zr_vret dX6_needPlace_15 rfl rfl rfl rfl)
  · first
    | (exfalso; omega)
    | (
      exfalso; omega)
theorem s_needValue : zFn Γ md_X6_needValue d [.int (jI 1)] w none w := by
  refine zFn.of_run (lv := [some (.int (jI 1))]) (by decide) rfl (Nat.le_of_ble_eq_true rfl) rfl (fun n9 g9 => ?_)
  refine zr_iload_n dX6_needValue_0 (rfl : 0 + 1 = 1) rfl ?_
  refine zr_if_ne (tgt := 15) dX6_needValue_1 (by decide) (rfl : 1 + 3 = 4) (by first | exact jb_iff | exact jI_z (by first | omega | (simp only [bset, reduceIte, Nat.reduceEqDiff]; omega)) (by first | omega | (simp only [bset, reduceIte, Nat.reduceEqDiff]; omega))) (fun h1 => ?_) (fun h1 => ?_)
  · first
    | (exfalso; omega)
    | (
      exact zr_vret dX6_needValue_15 rfl rfl rfl rfl)
  · first
    | (exfalso; omega)
    | (
      exfalso; omega)
theorem s_needState : zFn Γ md_X6_needState d [.int (jI 1)] w none w := by
  refine zFn.of_run (lv := [some (.int (jI 1))]) (by decide) rfl (Nat.le_of_ble_eq_true rfl) rfl (fun n9 g9 => ?_)
  refine zr_iload_n dX6_needState_0 (rfl : 0 + 1 = 1) rfl ?_
  refine zr_if_ne (tgt := 15) dX6_needState_1 (by decide) (rfl : 1 + 3 = 4) (by first | exact jb_iff | exact jI_z (by first | omega | (simp only [bset, reduceIte, Nat.reduceEqDiff]; omega)) (by first | omega | (simp only [bset, reduceIte, Nat.reduceEqDiff]; omega))) (fun h1 => ?_) (fun h1 => ?_)
  · first
    | (exfalso; omega)
    | (
      exact zr_vret dX6_needState_15 rfl rfl rfl rfl)
  · first
    | (exfalso; omega)
    | (
      exfalso; omega)
theorem t_needPlace : zThr Γ md_X6_needPlace (d + 6) [.int (jI 0)] w zIOB := fun n g =>
  zTh_of (ik := 345) (is := 347) (ic := 349) (text := "there is no such place, card, game or setting") rfl (by decide) rfl rfl ⟨by decide +kernel, by decide +kernel, by decide +kernel, by decide +kernel⟩ (fun h => h.2.2.2.2.2.2.2.2.2.2.2.2.2.1) dX6_needPlace_0 dX6_needPlace_1 dX6_needPlace_4 dX6_needPlace_7 dX6_needPlace_8 dX6_needPlace_11 dX6_needPlace_14
theorem t_needValue : zThr Γ md_X6_needValue (d + 6) [.int (jI 0)] w zIAE := fun n g =>
  zTh_of (ik := 352) (is := 354) (ic := 356) (text := "a value is out of range") rfl (by decide) rfl rfl ⟨by decide +kernel, by decide +kernel, by decide +kernel, by decide +kernel⟩ (fun h => h.2.2.2.2.2.2.2.2.2.2.2.2.2.2.1) dX6_needValue_0 dX6_needValue_1 dX6_needValue_4 dX6_needValue_7 dX6_needValue_8 dX6_needValue_11 dX6_needValue_14
theorem t_needState : zThr Γ md_X6_needState (d + 6) [.int (jI 0)] w zISE := fun n g =>
  zTh_of (ik := 357) (is := 359) (ic := 361) (text := "this cannot be done now") rfl (by decide) rfl rfl ⟨by decide +kernel, by decide +kernel, by decide +kernel, by decide +kernel⟩ (fun h => h.2.2.2.2.2.2.2.2.2.2.2.2.2.2.2.1) dX6_needState_0 dX6_needState_1 dX6_needState_4 dX6_needState_7 dX6_needState_8 dX6_needState_11 dX6_needState_14
/-- the state's bounds -/
def cok (σ : zC) : Prop := (∀ i, i < 8 → jok (σ.X i)) ∧ (∀ z, 0 ≤ σ.kp z ∧ σ.kp z ≤ 1) ∧ (0 ≤ σ.old ∧ σ.old < 6) ∧ (0 ≤ σ.sc ∧ σ.sc ≤ 6) ∧ (∀ z, 0 ≤ σ.T z ∧ σ.T z ≤ 126) ∧ (0 ≤ σ.L ∧ σ.L ≤ 60)
theorem cok.X {σ : zC} (h : cok σ) : ∀ i, i < 8 → jok (σ.X i) := h.1
theorem cok.kp {σ : zC} (h : cok σ) : ∀ z, 0 ≤ σ.kp z ∧ σ.kp z ≤ 1 := h.2.1
theorem cok.old {σ : zC} (h : cok σ) : 0 ≤ σ.old ∧ σ.old < 6 := h.2.2.1
theorem cok.sc {σ : zC} (h : cok σ) : 0 ≤ σ.sc ∧ σ.sc ≤ 6 := h.2.2.2.1
theorem cok.T {σ : zC} (h : cok σ) : ∀ z, 0 ≤ σ.T z ∧ σ.T z ≤ 126 := h.2.2.2.2.1
theorem cok.L {σ : zC} (h : cok σ) : 0 ≤ σ.L ∧ σ.L ≤ 60 := h.2.2.2.2.2
def jo2 (σ : zC) : Int := if σ.sc = 6 then (σ.old + 1) % 6 else σ.old
def js2 (σ : zC) : Int := if σ.sc = 6 then 5 else σ.sc
def jsi (σ : zC) : Nat := 2 + ((jo2 σ + js2 σ) % 6).toNat
def jsv (σ : zC) (B : zB) : zC := zC.os (zC.sX σ (zxu σ.X (jsi σ) (jcp (σ.X (jsi σ)) B))) (jo2 σ) (js2 σ + 1)
theorem cok_sv (ck : cok σ) : (0 ≤ jo2 σ ∧ jo2 σ < 6) ∧ (0 ≤ js2 σ ∧ js2 σ ≤ 5) ∧ jsi σ < 8 ∧ 2 ≤ jsi σ := by
  have h1 := ck.old
  have h2 := ck.sc
  unfold jsi jo2 js2
  split <;> omega
theorem s_save (ck : cok σ) (ok : jok B) : zFn Γ md_X6_save (d + 4) [.ref 5] (bk 6 B (cr σ τ u)) none (bk 6 B (cr (jsv σ B) τ u)) := by
  have h1 := ck.old
  have h2 := ck.sc
  obtain ⟨h3, h4, h5, h6⟩ := cok_sv ck
  have hca := ok.ca
  have hds := ok.ds
  refine zFn.of_run (lv := [some (.ref 5)]) (by decide) rfl (Nat.le_of_ble_eq_true rfl) rfl (fun n9 g9 => ?_)
  have fin : ∀ σ2 : zC, σ2 = zC.os σ (jo2 σ) (js2 σ) → zRun Γ md_X6_save (d + 4) none 32 [some (.ref 5)] [] (n9, g9, 0, 0) (bk 6 B (cr σ2 τ u)) (zDone md_X6_save none (bk 6 B (cr (jsv σ B) τ u)) n9 g9) := by
    intro σ2 e
    have e6 : 0 ≤ (jo2 σ + js2 σ) % 6 ∧ (jo2 σ + js2 σ) % 6 < 6 := ⟨Int.emod_nonneg _ (by decide), Int.emod_lt_of_pos _ (by decide)⟩
    have e1 : σ2.old = jo2 σ := by rw [e]
    have e2 : σ2.sc = js2 σ := by rw [e]
    have e3 : σ2.X = σ.X := by rw [e]
    refine zr_aload_n dX6_save_32 (rfl : 32 + 1 = 33) rfl ?_
    refine zr_getf dX6_save_33 (rfl : 33 + 3 = 36) f_X6_24 (by first | assumption | exact mw_167 | exact mw_168 | exact mw_169 | exact mw_170 | exact bk_0 | exact bk_1 | exact bk_2 | exact bk_3 | exact bk_4 | exact bk_5 | exact bk_6 | exact bk_7 | exact bk_8 | exact bk_9 | exact bk_10 | exact bk_11 | exact bk_12 | exact bk_13 | exact bk_14 | exact bk_15 | exact bk_16 | exact zup_self | exact (zup_ne (by first | assumption | omega)).trans (by first | assumption | exact zup_self) | exact (zup_ne (by first | assumption | omega)).trans ((zup_ne (by first | assumption | omega)).trans (by first | assumption | exact zup_self)) | exact (bk_out (by first | omega | (simp only [bset, reduceIte, Nat.reduceEqDiff]; omega))).trans (by first | exact bk_0 | exact bk_1 | exact bk_2 | exact bk_3 | exact bk_4 | exact bk_5 | exact bk_6 | exact bk_7 | exact bk_8 | exact bk_9 | exact bk_10 | exact bk_11 | exact bk_12 | exact bk_13 | exact bk_14 | exact bk_15 | exact bk_16 | exact cr_5 | exact cr_23 | exact cr_24 | exact cr_25 | exact cr_26 | exact cr_27 | exact cr_28 | exact cr_29 | exact cr_30 | assumption)) rfl ?_
    refine zr_aload_n dX6_save_36 (rfl : 36 + 1 = 37) rfl ?_
    refine zr_getf dX6_save_37 (rfl : 37 + 3 = 40) f_X6_173 (by first | assumption | exact mw_167 | exact mw_168 | exact mw_169 | exact mw_170 | exact bk_0 | exact bk_1 | exact bk_2 | exact bk_3 | exact bk_4 | exact bk_5 | exact bk_6 | exact bk_7 | exact bk_8 | exact bk_9 | exact bk_10 | exact bk_11 | exact bk_12 | exact bk_13 | exact bk_14 | exact bk_15 | exact bk_16 | exact zup_self | exact (zup_ne (by first | assumption | omega)).trans (by first | assumption | exact zup_self) | exact (zup_ne (by first | assumption | omega)).trans ((zup_ne (by first | assumption | omega)).trans (by first | assumption | exact zup_self)) | exact (bk_out (by first | omega | (simp only [bset, reduceIte, Nat.reduceEqDiff]; omega))).trans (by first | exact bk_0 | exact bk_1 | exact bk_2 | exact bk_3 | exact bk_4 | exact bk_5 | exact bk_6 | exact bk_7 | exact bk_8 | exact bk_9 | exact bk_10 | exact bk_11 | exact bk_12 | exact bk_13 | exact bk_14 | exact bk_15 | exact bk_16 | exact cr_5 | exact cr_23 | exact cr_24 | exact cr_25 | exact cr_26 | exact cr_27 | exact cr_28 | exact cr_29 | exact cr_30 | assumption)) rfl ?_
    refine zr_aload_n dX6_save_40 (rfl : 40 + 1 = 41) rfl ?_
    refine zr_getf dX6_save_41 (rfl : 41 + 3 = 44) f_X6_170 (by first | assumption | exact mw_167 | exact mw_168 | exact mw_169 | exact mw_170 | exact bk_0 | exact bk_1 | exact bk_2 | exact bk_3 | exact bk_4 | exact bk_5 | exact bk_6 | exact bk_7 | exact bk_8 | exact bk_9 | exact bk_10 | exact bk_11 | exact bk_12 | exact bk_13 | exact bk_14 | exact bk_15 | exact bk_16 | exact zup_self | exact (zup_ne (by first | assumption | omega)).trans (by first | assumption | exact zup_self) | exact (zup_ne (by first | assumption | omega)).trans ((zup_ne (by first | assumption | omega)).trans (by first | assumption | exact zup_self)) | exact (bk_out (by first | omega | (simp only [bset, reduceIte, Nat.reduceEqDiff]; omega))).trans (by first | exact bk_0 | exact bk_1 | exact bk_2 | exact bk_3 | exact bk_4 | exact bk_5 | exact bk_6 | exact bk_7 | exact bk_8 | exact bk_9 | exact bk_10 | exact bk_11 | exact bk_12 | exact bk_13 | exact bk_14 | exact bk_15 | exact bk_16 | exact cr_5 | exact cr_23 | exact cr_24 | exact cr_25 | exact cr_26 | exact cr_27 | exact cr_28 | exact cr_29 | exact cr_30 | assumption)) rfl ?_
    refine zr_iadd dX6_save_44 (rfl : 44 + 1 = 45) (by first | exact jI_add _ _ | rfl) ?_
    refine zr_bipush dX6_save_45 (rfl : 45 + 2 = 47) (by decide) ?_
    refine zr_irem dX6_save_47 (rfl : 47 + 1 = 48) (fun q => absurd ((jI_z (by first | omega | (simp only [bset, reduceIte, Nat.reduceEqDiff]; omega)) (by first | omega | (simp only [bset, reduceIte, Nat.reduceEqDiff]; omega))).mp q) (by first | omega | (simp only [bset, reduceIte, Nat.reduceEqDiff]; omega))) (jI_rem (by first | omega | (simp only [bset, reduceIte, Nat.reduceEqDiff]; omega)) (by first | omega | (simp only [bset, reduceIte, Nat.reduceEqDiff]; omega)) (by first | omega | (simp only [bset, reduceIte, Nat.reduceEqDiff]; omega)) (by first | omega | (simp only [bset, reduceIte, Nat.reduceEqDiff]; omega))) ?_
    rw [e1, e2]
    refine zr_aald dX6_save_48 (rfl : 48 + 1 = 49) (cr_at (by first | omega | (simp only [bset, reduceIte, Nat.reduceEqDiff]; omega)) cr_25) (by decide) e6.1 e6.2 (if_pos (by first | omega | (simp only [bset, reduceIte, Nat.reduceEqDiff]; omega))) ?_
    refine zr_aload_n dX6_save_49 (rfl : 49 + 1 = 50) rfl ?_
    refine zr_getf dX6_save_50 (rfl : 50 + 3 = 53) f_X6_10 (by first | assumption | exact mw_167 | exact mw_168 | exact mw_169 | exact mw_170 | exact bk_0 | exact bk_1 | exact bk_2 | exact bk_3 | exact bk_4 | exact bk_5 | exact bk_6 | exact bk_7 | exact bk_8 | exact bk_9 | exact bk_10 | exact bk_11 | exact bk_12 | exact bk_13 | exact bk_14 | exact bk_15 | exact bk_16 | exact zup_self | exact (zup_ne (by first | assumption | omega)).trans (by first | assumption | exact zup_self) | exact (zup_ne (by first | assumption | omega)).trans ((zup_ne (by first | assumption | omega)).trans (by first | assumption | exact zup_self)) | exact (bk_out (by first | omega | (simp only [bset, reduceIte, Nat.reduceEqDiff]; omega))).trans (by first | exact bk_0 | exact bk_1 | exact bk_2 | exact bk_3 | exact bk_4 | exact bk_5 | exact bk_6 | exact bk_7 | exact bk_8 | exact bk_9 | exact bk_10 | exact bk_11 | exact bk_12 | exact bk_13 | exact bk_14 | exact bk_15 | exact bk_16 | exact cr_5 | exact cr_23 | exact cr_24 | exact cr_25 | exact cr_26 | exact cr_27 | exact cr_28 | exact cr_29 | exact cr_30 | assumption)) rfl ?_
    have hcp := s_bookCopy (Γ := Γ) (d := d) (w := cr σ2 τ u) (b := 31 + 17 * jsi σ) (B := σ2.X (jsi σ)) (b2 := 6) (B2 := B) (by omega) (by omega)
    rw [bk_comm (by omega), bk_comm (b := 31 + 17 * jsi σ) (by omega), ← cr_bk h5, bk_cr h5] at hcp
    rw [show 65 + 17 * ((jo2 σ + js2 σ) % 6).toNat = 31 + 17 * jsi σ by unfold jsi; omega]
    refine zr_fnV dX6_save_53 (rfl : 53 + 3 = 56) l_X6_165 hcp (by rw [cr_bk (σ := σ2) h5, bk_comm (by first | omega | (simp only [bset, reduceIte, Nat.reduceEqDiff]; omega))]; exact bk_0) rfl rfl rfl (Nat.le_of_ble_eq_true rfl) ?_
    have f2 : (zC.sX σ2 (zxu σ2.X (jsi σ) (jcp (σ2.X (jsi σ)) B))).sc = js2 σ := e2
    have f1 : (zC.sX σ2 (zxu σ2.X (jsi σ) (jcp (σ2.X (jsi σ)) B))).old = jo2 σ := e1
    have f3 : jsv σ B = zC.os (zC.sX σ2 (zxu σ2.X (jsi σ) (jcp (σ2.X (jsi σ)) B))) (jo2 σ) (js2 σ + 1) := by
      rw [e]
      rfl
    generalize (zC.sX σ2 (zxu σ2.X (jsi σ) (jcp (σ2.X (jsi σ)) B))) = σ3 at f1 f2 f3 ⊢
    rw [f3]
    refine zr_aload_n dX6_save_56 (rfl : 56 + 1 = 57) rfl ?_
    refine zr_dup dX6_save_57 (rfl : 57 + 1 = 58) rfl ?_
    refine zr_getf dX6_save_58 (rfl : 58 + 3 = 61) f_X6_170 (by first | assumption | exact mw_167 | exact mw_168 | exact mw_169 | exact mw_170 | exact bk_0 | exact bk_1 | exact bk_2 | exact bk_3 | exact bk_4 | exact bk_5 | exact bk_6 | exact bk_7 | exact bk_8 | exact bk_9 | exact bk_10 | exact bk_11 | exact bk_12 | exact bk_13 | exact bk_14 | exact bk_15 | exact bk_16 | exact zup_self | exact (zup_ne (by first | assumption | omega)).trans (by first | assumption | exact zup_self) | exact (zup_ne (by first | assumption | omega)).trans ((zup_ne (by first | assumption | omega)).trans (by first | assumption | exact zup_self)) | exact (bk_out (by first | omega | (simp only [bset, reduceIte, Nat.reduceEqDiff]; omega))).trans (by first | exact bk_0 | exact bk_1 | exact bk_2 | exact bk_3 | exact bk_4 | exact bk_5 | exact bk_6 | exact bk_7 | exact bk_8 | exact bk_9 | exact bk_10 | exact bk_11 | exact bk_12 | exact bk_13 | exact bk_14 | exact bk_15 | exact bk_16 | exact cr_5 | exact cr_23 | exact cr_24 | exact cr_25 | exact cr_26 | exact cr_27 | exact cr_28 | exact cr_29 | exact cr_30 | assumption)) rfl ?_
    refine zr_iconst dX6_save_61 (rfl : 61 + 1 = 62) ?_
    refine zr_iadd dX6_save_62 (rfl : 62 + 1 = 63) (by first | exact jI_add _ _ | rfl) ?_
    refine zr_putf (fs' := [_, _, _, _, _, _, _, _, _]) dX6_save_63 (rfl : 63 + 3 = 66) f_X6_170 ft_6_5 (by first | assumption | exact mw_167 | exact mw_168 | exact mw_169 | exact mw_170 | exact bk_0 | exact bk_1 | exact bk_2 | exact bk_3 | exact bk_4 | exact bk_5 | exact bk_6 | exact bk_7 | exact bk_8 | exact bk_9 | exact bk_10 | exact bk_11 | exact bk_12 | exact bk_13 | exact bk_14 | exact bk_15 | exact bk_16 | exact zup_self | exact (zup_ne (by first | assumption | omega)).trans (by first | assumption | exact zup_self) | exact (zup_ne (by first | assumption | omega)).trans ((zup_ne (by first | assumption | omega)).trans (by first | assumption | exact zup_self)) | exact (bk_out (by first | omega | (simp only [bset, reduceIte, Nat.reduceEqDiff]; omega))).trans (by first | exact bk_0 | exact bk_1 | exact bk_2 | exact bk_3 | exact bk_4 | exact bk_5 | exact bk_6 | exact bk_7 | exact bk_8 | exact bk_9 | exact bk_10 | exact bk_11 | exact bk_12 | exact bk_13 | exact bk_14 | exact bk_15 | exact bk_16 | exact cr_5 | exact cr_23 | exact cr_24 | exact cr_25 | exact cr_26 | exact cr_27 | exact cr_28 | exact cr_29 | exact cr_30 | assumption)) (Nat.le_of_ble_eq_true rfl) rfl rfl rfl ?_
    rw [f1, f2, cru_5]
    exact zr_vret dX6_save_66 rfl rfl rfl rfl
  refine zr_aload_n dX6_save_0 (rfl : 0 + 1 = 1) rfl ?_
  refine zr_getf dX6_save_1 (rfl : 1 + 3 = 4) f_X6_170 (by first | assumption | exact mw_167 | exact mw_168 | exact mw_169 | exact mw_170 | exact bk_0 | exact bk_1 | exact bk_2 | exact bk_3 | exact bk_4 | exact bk_5 | exact bk_6 | exact bk_7 | exact bk_8 | exact bk_9 | exact bk_10 | exact bk_11 | exact bk_12 | exact bk_13 | exact bk_14 | exact bk_15 | exact bk_16 | exact zup_self | exact (zup_ne (by first | assumption | omega)).trans (by first | assumption | exact zup_self) | exact (zup_ne (by first | assumption | omega)).trans ((zup_ne (by first | assumption | omega)).trans (by first | assumption | exact zup_self)) | exact (bk_out (by first | omega | (simp only [bset, reduceIte, Nat.reduceEqDiff]; omega))).trans (by first | exact bk_0 | exact bk_1 | exact bk_2 | exact bk_3 | exact bk_4 | exact bk_5 | exact bk_6 | exact bk_7 | exact bk_8 | exact bk_9 | exact bk_10 | exact bk_11 | exact bk_12 | exact bk_13 | exact bk_14 | exact bk_15 | exact bk_16 | exact cr_5 | exact cr_23 | exact cr_24 | exact cr_25 | exact cr_26 | exact cr_27 | exact cr_28 | exact cr_29 | exact cr_30 | assumption)) rfl ?_
  refine zr_bipush dX6_save_4 (rfl : 4 + 2 = 6) (by decide) ?_
  refine zr_icmp_ne (tgt := 32) dX6_save_6 (by decide) (rfl : 6 + 3 = 9) (jI_eq (by first | omega | (simp only [bset, reduceIte, Nat.reduceEqDiff]; omega)) (by first | omega | (simp only [bset, reduceIte, Nat.reduceEqDiff]; omega)) (by first | omega | (simp only [bset, reduceIte, Nat.reduceEqDiff]; omega)) (by first | omega | (simp only [bset, reduceIte, Nat.reduceEqDiff]; omega))) (fun h6 => ?_) (fun h6 => ?_)
  · first
    | (exfalso; omega)
    | (
      first
      | (refine fin _ ?_; unfold jo2 js2; rw [if_neg (by omega), if_neg (by omega)]; done)
      | (rw [cru_5]; refine fin _ ?_; unfold jo2 js2; rw [if_pos (by omega), if_pos (by omega)]; show zC.os σ ((σ.old + 1) % 6) (σ.sc - 1) = _; rw [show σ.sc - 1 = 5 by omega]))
  · first
    | (exfalso; omega)
    | (
      refine zr_aload_n dX6_save_9 (rfl : 9 + 1 = 10) rfl ?_
      refine zr_aload_n dX6_save_10 (rfl : 10 + 1 = 11) rfl ?_
      refine zr_getf dX6_save_11 (rfl : 11 + 3 = 14) f_X6_173 (by first | assumption | exact mw_167 | exact mw_168 | exact mw_169 | exact mw_170 | exact bk_0 | exact bk_1 | exact bk_2 | exact bk_3 | exact bk_4 | exact bk_5 | exact bk_6 | exact bk_7 | exact bk_8 | exact bk_9 | exact bk_10 | exact bk_11 | exact bk_12 | exact bk_13 | exact bk_14 | exact bk_15 | exact bk_16 | exact zup_self | exact (zup_ne (by first | assumption | omega)).trans (by first | assumption | exact zup_self) | exact (zup_ne (by first | assumption | omega)).trans ((zup_ne (by first | assumption | omega)).trans (by first | assumption | exact zup_self)) | exact (bk_out (by first | omega | (simp only [bset, reduceIte, Nat.reduceEqDiff]; omega))).trans (by first | exact bk_0 | exact bk_1 | exact bk_2 | exact bk_3 | exact bk_4 | exact bk_5 | exact bk_6 | exact bk_7 | exact bk_8 | exact bk_9 | exact bk_10 | exact bk_11 | exact bk_12 | exact bk_13 | exact bk_14 | exact bk_15 | exact bk_16 | exact cr_5 | exact cr_23 | exact cr_24 | exact cr_25 | exact cr_26 | exact cr_27 | exact cr_28 | exact cr_29 | exact cr_30 | assumption)) rfl ?_
      refine zr_iconst dX6_save_14 (rfl : 14 + 1 = 15) ?_
      refine zr_iadd dX6_save_15 (rfl : 15 + 1 = 16) (by first | exact jI_add _ _ | rfl) ?_
      refine zr_bipush dX6_save_16 (rfl : 16 + 2 = 18) (by decide) ?_
      refine zr_irem dX6_save_18 (rfl : 18 + 1 = 19) (fun q => absurd ((jI_z (by first | omega | (simp only [bset, reduceIte, Nat.reduceEqDiff]; omega)) (by first | omega | (simp only [bset, reduceIte, Nat.reduceEqDiff]; omega))).mp q) (by first | omega | (simp only [bset, reduceIte, Nat.reduceEqDiff]; omega))) (jI_rem (by first | omega | (simp only [bset, reduceIte, Nat.reduceEqDiff]; omega)) (by first | omega | (simp only [bset, reduceIte, Nat.reduceEqDiff]; omega)) (by first | omega | (simp only [bset, reduceIte, Nat.reduceEqDiff]; omega)) (by first | omega | (simp only [bset, reduceIte, Nat.reduceEqDiff]; omega))) ?_
      refine zr_putf (fs' := [_, _, _, _, _, _, _, _, _]) dX6_save_19 (rfl : 19 + 3 = 22) f_X6_173 ft_6_4 (by first | assumption | exact mw_167 | exact mw_168 | exact mw_169 | exact mw_170 | exact bk_0 | exact bk_1 | exact bk_2 | exact bk_3 | exact bk_4 | exact bk_5 | exact bk_6 | exact bk_7 | exact bk_8 | exact bk_9 | exact bk_10 | exact bk_11 | exact bk_12 | exact bk_13 | exact bk_14 | exact bk_15 | exact bk_16 | exact zup_self | exact (zup_ne (by first | assumption | omega)).trans (by first | assumption | exact zup_self) | exact (zup_ne (by first | assumption | omega)).trans ((zup_ne (by first | assumption | omega)).trans (by first | assumption | exact zup_self)) | exact (bk_out (by first | omega | (simp only [bset, reduceIte, Nat.reduceEqDiff]; omega))).trans (by first | exact bk_0 | exact bk_1 | exact bk_2 | exact bk_3 | exact bk_4 | exact bk_5 | exact bk_6 | exact bk_7 | exact bk_8 | exact bk_9 | exact bk_10 | exact bk_11 | exact bk_12 | exact bk_13 | exact bk_14 | exact bk_15 | exact bk_16 | exact cr_5 | exact cr_23 | exact cr_24 | exact cr_25 | exact cr_26 | exact cr_27 | exact cr_28 | exact cr_29 | exact cr_30 | assumption)) (Nat.le_of_ble_eq_true rfl) rfl rfl rfl ?_
      rw [cru_5]
      refine zr_aload_n dX6_save_22 (rfl : 22 + 1 = 23) rfl ?_
      refine zr_dup dX6_save_23 (rfl : 23 + 1 = 24) rfl ?_
      refine zr_getf dX6_save_24 (rfl : 24 + 3 = 27) f_X6_170 (by first | assumption | exact mw_167 | exact mw_168 | exact mw_169 | exact mw_170 | exact bk_0 | exact bk_1 | exact bk_2 | exact bk_3 | exact bk_4 | exact bk_5 | exact bk_6 | exact bk_7 | exact bk_8 | exact bk_9 | exact bk_10 | exact bk_11 | exact bk_12 | exact bk_13 | exact bk_14 | exact bk_15 | exact bk_16 | exact zup_self | exact (zup_ne (by first | assumption | omega)).trans (by first | assumption | exact zup_self) | exact (zup_ne (by first | assumption | omega)).trans ((zup_ne (by first | assumption | omega)).trans (by first | assumption | exact zup_self)) | exact (bk_out (by first | omega | (simp only [bset, reduceIte, Nat.reduceEqDiff]; omega))).trans (by first | exact bk_0 | exact bk_1 | exact bk_2 | exact bk_3 | exact bk_4 | exact bk_5 | exact bk_6 | exact bk_7 | exact bk_8 | exact bk_9 | exact bk_10 | exact bk_11 | exact bk_12 | exact bk_13 | exact bk_14 | exact bk_15 | exact bk_16 | exact cr_5 | exact cr_23 | exact cr_24 | exact cr_25 | exact cr_26 | exact cr_27 | exact cr_28 | exact cr_29 | exact cr_30 | assumption)) rfl ?_
      refine zr_iconst dX6_save_27 (rfl : 27 + 1 = 28) ?_
      refine zr_isub dX6_save_28 (rfl : 28 + 1 = 29) (by first | exact jI_sub _ _ | rfl) ?_
      refine zr_putf (fs' := [_, _, _, _, _, _, _, _, _]) dX6_save_29 (rfl : 29 + 3 = 32) f_X6_170 ft_6_5 (by first | assumption | exact mw_167 | exact mw_168 | exact mw_169 | exact mw_170 | exact bk_0 | exact bk_1 | exact bk_2 | exact bk_3 | exact bk_4 | exact bk_5 | exact bk_6 | exact bk_7 | exact bk_8 | exact bk_9 | exact bk_10 | exact bk_11 | exact bk_12 | exact bk_13 | exact bk_14 | exact bk_15 | exact bk_16 | exact zup_self | exact (zup_ne (by first | assumption | omega)).trans (by first | assumption | exact zup_self) | exact (zup_ne (by first | assumption | omega)).trans ((zup_ne (by first | assumption | omega)).trans (by first | assumption | exact zup_self)) | exact (bk_out (by first | omega | (simp only [bset, reduceIte, Nat.reduceEqDiff]; omega))).trans (by first | exact bk_0 | exact bk_1 | exact bk_2 | exact bk_3 | exact bk_4 | exact bk_5 | exact bk_6 | exact bk_7 | exact bk_8 | exact bk_9 | exact bk_10 | exact bk_11 | exact bk_12 | exact bk_13 | exact bk_14 | exact bk_15 | exact bk_16 | exact cr_5 | exact cr_23 | exact cr_24 | exact cr_25 | exact cr_26 | exact cr_27 | exact cr_28 | exact cr_29 | exact cr_30 | assumption)) (Nat.le_of_ble_eq_true rfl) rfl rfl rfl ?_
      first
      | (refine fin _ ?_; unfold jo2 js2; rw [if_neg (by omega), if_neg (by omega)]; done)
      | (rw [cru_5]; refine fin _ ?_; unfold jo2 js2; rw [if_pos (by omega), if_pos (by omega)]; show zC.os σ ((σ.old + 1) % 6) (σ.sc - 1) = _; rw [show σ.sc - 1 = 5 by omega]))
end SV

