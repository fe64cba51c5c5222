/-! THE LAW: its world, its calls -/
abbrev zla (f : Nat → Int64) : va_E := .inl (1, 1, .inr (.inl f))
def zw0 (f : Nat → Int64) : zW := fun j => if j = 171 then some (zla f) else none
section LW
variable {B : zB} {σ : zC} {τ : zTau} {S ik tx : Int → Int} {st th ty : Int} {u : zW} {f f2 : Nat → Int64}
theorem lc_comm : bk 6 B (cr σ τ (mw S st ik th tx ty u)) = mw S st ik th tx ty (bk 6 B (cr σ τ u)) := by
  funext j
  by_cases h : 167 ≤ j ∧ j ≤ 170
  · rw [bk_out (by omega), cr_out (by omega)]
    rcases (by omega : j = 167 ∨ j = 168 ∨ j = 169 ∨ j = 170) with rfl | rfl | rfl | rfl <;> rfl
  · rw [mw_out (by omega)]
    unfold bk cr
    rw [mw_out (by omega)]
theorem lc_171 : bk 6 B (cr σ τ (mw S st ik th tx ty (zw0 f))) 171 = some (zla f) := by
  rw [bk_out (by omega), cr_out (by omega), mw_out (by omega)]
  rfl
theorem lc_5 : bk 6 B (cr σ τ u) 5 = some (zC5 σ.old σ.sc) := cr_at (by omega) cr_5
theorem lc_167 : bk 6 B (cr σ τ (mw S st ik th tx ty u)) 167 = some (zMo st th ty) := by
  rw [bk_out (by omega), cr_out (by omega)]
  rfl
theorem lc_up : zup (bk 6 B (cr σ τ (mw S st ik th tx ty (zw0 f)))) 171 (zla f2) = bk 6 B (cr σ τ (mw S st ik th tx ty (zw0 f2))) := by
  rw [bk_zup (by omega)]
  congr 1
  funext j
  by_cases h : j = 171
  · subst h
    rw [zup_self, cr_out (by omega), mw_out (by omega)]
    rfl
  · rw [zup_ne h]
    unfold cr mw zw0
    rw [if_neg h, if_neg h]
theorem lc_upd (x : Int64) : vp_updL f (jI 0).toNatClampNeg x 0 = x := if_pos (by decide)
theorem lc_cmp (x : Int64) : lg_cmp x x = jI 0 := by
  unfold lg_cmp
  rw [if_neg (by rw [gt_iff_lt, Int64.lt_iff_toInt_lt]; omega), if_pos rfl]
  rfl
end LW
section LR
variable {Γ : zΓ} {M ML MX : zMd} {d mc ms : Nat} {as : List Value} {n : Nat} {g : Bool} {kc ks : Nat} {w w2 : zW} {pc pc' : Nat} {lv : List (Option Value)} {st : List Value} {Q : zQ} {P P' : zPo} {Qr Qr' : zQr} {Qx : zQx}
theorem zFe.mono (h : zFe Γ M d as w P) (hp : ∀ r w2, P r w2 → P' r w2) : zFe Γ M d as w P' := by
  intro n g hB p e h1 h2 h3 s m args below h4 h5 h6 h7
  obtain ⟨k, o, a1, a2, a3, a4⟩ := h n g hB p e h1 h2 h3 s m args below h4 h5 h6 h7
  refine ⟨k, o, a1, a2, a3, ?_⟩
  rcases a4 with ⟨⟨r, n', g', w', b1, ⟨b2, b2', b2''⟩, b3, b4⟩, b5⟩ | ⟨q, -, E, ce, L, ⟨_, _, _, hx, _⟩, -⟩
  · exact Or.inl ⟨⟨r, n', g', w', b1, ⟨b2, b2', hp _ _ b2''⟩, b3, b4⟩, b5⟩
  · exact hx.elim
theorem zTrH.mono (h : zTrH Γ M d mc ms as n g w Qr zNo) (hp : ∀ r n' g' w', Qr r n' g' w' → Qr' r n' g' w') : zTrH Γ M d mc ms as n g w Qr' zNo := by
  intro hB p e h1 h2 h3 s m args below h4 h5 h6 h7
  obtain ⟨k, o, a1, a2, a3, a4⟩ := h hB p e h1 h2 h3 s m args below h4 h5 h6 h7
  refine ⟨k, o, a1, a2, a3, ?_⟩
  rcases a4 with ⟨⟨r, n', g', w', b1, b2, b3, b4⟩, b5⟩ | ⟨q, -, E, ce, L, ⟨_, _, _, hx, _⟩, -⟩
  · exact Or.inl ⟨⟨r, n', g', w', b1, hp _ _ _ _ b2, b3, b4⟩, b5⟩
  · exact hx.elim
theorem zr_iretH {x : Int32} (hd : decode M.2.1 pc = .ok (.ireturn, 1)) (hr : M.2.2.2.1 = some .int) (hq : Qr (some (.int x)) n g w) : zRun Γ M d none pc lv [.int x] (n, g, kc, ks) w (zEnd M Qr Qx) :=
  zRun.now ⟨_, Or.inr (Or.inl ⟨x, .int, rfl, rfl, hd, hr, rfl⟩), hq⟩
/-- the script's ints -/
def jsc' (xs : Nat → Int32) (i : Int) : Int := (xs i.toNat).toInt
theorem jsc_I (xs : Nat → Int32) (i : Int) : jI (jsc' xs i) = xs i.toNat := Int32.ofInt_toInt _
theorem jsc_r (xs : Nat → Int32) (i : Int) : -2147483648 ≤ jsc' xs i ∧ jsc' xs i < 2147483648 := ⟨Int32.le_toInt _, Int32.toInt_lt _⟩
theorem zr_scr {L : Nat} {xs : Nat → Int32} {i : Int} (hd : decode M.2.1 pc = .ok (.iaload, 1)) (hp : pc + 1 = pc') (hx : zOld Γ 0 L xs) (hL : L ≤ 2048) (h0 : 0 ≤ i) (h1 : i < L) (kk : zRun Γ M d none pc' lv (.int (jI (jsc' xs i)) :: st) (n, g, kc, ks) w Q) : zRun Γ M d none pc lv (.int (jI i) :: .ref 0 :: st) (n, g, kc, ks) w Q := by
  refine zr_ialdO hd hp (fun _ => hx) (jI_in h0 h1 (by first | omega | (simp only [bset, reduceIte, Nat.reduceEqDiff]; omega))) ?_
  rw [jI_clamp h0 (by omega), ← jsc_I xs i]
  exact kk
/-- a call of the law: its wrapper's answer k and the number laid out, the reference's answer and k -/
def zOut (Γ : zΓ) (ML MX : zMd) (d : Nat) (as : List Value) (w : zW) (S : Int → Int) (st : Int) (ik : Int → Int) (th : Int) (tx : Int → Int) (ty : Int) : Prop :=
  ∃ (k v : Int) (B' : zB) (σ' : zC) (τ' : zTau) (f' : Nat → Int64), (0 ≤ k ∧ k ≤ 3) ∧ (k = 0 → f' 0 = (jI v).toInt64) ∧
    (∀ n g, zTrH Γ ML d 1 6 (.ref 5 :: (as ++ [.ref 171])) n g w (fun r n' _ w' => r = some (.int (jI k)) ∧ n' = n ∧ w' = bk 6 B' (cr σ' τ' (mw S st ik th tx ty (zw0 f')))) zNo) ∧
    zFe Γ MX d (.ref 167 :: as) (bk 6 B' (cr σ' τ' (mw S st ik th tx ty (zw0 f')))) (fun r w2 => r = some (.int (jI v)) ∧ ∃ S' ik', zRel B' σ' S' ik' ∧ w2 = bk 6 B' (cr σ' τ' (mw S' σ'.sc ik' k σ'.T σ'.L (zw0 f'))))
variable {B B' : zB} {σ σ' : zC} {τ τ' : zTau} {S ik tx : Int → Int} {st2 th ty : Int} {f : Nat → Int64}
theorem zMQ_law {k v : Int} (hM : ∀ w, zFe Γ MX d (.ref 167 :: as) (mw S st2 ik th tx ty w) (zMQ (some (.int (jI v))) k B' σ' w)) : zFe Γ MX d (.ref 167 :: as) (bk 6 B' (cr σ' τ' (mw S st2 ik th tx ty (zw0 f)))) (fun r w2 => r = some (.int (jI v)) ∧ ∃ S' ik', zRel B' σ' S' ik' ∧ w2 = bk 6 B' (cr σ' τ' (mw S' σ'.sc ik' k σ'.T σ'.L (zw0 f)))) := by
  rw [lc_comm]
  refine (hM _).mono ?_
  rintro r w2 ⟨h1, S', ik', hR, h2⟩
  exact ⟨h1, S', ik', hR, by rw [h2, lc_comm]⟩
theorem zOut_t {k : Int} (hk : 1 ≤ k ∧ k ≤ 3) (hL : ∀ n g, zTrH Γ ML d 1 6 (.ref 5 :: (as ++ [.ref 171])) n g (bk 6 B (cr σ τ (mw S st2 ik th tx ty (zw0 f)))) (fun r n' g' w' => r = some (.int (jI k)) ∧ n' = n ∧ g' = false ∧ w' = bk 6 B (cr σ τ (mw S st2 ik th tx ty (zw0 f)))) zNo) (hM : ∀ w, zFe Γ MX d (.ref 167 :: as) (mw S st2 ik th tx ty w) (zMQ (some (.int (jI 0))) k B σ w)) : zOut Γ ML MX d as (bk 6 B (cr σ τ (mw S st2 ik th tx ty (zw0 f)))) S st2 ik th tx ty :=
  ⟨k, 0, B, σ, τ, f, by omega, fun h => absurd h (by omega), fun n g => (hL n g).mono (fun r n' g' w' h => ⟨h.1, h.2.1, h.2.2.2⟩), zMQ_law hM⟩
theorem zOut_o {v : Int} (hL : ∀ n g, zTrH Γ ML d 1 6 (.ref 5 :: (as ++ [.ref 171])) n g w (fun r n' g' w' => r = some (.int (jI 0)) ∧ n' = n ∧ g' = g ∧ w' = zup (bk 6 B' (cr σ' τ' (mw S st2 ik th tx ty (zw0 f)))) 171 (zla (vp_updL f (jI 0).toNatClampNeg (jI v).toInt64))) zNo) (hM : ∀ w, zFe Γ MX d (.ref 167 :: as) (mw S st2 ik th tx ty w) (zMQ (some (.int (jI v))) 0 B' σ' w)) : zOut Γ ML MX d as w S st2 ik th tx ty :=
  ⟨0, v, B', σ', τ', vp_updL f (jI 0).toNatClampNeg (jI v).toInt64, by decide, fun _ => lc_upd _, fun n g => (hL n g).mono (fun r n' g' w' h => ⟨h.1, h.2.1, by rw [h.2.2.2, lc_up]⟩), zMQ_law hM⟩
theorem l_thrown : zFn Γ md_X7_thrown d [.ref 167] (bk 6 B (cr σ τ (mw S st2 ik th tx ty w))) (some (.int (jI th))) (bk 6 B (cr σ τ (mw S st2 ik th tx ty w))) := by
  rw [lc_comm]
  exact m_thrown
end LR
theorem cst_IOB : Cond.castable zIOB zIOB ∈ lw_tbl := List.mem_of_getElem? (i := 571) (by decide +kernel)
theorem cst_IAE : Cond.castable zIAE zIAE ∈ lw_tbl := List.mem_of_getElem? (i := 473) (by decide +kernel)
theorem cst_ISE : Cond.castable zISE zISE ∈ lw_tbl := List.mem_of_getElem? (i := 756) (by decide +kernel)

