/-! the law's constants, told as Ints; calls that only return -/
theorem kj_L_7 : zG [.constant RL 7 (jI (47123))] := zG.p [374] (by decide +kernel) (by decide +kernel)
theorem kj_L_8 : zG [.constant RL 8 (jI (2147483647))] := zG.p [375] (by decide +kernel) (by decide +kernel)
theorem kj_L_17 : zG [.constant RL 17 (jI (-2000001))] := zG.p [513] (by decide +kernel) (by decide +kernel)
theorem kj_L_20 : zG [.constant RL 20 (jI (-2000002))] := zG.p [514] (by decide +kernel) (by decide +kernel)
theorem kj_L_31 : zG [.constant RL 31 (jI (-2000003))] := zG.p [572] (by decide +kernel) (by decide +kernel)
theorem kj_L_177 : zG [.constant RL 177 (jI (-2000000))] := zG.p [891] (by decide +kernel) (by decide +kernel)
theorem cst_IOB : Cond.castable zIOB zIOB ∈ lw_tbl := List.mem_of_getElem? (i := 396) (by decide +kernel)
theorem cst_IAE : Cond.castable zIAE zIAE ∈ lw_tbl := List.mem_of_getElem? (i := 468) (by decide +kernel)
theorem cst_ISE : Cond.castable zISE zISE ∈ lw_tbl := List.mem_of_getElem? (i := 529) (by decide +kernel)
/-- a method with handlers that answers v, and behind it stands w2 -/
def zFnH (Γ : zΓ) (M : zMd) (d : Nat) (as : List Value) (w : zW) (v : Option Value) (w2 : zW) : Prop := ∀ n g, zTrH Γ M d 0 0 as n g w (fun r n' g' w' => r = v ∧ n' = n ∧ g' = g ∧ w' = w2) zNo
/-- the same, with an exception made on the way, it may be -/
def zOtH (Γ : zΓ) (M : zMd) (d : Nat) (as : List Value) (w : zW) (v : Option Value) (w2 : zW) : Prop := ∀ n g, zTrH Γ M d 1 6 as n g w (fun r n' _ w' => r = v ∧ n' = n ∧ w' = w2) zNo
/-- a method without handlers, told by a post, with room for k exceptions -/
def zOt (Γ : zΓ) (M : zMd) (d k : Nat) (as : List Value) (w : zW) (P : Option Value → zW → Prop) : Prop := ∀ n g, zTr Γ M d k (6 * k) as n g w (fun r n' _ w' => n' = n ∧ P r w') zNo
section MH
variable {Γ : zΓ} {M M2 : zMd} {d mc ms : Nat} {as : List Value} {n : Nat} {g : Bool} {kc ks : Nat} {w w2 : zW} {v : Option Value} {pc pc' : Nat} {lv : List (Option Value)} {st st0 : List Value} {Q : zQ} {Qr Qr' : zQr} {Qx : zQx} {P P' : Option Value → zW → Prop}
theorem zr_iretH {x : Int32} (hd : decode M.2.1 pc = .ok (.ireturn, 1)) (hr : M.2.2.2.1 = some .int) (hq : Qr (some (.int x)) n g w) : zRun Γ M d none pc lv [.int x] (n, g, kc, ks) w (zEnd M Qr Qx) :=
  zRun.now ⟨_, Or.inr (Or.inl ⟨x, .int, rfl, rfl, hd, hr, rfl⟩), hq⟩
theorem zr_iretB {x : Int} (hd : decode M.2.1 pc = .ok (.ireturn, 1)) (hr : M.2.2.2.1 = some .boolean) (hx : x = 1) (hq : Qr (some (.int (jI 1))) n g w) : zRun Γ M d none pc lv [.int (jI x)] (n, g, kc, ks) w (zEnd M Qr Qx) := by
  subst hx
  exact zRun.now ⟨_, Or.inr (Or.inl ⟨jI 1, .boolean, rfl, rfl, hd, hr, rfl⟩), hq⟩
theorem zr_fnH {idx na : Nat} (hd : decode M.2.1 pc = .ok (.invokestatic idx, 3)) (hp : pc + 3 = pc') (hl : zLkH M.1.cls idx M2 na) (ht : zFnH Γ M2 d as w v w2) (hna : as.length = na) (hst : as.reverse ++ st = st0) (hcat : (st.map fun v => v.category).sum ≤ 8)
    (k : zRun Γ M (d + 1) none pc' lv (v.toList ++ st) (n, g, kc, ks) w2 Q) : zRun Γ M (d + 1) none pc lv st0 (n, g, kc, ks) w Q :=
  zr_callH hd hp hl (ht n g) hna hst hcat (Nat.zero_le _) (Nat.zero_le _) (fun r n' g' w' hq => by obtain ⟨rfl, rfl, rfl, rfl⟩ := hq; exact k) (fun _ _ _ _ hq => hq.elim)
theorem zr_otH {idx na : Nat} (hd : decode M.2.1 pc = .ok (.invokestatic idx, 3)) (hp : pc + 3 = pc') (hl : zLkH M.1.cls idx M2 na) (ht : zOtH Γ M2 d as w v w2) (hna : as.length = na) (hst : as.reverse ++ st = st0) (hcat : (st.map fun v => v.category).sum ≤ 8) (hmc : 1 ≤ kc) (hms : 6 ≤ ks)
    (k : ∀ g', zRun Γ M (d + 1) none pc' lv (v.toList ++ st) (n, g', kc - 1, ks - 6) w2 Q) : zRun Γ M (d + 1) none pc lv st0 (n, g, kc, ks) w Q :=
  zr_callH hd hp hl (ht n g) hna hst hcat hmc hms (fun r n' g' w' hq => by obtain ⟨rfl, rfl, rfl⟩ := hq; exact k g') (fun _ _ _ _ hq => hq.elim)
theorem zr_ot {idx na j : Nat} (hd : decode M.2.1 pc = .ok (.invokestatic idx, 3)) (hp : pc + 3 = pc') (hl : zLkS M.1.cls idx M2 na) (ht : zOt Γ M2 d j as w P) (hna : as.length = na) (hst : as.reverse ++ st = st0) (hcat : (st.map fun v => v.category).sum ≤ 8) (hmc : j ≤ kc) (hms : 6 * j ≤ ks)
    (k : ∀ r g' w2, P r w2 → zRun Γ M (d + 1) none pc' lv (r.toList ++ st) (n, g', kc - j, ks - 6 * j) w2 Q) : zRun Γ M (d + 1) none pc lv st0 (n, g, kc, ks) w Q :=
  zr_callS hd hp hl (ht n g) hna hst hcat hmc hms (fun r n' g' w' hq => by obtain ⟨rfl, hq⟩ := hq; exact k r g' w' hq) (fun _ _ _ _ hq => hq.elim)
/-- at an end of a method without handlers -/
def zDoneO (M : zMd) (P : Option Value → zW → Prop) (n : Nat) : zQ := fun ex pc _ st μ w' => ex = none ∧ (∃ r, zRet M pc st r ∧ P r w') ∧ μ.1 = n
theorem zOt.of_run {j : Nat} (hy : plainName M.1.cls = true) (hh : M.2.2.2.2 = []) (hlen : (zentl as).length ≤ M.2.2.1) (hlv : zent M.2.2.1 as = lv) (h : ∀ n g, zRun Γ M d none 0 lv [] (n, g, j, 6 * j) w (zDoneO M P n)) : zOt Γ M d j as w P := by
  intro n g
  refine zTr.of_run hy hh hlen hlv ((h n g).mono ?_)
  intro ex pc lv st μ w' hq
  obtain ⟨rfl, ⟨r, h1, h2⟩, h3⟩ := hq
  exact ⟨r, h1, h3, h2⟩
theorem zOt.mono {j : Nat} (h : zOt Γ M d j as w P) (hp : ∀ r w2, P r w2 → P' r w2) : zOt Γ M d j as w P' := by
  intro n g hB p e h1 h2 h3 s m args below h4 h5 h6 h7
  obtain ⟨k, o, a1, a2, a3, a4⟩ := h n g hB p e h1 h2 h3 s m args below h4 h5 h6 h7
  refine ⟨k, o, a1, a2, a3, ?_⟩
  rcases a4 with ⟨⟨r, n', g', w', b1, ⟨b2, b3⟩, b4⟩, b5⟩ | ⟨q, -, E, ce, L, ⟨_, _, _, hx, _⟩, -⟩
  · exact Or.inl ⟨⟨r, n', g', w', b1, ⟨b2, hp _ _ b3⟩, b4⟩, b5⟩
  · exact hx.elim
theorem zr_iretO {x : Int32} {ty : FieldType} {n2 : Nat} (hd : decode M.2.1 pc = .ok (.ireturn, 1)) (hr : M.2.2.2.1 = some ty) (hn : narrow ty (.int x) = .int x) (hP : P (some (.int x)) w) (hn2 : n = n2) : zRun Γ M d none pc lv [.int x] (n, g, kc, ks) w (zDoneO M P n2) :=
  zRun.now ⟨rfl, ⟨_, Or.inr (Or.inl ⟨x, ty, rfl, rfl, hd, hr, hn⟩), hP⟩, hn2⟩
end MH
theorem jI_eqs {a b : Int} (h : a = b) : (jI a = jI b) ↔ a = b := ⟨fun _ => h, fun e => congrArg jI e⟩
section ZFN
variable {Γ : zΓ} {M : zMd} {d : Nat} {Q : zQ} {μ : zMu} {pc : Nat}
theorem zfor4 {A1 A2 A3 A4 : Type} (s : Int) (N : Nat) (I : Int → A1 → A2 → A3 → A4 → Prop) (lv : Int → A1 → A2 → A3 → A4 → List (Option Value)) (w : Int → A1 → A2 → A3 → A4 → zW) (c1 : A1) (c2 : A2) (c3 : A3) (c4 : A4) (h0 : I s c1 c2 c3 c4) (hstep : ∀ (j : Int) (a1 : A1) (a2 : A2) (a3 : A3) (a4 : A4), s ≤ j → j < s + N → I j a1 a2 a3 a4 → (∀ b1 b2 b3 b4, I (j + 1) b1 b2 b3 b4 → zRun Γ M d none pc (lv (j + 1) b1 b2 b3 b4) [] μ (w (j + 1) b1 b2 b3 b4) Q) → zRun Γ M d none pc (lv j a1 a2 a3 a4) [] μ (w j a1 a2 a3 a4) Q) (hend : ∀ a1 a2 a3 a4, I (s + N) a1 a2 a3 a4 → zRun Γ M d none pc (lv (s + N) a1 a2 a3 a4) [] μ (w (s + N) a1 a2 a3 a4) Q) : zRun Γ M d none pc (lv s c1 c2 c3 c4) [] μ (w s c1 c2 c3 c4) Q :=
  zfor1 s N (fun i x => I i x.1 x.2.1 x.2.2.1 x.2.2.2) (fun i x => lv i x.1 x.2.1 x.2.2.1 x.2.2.2) (fun i x => w i x.1 x.2.1 x.2.2.1 x.2.2.2) (c1, c2, c3, c4) h0 (fun i x h1 h2 h3 h4 => hstep i x.1 x.2.1 x.2.2.1 x.2.2.2 h1 h2 h3 (fun b1 b2 b3 b4 h => h4 (b1, b2, b3, b4) h)) (fun x h => hend x.1 x.2.1 x.2.2.1 x.2.2.2 h)
theorem zfor6 {A1 A2 A3 A4 A5 A6 : Type} (s : Int) (N : Nat) (I : Int → A1 → A2 → A3 → A4 → A5 → A6 → Prop) (lv : Int → A1 → A2 → A3 → A4 → A5 → A6 → List (Option Value)) (w : Int → A1 → A2 → A3 → A4 → A5 → A6 → zW) (c1 : A1) (c2 : A2) (c3 : A3) (c4 : A4) (c5 : A5) (c6 : A6) (h0 : I s c1 c2 c3 c4 c5 c6) (hstep : ∀ (j : Int) (a1 : A1) (a2 : A2) (a3 : A3) (a4 : A4) (a5 : A5) (a6 : A6), s ≤ j → j < s + N → I j a1 a2 a3 a4 a5 a6 → (∀ b1 b2 b3 b4 b5 b6, I (j + 1) b1 b2 b3 b4 b5 b6 → zRun Γ M d none pc (lv (j + 1) b1 b2 b3 b4 b5 b6) [] μ (w (j + 1) b1 b2 b3 b4 b5 b6) Q) → zRun Γ M d none pc (lv j a1 a2 a3 a4 a5 a6) [] μ (w j a1 a2 a3 a4 a5 a6) Q) (hend : ∀ a1 a2 a3 a4 a5 a6, I (s + N) a1 a2 a3 a4 a5 a6 → zRun Γ M d none pc (lv (s + N) a1 a2 a3 a4 a5 a6) [] μ (w (s + N) a1 a2 a3 a4 a5 a6) Q) : zRun Γ M d none pc (lv s c1 c2 c3 c4 c5 c6) [] μ (w s c1 c2 c3 c4 c5 c6) Q :=
  zfor1 s N (fun i x => I i x.1 x.2.1 x.2.2.1 x.2.2.2.1 x.2.2.2.2.1 x.2.2.2.2.2) (fun i x => lv i x.1 x.2.1 x.2.2.1 x.2.2.2.1 x.2.2.2.2.1 x.2.2.2.2.2) (fun i x => w i x.1 x.2.1 x.2.2.1 x.2.2.2.1 x.2.2.2.2.1 x.2.2.2.2.2) (c1, c2, c3, c4, c5, c6) h0 (fun i x h1 h2 h3 h4 => hstep i x.1 x.2.1 x.2.2.1 x.2.2.2.1 x.2.2.2.2.1 x.2.2.2.2.2 h1 h2 h3 (fun b1 b2 b3 b4 b5 b6 h => h4 (b1, b2, b3, b4, b5, b6) h)) (fun x h => hend x.1 x.2.1 x.2.2.1 x.2.2.2.1 x.2.2.2.2.1 x.2.2.2.2.2 h)
theorem zfor9 {A1 A2 A3 A4 A5 A6 A7 A8 A9 : Type} (s : Int) (N : Nat) (I : Int → A1 → A2 → A3 → A4 → A5 → A6 → A7 → A8 → A9 → Prop) (lv : Int → A1 → A2 → A3 → A4 → A5 → A6 → A7 → A8 → A9 → List (Option Value)) (w : Int → A1 → A2 → A3 → A4 → A5 → A6 → A7 → A8 → A9 → zW) (c1 : A1) (c2 : A2) (c3 : A3) (c4 : A4) (c5 : A5) (c6 : A6) (c7 : A7) (c8 : A8) (c9 : A9) (h0 : I s c1 c2 c3 c4 c5 c6 c7 c8 c9) (hstep : ∀ (j : Int) (a1 : A1) (a2 : A2) (a3 : A3) (a4 : A4) (a5 : A5) (a6 : A6) (a7 : A7) (a8 : A8) (a9 : A9), s ≤ j → j < s + N → I j a1 a2 a3 a4 a5 a6 a7 a8 a9 → (∀ b1 b2 b3 b4 b5 b6 b7 b8 b9, I (j + 1) b1 b2 b3 b4 b5 b6 b7 b8 b9 → zRun Γ M d none pc (lv (j + 1) b1 b2 b3 b4 b5 b6 b7 b8 b9) [] μ (w (j + 1) b1 b2 b3 b4 b5 b6 b7 b8 b9) Q) → zRun Γ M d none pc (lv j a1 a2 a3 a4 a5 a6 a7 a8 a9) [] μ (w j a1 a2 a3 a4 a5 a6 a7 a8 a9) Q) (hend : ∀ a1 a2 a3 a4 a5 a6 a7 a8 a9, I (s + N) a1 a2 a3 a4 a5 a6 a7 a8 a9 → zRun Γ M d none pc (lv (s + N) a1 a2 a3 a4 a5 a6 a7 a8 a9) [] μ (w (s + N) a1 a2 a3 a4 a5 a6 a7 a8 a9) Q) : zRun Γ M d none pc (lv s c1 c2 c3 c4 c5 c6 c7 c8 c9) [] μ (w s c1 c2 c3 c4 c5 c6 c7 c8 c9) Q :=
  zfor1 s N (fun i x => I i x.1 x.2.1 x.2.2.1 x.2.2.2.1 x.2.2.2.2.1 x.2.2.2.2.2.1 x.2.2.2.2.2.2.1 x.2.2.2.2.2.2.2.1 x.2.2.2.2.2.2.2.2) (fun i x => lv i x.1 x.2.1 x.2.2.1 x.2.2.2.1 x.2.2.2.2.1 x.2.2.2.2.2.1 x.2.2.2.2.2.2.1 x.2.2.2.2.2.2.2.1 x.2.2.2.2.2.2.2.2) (fun i x => w i x.1 x.2.1 x.2.2.1 x.2.2.2.1 x.2.2.2.2.1 x.2.2.2.2.2.1 x.2.2.2.2.2.2.1 x.2.2.2.2.2.2.2.1 x.2.2.2.2.2.2.2.2) (c1, c2, c3, c4, c5, c6, c7, c8, c9) h0 (fun i x h1 h2 h3 h4 => hstep i x.1 x.2.1 x.2.2.1 x.2.2.2.1 x.2.2.2.2.1 x.2.2.2.2.2.1 x.2.2.2.2.2.2.1 x.2.2.2.2.2.2.2.1 x.2.2.2.2.2.2.2.2 h1 h2 h3 (fun b1 b2 b3 b4 b5 b6 b7 b8 b9 h => h4 (b1, b2, b3, b4, b5, b6, b7, b8, b9) h)) (fun x h => hend x.1 x.2.1 x.2.2.1 x.2.2.2.1 x.2.2.2.2.1 x.2.2.2.2.2.1 x.2.2.2.2.2.2.1 x.2.2.2.2.2.2.2.1 x.2.2.2.2.2.2.2.2 h)
end ZFN

