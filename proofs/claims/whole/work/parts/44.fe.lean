/-! methods with a post instead of one answer -/
abbrev zPo : Type := Option Value → zW → Prop
def zPost (M : zMd) (P : zPo) (n : Nat) (g : Bool) : zQ := fun ex pc _ st μ w' => ex = none ∧ (∃ r, zRet M pc st r ∧ P r w') ∧ μ.1 = n ∧ μ.2.1 = g
def zFe (Γ : zΓ) (M : zMd) (d : Nat) (as : List Value) (w : zW) (P : zPo) : Prop := ∀ n g, zTr Γ M d 0 0 as n g w (fun r n' g' w' => n' = n ∧ g' = g ∧ P r w') zNo
section FE
variable {Γ : zΓ} {M M2 : zMd} {d : Nat} {as : List Value} {n : Nat} {g : Bool} {kc ks : Nat} {w w2 : zW} {v : Option Value} {pc pc' : Nat} {lv : List (Option Value)} {st st0 : List Value} {Q : zQ} {P P' : zPo}
theorem zFe.of_run (hy : plainName M.1.cls = true) (hh : M.2.2.2.2 = []) (hlen : (zentl as).length ≤ M.2.2.1) (hlv : zent M.2.2.1 as = lv) (h : ∀ n g, zRun Γ M d none 0 lv [] (n, g, 0, 0) w (zPost M P n g)) : zFe Γ M d as w P := by
  intro n g
  refine zTr.of_run hy hh hlen hlv ((h n g).mono ?_)
  intro ex pc lv st μ w' hq
  obtain ⟨rfl, ⟨r, h1, h2⟩, h3, h4⟩ := hq
  exact ⟨r, h1, h3, h4, h2⟩
theorem zr_ireE {x : Int32} {ty : FieldType} (hd : decode M.2.1 pc = .ok (.ireturn, 1)) (hr : M.2.2.2.1 = some ty) (hn : narrow ty (.int x) = .int x) (hP : P (some (.int x)) w) : zRun Γ M d none pc lv [.int x] (n, g, kc, ks) w (zPost M P n g) :=
  zRun.now ⟨rfl, ⟨_, Or.inr (Or.inl ⟨x, ty, rfl, rfl, hd, hr, hn⟩), hP⟩, rfl, rfl⟩
theorem zr_lreE {x : Int64} (hd : decode M.2.1 pc = .ok (.lreturn, 1)) (hr : M.2.2.2.1 = some .long) (hP : P (some (.long x)) w) : zRun Γ M d none pc lv [.long x] (n, g, kc, ks) w (zPost M P n g) :=
  zRun.now ⟨rfl, ⟨_, Or.inr (Or.inr (Or.inl ⟨x, rfl, rfl, hd, hr⟩)), hP⟩, rfl, rfl⟩
theorem zr_dreE {x : UInt64} (hd : decode M.2.1 pc = .ok (.dreturn, 1)) (hr : M.2.2.2.1 = some .double) (hP : P (some (.double x)) w) : zRun Γ M d none pc lv [.double x] (n, g, kc, ks) w (zPost M P n g) :=
  zRun.now ⟨rfl, ⟨_, Or.inr (Or.inr (Or.inr ⟨x, rfl, rfl, hd, hr⟩)), hP⟩, rfl, rfl⟩
theorem zr_vreE (hd : decode M.2.1 pc = .ok (.return_, 1)) (hr : M.2.2.2.1 = none) (hP : P none w) : zRun Γ M d none pc lv [] (n, g, kc, ks) w (zPost M P n g) :=
  zRun.now ⟨rfl, ⟨_, Or.inl ⟨rfl, rfl, hd, hr⟩, hP⟩, rfl, rfl⟩
theorem zr_feV {idx na a ci N : Nat} {T0 : u_T} {fs : List Value} (hd : decode M.2.1 pc = .ok (.invokevirtual idx, 3)) (hp : pc + 3 = pc') (hl : zLkV M.1.cls idx M2 na) (ht : zFe Γ M2 d (.ref a :: as) w P) (hw : w a = some (.inr (ci, fs))) (hci : vwCl[ci]? = some (M2.1.cls, T0, N)) (hna : as.length = na) (hst : as.reverse ++ .ref a :: st = st0) (hcat : (st.map fun v => v.category).sum ≤ 8)
    (k : ∀ r w2, P r w2 → zRun Γ M (d + 1) none pc' lv (r.toList ++ st) (n, g, kc, ks) w2 Q) : zRun Γ M (d + 1) none pc lv st0 (n, g, kc, ks) w Q :=
  zr_callV hd hp hl (ht n g) hw hci hna hst hcat (Nat.zero_le _) (Nat.zero_le _) (fun r n' g' w' hq => by obtain ⟨rfl, rfl, hq⟩ := hq; exact k r w' hq) (fun _ _ _ _ hq => hq.elim)
end FE
/-- the reference's post: this answer, and its numbers are such -/
def zMP (v : Option Value) (good : (Int → Int) → Prop) (st : Int) (ik : Int → Int) (th : Int) (tx : Int → Int) (ty : Int) (w : zW) : zPo := fun r w2 => r = v ∧ ∃ S', good S' ∧ w2 = mw S' st ik th tx ty w
/-- the slots beside the first are as they were -/
def jag (S' S : Int → Int) : Prop := ∀ z, 494 ≤ z → S' z = S z
theorem jag.trans {S1 S2 S3 : Int → Int} (h1 : jag S1 S2) (h2 : jag S2 S3) : jag S1 S3 := fun z hz => (h1 z hz).trans (h2 z hz)
theorem jag.refl {S : Int → Int} : jag S S := fun _ _ => rfl
theorem jag_up {S : Int → Int} {z v : Int} (h : z < 494) : jag (jup S z v) S := fun k hk => jup_ne (by omega)

