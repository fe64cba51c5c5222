/-! the law's step -/
section SP
variable {Γ : zΓ} {σ σ' : zC} {τ : zTau} {u : zW} {B B' : zB} {Q : zQ} {n9 : Nat} {g9 : Bool} {kc ks L : Nat} {xs : Nat → Int32} {y i v due balls ball why : Int}
theorem jic_r (B : zB) (c g : Int) : -1 ≤ jic B c g ∧ jic B c g ≤ 5 := by
  have := jrc_r B c g
  unfold jic
  split <;> omega
theorem jnb_r (ok : jok B) {m : Int} (hm : 1 ≤ m ∧ m ≤ 90) : -1 ≤ jnb B m ∧ jnb B m ≤ 90 := by
  have hds := ok.ds
  have hca := ok.ca
  unfold jnb
  split
  · decide
  · have okk := jok_drs ok (m - 1).toNat (by omega)
    have := jball_r okk (by rw [jdrs_ca]; omega)
    omega
theorem lw_0 (hx : zOld Γ 0 L xs) (hL : L ≤ 260) (hi : 0 ≤ i ∧ i < 24) (h : jin B) (h6 : σ.sc = 6) {o4 o5 o6 o7 o8 o9 o10 o11 o12 o13 o14 o15 o16 o17 o18 : Option Value} (k : ∀ y : Int, 0 ≤ y ∧ y < 2147483648 → zRun Γ md_L_law 10 none 197 [some (.ref 0), some (.ref 5), some (.int (jI (1))), some (.int (jI (i))), some (.int (jI (y))), some (.int (jI (y / 16))), some (.int (jI (y % 16))), some (.int (jI (6))), some (.int (jI (B 12 0))), some (.int (jI (B 16 0))), some (.int (jI (B 19 0))), some (.int (jI (B 20 0))), some (.int (jI (B 21 0))), o13, o14, o15, o16, o17, o18] [] (n9, g9, kc, ks) (bk 6 B (cr σ τ u)) Q) : zRun Γ md_L_law 10 none 119 [some (.ref 0), some (.ref 5), some (.int (jI (1))), some (.int (jI (i))), o4, o5, o6, o7, o8, o9, o10, o11, o12, o13, o14, o15, o16, o17, o18] [] (n9, g9, kc, ks) (bk 6 B (cr σ τ u)) Q := by
  have ok := h.ok
  obtain ⟨y, hy, hc⟩ := s_cell (Γ := Γ) (d := 9) (w := bk 6 B (cr σ τ u)) hx hL i (by omega)
  refine zr_iload_n dL_law_119 (rfl : 119 + 1 = 120) rfl ?_
  refine zr_bipush dL_law_120 (rfl : 120 + 2 = 122) (by decide) ?_
  refine zr_icmp_ge (tgt := 818) dL_law_122 (by decide) (rfl : 122 + 3 = 125) (jI_le (by first | omega | (simp only [bset, reduceIte, Nat.reduceEqDiff]; omega)) (by first | omega | (simp only [bset, reduceIte, Nat.reduceEqDiff]; omega)) (by first | omega | (simp only [bset, reduceIte, Nat.reduceEqDiff]; omega)) (by first | omega | (simp only [bset, reduceIte, Nat.reduceEqDiff]; omega))) (fun h122 => ?_) (fun h122 => ?_)
  · exfalso
    omega
  refine zr_iload_n dL_law_125 (rfl : 125 + 1 = 126) rfl ?_
  refine zr_if_eq (tgt := 818) dL_law_126 (by decide) (rfl : 126 + 3 = 129) (by first | exact jb_iff | exact jI_z (by first | omega | (simp only [bset, reduceIte, Nat.reduceEqDiff]; omega)) (by first | omega | (simp only [bset, reduceIte, Nat.reduceEqDiff]; omega))) (fun h126 => ?_) (fun h126 => ?_)
  · exfalso
    omega
  refine zr_aload_n dL_law_129 (rfl : 129 + 1 = 130) rfl ?_
  refine zr_iload_n dL_law_130 (rfl : 130 + 1 = 131) rfl ?_
  refine zr_fnS dL_law_131 (rfl : 131 + 3 = 134) l_L_166 (hc) rfl rfl (Nat.le_of_ble_eq_true rfl) ?_
  refine zr_istore (lv' := [_, _, _, _, _, _, _, _, _, _, _, _, _, _, _, _, _, _, _]) dL_law_134 (rfl : 134 + 2 = 136) (Nat.le_of_ble_eq_true rfl) rfl ?_
  refine zr_iload dL_law_136 (rfl : 136 + 2 = 138) rfl ?_
  refine zr_bipush dL_law_138 (rfl : 138 + 2 = 140) (by decide) ?_
  refine zr_idiv dL_law_140 (rfl : 140 + 1 = 141) (fun q => absurd ((jI_z (by first | omega | (simp only [bset, reduceIte, Nat.reduceEqDiff]; omega)) (by first | omega | (simp only [bset, reduceIte, Nat.reduceEqDiff]; omega))).mp q) (by first | omega | (simp only [bset, reduceIte, Nat.reduceEqDiff]; omega))) (jI_div (by first | omega | (simp only [bset, reduceIte, Nat.reduceEqDiff]; omega)) (by first | omega | (simp only [bset, reduceIte, Nat.reduceEqDiff]; omega)) (by first | omega | (simp only [bset, reduceIte, Nat.reduceEqDiff]; omega)) (by first | omega | (simp only [bset, reduceIte, Nat.reduceEqDiff]; omega))) ?_
  refine zr_istore (lv' := [_, _, _, _, _, _, _, _, _, _, _, _, _, _, _, _, _, _, _]) dL_law_141 (rfl : 141 + 2 = 143) (Nat.le_of_ble_eq_true rfl) rfl ?_
  refine zr_iload dL_law_143 (rfl : 143 + 2 = 145) rfl ?_
  refine zr_bipush dL_law_145 (rfl : 145 + 2 = 147) (by decide) ?_
  refine zr_irem dL_law_147 (rfl : 147 + 1 = 148) (fun q => absurd ((jI_z (by first | omega | (simp only [bset, reduceIte, Nat.reduceEqDiff]; omega)) (by first | omega | (simp only [bset, reduceIte, Nat.reduceEqDiff]; omega))).mp q) (by first | omega | (simp only [bset, reduceIte, Nat.reduceEqDiff]; omega))) (jI_rem (by first | omega | (simp only [bset, reduceIte, Nat.reduceEqDiff]; omega)) (by first | omega | (simp only [bset, reduceIte, Nat.reduceEqDiff]; omega)) (by first | omega | (simp only [bset, reduceIte, Nat.reduceEqDiff]; omega)) (by first | omega | (simp only [bset, reduceIte, Nat.reduceEqDiff]; omega))) ?_
  refine zr_istore (lv' := [_, _, _, _, _, _, _, _, _, _, _, _, _, _, _, _, _, _, _]) dL_law_148 (rfl : 148 + 2 = 150) (Nat.le_of_ble_eq_true rfl) rfl ?_
  refine zr_aload_n dL_law_150 (rfl : 150 + 1 = 151) rfl ?_
  refine zr_bipush dL_law_151 (rfl : 151 + 2 = 153) (by decide) ?_
  refine zr_fnH dL_law_153 (rfl : 153 + 3 = 156) l_L_127 (w_count (d := 1) 14 (by decide) ok) rfl rfl (Nat.le_of_ble_eq_true rfl) ?_
  rw [jct_14, h6]
  refine zr_istore (lv' := [_, _, _, _, _, _, _, _, _, _, _, _, _, _, _, _, _, _, _]) dL_law_156 (rfl : 156 + 2 = 158) (Nat.le_of_ble_eq_true rfl) rfl ?_
  refine zr_aload_n dL_law_158 (rfl : 158 + 1 = 159) rfl ?_
  refine zr_bipush dL_law_159 (rfl : 159 + 2 = 161) (by decide) ?_
  refine zr_fnH dL_law_161 (rfl : 161 + 3 = 164) l_L_127 (w_count (d := 1) 8 (by decide) ok) rfl rfl (Nat.le_of_ble_eq_true rfl) ?_
  rw [jct_8]
  refine zr_istore (lv' := [_, _, _, _, _, _, _, _, _, _, _, _, _, _, _, _, _, _, _]) dL_law_164 (rfl : 164 + 2 = 166) (Nat.le_of_ble_eq_true rfl) rfl ?_
  refine zr_aload_n dL_law_166 (rfl : 166 + 1 = 167) rfl ?_
  refine zr_iconst dL_law_167 (rfl : 167 + 1 = 168) ?_
  refine zr_fnH dL_law_168 (rfl : 168 + 3 = 171) l_L_127 (w_count (d := 1) 3 (by decide) ok) rfl rfl (Nat.le_of_ble_eq_true rfl) ?_
  rw [jct_3]
  refine zr_istore (lv' := [_, _, _, _, _, _, _, _, _, _, _, _, _, _, _, _, _, _, _]) dL_law_171 (rfl : 171 + 2 = 173) (Nat.le_of_ble_eq_true rfl) rfl ?_
  refine zr_aload_n dL_law_173 (rfl : 173 + 1 = 174) rfl ?_
  refine zr_bipush dL_law_174 (rfl : 174 + 2 = 176) (by decide) ?_
  refine zr_fnH dL_law_176 (rfl : 176 + 3 = 179) l_L_127 (w_count (d := 1) 6 (by decide) ok) rfl rfl (Nat.le_of_ble_eq_true rfl) ?_
  rw [jct_6]
  refine zr_istore (lv' := [_, _, _, _, _, _, _, _, _, _, _, _, _, _, _, _, _, _, _]) dL_law_179 (rfl : 179 + 2 = 181) (Nat.le_of_ble_eq_true rfl) rfl ?_
  refine zr_aload_n dL_law_181 (rfl : 181 + 1 = 182) rfl ?_
  refine zr_bipush dL_law_182 (rfl : 182 + 2 = 184) (by decide) ?_
  refine zr_fnH dL_law_184 (rfl : 184 + 3 = 187) l_L_127 (w_count (d := 1) 10 (by decide) ok) rfl rfl (Nat.le_of_ble_eq_true rfl) ?_
  rw [jct_10]
  refine zr_istore (lv' := [_, _, _, _, _, _, _, _, _, _, _, _, _, _, _, _, _, _, _]) dL_law_187 (rfl : 187 + 2 = 189) (Nat.le_of_ble_eq_true rfl) rfl ?_
  refine zr_aload_n dL_law_189 (rfl : 189 + 1 = 190) rfl ?_
  refine zr_bipush dL_law_190 (rfl : 190 + 2 = 192) (by decide) ?_
  refine zr_fnH dL_law_192 (rfl : 192 + 3 = 195) l_L_127 (w_count (d := 1) 11 (by decide) ok) rfl rfl (Nat.le_of_ble_eq_true rfl) ?_
  rw [jct_11]
  refine zr_istore (lv' := [_, _, _, _, _, _, _, _, _, _, _, _, _, _, _, _, _, _, _]) dL_law_195 (rfl : 195 + 2 = 197) (Nat.le_of_ble_eq_true rfl) rfl ?_
  exact k y hy
theorem lw_1 (hy : 0 ≤ y ∧ y < 2147483648) (h : jin B) {o13 o14 o15 o16 o17 o18 : Option Value} (k : ∀ due : Int, -1 ≤ due ∧ due ≤ 5 → (7 ≤ y % 16 → y % 16 ≤ 11 → due = jic B (y / 16 % 4) (y / 16 / 4 % 4)) → zRun Γ md_L_law 10 none 231 [some (.ref 0), some (.ref 5), some (.int (jI (1))), some (.int (jI (i))), some (.int (jI (y))), some (.int (jI (y / 16))), some (.int (jI (y % 16))), some (.int (jI (6))), some (.int (jI (B 12 0))), some (.int (jI (B 16 0))), some (.int (jI (B 19 0))), some (.int (jI (B 20 0))), some (.int (jI (B 21 0))), some (.int (jI (due))), o14, o15, o16, o17, o18] [] (n9, g9, kc, ks) (bk 6 B (cr σ τ u)) Q) : zRun Γ md_L_law 10 none 197 [some (.ref 0), some (.ref 5), some (.int (jI (1))), some (.int (jI (i))), some (.int (jI (y))), some (.int (jI (y / 16))), some (.int (jI (y % 16))), some (.int (jI (6))), some (.int (jI (B 12 0))), some (.int (jI (B 16 0))), some (.int (jI (B 19 0))), some (.int (jI (B 20 0))), some (.int (jI (B 21 0))), o13, o14, o15, o16, o17, o18] [] (n9, g9, kc, ks) (bk 6 B (cr σ τ u)) Q := by
  have ok := h.ok
  have hr := jic_r B (y / 16 % 4) (y / 16 / 4 % 4)
  have fin : ∀ due : Int, -1 ≤ due ∧ due ≤ 5 → (7 ≤ y % 16 → y % 16 ≤ 11 → due = jic B (y / 16 % 4) (y / 16 / 4 % 4)) → zRun Γ md_L_law 10 none 229 [some (.ref 0), some (.ref 5), some (.int (jI (1))), some (.int (jI (i))), some (.int (jI (y))), some (.int (jI (y / 16))), some (.int (jI (y % 16))), some (.int (jI (6))), some (.int (jI (B 12 0))), some (.int (jI (B 16 0))), some (.int (jI (B 19 0))), some (.int (jI (B 20 0))), some (.int (jI (B 21 0))), o13, o14, o15, o16, o17, o18] [.int (jI due)] (n9, g9, kc, ks) (bk 6 B (cr σ τ u)) Q := by
    intro due h1 h2
    refine zr_istore (lv' := [_, _, _, _, _, _, _, _, _, _, _, _, _, _, _, _, _, _, _]) dL_law_229 (rfl : 229 + 2 = 231) (Nat.le_of_ble_eq_true rfl) rfl ?_
    exact k due h1 h2
  refine zr_iload dL_law_197 (rfl : 197 + 2 = 199) rfl ?_
  refine zr_bipush dL_law_199 (rfl : 199 + 2 = 201) (by decide) ?_
  refine zr_icmp_le (tgt := 228) dL_law_201 (by decide) (rfl : 201 + 3 = 204) (jI_le (by first | omega | (simp only [bset, reduceIte, Nat.reduceEqDiff]; omega)) (by first | omega | (simp only [bset, reduceIte, Nat.reduceEqDiff]; omega)) (by first | omega | (simp only [bset, reduceIte, Nat.reduceEqDiff]; omega)) (by first | omega | (simp only [bset, reduceIte, Nat.reduceEqDiff]; omega))) (fun h201 => ?_) (fun h201 => ?_)
  · first
    | (exfalso; omega)
    | (
      refine zr_iconst dL_law_228 (rfl : 228 + 1 = 229) ?_
      first
      | exact fin (jic B (y / 16 % 4) (y / 16 / 4 % 4)) hr (fun _ _ => rfl)
      | exact fin (-1) (by decide) (fun q1 q2 => absurd q1 (by omega)))
  · first
    | (exfalso; omega)
    | (
      refine zr_iload dL_law_204 (rfl : 204 + 2 = 206) rfl ?_
      refine zr_bipush dL_law_206 (rfl : 206 + 2 = 208) (by decide) ?_
      refine zr_icmp_ge (tgt := 228) dL_law_208 (by decide) (rfl : 208 + 3 = 211) (jI_le (by first | omega | (simp only [bset, reduceIte, Nat.reduceEqDiff]; omega)) (by first | omega | (simp only [bset, reduceIte, Nat.reduceEqDiff]; omega)) (by first | omega | (simp only [bset, reduceIte, Nat.reduceEqDiff]; omega)) (by first | omega | (simp only [bset, reduceIte, Nat.reduceEqDiff]; omega))) (fun h208 => ?_) (fun h208 => ?_)
      · first
        | (exfalso; omega)
        | (
          refine zr_iconst dL_law_228 (rfl : 228 + 1 = 229) ?_
          first
          | exact fin (jic B (y / 16 % 4) (y / 16 / 4 % 4)) hr (fun _ _ => rfl)
          | exact fin (-1) (by decide) (fun q1 q2 => absurd q1 (by omega)))
      · first
        | (exfalso; omega)
        | (
          refine zr_aload_n dL_law_211 (rfl : 211 + 1 = 212) rfl ?_
          refine zr_iload dL_law_212 (rfl : 212 + 2 = 214) rfl ?_
          refine zr_iconst dL_law_214 (rfl : 214 + 1 = 215) ?_
          refine zr_irem dL_law_215 (rfl : 215 + 1 = 216) (fun q => absurd ((jI_z (by first | omega | (simp only [bset, reduceIte, Nat.reduceEqDiff]; omega)) (by first | omega | (simp only [bset, reduceIte, Nat.reduceEqDiff]; omega))).mp q) (by first | omega | (simp only [bset, reduceIte, Nat.reduceEqDiff]; omega))) (jI_rem (by first | omega | (simp only [bset, reduceIte, Nat.reduceEqDiff]; omega)) (by first | omega | (simp only [bset, reduceIte, Nat.reduceEqDiff]; omega)) (by first | omega | (simp only [bset, reduceIte, Nat.reduceEqDiff]; omega)) (by first | omega | (simp only [bset, reduceIte, Nat.reduceEqDiff]; omega))) ?_
          refine zr_iload dL_law_216 (rfl : 216 + 2 = 218) rfl ?_
          refine zr_iconst dL_law_218 (rfl : 218 + 1 = 219) ?_
          refine zr_idiv dL_law_219 (rfl : 219 + 1 = 220) (fun q => absurd ((jI_z (by first | omega | (simp only [bset, reduceIte, Nat.reduceEqDiff]; omega)) (by first | omega | (simp only [bset, reduceIte, Nat.reduceEqDiff]; omega))).mp q) (by first | omega | (simp only [bset, reduceIte, Nat.reduceEqDiff]; omega))) (jI_div (by first | omega | (simp only [bset, reduceIte, Nat.reduceEqDiff]; omega)) (by first | omega | (simp only [bset, reduceIte, Nat.reduceEqDiff]; omega)) (by first | omega | (simp only [bset, reduceIte, Nat.reduceEqDiff]; omega)) (by first | omega | (simp only [bset, reduceIte, Nat.reduceEqDiff]; omega))) ?_
          refine zr_iconst dL_law_220 (rfl : 220 + 1 = 221) ?_
          refine zr_irem dL_law_221 (rfl : 221 + 1 = 222) (fun q => absurd ((jI_z (by first | omega | (simp only [bset, reduceIte, Nat.reduceEqDiff]; omega)) (by first | omega | (simp only [bset, reduceIte, Nat.reduceEqDiff]; omega))).mp q) (by first | omega | (simp only [bset, reduceIte, Nat.reduceEqDiff]; omega))) (jI_rem (by first | omega | (simp only [bset, reduceIte, Nat.reduceEqDiff]; omega)) (by first | omega | (simp only [bset, reduceIte, Nat.reduceEqDiff]; omega)) (by first | omega | (simp only [bset, reduceIte, Nat.reduceEqDiff]; omega)) (by first | omega | (simp only [bset, reduceIte, Nat.reduceEqDiff]; omega))) ?_
          refine zr_fnH dL_law_222 (rfl : 222 + 3 = 225) l_L_170 (w_ifClaimed (d := 1) (y / 16 % 4) (y / 16 / 4 % 4) ⟨by omega, by omega⟩ ok) rfl rfl (Nat.le_of_ble_eq_true rfl) ?_
          refine zr_goto (tgt := 229) dL_law_225 (by decide) ?_
          first
          | exact fin (jic B (y / 16 % 4) (y / 16 / 4 % 4)) hr (fun _ _ => rfl)
          | exact fin (-1) (by decide) (fun q1 q2 => absurd q1 (by omega))))
theorem lw_2 (hy : 0 ≤ y ∧ y < 2147483648) {o14 o15 o16 o17 o18 : Option Value} (k : ∀ balls : Int, 1 ≤ balls ∧ balls ≤ 25 → ((12 < y % 16 → balls = 1 + y / 16 % 25) ∧ (y % 16 ≤ 12 → balls = 1 + y / 16 % 6)) → zRun Γ md_L_law 10 none 257 [some (.ref 0), some (.ref 5), some (.int (jI (1))), some (.int (jI (i))), some (.int (jI (y))), some (.int (jI (y / 16))), some (.int (jI (y % 16))), some (.int (jI (6))), some (.int (jI (B 12 0))), some (.int (jI (B 16 0))), some (.int (jI (B 19 0))), some (.int (jI (B 20 0))), some (.int (jI (B 21 0))), some (.int (jI (due))), some (.int (jI (balls))), o15, o16, o17, o18] [] (n9, g9, kc, ks) (bk 6 B (cr σ τ u)) Q) : zRun Γ md_L_law 10 none 231 [some (.ref 0), some (.ref 5), some (.int (jI (1))), some (.int (jI (i))), some (.int (jI (y))), some (.int (jI (y / 16))), some (.int (jI (y % 16))), some (.int (jI (6))), some (.int (jI (B 12 0))), some (.int (jI (B 16 0))), some (.int (jI (B 19 0))), some (.int (jI (B 20 0))), some (.int (jI (B 21 0))), some (.int (jI (due))), o14, o15, o16, o17, o18] [] (n9, g9, kc, ks) (bk 6 B (cr σ τ u)) Q := by
  have fin : ∀ balls : Int, 1 ≤ balls ∧ balls ≤ 25 → ((12 < y % 16 → balls = 1 + y / 16 % 25) ∧ (y % 16 ≤ 12 → balls = 1 + y / 16 % 6)) → zRun Γ md_L_law 10 none 255 [some (.ref 0), some (.ref 5), some (.int (jI (1))), some (.int (jI (i))), some (.int (jI (y))), some (.int (jI (y / 16))), some (.int (jI (y % 16))), some (.int (jI (6))), some (.int (jI (B 12 0))), some (.int (jI (B 16 0))), some (.int (jI (B 19 0))), some (.int (jI (B 20 0))), some (.int (jI (B 21 0))), some (.int (jI (due))), o14, o15, o16, o17, o18] [.int (jI balls)] (n9, g9, kc, ks) (bk 6 B (cr σ τ u)) Q := by
    intro balls h1 h2
    refine zr_istore (lv' := [_, _, _, _, _, _, _, _, _, _, _, _, _, _, _, _, _, _, _]) dL_law_255 (rfl : 255 + 2 = 257) (Nat.le_of_ble_eq_true rfl) rfl ?_
    exact k balls h1 h2
  refine zr_iload dL_law_231 (rfl : 231 + 2 = 233) rfl ?_
  refine zr_bipush dL_law_233 (rfl : 233 + 2 = 235) (by decide) ?_
  refine zr_icmp_le (tgt := 248) dL_law_235 (by decide) (rfl : 235 + 3 = 238) (jI_le (by first | omega | (simp only [bset, reduceIte, Nat.reduceEqDiff]; omega)) (by first | omega | (simp only [bset, reduceIte, Nat.reduceEqDiff]; omega)) (by first | omega | (simp only [bset, reduceIte, Nat.reduceEqDiff]; omega)) (by first | omega | (simp only [bset, reduceIte, Nat.reduceEqDiff]; omega))) (fun h235 => ?_) (fun h235 => ?_)
  · first
    | (exfalso; omega)
    | (
      refine zr_iconst dL_law_248 (rfl : 248 + 1 = 249) ?_
      refine zr_iload dL_law_249 (rfl : 249 + 2 = 251) rfl ?_
      refine zr_bipush dL_law_251 (rfl : 251 + 2 = 253) (by decide) ?_
      refine zr_irem dL_law_253 (rfl : 253 + 1 = 254) (fun q => absurd ((jI_z (by first | omega | (simp only [bset, reduceIte, Nat.reduceEqDiff]; omega)) (by first | omega | (simp only [bset, reduceIte, Nat.reduceEqDiff]; omega))).mp q) (by first | omega | (simp only [bset, reduceIte, Nat.reduceEqDiff]; omega))) (jI_rem (by first | omega | (simp only [bset, reduceIte, Nat.reduceEqDiff]; omega)) (by first | omega | (simp only [bset, reduceIte, Nat.reduceEqDiff]; omega)) (by first | omega | (simp only [bset, reduceIte, Nat.reduceEqDiff]; omega)) (by first | omega | (simp only [bset, reduceIte, Nat.reduceEqDiff]; omega))) ?_
      refine zr_iadd dL_law_254 (rfl : 254 + 1 = 255) (by first | exact jI_add _ _ | rfl) ?_
      first
      | exact fin (1 + y / 16 % 25) (by omega) ⟨fun _ => rfl, fun q => absurd q (by omega)⟩
      | exact fin (1 + y / 16 % 6) (by omega) ⟨fun q => absurd q (by omega), fun _ => rfl⟩)
  · first
    | (exfalso; omega)
    | (
      refine zr_iconst dL_law_238 (rfl : 238 + 1 = 239) ?_
      refine zr_iload dL_law_239 (rfl : 239 + 2 = 241) rfl ?_
      refine zr_bipush dL_law_241 (rfl : 241 + 2 = 243) (by decide) ?_
      refine zr_irem dL_law_243 (rfl : 243 + 1 = 244) (fun q => absurd ((jI_z (by first | omega | (simp only [bset, reduceIte, Nat.reduceEqDiff]; omega)) (by first | omega | (simp only [bset, reduceIte, Nat.reduceEqDiff]; omega))).mp q) (by first | omega | (simp only [bset, reduceIte, Nat.reduceEqDiff]; omega))) (jI_rem (by first | omega | (simp only [bset, reduceIte, Nat.reduceEqDiff]; omega)) (by first | omega | (simp only [bset, reduceIte, Nat.reduceEqDiff]; omega)) (by first | omega | (simp only [bset, reduceIte, Nat.reduceEqDiff]; omega)) (by first | omega | (simp only [bset, reduceIte, Nat.reduceEqDiff]; omega))) ?_
      refine zr_iadd dL_law_244 (rfl : 244 + 1 = 245) (by first | exact jI_add _ _ | rfl) ?_
      refine zr_goto (tgt := 255) dL_law_245 (by decide) ?_
      first
      | exact fin (1 + y / 16 % 25) (by omega) ⟨fun _ => rfl, fun q => absurd q (by omega)⟩
      | exact fin (1 + y / 16 % 6) (by omega) ⟨fun q => absurd q (by omega), fun _ => rfl⟩)
theorem lw_3 (hy : 0 ≤ y ∧ y < 2147483648) (h : jin B) (hb : 1 ≤ balls ∧ balls ≤ 25) {o15 o16 o17 o18 : Option Value} (k : ∀ (ball : Int) (τ : zTau), -1 ≤ ball ∧ ball ≤ 90 → ((12 < y % 16 ∨ y % 16 = 6) → ball = jnb B balls) → zRun Γ md_L_law 10 none 283 [some (.ref 0), some (.ref 5), some (.int (jI (1))), some (.int (jI (i))), some (.int (jI (y))), some (.int (jI (y / 16))), some (.int (jI (y % 16))), some (.int (jI (6))), some (.int (jI (B 12 0))), some (.int (jI (B 16 0))), some (.int (jI (B 19 0))), some (.int (jI (B 20 0))), some (.int (jI (B 21 0))), some (.int (jI (due))), some (.int (jI (balls))), some (.int (jI (ball))), o16, o17, o18] [] (n9, g9, kc, ks) (bk 6 B (cr σ τ u)) Q) : zRun Γ md_L_law 10 none 257 [some (.ref 0), some (.ref 5), some (.int (jI (1))), some (.int (jI (i))), some (.int (jI (y))), some (.int (jI (y / 16))), some (.int (jI (y % 16))), some (.int (jI (6))), some (.int (jI (B 12 0))), some (.int (jI (B 16 0))), some (.int (jI (B 19 0))), some (.int (jI (B 20 0))), some (.int (jI (B 21 0))), some (.int (jI (due))), some (.int (jI (balls))), o15, o16, o17, o18] [] (n9, g9, kc, ks) (bk 6 B (cr σ τ u)) Q := by
  have ok := h.ok
  have hr := jnb_r ok (m := balls) (by omega)
  obtain ⟨τ2, hn⟩ := w_next (Γ := Γ) (d := 1) (σ := σ) (τ := τ) (u := u) balls (by omega) ok
  have fin : ∀ (ball : Int) (τ : zTau), -1 ≤ ball ∧ ball ≤ 90 → ((12 < y % 16 ∨ y % 16 = 6) → ball = jnb B balls) → zRun Γ md_L_law 10 none 281 [some (.ref 0), some (.ref 5), some (.int (jI (1))), some (.int (jI (i))), some (.int (jI (y))), some (.int (jI (y / 16))), some (.int (jI (y % 16))), some (.int (jI (6))), some (.int (jI (B 12 0))), some (.int (jI (B 16 0))), some (.int (jI (B 19 0))), some (.int (jI (B 20 0))), some (.int (jI (B 21 0))), some (.int (jI (due))), some (.int (jI (balls))), o15, o16, o17, o18] [.int (jI ball)] (n9, g9, kc, ks) (bk 6 B (cr σ τ u)) Q := by
    intro ball τ h1 h2
    refine zr_istore (lv' := [_, _, _, _, _, _, _, _, _, _, _, _, _, _, _, _, _, _, _]) dL_law_281 (rfl : 281 + 2 = 283) (Nat.le_of_ble_eq_true rfl) rfl ?_
    exact k ball τ h1 h2
  refine zr_iload dL_law_257 (rfl : 257 + 2 = 259) rfl ?_
  refine zr_bipush dL_law_259 (rfl : 259 + 2 = 261) (by decide) ?_
  refine zr_icmp_gt (tgt := 271) dL_law_261 (by decide) (rfl : 261 + 3 = 264) (jI_lt (by first | omega | (simp only [bset, reduceIte, Nat.reduceEqDiff]; omega)) (by first | omega | (simp only [bset, reduceIte, Nat.reduceEqDiff]; omega)) (by first | omega | (simp only [bset, reduceIte, Nat.reduceEqDiff]; omega)) (by first | omega | (simp only [bset, reduceIte, Nat.reduceEqDiff]; omega))) (fun h261 => ?_) (fun h261 => ?_)
  · first
    | (exfalso; omega)
    | (
      refine zr_aload_n dL_law_271 (rfl : 271 + 1 = 272) rfl ?_
      refine zr_iload dL_law_272 (rfl : 272 + 2 = 274) rfl ?_
      refine zr_fnH dL_law_274 (rfl : 274 + 3 = 277) l_L_142 hn rfl rfl (Nat.le_of_ble_eq_true rfl) ?_
      refine zr_goto (tgt := 281) dL_law_277 (by decide) ?_
      first
      | exact fin (jnb B balls) τ2 hr (fun _ => rfl)
      | exact fin (-1) τ (by decide) (fun q => absurd q (by omega)))
  · first
    | (exfalso; omega)
    | (
      refine zr_iload dL_law_264 (rfl : 264 + 2 = 266) rfl ?_
      refine zr_bipush dL_law_266 (rfl : 266 + 2 = 268) (by decide) ?_
      refine zr_icmp_ne (tgt := 280) dL_law_268 (by decide) (rfl : 268 + 3 = 271) (jI_eq (by first | omega | (simp only [bset, reduceIte, Nat.reduceEqDiff]; omega)) (by first | omega | (simp only [bset, reduceIte, Nat.reduceEqDiff]; omega)) (by first | omega | (simp only [bset, reduceIte, Nat.reduceEqDiff]; omega)) (by first | omega | (simp only [bset, reduceIte, Nat.reduceEqDiff]; omega))) (fun h268 => ?_) (fun h268 => ?_)
      · first
        | (exfalso; omega)
        | (
          refine zr_iconst dL_law_280 (rfl : 280 + 1 = 281) ?_
          first
          | exact fin (jnb B balls) τ2 hr (fun _ => rfl)
          | exact fin (-1) τ (by decide) (fun q => absurd q (by omega)))
      · first
        | (exfalso; omega)
        | (
          refine zr_aload_n dL_law_271 (rfl : 271 + 1 = 272) rfl ?_
          refine zr_iload dL_law_272 (rfl : 272 + 2 = 274) rfl ?_
          refine zr_fnH dL_law_274 (rfl : 274 + 3 = 277) l_L_142 hn rfl rfl (Nat.le_of_ble_eq_true rfl) ?_
          refine zr_goto (tgt := 281) dL_law_277 (by decide) ?_
          first
          | exact fin (jnb B balls) τ2 hr (fun _ => rfl)
          | exact fin (-1) τ (by decide) (fun q => absurd q (by omega))))
theorem lw_4 (hy : 0 ≤ y ∧ y < 2147483648) (h : jin B) {o16 o17 o18 : Option Value} (k : ∀ why : Int, -1 ≤ why ∧ why ≤ 5 → (y % 16 = 0 → why = jrap B (y / 16 % 6 * 3 + y / 16 / 8 % 3) (1 + y / 16 / 32 % 90)) → zRun Γ md_L_law 10 none 320 [some (.ref 0), some (.ref 5), some (.int (jI (1))), some (.int (jI (i))), some (.int (jI (y))), some (.int (jI (y / 16))), some (.int (jI (y % 16))), some (.int (jI (6))), some (.int (jI (B 12 0))), some (.int (jI (B 16 0))), some (.int (jI (B 19 0))), some (.int (jI (B 20 0))), some (.int (jI (B 21 0))), some (.int (jI (due))), some (.int (jI (balls))), some (.int (jI (ball))), some (.int (jI (why))), o17, o18] [] (n9, g9, kc, ks) (bk 6 B (cr σ τ u)) Q) : zRun Γ md_L_law 10 none 283 [some (.ref 0), some (.ref 5), some (.int (jI (1))), some (.int (jI (i))), some (.int (jI (y))), some (.int (jI (y / 16))), some (.int (jI (y % 16))), some (.int (jI (6))), some (.int (jI (B 12 0))), some (.int (jI (B 16 0))), some (.int (jI (B 19 0))), some (.int (jI (B 20 0))), some (.int (jI (B 21 0))), some (.int (jI (due))), some (.int (jI (balls))), some (.int (jI (ball))), o16, o17, o18] [] (n9, g9, kc, ks) (bk 6 B (cr σ τ u)) Q := by
  have ok := h.ok
  have hr := jrap_r B (y / 16 % 6 * 3 + y / 16 / 8 % 3) (1 + y / 16 / 32 % 90)
  have fin : ∀ why : Int, -1 ≤ why ∧ why ≤ 5 → (y % 16 = 0 → why = jrap B (y / 16 % 6 * 3 + y / 16 / 8 % 3) (1 + y / 16 / 32 % 90)) → zRun Γ md_L_law 10 none 318 [some (.ref 0), some (.ref 5), some (.int (jI (1))), some (.int (jI (i))), some (.int (jI (y))), some (.int (jI (y / 16))), some (.int (jI (y % 16))), some (.int (jI (6))), some (.int (jI (B 12 0))), some (.int (jI (B 16 0))), some (.int (jI (B 19 0))), some (.int (jI (B 20 0))), some (.int (jI (B 21 0))), some (.int (jI (due))), some (.int (jI (balls))), some (.int (jI (ball))), o16, o17, o18] [.int (jI why)] (n9, g9, kc, ks) (bk 6 B (cr σ τ u)) Q := by
    intro why h1 h2
    refine zr_istore (lv' := [_, _, _, _, _, _, _, _, _, _, _, _, _, _, _, _, _, _, _]) dL_law_318 (rfl : 318 + 2 = 320) (Nat.le_of_ble_eq_true rfl) rfl ?_
    exact k why h1 h2
  refine zr_iload dL_law_283 (rfl : 283 + 2 = 285) rfl ?_
  refine zr_if_ne (tgt := 317) dL_law_285 (by decide) (rfl : 285 + 3 = 288) (by first | exact jb_iff | exact jI_z (by first | omega | (simp only [bset, reduceIte, Nat.reduceEqDiff]; omega)) (by first | omega | (simp only [bset, reduceIte, Nat.reduceEqDiff]; omega))) (fun h285 => ?_) (fun h285 => ?_)
  · first
    | (exfalso; omega)
    | (
      refine zr_iconst dL_law_317 (rfl : 317 + 1 = 318) ?_
      first
      | exact fin (jrap B (y / 16 % 6 * 3 + y / 16 / 8 % 3) (1 + y / 16 / 32 % 90)) (by omega) (fun _ => rfl)
      | exact fin (-1) (by decide) (fun q => absurd q (by omega)))
  · first
    | (exfalso; omega)
    | (
      refine zr_aload_n dL_law_288 (rfl : 288 + 1 = 289) rfl ?_
      refine zr_iload dL_law_289 (rfl : 289 + 2 = 291) rfl ?_
      refine zr_bipush dL_law_291 (rfl : 291 + 2 = 293) (by decide) ?_
      refine zr_irem dL_law_293 (rfl : 293 + 1 = 294) (fun q => absurd ((jI_z (by first | omega | (simp only [bset, reduceIte, Nat.reduceEqDiff]; omega)) (by first | omega | (simp only [bset, reduceIte, Nat.reduceEqDiff]; omega))).mp q) (by first | omega | (simp only [bset, reduceIte, Nat.reduceEqDiff]; omega))) (jI_rem (by first | omega | (simp only [bset, reduceIte, Nat.reduceEqDiff]; omega)) (by first | omega | (simp only [bset, reduceIte, Nat.reduceEqDiff]; omega)) (by first | omega | (simp only [bset, reduceIte, Nat.reduceEqDiff]; omega)) (by first | omega | (simp only [bset, reduceIte, Nat.reduceEqDiff]; omega))) ?_
      refine zr_iload dL_law_294 (rfl : 294 + 2 = 296) rfl ?_
      refine zr_bipush dL_law_296 (rfl : 296 + 2 = 298) (by decide) ?_
      refine zr_idiv dL_law_298 (rfl : 298 + 1 = 299) (fun q => absurd ((jI_z (by first | omega | (simp only [bset, reduceIte, Nat.reduceEqDiff]; omega)) (by first | omega | (simp only [bset, reduceIte, Nat.reduceEqDiff]; omega))).mp q) (by first | omega | (simp only [bset, reduceIte, Nat.reduceEqDiff]; omega))) (jI_div (by first | omega | (simp only [bset, reduceIte, Nat.reduceEqDiff]; omega)) (by first | omega | (simp only [bset, reduceIte, Nat.reduceEqDiff]; omega)) (by first | omega | (simp only [bset, reduceIte, Nat.reduceEqDiff]; omega)) (by first | omega | (simp only [bset, reduceIte, Nat.reduceEqDiff]; omega))) ?_
      refine zr_iconst dL_law_299 (rfl : 299 + 1 = 300) ?_
      refine zr_irem dL_law_300 (rfl : 300 + 1 = 301) (fun q => absurd ((jI_z (by first | omega | (simp only [bset, reduceIte, Nat.reduceEqDiff]; omega)) (by first | omega | (simp only [bset, reduceIte, Nat.reduceEqDiff]; omega))).mp q) (by first | omega | (simp only [bset, reduceIte, Nat.reduceEqDiff]; omega))) (jI_rem (by first | omega | (simp only [bset, reduceIte, Nat.reduceEqDiff]; omega)) (by first | omega | (simp only [bset, reduceIte, Nat.reduceEqDiff]; omega)) (by first | omega | (simp only [bset, reduceIte, Nat.reduceEqDiff]; omega)) (by first | omega | (simp only [bset, reduceIte, Nat.reduceEqDiff]; omega))) ?_
      refine zr_iconst dL_law_301 (rfl : 301 + 1 = 302) ?_
      refine zr_iload dL_law_302 (rfl : 302 + 2 = 304) rfl ?_
      refine zr_bipush dL_law_304 (rfl : 304 + 2 = 306) (by decide) ?_
      refine zr_idiv dL_law_306 (rfl : 306 + 1 = 307) (fun q => absurd ((jI_z (by first | omega | (simp only [bset, reduceIte, Nat.reduceEqDiff]; omega)) (by first | omega | (simp only [bset, reduceIte, Nat.reduceEqDiff]; omega))).mp q) (by first | omega | (simp only [bset, reduceIte, Nat.reduceEqDiff]; omega))) (jI_div (by first | omega | (simp only [bset, reduceIte, Nat.reduceEqDiff]; omega)) (by first | omega | (simp only [bset, reduceIte, Nat.reduceEqDiff]; omega)) (by first | omega | (simp only [bset, reduceIte, Nat.reduceEqDiff]; omega)) (by first | omega | (simp only [bset, reduceIte, Nat.reduceEqDiff]; omega))) ?_
      refine zr_bipush dL_law_307 (rfl : 307 + 2 = 309) (by decide) ?_
      refine zr_irem dL_law_309 (rfl : 309 + 1 = 310) (fun q => absurd ((jI_z (by first | omega | (simp only [bset, reduceIte, Nat.reduceEqDiff]; omega)) (by first | omega | (simp only [bset, reduceIte, Nat.reduceEqDiff]; omega))).mp q) (by first | omega | (simp only [bset, reduceIte, Nat.reduceEqDiff]; omega))) (jI_rem (by first | omega | (simp only [bset, reduceIte, Nat.reduceEqDiff]; omega)) (by first | omega | (simp only [bset, reduceIte, Nat.reduceEqDiff]; omega)) (by first | omega | (simp only [bset, reduceIte, Nat.reduceEqDiff]; omega)) (by first | omega | (simp only [bset, reduceIte, Nat.reduceEqDiff]; omega))) ?_
      refine zr_iadd dL_law_310 (rfl : 310 + 1 = 311) (by first | exact jI_add _ _ | rfl) ?_
      refine zr_fnH dL_law_311 (rfl : 311 + 3 = 314) l_L_172 (w_whyNot (d := 1) (y / 16 % 6) (y / 16 / 8 % 3) (1 + y / 16 / 32 % 90) ⟨⟨by omega, by omega⟩, by omega, by omega⟩ ⟨by omega, by omega⟩ ok) rfl rfl (Nat.le_of_ble_eq_true rfl) ?_
      refine zr_goto (tgt := 318) dL_law_314 (by decide) ?_
      first
      | exact fin (jrap B (y / 16 % 6 * 3 + y / 16 / 8 % 3) (1 + y / 16 / 32 % 90)) (by omega) (fun _ => rfl)
      | exact fin (-1) (by decide) (fun q => absurd q (by omega)))
theorem lw_5 (hy : 0 ≤ y ∧ y < 2147483648) (h : jin B) (hs : jsn σ) (h6 : σ.sc = 6) {o17 o18 : Option Value} (k : ∀ v B' σ' τ g9, jStep B σ y v B' σ' → zRun Γ md_L_law 10 none 328 [some (.ref 0), some (.ref 5), some (.int (jI (1))), some (.int (jI (i))), some (.int (jI (y))), some (.int (jI (y / 16))), some (.int (jI (y % 16))), some (.int (jI (6))), some (.int (jI (B 12 0))), some (.int (jI (B 16 0))), some (.int (jI (B 19 0))), some (.int (jI (B 20 0))), some (.int (jI (B 21 0))), some (.int (jI (due))), some (.int (jI (balls))), some (.int (jI (ball))), some (.int (jI (why))), some (.int (jI (v))), o18] [] (n9, g9, kc, ks) (bk 6 B' (cr σ' τ u)) Q) : zRun Γ md_L_law 10 none 320 [some (.ref 0), some (.ref 5), some (.int (jI (1))), some (.int (jI (i))), some (.int (jI (y))), some (.int (jI (y / 16))), some (.int (jI (y % 16))), some (.int (jI (6))), some (.int (jI (B 12 0))), some (.int (jI (B 16 0))), some (.int (jI (B 19 0))), some (.int (jI (B 20 0))), some (.int (jI (B 21 0))), some (.int (jI (due))), some (.int (jI (balls))), some (.int (jI (ball))), some (.int (jI (why))), o17, o18] [] (n9, g9, (kc + 1), (ks + 6)) (bk 6 B (cr σ τ u)) Q := by
  obtain ⟨v, B', σ', hst, hz⟩ := acts (Γ := Γ) (d := 0) (τ := τ) (u := u) hy h hs h6
  refine zr_aload_n dL_law_320 (rfl : 320 + 1 = 321) rfl ?_
  refine zr_iload dL_law_321 (rfl : 321 + 2 = 323) rfl ?_
  refine zr_ot dL_law_323 (rfl : 323 + 3 = 326) l_L_174 hz rfl rfl (Nat.le_of_ble_eq_true rfl) (by first | omega | (simp only [bset, reduceIte, Nat.reduceEqDiff]; omega)) (by first | omega | (simp only [bset, reduceIte, Nat.reduceEqDiff]; omega)) ?_
  rintro _ g1 _ ⟨rfl, τ2, rfl⟩
  rw [show kc + 1 - 1 = kc by omega, show ks + 6 - 6 * 1 = ks by omega]
  refine zr_istore (lv' := [_, _, _, _, _, _, _, _, _, _, _, _, _, _, _, _, _, _, _]) dL_law_326 (rfl : 326 + 2 = 328) (Nat.le_of_ble_eq_true rfl) rfl ?_
  exact k v B' σ' τ2 g1 hst
theorem lw_6 (hy : 0 ≤ y ∧ y < 2147483648) (hv : -2000003 ≤ v ∧ v ≤ 100000) (h' : jin B') (h6' : σ'.sc = 6) {o18 : Option Value} (k : zRun Γ md_L_law 10 none 393 [some (.ref 0), some (.ref 5), some (.int (jI (1))), some (.int (jI (i))), some (.int (jI (y))), some (.int (jI (y / 16))), some (.int (jI (y % 16))), some (.int (jI (6))), some (.int (jI (B 12 0))), some (.int (jI (B 16 0))), some (.int (jI (B 19 0))), some (.int (jI (B 20 0))), some (.int (jI (B 21 0))), some (.int (jI (due))), some (.int (jI (balls))), some (.int (jI (ball))), some (.int (jI (why))), some (.int (jI (v))), some (.int (jI (jb (-2000000 < v))))] [] (n9, g9, kc, ks) (bk 6 B' (cr σ' τ u)) Q) : zRun Γ md_L_law 10 none 328 [some (.ref 0), some (.ref 5), some (.int (jI (1))), some (.int (jI (i))), some (.int (jI (y))), some (.int (jI (y / 16))), some (.int (jI (y % 16))), some (.int (jI (6))), some (.int (jI (B 12 0))), some (.int (jI (B 16 0))), some (.int (jI (B 19 0))), some (.int (jI (B 20 0))), some (.int (jI (B 21 0))), some (.int (jI (due))), some (.int (jI (balls))), some (.int (jI (ball))), some (.int (jI (why))), some (.int (jI (v))), o18] [] (n9, g9, kc, ks) (bk 6 B' (cr σ' τ u)) Q := by
  have ok := h'.ok
  have s375 : zRun Γ md_L_law 10 none 375 [some (.ref 0), some (.ref 5), some (.int (jI (1))), some (.int (jI (i))), some (.int (jI (y))), some (.int (jI (y / 16))), some (.int (jI (y % 16))), some (.int (jI (6))), some (.int (jI (B 12 0))), some (.int (jI (B 16 0))), some (.int (jI (B 19 0))), some (.int (jI (B 20 0))), some (.int (jI (B 21 0))), some (.int (jI (due))), some (.int (jI (balls))), some (.int (jI (ball))), some (.int (jI (why))), some (.int (jI (v))), some (.int (jI (jb (-2000000 < v))))] [.int (jI 6)] (n9, g9, kc, ks) (bk 6 B' (cr σ' τ u)) Q := by
    refine zr_iload dL_law_375 (rfl : 375 + 2 = 377) rfl ?_
    refine zr_goto (tgt := 384) dL_law_377 (by decide) ?_
    refine zr_icmp_ne (tgt := 391) dL_law_384 (by decide) (rfl : 384 + 3 = 387) (jI_eq (by first | omega | (simp only [bset, reduceIte, Nat.reduceEqDiff]; omega)) (by first | omega | (simp only [bset, reduceIte, Nat.reduceEqDiff]; omega)) (by first | omega | (simp only [bset, reduceIte, Nat.reduceEqDiff]; omega)) (by first | omega | (simp only [bset, reduceIte, Nat.reduceEqDiff]; omega))) (fun h384 => ?_) (fun h384 => ?_)
    · exfalso
      omega
    refine zr_iconst dL_law_387 (rfl : 387 + 1 = 388) ?_
    refine zr_goto (tgt := 392) dL_law_388 (by decide) ?_
    refine zr_istore_n (lv' := [_, _, _, _, _, _, _, _, _, _, _, _, _, _, _, _, _, _, _]) dL_law_392 (rfl : 392 + 1 = 393) (Nat.le_of_ble_eq_true rfl) rfl ?_
    exact k
  by_cases q : -2000000 < v
  · have e : jb (-2000000 < v) = 1 := jb_pos q
    rw [e] at s375
    refine zr_iload dL_law_328 (rfl : 328 + 2 = 330) rfl ?_
    refine zr_ldc dL_law_330 (rfl : 330 + 2 = 332) kj_L_177 ?_
    refine zr_icmp_le (tgt := 339) dL_law_332 (by decide) (rfl : 332 + 3 = 335) (jI_le (by first | omega | (simp only [bset, reduceIte, Nat.reduceEqDiff]; omega)) (by first | omega | (simp only [bset, reduceIte, Nat.reduceEqDiff]; omega)) (by first | omega | (simp only [bset, reduceIte, Nat.reduceEqDiff]; omega)) (by first | omega | (simp only [bset, reduceIte, Nat.reduceEqDiff]; omega))) (fun h332 => ?_) (fun h332 => ?_)
    · exfalso
      omega
    refine zr_iconst dL_law_335 (rfl : 335 + 1 = 336) ?_
    refine zr_goto (tgt := 340) dL_law_336 (by decide) ?_
    refine zr_istore (lv' := [_, _, _, _, _, _, _, _, _, _, _, _, _, _, _, _, _, _, _]) dL_law_340 (rfl : 340 + 2 = 342) (Nat.le_of_ble_eq_true rfl) rfl ?_
    refine zr_aload_n dL_law_342 (rfl : 342 + 1 = 343) rfl ?_
    refine zr_bipush dL_law_343 (rfl : 343 + 2 = 345) (by decide) ?_
    refine zr_fnH dL_law_345 (rfl : 345 + 3 = 348) l_L_127 (w_count (d := 1) 14 (by decide) ok) rfl rfl (Nat.le_of_ble_eq_true rfl) ?_
    rw [jct_14, h6']
    refine zr_iload dL_law_348 (rfl : 348 + 2 = 350) rfl ?_
    refine zr_if_eq (tgt := 375) dL_law_350 (by decide) (rfl : 350 + 3 = 353) (by first | exact jb_iff | exact jI_z (by first | omega | (simp only [bset, reduceIte, Nat.reduceEqDiff]; omega)) (by first | omega | (simp only [bset, reduceIte, Nat.reduceEqDiff]; omega))) (fun h350 => ?_) (fun h350 => ?_)
    · exfalso
      omega
    refine zr_iload dL_law_353 (rfl : 353 + 2 = 355) rfl ?_
    refine zr_bipush dL_law_355 (rfl : 355 + 2 = 357) (by decide) ?_
    refine zr_icmp_ne (tgt := 368) dL_law_357 (by decide) (rfl : 357 + 3 = 360) (jI_eq (by first | omega | (simp only [bset, reduceIte, Nat.reduceEqDiff]; omega)) (by first | omega | (simp only [bset, reduceIte, Nat.reduceEqDiff]; omega)) (by first | omega | (simp only [bset, reduceIte, Nat.reduceEqDiff]; omega)) (by first | omega | (simp only [bset, reduceIte, Nat.reduceEqDiff]; omega))) (fun h357 => ?_) (fun h357 => ?_)
    · first
      | (exfalso; omega)
      | (
        refine zr_iload dL_law_368 (rfl : 368 + 2 = 370) rfl ?_
        refine zr_bipush dL_law_370 (rfl : 370 + 2 = 372) (by decide) ?_
        refine zr_icmp_ne (tgt := 380) dL_law_372 (by decide) (rfl : 372 + 3 = 375) (jI_eq (by first | omega | (simp only [bset, reduceIte, Nat.reduceEqDiff]; omega)) (by first | omega | (simp only [bset, reduceIte, Nat.reduceEqDiff]; omega)) (by first | omega | (simp only [bset, reduceIte, Nat.reduceEqDiff]; omega)) (by first | omega | (simp only [bset, reduceIte, Nat.reduceEqDiff]; omega))) (fun h372 => ?_) (fun h372 => ?_)
        · exfalso
          omega
        exact s375)
    · first
      | (exfalso; omega)
      | (
        refine zr_iload dL_law_360 (rfl : 360 + 2 = 362) rfl ?_
        refine zr_iconst dL_law_362 (rfl : 362 + 1 = 363) ?_
        refine zr_irem dL_law_363 (rfl : 363 + 1 = 364) (fun q => absurd ((jI_z (by first | omega | (simp only [bset, reduceIte, Nat.reduceEqDiff]; omega)) (by first | omega | (simp only [bset, reduceIte, Nat.reduceEqDiff]; omega))).mp q) (by first | omega | (simp only [bset, reduceIte, Nat.reduceEqDiff]; omega))) (jI_rem (by first | omega | (simp only [bset, reduceIte, Nat.reduceEqDiff]; omega)) (by first | omega | (simp only [bset, reduceIte, Nat.reduceEqDiff]; omega)) (by first | omega | (simp only [bset, reduceIte, Nat.reduceEqDiff]; omega)) (by first | omega | (simp only [bset, reduceIte, Nat.reduceEqDiff]; omega))) ?_
        refine zr_iconst dL_law_364 (rfl : 364 + 1 = 365) ?_
        refine zr_icmp_eq (tgt := 375) dL_law_365 (by decide) (rfl : 365 + 3 = 368) (jI_eq (by first | omega | (simp only [bset, reduceIte, Nat.reduceEqDiff]; omega)) (by first | omega | (simp only [bset, reduceIte, Nat.reduceEqDiff]; omega)) (by first | omega | (simp only [bset, reduceIte, Nat.reduceEqDiff]; omega)) (by first | omega | (simp only [bset, reduceIte, Nat.reduceEqDiff]; omega))) (fun h365 => ?_) (fun h365 => ?_)
        · first
          | (exfalso; omega)
          | (
            exact s375)
        · first
          | (exfalso; omega)
          | (
            refine zr_iload dL_law_368 (rfl : 368 + 2 = 370) rfl ?_
            refine zr_bipush dL_law_370 (rfl : 370 + 2 = 372) (by decide) ?_
            refine zr_icmp_ne (tgt := 380) dL_law_372 (by decide) (rfl : 372 + 3 = 375) (jI_eq (by first | omega | (simp only [bset, reduceIte, Nat.reduceEqDiff]; omega)) (by first | omega | (simp only [bset, reduceIte, Nat.reduceEqDiff]; omega)) (by first | omega | (simp only [bset, reduceIte, Nat.reduceEqDiff]; omega)) (by first | omega | (simp only [bset, reduceIte, Nat.reduceEqDiff]; omega))) (fun h372 => ?_) (fun h372 => ?_)
            · exfalso
              omega
            exact s375))
  · have e : jb (-2000000 < v) = 0 := jb_neg q
    rw [e] at s375
    refine zr_iload dL_law_328 (rfl : 328 + 2 = 330) rfl ?_
    refine zr_ldc dL_law_330 (rfl : 330 + 2 = 332) kj_L_177 ?_
    refine zr_icmp_le (tgt := 339) dL_law_332 (by decide) (rfl : 332 + 3 = 335) (jI_le (by first | omega | (simp only [bset, reduceIte, Nat.reduceEqDiff]; omega)) (by first | omega | (simp only [bset, reduceIte, Nat.reduceEqDiff]; omega)) (by first | omega | (simp only [bset, reduceIte, Nat.reduceEqDiff]; omega)) (by first | omega | (simp only [bset, reduceIte, Nat.reduceEqDiff]; omega))) (fun h332 => ?_) (fun h332 => ?_)
    rotate_left
    · exfalso
      omega
    refine zr_iconst dL_law_339 (rfl : 339 + 1 = 340) ?_
    refine zr_istore (lv' := [_, _, _, _, _, _, _, _, _, _, _, _, _, _, _, _, _, _, _]) dL_law_340 (rfl : 340 + 2 = 342) (Nat.le_of_ble_eq_true rfl) rfl ?_
    refine zr_aload_n dL_law_342 (rfl : 342 + 1 = 343) rfl ?_
    refine zr_bipush dL_law_343 (rfl : 343 + 2 = 345) (by decide) ?_
    refine zr_fnH dL_law_345 (rfl : 345 + 3 = 348) l_L_127 (w_count (d := 1) 14 (by decide) ok) rfl rfl (Nat.le_of_ble_eq_true rfl) ?_
    rw [jct_14, h6']
    refine zr_iload dL_law_348 (rfl : 348 + 2 = 350) rfl ?_
    refine zr_if_eq (tgt := 375) dL_law_350 (by decide) (rfl : 350 + 3 = 353) (by first | exact jb_iff | exact jI_z (by first | omega | (simp only [bset, reduceIte, Nat.reduceEqDiff]; omega)) (by first | omega | (simp only [bset, reduceIte, Nat.reduceEqDiff]; omega))) (fun h350 => ?_) (fun h350 => ?_)
    rotate_left
    · exfalso
      omega
    exact s375
theorem lw_7_0 (hy : 0 ≤ y ∧ y < 2147483648) (h : jin B) (h' : jin B') (hv : -2000003 ≤ v ∧ v ≤ 100000) (q : y % 16 = 0) (hw : why = v) (h0 : 0 ≤ v) (hn : 0 < v ∨ jno B' (1 + y / 16 / 32 % 90) 0 = y / 16 % 6) (k : zRun Γ md_L_law 10 none 788 [some (.ref 0), some (.ref 5), some (.int (jI (1))), some (.int (jI (i))), some (.int (jI (y))), some (.int (jI (y / 16))), some (.int (jI (y % 16))), some (.int (jI (6))), some (.int (jI (B 12 0))), some (.int (jI (B 16 0))), some (.int (jI (B 19 0))), some (.int (jI (B 20 0))), some (.int (jI (B 21 0))), some (.int (jI (due))), some (.int (jI (balls))), some (.int (jI (ball))), some (.int (jI (why))), some (.int (jI (v))), some (.int (jI (jb (-2000000 < v))))] [] (n9, g9, kc, ks) (bk 6 B' (cr σ' τ u)) Q) : zRun Γ md_L_law 10 none 393 [some (.ref 0), some (.ref 5), some (.int (jI (1))), some (.int (jI (i))), some (.int (jI (y))), some (.int (jI (y / 16))), some (.int (jI (y % 16))), some (.int (jI (6))), some (.int (jI (B 12 0))), some (.int (jI (B 16 0))), some (.int (jI (B 19 0))), some (.int (jI (B 20 0))), some (.int (jI (B 21 0))), some (.int (jI (due))), some (.int (jI (balls))), some (.int (jI (ball))), some (.int (jI (why))), some (.int (jI (v))), some (.int (jI (jb (-2000000 < v))))] [] (n9, g9, kc, ks) (bk 6 B' (cr σ' τ u)) Q := by
  have ok := h.ok
  have ok' := h'.ok
  have hca := ok.ca
  have hca' := ok'.ca
  have hpo := ok.po2
  have hdw := jic_r B (y / 16 % 4) (y / 16 / 4 % 4)
  have hj : jb (-2000000 < v) = 1 := jb_pos (by omega)
  rw [hj] at k ⊢
  by_cases q2 : 0 < v
  · refine zr_iload_n dL_law_393 (rfl : 393 + 1 = 394) rfl ?_
    refine zr_if_eq (tgt := 446) dL_law_394 (by decide) (rfl : 394 + 3 = 397) (by first | exact jb_iff | exact jI_z (by first | omega | (simp only [bset, reduceIte, Nat.reduceEqDiff]; omega)) (by first | omega | (simp only [bset, reduceIte, Nat.reduceEqDiff]; omega))) (fun h394 => ?_) (fun h394 => ?_)
    · exfalso
      omega
    refine zr_iload dL_law_397 (rfl : 397 + 2 = 399) rfl ?_
    refine zr_if_ne (tgt := 446) dL_law_399 (by decide) (rfl : 399 + 3 = 402) (by first | exact jb_iff | exact jI_z (by first | omega | (simp only [bset, reduceIte, Nat.reduceEqDiff]; omega)) (by first | omega | (simp only [bset, reduceIte, Nat.reduceEqDiff]; omega))) (fun h399 => ?_) (fun h399 => ?_)
    · exfalso
      omega
    refine zr_iload dL_law_402 (rfl : 402 + 2 = 404) rfl ?_
    refine zr_iload dL_law_404 (rfl : 404 + 2 = 406) rfl ?_
    refine zr_icmp_ne (tgt := 441) dL_law_406 (by decide) (rfl : 406 + 3 = 409) (jI_eq (by first | omega | (simp only [bset, reduceIte, Nat.reduceEqDiff]; omega)) (by first | omega | (simp only [bset, reduceIte, Nat.reduceEqDiff]; omega)) (by first | omega | (simp only [bset, reduceIte, Nat.reduceEqDiff]; omega)) (by first | omega | (simp only [bset, reduceIte, Nat.reduceEqDiff]; omega))) (fun h406 => ?_) (fun h406 => ?_)
    · exfalso
      omega
    refine zr_iload dL_law_409 (rfl : 409 + 2 = 411) rfl ?_
    refine zr_if_gt (tgt := 437) dL_law_411 (by decide) (rfl : 411 + 3 = 414) (jI_gtz (by first | omega | (simp only [bset, reduceIte, Nat.reduceEqDiff]; omega)) (by first | omega | (simp only [bset, reduceIte, Nat.reduceEqDiff]; omega))) (fun h411 => ?_) (fun h411 => ?_)
    rotate_left
    · exfalso
      omega
    refine zr_iconst dL_law_437 (rfl : 437 + 1 = 438) ?_
    refine zr_goto (tgt := 442) dL_law_438 (by decide) ?_
    refine zr_istore_n (lv' := [_, _, _, _, _, _, _, _, _, _, _, _, _, _, _, _, _, _, _]) dL_law_442 (rfl : 442 + 1 = 443) (Nat.le_of_ble_eq_true rfl) rfl ?_
    refine zr_goto (tgt := 788) dL_law_443 (by decide) ?_
    exact k
  · have hn2 : jno B' (1 + y / 16 / 32 % 90) 0 = y / 16 % 6 := by omega
    refine zr_iload_n dL_law_393 (rfl : 393 + 1 = 394) rfl ?_
    refine zr_if_eq (tgt := 446) dL_law_394 (by decide) (rfl : 394 + 3 = 397) (by first | exact jb_iff | exact jI_z (by first | omega | (simp only [bset, reduceIte, Nat.reduceEqDiff]; omega)) (by first | omega | (simp only [bset, reduceIte, Nat.reduceEqDiff]; omega))) (fun h394 => ?_) (fun h394 => ?_)
    · exfalso
      omega
    refine zr_iload dL_law_397 (rfl : 397 + 2 = 399) rfl ?_
    refine zr_if_ne (tgt := 446) dL_law_399 (by decide) (rfl : 399 + 3 = 402) (by first | exact jb_iff | exact jI_z (by first | omega | (simp only [bset, reduceIte, Nat.reduceEqDiff]; omega)) (by first | omega | (simp only [bset, reduceIte, Nat.reduceEqDiff]; omega))) (fun h399 => ?_) (fun h399 => ?_)
    · exfalso
      omega
    refine zr_iload dL_law_402 (rfl : 402 + 2 = 404) rfl ?_
    refine zr_iload dL_law_404 (rfl : 404 + 2 = 406) rfl ?_
    refine zr_icmp_ne (tgt := 441) dL_law_406 (by decide) (rfl : 406 + 3 = 409) (jI_eq (by first | omega | (simp only [bset, reduceIte, Nat.reduceEqDiff]; omega)) (by first | omega | (simp only [bset, reduceIte, Nat.reduceEqDiff]; omega)) (by first | omega | (simp only [bset, reduceIte, Nat.reduceEqDiff]; omega)) (by first | omega | (simp only [bset, reduceIte, Nat.reduceEqDiff]; omega))) (fun h406 => ?_) (fun h406 => ?_)
    · exfalso
      omega
    refine zr_iload dL_law_409 (rfl : 409 + 2 = 411) rfl ?_
    refine zr_if_gt (tgt := 437) dL_law_411 (by decide) (rfl : 411 + 3 = 414) (jI_gtz (by first | omega | (simp only [bset, reduceIte, Nat.reduceEqDiff]; omega)) (by first | omega | (simp only [bset, reduceIte, Nat.reduceEqDiff]; omega))) (fun h411 => ?_) (fun h411 => ?_)
    · exfalso
      omega
    refine zr_aload_n dL_law_414 (rfl : 414 + 1 = 415) rfl ?_
    refine zr_iconst dL_law_415 (rfl : 415 + 1 = 416) ?_
    refine zr_iload dL_law_416 (rfl : 416 + 2 = 418) rfl ?_
    refine zr_bipush dL_law_418 (rfl : 418 + 2 = 420) (by decide) ?_
    refine zr_idiv dL_law_420 (rfl : 420 + 1 = 421) (fun q => absurd ((jI_z (by first | omega | (simp only [bset, reduceIte, Nat.reduceEqDiff]; omega)) (by first | omega | (simp only [bset, reduceIte, Nat.reduceEqDiff]; omega))).mp q) (by first | omega | (simp only [bset, reduceIte, Nat.reduceEqDiff]; omega))) (jI_div (by first | omega | (simp only [bset, reduceIte, Nat.reduceEqDiff]; omega)) (by first | omega | (simp only [bset, reduceIte, Nat.reduceEqDiff]; omega)) (by first | omega | (simp only [bset, reduceIte, Nat.reduceEqDiff]; omega)) (by first | omega | (simp only [bset, reduceIte, Nat.reduceEqDiff]; omega))) ?_
    refine zr_bipush dL_law_421 (rfl : 421 + 2 = 423) (by decide) ?_
    refine zr_irem dL_law_423 (rfl : 423 + 1 = 424) (fun q => absurd ((jI_z (by first | omega | (simp only [bset, reduceIte, Nat.reduceEqDiff]; omega)) (by first | omega | (simp only [bset, reduceIte, Nat.reduceEqDiff]; omega))).mp q) (by first | omega | (simp only [bset, reduceIte, Nat.reduceEqDiff]; omega))) (jI_rem (by first | omega | (simp only [bset, reduceIte, Nat.reduceEqDiff]; omega)) (by first | omega | (simp only [bset, reduceIte, Nat.reduceEqDiff]; omega)) (by first | omega | (simp only [bset, reduceIte, Nat.reduceEqDiff]; omega)) (by first | omega | (simp only [bset, reduceIte, Nat.reduceEqDiff]; omega))) ?_
    refine zr_iadd dL_law_424 (rfl : 424 + 1 = 425) (by first | exact jI_add _ _ | rfl) ?_
    refine zr_iconst dL_law_425 (rfl : 425 + 1 = 426) ?_
    refine zr_fnH dL_law_426 (rfl : 426 + 3 = 429) l_L_132 (w_numberOf (d := 1) (1 + y / 16 / 32 % 90) 0 ⟨⟨by omega, by omega⟩, by decide⟩ ok') rfl rfl (Nat.le_of_ble_eq_true rfl) ?_
    rw [hn2]
    refine zr_iload dL_law_429 (rfl : 429 + 2 = 431) rfl ?_
    refine zr_bipush dL_law_431 (rfl : 431 + 2 = 433) (by decide) ?_
    refine zr_irem dL_law_433 (rfl : 433 + 1 = 434) (fun q => absurd ((jI_z (by first | omega | (simp only [bset, reduceIte, Nat.reduceEqDiff]; omega)) (by first | omega | (simp only [bset, reduceIte, Nat.reduceEqDiff]; omega))).mp q) (by first | omega | (simp only [bset, reduceIte, Nat.reduceEqDiff]; omega))) (jI_rem (by first | omega | (simp only [bset, reduceIte, Nat.reduceEqDiff]; omega)) (by first | omega | (simp only [bset, reduceIte, Nat.reduceEqDiff]; omega)) (by first | omega | (simp only [bset, reduceIte, Nat.reduceEqDiff]; omega)) (by first | omega | (simp only [bset, reduceIte, Nat.reduceEqDiff]; omega))) ?_
    refine zr_icmp_ne (tgt := 441) dL_law_434 (by decide) (rfl : 434 + 3 = 437) (jI_eq (by first | omega | (simp only [bset, reduceIte, Nat.reduceEqDiff]; omega)) (by first | omega | (simp only [bset, reduceIte, Nat.reduceEqDiff]; omega)) (by first | omega | (simp only [bset, reduceIte, Nat.reduceEqDiff]; omega)) (by first | omega | (simp only [bset, reduceIte, Nat.reduceEqDiff]; omega))) (fun h434 => ?_) (fun h434 => ?_)
    · exfalso
      omega
    refine zr_iconst dL_law_437 (rfl : 437 + 1 = 438) ?_
    refine zr_goto (tgt := 442) dL_law_438 (by decide) ?_
    refine zr_istore_n (lv' := [_, _, _, _, _, _, _, _, _, _, _, _, _, _, _, _, _, _, _]) dL_law_442 (rfl : 442 + 1 = 443) (Nat.le_of_ble_eq_true rfl) rfl ?_
    refine zr_goto (tgt := 788) dL_law_443 (by decide) ?_
    exact k
theorem lw_7_c (hy : 0 ≤ y ∧ y < 2147483648) (h : jin B) (h' : jin B') (hv : -2000003 ≤ v ∧ v ≤ 100000) (q1 : 7 ≤ y % 16) (q2 : y % 16 ≤ 11) (h0 : 0 ≤ v) (hd : due = v) (hwn : B' 20 0 = B 20 0 + jb (v = 0)) (htd : B' 21 0 = B 21 0 + jb (v ≠ 0)) (hg : 0 < v ∨ (B' 10 (y / 16 / 4 % 4) = B 12 0 ∧ jbit (jgw (B' 9) (y / 16 % 4)) (y / 16 / 4 % 4) = 1)) (k : zRun Γ md_L_law 10 none 788 [some (.ref 0), some (.ref 5), some (.int (jI (1))), some (.int (jI (i))), some (.int (jI (y))), some (.int (jI (y / 16))), some (.int (jI (y % 16))), some (.int (jI (6))), some (.int (jI (B 12 0))), some (.int (jI (B 16 0))), some (.int (jI (B 19 0))), some (.int (jI (B 20 0))), some (.int (jI (B 21 0))), some (.int (jI (due))), some (.int (jI (balls))), some (.int (jI (ball))), some (.int (jI (why))), some (.int (jI (v))), some (.int (jI (jb (-2000000 < v))))] [] (n9, g9, kc, ks) (bk 6 B' (cr σ' τ u)) Q) : zRun Γ md_L_law 10 none 393 [some (.ref 0), some (.ref 5), some (.int (jI (1))), some (.int (jI (i))), some (.int (jI (y))), some (.int (jI (y / 16))), some (.int (jI (y % 16))), some (.int (jI (6))), some (.int (jI (B 12 0))), some (.int (jI (B 16 0))), some (.int (jI (B 19 0))), some (.int (jI (B 20 0))), some (.int (jI (B 21 0))), some (.int (jI (due))), some (.int (jI (balls))), some (.int (jI (ball))), some (.int (jI (why))), some (.int (jI (v))), some (.int (jI (jb (-2000000 < v))))] [] (n9, g9, kc, ks) (bk 6 B' (cr σ' τ u)) Q := by
  have ok := h.ok
  have ok' := h'.ok
  have hca := ok.ca
  have hca' := ok'.ca
  have hpo := ok.po2
  have hdw := jic_r B (y / 16 % 4) (y / 16 / 4 % 4)
  have hj : jb (-2000000 < v) = 1 := jb_pos (by omega)
  rw [hj] at k ⊢
  have g1 := jgw_r (B' 9) (y / 16 % 4)
  have e1 : (jI (jgw (B' 9) (y / 16 % 4)) >>> (jI (y / 16 / 4 % 4) &&& 31)) &&& jI 1 = jI (jbit (jgw (B' 9) (y / 16 % 4)) (y / 16 / 4 % 4)) := jbit_sh (by omega) (by omega)
  by_cases q3 : v = 0
  · rw [jb_pos q3] at hwn
    rw [jb_neg (fun e => e q3), Int.add_zero] at htd
    have hg2 : B' 10 (y / 16 / 4 % 4) = B 12 0 ∧ jbit (jgw (B' 9) (y / 16 % 4)) (y / 16 / 4 % 4) = 1 := by omega
    refine zr_iload_n dL_law_393 (rfl : 393 + 1 = 394) rfl ?_
    refine zr_if_eq (tgt := 446) dL_law_394 (by decide) (rfl : 394 + 3 = 397) (by first | exact jb_iff | exact jI_z (by first | omega | (simp only [bset, reduceIte, Nat.reduceEqDiff]; omega)) (by first | omega | (simp only [bset, reduceIte, Nat.reduceEqDiff]; omega))) (fun h394 => ?_) (fun h394 => ?_)
    · exfalso
      omega
    refine zr_iload dL_law_397 (rfl : 397 + 2 = 399) rfl ?_
    refine zr_if_ne (tgt := 446) dL_law_399 (by decide) (rfl : 399 + 3 = 402) (by first | exact jb_iff | exact jI_z (by first | omega | (simp only [bset, reduceIte, Nat.reduceEqDiff]; omega)) (by first | omega | (simp only [bset, reduceIte, Nat.reduceEqDiff]; omega))) (fun h399 => ?_) (fun h399 => ?_)
    rotate_left
    · exfalso
      omega
    refine zr_iload_n dL_law_446 (rfl : 446 + 1 = 447) rfl ?_
    refine zr_if_eq (tgt := 587) dL_law_447 (by decide) (rfl : 447 + 3 = 450) (by first | exact jb_iff | exact jI_z (by first | omega | (simp only [bset, reduceIte, Nat.reduceEqDiff]; omega)) (by first | omega | (simp only [bset, reduceIte, Nat.reduceEqDiff]; omega))) (fun h447 => ?_) (fun h447 => ?_)
    · exfalso
      omega
    refine zr_iload dL_law_450 (rfl : 450 + 2 = 452) rfl ?_
    refine zr_bipush dL_law_452 (rfl : 452 + 2 = 454) (by decide) ?_
    refine zr_icmp_le (tgt := 587) dL_law_454 (by decide) (rfl : 454 + 3 = 457) (jI_le (by first | omega | (simp only [bset, reduceIte, Nat.reduceEqDiff]; omega)) (by first | omega | (simp only [bset, reduceIte, Nat.reduceEqDiff]; omega)) (by first | omega | (simp only [bset, reduceIte, Nat.reduceEqDiff]; omega)) (by first | omega | (simp only [bset, reduceIte, Nat.reduceEqDiff]; omega))) (fun h454 => ?_) (fun h454 => ?_)
    · exfalso
      omega
    refine zr_iload dL_law_457 (rfl : 457 + 2 = 459) rfl ?_
    refine zr_bipush dL_law_459 (rfl : 459 + 2 = 461) (by decide) ?_
    refine zr_icmp_ge (tgt := 587) dL_law_461 (by decide) (rfl : 461 + 3 = 464) (jI_le (by first | omega | (simp only [bset, reduceIte, Nat.reduceEqDiff]; omega)) (by first | omega | (simp only [bset, reduceIte, Nat.reduceEqDiff]; omega)) (by first | omega | (simp only [bset, reduceIte, Nat.reduceEqDiff]; omega)) (by first | omega | (simp only [bset, reduceIte, Nat.reduceEqDiff]; omega))) (fun h461 => ?_) (fun h461 => ?_)
    · exfalso
      omega
    refine zr_iload dL_law_464 (rfl : 464 + 2 = 466) rfl ?_
    refine zr_if_eq (tgt := 572) dL_law_466 (by decide) (rfl : 466 + 3 = 469) (by first | exact jb_iff | exact jI_z (by first | omega | (simp only [bset, reduceIte, Nat.reduceEqDiff]; omega)) (by first | omega | (simp only [bset, reduceIte, Nat.reduceEqDiff]; omega))) (fun h466 => ?_) (fun h466 => ?_)
    · exfalso
      omega
    refine zr_iload dL_law_469 (rfl : 469 + 2 = 471) rfl ?_
    refine zr_iload dL_law_471 (rfl : 471 + 2 = 473) rfl ?_
    refine zr_icmp_ne (tgt := 568) dL_law_473 (by decide) (rfl : 473 + 3 = 476) (jI_eq (by first | omega | (simp only [bset, reduceIte, Nat.reduceEqDiff]; omega)) (by first | omega | (simp only [bset, reduceIte, Nat.reduceEqDiff]; omega)) (by first | omega | (simp only [bset, reduceIte, Nat.reduceEqDiff]; omega)) (by first | omega | (simp only [bset, reduceIte, Nat.reduceEqDiff]; omega))) (fun h473 => ?_) (fun h473 => ?_)
    · exfalso
      omega
    refine zr_aload_n dL_law_476 (rfl : 476 + 1 = 477) rfl ?_
    refine zr_bipush dL_law_477 (rfl : 477 + 2 = 479) (by decide) ?_
    refine zr_fnH dL_law_479 (rfl : 479 + 3 = 482) l_L_127 (w_count (d := 1) 10 (by decide) ok') rfl rfl (Nat.le_of_ble_eq_true rfl) ?_
    rw [jct_10, hwn]
    refine zr_iload dL_law_482 (rfl : 482 + 2 = 484) rfl ?_
    refine zr_iload dL_law_484 (rfl : 484 + 2 = 486) rfl ?_
    refine zr_if_ne (tgt := 493) dL_law_486 (by decide) (rfl : 486 + 3 = 489) (by first | exact jb_iff | exact jI_z (by first | omega | (simp only [bset, reduceIte, Nat.reduceEqDiff]; omega)) (by first | omega | (simp only [bset, reduceIte, Nat.reduceEqDiff]; omega))) (fun h486 => ?_) (fun h486 => ?_)
    · exfalso
      omega
    refine zr_iconst dL_law_489 (rfl : 489 + 1 = 490) ?_
    refine zr_goto (tgt := 494) dL_law_490 (by decide) ?_
    refine zr_iadd dL_law_494 (rfl : 494 + 1 = 495) (by first | exact jI_add _ _ | rfl) ?_
    refine zr_icmp_ne (tgt := 568) dL_law_495 (by decide) (rfl : 495 + 3 = 498) (jI_eqs rfl) (fun h495 => ?_) (fun h495 => ?_)
    · exfalso
      omega
    refine zr_aload_n dL_law_498 (rfl : 498 + 1 = 499) rfl ?_
    refine zr_bipush dL_law_499 (rfl : 499 + 2 = 501) (by decide) ?_
    refine zr_fnH dL_law_501 (rfl : 501 + 3 = 504) l_L_127 (w_count (d := 1) 11 (by decide) ok') rfl rfl (Nat.le_of_ble_eq_true rfl) ?_
    rw [jct_11, htd]
    refine zr_iload dL_law_504 (rfl : 504 + 2 = 506) rfl ?_
    refine zr_iload dL_law_506 (rfl : 506 + 2 = 508) rfl ?_
    refine zr_if_ne (tgt := 515) dL_law_508 (by decide) (rfl : 508 + 3 = 511) (by first | exact jb_iff | exact jI_z (by first | omega | (simp only [bset, reduceIte, Nat.reduceEqDiff]; omega)) (by first | omega | (simp only [bset, reduceIte, Nat.reduceEqDiff]; omega))) (fun h508 => ?_) (fun h508 => ?_)
    · exfalso
      omega
    refine zr_iconst dL_law_511 (rfl : 511 + 1 = 512) ?_
    refine zr_goto (tgt := 516) dL_law_512 (by decide) ?_
    refine zr_iadd dL_law_516 (rfl : 516 + 1 = 517) (by first | exact jI_add _ _ | rfl) ?_
    refine zr_icmp_ne (tgt := 568) dL_law_517 (by decide) (rfl : 517 + 3 = 520) (jI_eqs (Int.add_zero _).symm) (fun h517 => ?_) (fun h517 => ?_)
    · exfalso
      omega
    refine zr_iload dL_law_520 (rfl : 520 + 2 = 522) rfl ?_
    refine zr_if_gt (tgt := 564) dL_law_522 (by decide) (rfl : 522 + 3 = 525) (jI_gtz (by first | omega | (simp only [bset, reduceIte, Nat.reduceEqDiff]; omega)) (by first | omega | (simp only [bset, reduceIte, Nat.reduceEqDiff]; omega))) (fun h522 => ?_) (fun h522 => ?_)
    · exfalso
      omega
    refine zr_aload_n dL_law_525 (rfl : 525 + 1 = 526) rfl ?_
    refine zr_iload dL_law_526 (rfl : 526 + 2 = 528) rfl ?_
    refine zr_iconst dL_law_528 (rfl : 528 + 1 = 529) ?_
    refine zr_idiv dL_law_529 (rfl : 529 + 1 = 530) (fun q => absurd ((jI_z (by first | omega | (simp only [bset, reduceIte, Nat.reduceEqDiff]; omega)) (by first | omega | (simp only [bset, reduceIte, Nat.reduceEqDiff]; omega))).mp q) (by first | omega | (simp only [bset, reduceIte, Nat.reduceEqDiff]; omega))) (jI_div (by first | omega | (simp only [bset, reduceIte, Nat.reduceEqDiff]; omega)) (by first | omega | (simp only [bset, reduceIte, Nat.reduceEqDiff]; omega)) (by first | omega | (simp only [bset, reduceIte, Nat.reduceEqDiff]; omega)) (by first | omega | (simp only [bset, reduceIte, Nat.reduceEqDiff]; omega))) ?_
    refine zr_iconst dL_law_530 (rfl : 530 + 1 = 531) ?_
    refine zr_irem dL_law_531 (rfl : 531 + 1 = 532) (fun q => absurd ((jI_z (by first | omega | (simp only [bset, reduceIte, Nat.reduceEqDiff]; omega)) (by first | omega | (simp only [bset, reduceIte, Nat.reduceEqDiff]; omega))).mp q) (by first | omega | (simp only [bset, reduceIte, Nat.reduceEqDiff]; omega))) (jI_rem (by first | omega | (simp only [bset, reduceIte, Nat.reduceEqDiff]; omega)) (by first | omega | (simp only [bset, reduceIte, Nat.reduceEqDiff]; omega)) (by first | omega | (simp only [bset, reduceIte, Nat.reduceEqDiff]; omega)) (by first | omega | (simp only [bset, reduceIte, Nat.reduceEqDiff]; omega))) ?_
    refine zr_iconst dL_law_532 (rfl : 532 + 1 = 533) ?_
    refine zr_fnH dL_law_533 (rfl : 533 + 3 = 536) l_L_144 (w_gameOf (d := 1) (y / 16 / 4 % 4) 1 (by first | omega | (simp only [bset, reduceIte, Nat.reduceEqDiff]; omega)) (by decide) ok') rfl rfl (Nat.le_of_ble_eq_true rfl) ?_
    rw [jga_1, hg2.1]
    refine zr_iload dL_law_536 (rfl : 536 + 2 = 538) rfl ?_
    refine zr_icmp_ne (tgt := 568) dL_law_538 (by decide) (rfl : 538 + 3 = 541) (jI_eq (by first | omega | (simp only [bset, reduceIte, Nat.reduceEqDiff]; omega)) (by first | omega | (simp only [bset, reduceIte, Nat.reduceEqDiff]; omega)) (by first | omega | (simp only [bset, reduceIte, Nat.reduceEqDiff]; omega)) (by first | omega | (simp only [bset, reduceIte, Nat.reduceEqDiff]; omega))) (fun h538 => ?_) (fun h538 => ?_)
    · exfalso
      omega
    refine zr_aload_n dL_law_541 (rfl : 541 + 1 = 542) rfl ?_
    refine zr_iload dL_law_542 (rfl : 542 + 2 = 544) rfl ?_
    refine zr_iconst dL_law_544 (rfl : 544 + 1 = 545) ?_
    refine zr_irem dL_law_545 (rfl : 545 + 1 = 546) (fun q => absurd ((jI_z (by first | omega | (simp only [bset, reduceIte, Nat.reduceEqDiff]; omega)) (by first | omega | (simp only [bset, reduceIte, Nat.reduceEqDiff]; omega))).mp q) (by first | omega | (simp only [bset, reduceIte, Nat.reduceEqDiff]; omega))) (jI_rem (by first | omega | (simp only [bset, reduceIte, Nat.reduceEqDiff]; omega)) (by first | omega | (simp only [bset, reduceIte, Nat.reduceEqDiff]; omega)) (by first | omega | (simp only [bset, reduceIte, Nat.reduceEqDiff]; omega)) (by first | omega | (simp only [bset, reduceIte, Nat.reduceEqDiff]; omega))) ?_
    refine zr_bipush dL_law_546 (rfl : 546 + 2 = 548) (by decide) ?_
    refine zr_fnH dL_law_548 (rfl : 548 + 3 = 551) l_L_136 (w_cardOf (d := 1) (y / 16 % 4) 6 (by first | omega | (simp only [bset, reduceIte, Nat.reduceEqDiff]; omega)) (by decide) ok') rfl rfl (Nat.le_of_ble_eq_true rfl) ?_
    rw [jcd_6]
    refine zr_iload dL_law_551 (rfl : 551 + 2 = 553) rfl ?_
    refine zr_iconst dL_law_553 (rfl : 553 + 1 = 554) ?_
    refine zr_idiv dL_law_554 (rfl : 554 + 1 = 555) (fun q => absurd ((jI_z (by first | omega | (simp only [bset, reduceIte, Nat.reduceEqDiff]; omega)) (by first | omega | (simp only [bset, reduceIte, Nat.reduceEqDiff]; omega))).mp q) (by first | omega | (simp only [bset, reduceIte, Nat.reduceEqDiff]; omega))) (jI_div (by first | omega | (simp only [bset, reduceIte, Nat.reduceEqDiff]; omega)) (by first | omega | (simp only [bset, reduceIte, Nat.reduceEqDiff]; omega)) (by first | omega | (simp only [bset, reduceIte, Nat.reduceEqDiff]; omega)) (by first | omega | (simp only [bset, reduceIte, Nat.reduceEqDiff]; omega))) ?_
    refine zr_iconst dL_law_555 (rfl : 555 + 1 = 556) ?_
    refine zr_irem dL_law_556 (rfl : 556 + 1 = 557) (fun q => absurd ((jI_z (by first | omega | (simp only [bset, reduceIte, Nat.reduceEqDiff]; omega)) (by first | omega | (simp only [bset, reduceIte, Nat.reduceEqDiff]; omega))).mp q) (by first | omega | (simp only [bset, reduceIte, Nat.reduceEqDiff]; omega))) (jI_rem (by first | omega | (simp only [bset, reduceIte, Nat.reduceEqDiff]; omega)) (by first | omega | (simp only [bset, reduceIte, Nat.reduceEqDiff]; omega)) (by first | omega | (simp only [bset, reduceIte, Nat.reduceEqDiff]; omega)) (by first | omega | (simp only [bset, reduceIte, Nat.reduceEqDiff]; omega))) ?_
    refine zr_ishr dL_law_557 (rfl : 557 + 1 = 558) rfl ?_
    refine zr_iconst dL_law_558 (rfl : 558 + 1 = 559) ?_
    refine zr_iand dL_law_559 (rfl : 559 + 1 = 560) rfl ?_
    rw [e1, hg2.2]
    refine zr_iconst dL_law_560 (rfl : 560 + 1 = 561) ?_
    refine zr_icmp_ne (tgt := 568) dL_law_561 (by decide) (rfl : 561 + 3 = 564) (jI_eq (by first | omega | (simp only [bset, reduceIte, Nat.reduceEqDiff]; omega)) (by first | omega | (simp only [bset, reduceIte, Nat.reduceEqDiff]; omega)) (by first | omega | (simp only [bset, reduceIte, Nat.reduceEqDiff]; omega)) (by first | omega | (simp only [bset, reduceIte, Nat.reduceEqDiff]; omega))) (fun h561 => ?_) (fun h561 => ?_)
    · exfalso
      omega
    refine zr_iconst dL_law_564 (rfl : 564 + 1 = 565) ?_
    refine zr_goto (tgt := 583) dL_law_565 (by decide) ?_
    refine zr_istore_n (lv' := [_, _, _, _, _, _, _, _, _, _, _, _, _, _, _, _, _, _, _]) dL_law_583 (rfl : 583 + 1 = 584) (Nat.le_of_ble_eq_true rfl) rfl ?_
    refine zr_goto (tgt := 788) dL_law_584 (by decide) ?_
    exact k
  · rw [jb_neg q3, Int.add_zero] at hwn
    rw [jb_pos q3] at htd
    refine zr_iload_n dL_law_393 (rfl : 393 + 1 = 394) rfl ?_
    refine zr_if_eq (tgt := 446) dL_law_394 (by decide) (rfl : 394 + 3 = 397) (by first | exact jb_iff | exact jI_z (by first | omega | (simp only [bset, reduceIte, Nat.reduceEqDiff]; omega)) (by first | omega | (simp only [bset, reduceIte, Nat.reduceEqDiff]; omega))) (fun h394 => ?_) (fun h394 => ?_)
    · exfalso
      omega
    refine zr_iload dL_law_397 (rfl : 397 + 2 = 399) rfl ?_
    refine zr_if_ne (tgt := 446) dL_law_399 (by decide) (rfl : 399 + 3 = 402) (by first | exact jb_iff | exact jI_z (by first | omega | (simp only [bset, reduceIte, Nat.reduceEqDiff]; omega)) (by first | omega | (simp only [bset, reduceIte, Nat.reduceEqDiff]; omega))) (fun h399 => ?_) (fun h399 => ?_)
    rotate_left
    · exfalso
      omega
    refine zr_iload_n dL_law_446 (rfl : 446 + 1 = 447) rfl ?_
    refine zr_if_eq (tgt := 587) dL_law_447 (by decide) (rfl : 447 + 3 = 450) (by first | exact jb_iff | exact jI_z (by first | omega | (simp only [bset, reduceIte, Nat.reduceEqDiff]; omega)) (by first | omega | (simp only [bset, reduceIte, Nat.reduceEqDiff]; omega))) (fun h447 => ?_) (fun h447 => ?_)
    · exfalso
      omega
    refine zr_iload dL_law_450 (rfl : 450 + 2 = 452) rfl ?_
    refine zr_bipush dL_law_452 (rfl : 452 + 2 = 454) (by decide) ?_
    refine zr_icmp_le (tgt := 587) dL_law_454 (by decide) (rfl : 454 + 3 = 457) (jI_le (by first | omega | (simp only [bset, reduceIte, Nat.reduceEqDiff]; omega)) (by first | omega | (simp only [bset, reduceIte, Nat.reduceEqDiff]; omega)) (by first | omega | (simp only [bset, reduceIte, Nat.reduceEqDiff]; omega)) (by first | omega | (simp only [bset, reduceIte, Nat.reduceEqDiff]; omega))) (fun h454 => ?_) (fun h454 => ?_)
    · exfalso
      omega
    refine zr_iload dL_law_457 (rfl : 457 + 2 = 459) rfl ?_
    refine zr_bipush dL_law_459 (rfl : 459 + 2 = 461) (by decide) ?_
    refine zr_icmp_ge (tgt := 587) dL_law_461 (by decide) (rfl : 461 + 3 = 464) (jI_le (by first | omega | (simp only [bset, reduceIte, Nat.reduceEqDiff]; omega)) (by first | omega | (simp only [bset, reduceIte, Nat.reduceEqDiff]; omega)) (by first | omega | (simp only [bset, reduceIte, Nat.reduceEqDiff]; omega)) (by first | omega | (simp only [bset, reduceIte, Nat.reduceEqDiff]; omega))) (fun h461 => ?_) (fun h461 => ?_)
    · exfalso
      omega
    refine zr_iload dL_law_464 (rfl : 464 + 2 = 466) rfl ?_
    refine zr_if_eq (tgt := 572) dL_law_466 (by decide) (rfl : 466 + 3 = 469) (by first | exact jb_iff | exact jI_z (by first | omega | (simp only [bset, reduceIte, Nat.reduceEqDiff]; omega)) (by first | omega | (simp only [bset, reduceIte, Nat.reduceEqDiff]; omega))) (fun h466 => ?_) (fun h466 => ?_)
    · exfalso
      omega
    refine zr_iload dL_law_469 (rfl : 469 + 2 = 471) rfl ?_
    refine zr_iload dL_law_471 (rfl : 471 + 2 = 473) rfl ?_
    refine zr_icmp_ne (tgt := 568) dL_law_473 (by decide) (rfl : 473 + 3 = 476) (jI_eq (by first | omega | (simp only [bset, reduceIte, Nat.reduceEqDiff]; omega)) (by first | omega | (simp only [bset, reduceIte, Nat.reduceEqDiff]; omega)) (by first | omega | (simp only [bset, reduceIte, Nat.reduceEqDiff]; omega)) (by first | omega | (simp only [bset, reduceIte, Nat.reduceEqDiff]; omega))) (fun h473 => ?_) (fun h473 => ?_)
    · exfalso
      omega
    refine zr_aload_n dL_law_476 (rfl : 476 + 1 = 477) rfl ?_
    refine zr_bipush dL_law_477 (rfl : 477 + 2 = 479) (by decide) ?_
    refine zr_fnH dL_law_479 (rfl : 479 + 3 = 482) l_L_127 (w_count (d := 1) 10 (by decide) ok') rfl rfl (Nat.le_of_ble_eq_true rfl) ?_
    rw [jct_10, hwn]
    refine zr_iload dL_law_482 (rfl : 482 + 2 = 484) rfl ?_
    refine zr_iload dL_law_484 (rfl : 484 + 2 = 486) rfl ?_
    refine zr_if_ne (tgt := 493) dL_law_486 (by decide) (rfl : 486 + 3 = 489) (by first | exact jb_iff | exact jI_z (by first | omega | (simp only [bset, reduceIte, Nat.reduceEqDiff]; omega)) (by first | omega | (simp only [bset, reduceIte, Nat.reduceEqDiff]; omega))) (fun h486 => ?_) (fun h486 => ?_)
    rotate_left
    · exfalso
      omega
    refine zr_iconst dL_law_493 (rfl : 493 + 1 = 494) ?_
    refine zr_iadd dL_law_494 (rfl : 494 + 1 = 495) (by first | exact jI_add _ _ | rfl) ?_
    refine zr_icmp_ne (tgt := 568) dL_law_495 (by decide) (rfl : 495 + 3 = 498) (jI_eqs (Int.add_zero _).symm) (fun h495 => ?_) (fun h495 => ?_)
    · exfalso
      omega
    refine zr_aload_n dL_law_498 (rfl : 498 + 1 = 499) rfl ?_
    refine zr_bipush dL_law_499 (rfl : 499 + 2 = 501) (by decide) ?_
    refine zr_fnH dL_law_501 (rfl : 501 + 3 = 504) l_L_127 (w_count (d := 1) 11 (by decide) ok') rfl rfl (Nat.le_of_ble_eq_true rfl) ?_
    rw [jct_11, htd]
    refine zr_iload dL_law_504 (rfl : 504 + 2 = 506) rfl ?_
    refine zr_iload dL_law_506 (rfl : 506 + 2 = 508) rfl ?_
    refine zr_if_ne (tgt := 515) dL_law_508 (by decide) (rfl : 508 + 3 = 511) (by first | exact jb_iff | exact jI_z (by first | omega | (simp only [bset, reduceIte, Nat.reduceEqDiff]; omega)) (by first | omega | (simp only [bset, reduceIte, Nat.reduceEqDiff]; omega))) (fun h508 => ?_) (fun h508 => ?_)
    rotate_left
    · exfalso
      omega
    refine zr_iconst dL_law_515 (rfl : 515 + 1 = 516) ?_
    refine zr_iadd dL_law_516 (rfl : 516 + 1 = 517) (by first | exact jI_add _ _ | rfl) ?_
    refine zr_icmp_ne (tgt := 568) dL_law_517 (by decide) (rfl : 517 + 3 = 520) (jI_eqs rfl) (fun h517 => ?_) (fun h517 => ?_)
    · exfalso
      omega
    refine zr_iload dL_law_520 (rfl : 520 + 2 = 522) rfl ?_
    refine zr_if_gt (tgt := 564) dL_law_522 (by decide) (rfl : 522 + 3 = 525) (jI_gtz (by first | omega | (simp only [bset, reduceIte, Nat.reduceEqDiff]; omega)) (by first | omega | (simp only [bset, reduceIte, Nat.reduceEqDiff]; omega))) (fun h522 => ?_) (fun h522 => ?_)
    rotate_left
    · exfalso
      omega
    refine zr_iconst dL_law_564 (rfl : 564 + 1 = 565) ?_
    refine zr_goto (tgt := 583) dL_law_565 (by decide) ?_
    refine zr_istore_n (lv' := [_, _, _, _, _, _, _, _, _, _, _, _, _, _, _, _, _, _, _]) dL_law_583 (rfl : 583 + 1 = 584) (Nat.le_of_ble_eq_true rfl) rfl ?_
    refine zr_goto (tgt := 788) dL_law_584 (by decide) ?_
    exact k
theorem lw_7_cn (hy : 0 ≤ y ∧ y < 2147483648) (h : jin B) (h' : jin B') (hv : -2000003 ≤ v ∧ v ≤ 100000) (q1 : 7 ≤ y % 16) (q2 : y % 16 ≤ 11) (h0 : v = -2000002) (hd : due = -1) (k : zRun Γ md_L_law 10 none 788 [some (.ref 0), some (.ref 5), some (.int (jI (1))), some (.int (jI (i))), some (.int (jI (y))), some (.int (jI (y / 16))), some (.int (jI (y % 16))), some (.int (jI (6))), some (.int (jI (B 12 0))), some (.int (jI (B 16 0))), some (.int (jI (B 19 0))), some (.int (jI (B 20 0))), some (.int (jI (B 21 0))), some (.int (jI (due))), some (.int (jI (balls))), some (.int (jI (ball))), some (.int (jI (why))), some (.int (jI (v))), some (.int (jI (jb (-2000000 < v))))] [] (n9, g9, kc, ks) (bk 6 B' (cr σ' τ u)) Q) : zRun Γ md_L_law 10 none 393 [some (.ref 0), some (.ref 5), some (.int (jI (1))), some (.int (jI (i))), some (.int (jI (y))), some (.int (jI (y / 16))), some (.int (jI (y % 16))), some (.int (jI (6))), some (.int (jI (B 12 0))), some (.int (jI (B 16 0))), some (.int (jI (B 19 0))), some (.int (jI (B 20 0))), some (.int (jI (B 21 0))), some (.int (jI (due))), some (.int (jI (balls))), some (.int (jI (ball))), some (.int (jI (why))), some (.int (jI (v))), some (.int (jI (jb (-2000000 < v))))] [] (n9, g9, kc, ks) (bk 6 B' (cr σ' τ u)) Q := by
  have ok := h.ok
  have ok' := h'.ok
  have hca := ok.ca
  have hca' := ok'.ca
  have hpo := ok.po2
  have hdw := jic_r B (y / 16 % 4) (y / 16 / 4 % 4)
  have hj : jb (-2000000 < v) = 0 := jb_neg (by omega)
  rw [hj] at k ⊢
  refine zr_iload_n dL_law_393 (rfl : 393 + 1 = 394) rfl ?_
  refine zr_if_eq (tgt := 446) dL_law_394 (by decide) (rfl : 394 + 3 = 397) (by first | exact jb_iff | exact jI_z (by first | omega | (simp only [bset, reduceIte, Nat.reduceEqDiff]; omega)) (by first | omega | (simp only [bset, reduceIte, Nat.reduceEqDiff]; omega))) (fun h394 => ?_) (fun h394 => ?_)
  · exfalso
    omega
  refine zr_iload dL_law_397 (rfl : 397 + 2 = 399) rfl ?_
  refine zr_if_ne (tgt := 446) dL_law_399 (by decide) (rfl : 399 + 3 = 402) (by first | exact jb_iff | exact jI_z (by first | omega | (simp only [bset, reduceIte, Nat.reduceEqDiff]; omega)) (by first | omega | (simp only [bset, reduceIte, Nat.reduceEqDiff]; omega))) (fun h399 => ?_) (fun h399 => ?_)
  rotate_left
  · exfalso
    omega
  refine zr_iload_n dL_law_446 (rfl : 446 + 1 = 447) rfl ?_
  refine zr_if_eq (tgt := 587) dL_law_447 (by decide) (rfl : 447 + 3 = 450) (by first | exact jb_iff | exact jI_z (by first | omega | (simp only [bset, reduceIte, Nat.reduceEqDiff]; omega)) (by first | omega | (simp only [bset, reduceIte, Nat.reduceEqDiff]; omega))) (fun h447 => ?_) (fun h447 => ?_)
  · exfalso
    omega
  refine zr_iload dL_law_450 (rfl : 450 + 2 = 452) rfl ?_
  refine zr_bipush dL_law_452 (rfl : 452 + 2 = 454) (by decide) ?_
  refine zr_icmp_le (tgt := 587) dL_law_454 (by decide) (rfl : 454 + 3 = 457) (jI_le (by first | omega | (simp only [bset, reduceIte, Nat.reduceEqDiff]; omega)) (by first | omega | (simp only [bset, reduceIte, Nat.reduceEqDiff]; omega)) (by first | omega | (simp only [bset, reduceIte, Nat.reduceEqDiff]; omega)) (by first | omega | (simp only [bset, reduceIte, Nat.reduceEqDiff]; omega))) (fun h454 => ?_) (fun h454 => ?_)
  · exfalso
    omega
  refine zr_iload dL_law_457 (rfl : 457 + 2 = 459) rfl ?_
  refine zr_bipush dL_law_459 (rfl : 459 + 2 = 461) (by decide) ?_
  refine zr_icmp_ge (tgt := 587) dL_law_461 (by decide) (rfl : 461 + 3 = 464) (jI_le (by first | omega | (simp only [bset, reduceIte, Nat.reduceEqDiff]; omega)) (by first | omega | (simp only [bset, reduceIte, Nat.reduceEqDiff]; omega)) (by first | omega | (simp only [bset, reduceIte, Nat.reduceEqDiff]; omega)) (by first | omega | (simp only [bset, reduceIte, Nat.reduceEqDiff]; omega))) (fun h461 => ?_) (fun h461 => ?_)
  · exfalso
    omega
  refine zr_iload dL_law_464 (rfl : 464 + 2 = 466) rfl ?_
  refine zr_if_eq (tgt := 572) dL_law_466 (by decide) (rfl : 466 + 3 = 469) (by first | exact jb_iff | exact jI_z (by first | omega | (simp only [bset, reduceIte, Nat.reduceEqDiff]; omega)) (by first | omega | (simp only [bset, reduceIte, Nat.reduceEqDiff]; omega))) (fun h466 => ?_) (fun h466 => ?_)
  rotate_left
  · exfalso
    omega
  refine zr_iload dL_law_572 (rfl : 572 + 2 = 574) rfl ?_
  refine zr_iconst dL_law_574 (rfl : 574 + 1 = 575) ?_
  refine zr_icmp_ne (tgt := 582) dL_law_575 (by decide) (rfl : 575 + 3 = 578) (jI_eq (by first | omega | (simp only [bset, reduceIte, Nat.reduceEqDiff]; omega)) (by first | omega | (simp only [bset, reduceIte, Nat.reduceEqDiff]; omega)) (by first | omega | (simp only [bset, reduceIte, Nat.reduceEqDiff]; omega)) (by first | omega | (simp only [bset, reduceIte, Nat.reduceEqDiff]; omega))) (fun h575 => ?_) (fun h575 => ?_)
  · exfalso
    omega
  refine zr_iconst dL_law_578 (rfl : 578 + 1 = 579) ?_
  refine zr_goto (tgt := 583) dL_law_579 (by decide) ?_
  refine zr_istore_n (lv' := [_, _, _, _, _, _, _, _, _, _, _, _, _, _, _, _, _, _, _]) dL_law_583 (rfl : 583 + 1 = 584) (Nat.le_of_ble_eq_true rfl) rfl ?_
  refine zr_goto (tgt := 788) dL_law_584 (by decide) ?_
  exact k
theorem lw_7_e (hy : 0 ≤ y ∧ y < 2147483648) (h : jin B) (h' : jin B') (hv : -2000003 ≤ v ∧ v ≤ 100000) (q : y % 16 = 6) (q2 : y / 16 % 8 = 0) (h0 : -5688 ≤ v) (h1 : v ≤ B 16 0) (h2 : B' 16 0 = 0) (h3 : B' 12 0 = 0) (h4 : B' 19 0 = B 19 0 + v) (h5 : B' 11 0 = 0) (k : zRun Γ md_L_law 10 none 788 [some (.ref 0), some (.ref 5), some (.int (jI (1))), some (.int (jI (i))), some (.int (jI (y))), some (.int (jI (y / 16))), some (.int (jI (y % 16))), some (.int (jI (6))), some (.int (jI (B 12 0))), some (.int (jI (B 16 0))), some (.int (jI (B 19 0))), some (.int (jI (B 20 0))), some (.int (jI (B 21 0))), some (.int (jI (due))), some (.int (jI (balls))), some (.int (jI (ball))), some (.int (jI (why))), some (.int (jI (v))), some (.int (jI (jb (-2000000 < v))))] [] (n9, g9, kc, ks) (bk 6 B' (cr σ' τ u)) Q) : zRun Γ md_L_law 10 none 393 [some (.ref 0), some (.ref 5), some (.int (jI (1))), some (.int (jI (i))), some (.int (jI (y))), some (.int (jI (y / 16))), some (.int (jI (y % 16))), some (.int (jI (6))), some (.int (jI (B 12 0))), some (.int (jI (B 16 0))), some (.int (jI (B 19 0))), some (.int (jI (B 20 0))), some (.int (jI (B 21 0))), some (.int (jI (due))), some (.int (jI (balls))), some (.int (jI (ball))), some (.int (jI (why))), some (.int (jI (v))), some (.int (jI (jb (-2000000 < v))))] [] (n9, g9, kc, ks) (bk 6 B' (cr σ' τ u)) Q := by
  have ok := h.ok
  have ok' := h'.ok
  have hca := ok.ca
  have hca' := ok'.ca
  have hpo := ok.po2
  have hdw := jic_r B (y / 16 % 4) (y / 16 / 4 % 4)
  have hj : jb (-2000000 < v) = 1 := jb_pos (by omega)
  rw [hj] at k ⊢
  have hb0 : jbc (B' 11 0) = 0 := by rw [h5]; rfl
  refine zr_iload_n dL_law_393 (rfl : 393 + 1 = 394) rfl ?_
  refine zr_if_eq (tgt := 446) dL_law_394 (by decide) (rfl : 394 + 3 = 397) (by first | exact jb_iff | exact jI_z (by first | omega | (simp only [bset, reduceIte, Nat.reduceEqDiff]; omega)) (by first | omega | (simp only [bset, reduceIte, Nat.reduceEqDiff]; omega))) (fun h394 => ?_) (fun h394 => ?_)
  · exfalso
    omega
  refine zr_iload dL_law_397 (rfl : 397 + 2 = 399) rfl ?_
  refine zr_if_ne (tgt := 446) dL_law_399 (by decide) (rfl : 399 + 3 = 402) (by first | exact jb_iff | exact jI_z (by first | omega | (simp only [bset, reduceIte, Nat.reduceEqDiff]; omega)) (by first | omega | (simp only [bset, reduceIte, Nat.reduceEqDiff]; omega))) (fun h399 => ?_) (fun h399 => ?_)
  rotate_left
  · exfalso
    omega
  refine zr_iload_n dL_law_446 (rfl : 446 + 1 = 447) rfl ?_
  refine zr_if_eq (tgt := 587) dL_law_447 (by decide) (rfl : 447 + 3 = 450) (by first | exact jb_iff | exact jI_z (by first | omega | (simp only [bset, reduceIte, Nat.reduceEqDiff]; omega)) (by first | omega | (simp only [bset, reduceIte, Nat.reduceEqDiff]; omega))) (fun h447 => ?_) (fun h447 => ?_)
  · exfalso
    omega
  refine zr_iload dL_law_450 (rfl : 450 + 2 = 452) rfl ?_
  refine zr_bipush dL_law_452 (rfl : 452 + 2 = 454) (by decide) ?_
  refine zr_icmp_le (tgt := 587) dL_law_454 (by decide) (rfl : 454 + 3 = 457) (jI_le (by first | omega | (simp only [bset, reduceIte, Nat.reduceEqDiff]; omega)) (by first | omega | (simp only [bset, reduceIte, Nat.reduceEqDiff]; omega)) (by first | omega | (simp only [bset, reduceIte, Nat.reduceEqDiff]; omega)) (by first | omega | (simp only [bset, reduceIte, Nat.reduceEqDiff]; omega))) (fun h454 => ?_) (fun h454 => ?_)
  rotate_left
  · exfalso
    omega
  refine zr_iload_n dL_law_587 (rfl : 587 + 1 = 588) rfl ?_
  refine zr_if_eq (tgt := 661) dL_law_588 (by decide) (rfl : 588 + 3 = 591) (by first | exact jb_iff | exact jI_z (by first | omega | (simp only [bset, reduceIte, Nat.reduceEqDiff]; omega)) (by first | omega | (simp only [bset, reduceIte, Nat.reduceEqDiff]; omega))) (fun h588 => ?_) (fun h588 => ?_)
  · exfalso
    omega
  refine zr_iload dL_law_591 (rfl : 591 + 2 = 593) rfl ?_
  refine zr_bipush dL_law_593 (rfl : 593 + 2 = 595) (by decide) ?_
  refine zr_icmp_ne (tgt := 661) dL_law_595 (by decide) (rfl : 595 + 3 = 598) (jI_eq (by first | omega | (simp only [bset, reduceIte, Nat.reduceEqDiff]; omega)) (by first | omega | (simp only [bset, reduceIte, Nat.reduceEqDiff]; omega)) (by first | omega | (simp only [bset, reduceIte, Nat.reduceEqDiff]; omega)) (by first | omega | (simp only [bset, reduceIte, Nat.reduceEqDiff]; omega))) (fun h595 => ?_) (fun h595 => ?_)
  · exfalso
    omega
  refine zr_iload dL_law_598 (rfl : 598 + 2 = 600) rfl ?_
  refine zr_bipush dL_law_600 (rfl : 600 + 2 = 602) (by decide) ?_
  refine zr_irem dL_law_602 (rfl : 602 + 1 = 603) (fun q => absurd ((jI_z (by first | omega | (simp only [bset, reduceIte, Nat.reduceEqDiff]; omega)) (by first | omega | (simp only [bset, reduceIte, Nat.reduceEqDiff]; omega))).mp q) (by first | omega | (simp only [bset, reduceIte, Nat.reduceEqDiff]; omega))) (jI_rem (by first | omega | (simp only [bset, reduceIte, Nat.reduceEqDiff]; omega)) (by first | omega | (simp only [bset, reduceIte, Nat.reduceEqDiff]; omega)) (by first | omega | (simp only [bset, reduceIte, Nat.reduceEqDiff]; omega)) (by first | omega | (simp only [bset, reduceIte, Nat.reduceEqDiff]; omega))) ?_
  refine zr_if_ne (tgt := 661) dL_law_603 (by decide) (rfl : 603 + 3 = 606) (by first | exact jb_iff | exact jI_z (by first | omega | (simp only [bset, reduceIte, Nat.reduceEqDiff]; omega)) (by first | omega | (simp only [bset, reduceIte, Nat.reduceEqDiff]; omega))) (fun h603 => ?_) (fun h603 => ?_)
  · exfalso
    omega
  refine zr_aload_n dL_law_606 (rfl : 606 + 1 = 607) rfl ?_
  refine zr_iconst dL_law_607 (rfl : 607 + 1 = 608) ?_
  refine zr_fnH dL_law_608 (rfl : 608 + 3 = 611) l_L_127 (w_count (d := 1) 3 (by decide) ok') rfl rfl (Nat.le_of_ble_eq_true rfl) ?_
  rw [jct_3, h2]
  refine zr_if_ne (tgt := 656) dL_law_611 (by decide) (rfl : 611 + 3 = 614) (by first | exact jb_iff | exact jI_z (by first | omega | (simp only [bset, reduceIte, Nat.reduceEqDiff]; omega)) (by first | omega | (simp only [bset, reduceIte, Nat.reduceEqDiff]; omega))) (fun h611 => ?_) (fun h611 => ?_)
  · exfalso
    omega
  refine zr_aload_n dL_law_614 (rfl : 614 + 1 = 615) rfl ?_
  refine zr_bipush dL_law_615 (rfl : 615 + 2 = 617) (by decide) ?_
  refine zr_fnH dL_law_617 (rfl : 617 + 3 = 620) l_L_127 (w_count (d := 1) 8 (by decide) ok') rfl rfl (Nat.le_of_ble_eq_true rfl) ?_
  rw [jct_8, h3]
  refine zr_if_ne (tgt := 656) dL_law_620 (by decide) (rfl : 620 + 3 = 623) (by first | exact jb_iff | exact jI_z (by first | omega | (simp only [bset, reduceIte, Nat.reduceEqDiff]; omega)) (by first | omega | (simp only [bset, reduceIte, Nat.reduceEqDiff]; omega))) (fun h620 => ?_) (fun h620 => ?_)
  · exfalso
    omega
  refine zr_aload_n dL_law_623 (rfl : 623 + 1 = 624) rfl ?_
  refine zr_bipush dL_law_624 (rfl : 624 + 2 = 626) (by decide) ?_
  refine zr_fnH dL_law_626 (rfl : 626 + 3 = 629) l_L_127 (w_count (d := 1) 6 (by decide) ok') rfl rfl (Nat.le_of_ble_eq_true rfl) ?_
  rw [jct_6, h4]
  refine zr_iload dL_law_629 (rfl : 629 + 2 = 631) rfl ?_
  refine zr_iload dL_law_631 (rfl : 631 + 2 = 633) rfl ?_
  refine zr_iadd dL_law_633 (rfl : 633 + 1 = 634) (by first | exact jI_add _ _ | rfl) ?_
  refine zr_icmp_ne (tgt := 656) dL_law_634 (by decide) (rfl : 634 + 3 = 637) (jI_eqs rfl) (fun h634 => ?_) (fun h634 => ?_)
  · exfalso
    omega
  refine zr_iload dL_law_637 (rfl : 637 + 2 = 639) rfl ?_
  refine zr_iload dL_law_639 (rfl : 639 + 2 = 641) rfl ?_
  refine zr_icmp_gt (tgt := 656) dL_law_641 (by decide) (rfl : 641 + 3 = 644) (jI_lt (by first | omega | (simp only [bset, reduceIte, Nat.reduceEqDiff]; omega)) (by first | omega | (simp only [bset, reduceIte, Nat.reduceEqDiff]; omega)) (by first | omega | (simp only [bset, reduceIte, Nat.reduceEqDiff]; omega)) (by first | omega | (simp only [bset, reduceIte, Nat.reduceEqDiff]; omega))) (fun h641 => ?_) (fun h641 => ?_)
  · exfalso
    omega
  refine zr_aload_n dL_law_644 (rfl : 644 + 1 = 645) rfl ?_
  refine zr_iconst dL_law_645 (rfl : 645 + 1 = 646) ?_
  refine zr_fnH dL_law_646 (rfl : 646 + 3 = 649) l_L_127 (w_count (d := 1) 2 (by decide) ok') rfl rfl (Nat.le_of_ble_eq_true rfl) ?_
  rw [jct_2, hb0]
  refine zr_if_ne (tgt := 656) dL_law_649 (by decide) (rfl : 649 + 3 = 652) (by first | exact jb_iff | exact jI_z (by first | omega | (simp only [bset, reduceIte, Nat.reduceEqDiff]; omega)) (by first | omega | (simp only [bset, reduceIte, Nat.reduceEqDiff]; omega))) (fun h649 => ?_) (fun h649 => ?_)
  · exfalso
    omega
  refine zr_iconst dL_law_652 (rfl : 652 + 1 = 653) ?_
  refine zr_goto (tgt := 657) dL_law_653 (by decide) ?_
  refine zr_istore_n (lv' := [_, _, _, _, _, _, _, _, _, _, _, _, _, _, _, _, _, _, _]) dL_law_657 (rfl : 657 + 1 = 658) (Nat.le_of_ble_eq_true rfl) rfl ?_
  refine zr_goto (tgt := 788) dL_law_658 (by decide) ?_
  exact k
theorem lw_7_d6 (hy : 0 ≤ y ∧ y < 2147483648) (h : jin B) (h' : jin B') (hv : -2000003 ≤ v ∧ v ≤ 100000) (q : y % 16 = 6) (q2 : y / 16 % 8 ≠ 0) (hb : 1 ≤ balls ∧ balls ≤ 25) (h0 : 1 ≤ v) (hbl : ball = v) (hc : B' 12 0 = B 12 0 + balls) (hj0 : jcl B' 0 0 = v) (k : zRun Γ md_L_law 10 none 788 [some (.ref 0), some (.ref 5), some (.int (jI (1))), some (.int (jI (i))), some (.int (jI (y))), some (.int (jI (y / 16))), some (.int (jI (y % 16))), some (.int (jI (6))), some (.int (jI (B 12 0))), some (.int (jI (B 16 0))), some (.int (jI (B 19 0))), some (.int (jI (B 20 0))), some (.int (jI (B 21 0))), some (.int (jI (due))), some (.int (jI (balls))), some (.int (jI (ball))), some (.int (jI (why))), some (.int (jI (v))), some (.int (jI (jb (-2000000 < v))))] [] (n9, g9, kc, ks) (bk 6 B' (cr σ' τ u)) Q) : zRun Γ md_L_law 10 none 393 [some (.ref 0), some (.ref 5), some (.int (jI (1))), some (.int (jI (i))), some (.int (jI (y))), some (.int (jI (y / 16))), some (.int (jI (y % 16))), some (.int (jI (6))), some (.int (jI (B 12 0))), some (.int (jI (B 16 0))), some (.int (jI (B 19 0))), some (.int (jI (B 20 0))), some (.int (jI (B 21 0))), some (.int (jI (due))), some (.int (jI (balls))), some (.int (jI (ball))), some (.int (jI (why))), some (.int (jI (v))), some (.int (jI (jb (-2000000 < v))))] [] (n9, g9, kc, ks) (bk 6 B' (cr σ' τ u)) Q := by
  have ok := h.ok
  have ok' := h'.ok
  have hca := ok.ca
  have hca' := ok'.ca
  have hpo := ok.po2
  have hdw := jic_r B (y / 16 % 4) (y / 16 / 4 % 4)
  have hj : jb (-2000000 < v) = 1 := jb_pos (by omega)
  rw [hj] at k ⊢
  refine zr_iload_n dL_law_393 (rfl : 393 + 1 = 394) rfl ?_
  refine zr_if_eq (tgt := 446) dL_law_394 (by decide) (rfl : 394 + 3 = 397) (by first | exact jb_iff | exact jI_z (by first | omega | (simp only [bset, reduceIte, Nat.reduceEqDiff]; omega)) (by first | omega | (simp only [bset, reduceIte, Nat.reduceEqDiff]; omega))) (fun h394 => ?_) (fun h394 => ?_)
  · exfalso
    omega
  refine zr_iload dL_law_397 (rfl : 397 + 2 = 399) rfl ?_
  refine zr_if_ne (tgt := 446) dL_law_399 (by decide) (rfl : 399 + 3 = 402) (by first | exact jb_iff | exact jI_z (by first | omega | (simp only [bset, reduceIte, Nat.reduceEqDiff]; omega)) (by first | omega | (simp only [bset, reduceIte, Nat.reduceEqDiff]; omega))) (fun h399 => ?_) (fun h399 => ?_)
  rotate_left
  · exfalso
    omega
  refine zr_iload_n dL_law_446 (rfl : 446 + 1 = 447) rfl ?_
  refine zr_if_eq (tgt := 587) dL_law_447 (by decide) (rfl : 447 + 3 = 450) (by first | exact jb_iff | exact jI_z (by first | omega | (simp only [bset, reduceIte, Nat.reduceEqDiff]; omega)) (by first | omega | (simp only [bset, reduceIte, Nat.reduceEqDiff]; omega))) (fun h447 => ?_) (fun h447 => ?_)
  · exfalso
    omega
  refine zr_iload dL_law_450 (rfl : 450 + 2 = 452) rfl ?_
  refine zr_bipush dL_law_452 (rfl : 452 + 2 = 454) (by decide) ?_
  refine zr_icmp_le (tgt := 587) dL_law_454 (by decide) (rfl : 454 + 3 = 457) (jI_le (by first | omega | (simp only [bset, reduceIte, Nat.reduceEqDiff]; omega)) (by first | omega | (simp only [bset, reduceIte, Nat.reduceEqDiff]; omega)) (by first | omega | (simp only [bset, reduceIte, Nat.reduceEqDiff]; omega)) (by first | omega | (simp only [bset, reduceIte, Nat.reduceEqDiff]; omega))) (fun h454 => ?_) (fun h454 => ?_)
  rotate_left
  · exfalso
    omega
  refine zr_iload_n dL_law_587 (rfl : 587 + 1 = 588) rfl ?_
  refine zr_if_eq (tgt := 661) dL_law_588 (by decide) (rfl : 588 + 3 = 591) (by first | exact jb_iff | exact jI_z (by first | omega | (simp only [bset, reduceIte, Nat.reduceEqDiff]; omega)) (by first | omega | (simp only [bset, reduceIte, Nat.reduceEqDiff]; omega))) (fun h588 => ?_) (fun h588 => ?_)
  · exfalso
    omega
  refine zr_iload dL_law_591 (rfl : 591 + 2 = 593) rfl ?_
  refine zr_bipush dL_law_593 (rfl : 593 + 2 = 595) (by decide) ?_
  refine zr_icmp_ne (tgt := 661) dL_law_595 (by decide) (rfl : 595 + 3 = 598) (jI_eq (by first | omega | (simp only [bset, reduceIte, Nat.reduceEqDiff]; omega)) (by first | omega | (simp only [bset, reduceIte, Nat.reduceEqDiff]; omega)) (by first | omega | (simp only [bset, reduceIte, Nat.reduceEqDiff]; omega)) (by first | omega | (simp only [bset, reduceIte, Nat.reduceEqDiff]; omega))) (fun h595 => ?_) (fun h595 => ?_)
  · exfalso
    omega
  refine zr_iload dL_law_598 (rfl : 598 + 2 = 600) rfl ?_
  refine zr_bipush dL_law_600 (rfl : 600 + 2 = 602) (by decide) ?_
  refine zr_irem dL_law_602 (rfl : 602 + 1 = 603) (fun q => absurd ((jI_z (by first | omega | (simp only [bset, reduceIte, Nat.reduceEqDiff]; omega)) (by first | omega | (simp only [bset, reduceIte, Nat.reduceEqDiff]; omega))).mp q) (by first | omega | (simp only [bset, reduceIte, Nat.reduceEqDiff]; omega))) (jI_rem (by first | omega | (simp only [bset, reduceIte, Nat.reduceEqDiff]; omega)) (by first | omega | (simp only [bset, reduceIte, Nat.reduceEqDiff]; omega)) (by first | omega | (simp only [bset, reduceIte, Nat.reduceEqDiff]; omega)) (by first | omega | (simp only [bset, reduceIte, Nat.reduceEqDiff]; omega))) ?_
  refine zr_if_ne (tgt := 661) dL_law_603 (by decide) (rfl : 603 + 3 = 606) (by first | exact jb_iff | exact jI_z (by first | omega | (simp only [bset, reduceIte, Nat.reduceEqDiff]; omega)) (by first | omega | (simp only [bset, reduceIte, Nat.reduceEqDiff]; omega))) (fun h603 => ?_) (fun h603 => ?_)
  rotate_left
  · exfalso
    omega
  refine zr_iload_n dL_law_661 (rfl : 661 + 1 = 662) rfl ?_
  refine zr_if_eq (tgt := 743) dL_law_662 (by decide) (rfl : 662 + 3 = 665) (by first | exact jb_iff | exact jI_z (by first | omega | (simp only [bset, reduceIte, Nat.reduceEqDiff]; omega)) (by first | omega | (simp only [bset, reduceIte, Nat.reduceEqDiff]; omega))) (fun h662 => ?_) (fun h662 => ?_)
  · exfalso
    omega
  refine zr_iload dL_law_665 (rfl : 665 + 2 = 667) rfl ?_
  refine zr_bipush dL_law_667 (rfl : 667 + 2 = 669) (by decide) ?_
  refine zr_icmp_eq (tgt := 679) dL_law_669 (by decide) (rfl : 669 + 3 = 672) (jI_eq (by first | omega | (simp only [bset, reduceIte, Nat.reduceEqDiff]; omega)) (by first | omega | (simp only [bset, reduceIte, Nat.reduceEqDiff]; omega)) (by first | omega | (simp only [bset, reduceIte, Nat.reduceEqDiff]; omega)) (by first | omega | (simp only [bset, reduceIte, Nat.reduceEqDiff]; omega))) (fun h669 => ?_) (fun h669 => ?_)
  rotate_left
  · exfalso
    omega
  refine zr_iload dL_law_679 (rfl : 679 + 2 = 681) rfl ?_
  refine zr_if_eq (tgt := 724) dL_law_681 (by decide) (rfl : 681 + 3 = 684) (by first | exact jb_iff | exact jI_z (by first | omega | (simp only [bset, reduceIte, Nat.reduceEqDiff]; omega)) (by first | omega | (simp only [bset, reduceIte, Nat.reduceEqDiff]; omega))) (fun h681 => ?_) (fun h681 => ?_)
  · exfalso
    omega
  refine zr_iload dL_law_684 (rfl : 684 + 2 = 686) rfl ?_
  refine zr_iload dL_law_686 (rfl : 686 + 2 = 688) rfl ?_
  refine zr_icmp_ne (tgt := 720) dL_law_688 (by decide) (rfl : 688 + 3 = 691) (jI_eq (by first | omega | (simp only [bset, reduceIte, Nat.reduceEqDiff]; omega)) (by first | omega | (simp only [bset, reduceIte, Nat.reduceEqDiff]; omega)) (by first | omega | (simp only [bset, reduceIte, Nat.reduceEqDiff]; omega)) (by first | omega | (simp only [bset, reduceIte, Nat.reduceEqDiff]; omega))) (fun h688 => ?_) (fun h688 => ?_)
  · exfalso
    omega
  refine zr_aload_n dL_law_691 (rfl : 691 + 1 = 692) rfl ?_
  refine zr_bipush dL_law_692 (rfl : 692 + 2 = 694) (by decide) ?_
  refine zr_fnH dL_law_694 (rfl : 694 + 3 = 697) l_L_127 (w_count (d := 1) 8 (by decide) ok') rfl rfl (Nat.le_of_ble_eq_true rfl) ?_
  rw [jct_8, hc]
  refine zr_iload dL_law_697 (rfl : 697 + 2 = 699) rfl ?_
  refine zr_iload dL_law_699 (rfl : 699 + 2 = 701) rfl ?_
  refine zr_iadd dL_law_701 (rfl : 701 + 1 = 702) (by first | exact jI_add _ _ | rfl) ?_
  refine zr_icmp_ne (tgt := 720) dL_law_702 (by decide) (rfl : 702 + 3 = 705) (jI_eq (by first | omega | (simp only [bset, reduceIte, Nat.reduceEqDiff]; omega)) (by first | omega | (simp only [bset, reduceIte, Nat.reduceEqDiff]; omega)) (by first | omega | (simp only [bset, reduceIte, Nat.reduceEqDiff]; omega)) (by first | omega | (simp only [bset, reduceIte, Nat.reduceEqDiff]; omega))) (fun h702 => ?_) (fun h702 => ?_)
  · exfalso
    omega
  refine zr_aload_n dL_law_705 (rfl : 705 + 1 = 706) rfl ?_
  refine zr_iconst dL_law_706 (rfl : 706 + 1 = 707) ?_
  refine zr_iconst dL_law_707 (rfl : 707 + 1 = 708) ?_
  refine zr_fnH dL_law_708 (rfl : 708 + 3 = 711) l_L_129 (w_called (d := 1) 0 0 (by decide) (by decide) ok') rfl rfl (Nat.le_of_ble_eq_true rfl) ?_
  rw [hj0]
  refine zr_iload dL_law_711 (rfl : 711 + 2 = 713) rfl ?_
  refine zr_icmp_ne (tgt := 720) dL_law_713 (by decide) (rfl : 713 + 3 = 716) (jI_eq (by first | omega | (simp only [bset, reduceIte, Nat.reduceEqDiff]; omega)) (by first | omega | (simp only [bset, reduceIte, Nat.reduceEqDiff]; omega)) (by first | omega | (simp only [bset, reduceIte, Nat.reduceEqDiff]; omega)) (by first | omega | (simp only [bset, reduceIte, Nat.reduceEqDiff]; omega))) (fun h713 => ?_) (fun h713 => ?_)
  · exfalso
    omega
  refine zr_iconst dL_law_716 (rfl : 716 + 1 = 717) ?_
  refine zr_goto (tgt := 739) dL_law_717 (by decide) ?_
  refine zr_istore_n (lv' := [_, _, _, _, _, _, _, _, _, _, _, _, _, _, _, _, _, _, _]) dL_law_739 (rfl : 739 + 1 = 740) (Nat.le_of_ble_eq_true rfl) rfl ?_
  refine zr_goto (tgt := 788) dL_law_740 (by decide) ?_
  exact k
theorem lw_7_d6n (hy : 0 ≤ y ∧ y < 2147483648) (h : jin B) (h' : jin B') (hv : -2000003 ≤ v ∧ v ≤ 100000) (q : y % 16 = 6) (q2 : y / 16 % 8 ≠ 0) (hb : 1 ≤ balls ∧ balls ≤ 25) (h0 : v = -2000002) (hc : 90 - B 12 0 < balls) (k : zRun Γ md_L_law 10 none 788 [some (.ref 0), some (.ref 5), some (.int (jI (1))), some (.int (jI (i))), some (.int (jI (y))), some (.int (jI (y / 16))), some (.int (jI (y % 16))), some (.int (jI (6))), some (.int (jI (B 12 0))), some (.int (jI (B 16 0))), some (.int (jI (B 19 0))), some (.int (jI (B 20 0))), some (.int (jI (B 21 0))), some (.int (jI (due))), some (.int (jI (balls))), some (.int (jI (ball))), some (.int (jI (why))), some (.int (jI (v))), some (.int (jI (jb (-2000000 < v))))] [] (n9, g9, kc, ks) (bk 6 B' (cr σ' τ u)) Q) : zRun Γ md_L_law 10 none 393 [some (.ref 0), some (.ref 5), some (.int (jI (1))), some (.int (jI (i))), some (.int (jI (y))), some (.int (jI (y / 16))), some (.int (jI (y % 16))), some (.int (jI (6))), some (.int (jI (B 12 0))), some (.int (jI (B 16 0))), some (.int (jI (B 19 0))), some (.int (jI (B 20 0))), some (.int (jI (B 21 0))), some (.int (jI (due))), some (.int (jI (balls))), some (.int (jI (ball))), some (.int (jI (why))), some (.int (jI (v))), some (.int (jI (jb (-2000000 < v))))] [] (n9, g9, kc, ks) (bk 6 B' (cr σ' τ u)) Q := by
  have ok := h.ok
  have ok' := h'.ok
  have hca := ok.ca
  have hca' := ok'.ca
  have hpo := ok.po2
  have hdw := jic_r B (y / 16 % 4) (y / 16 / 4 % 4)
  have hj : jb (-2000000 < v) = 0 := jb_neg (by omega)
  rw [hj] at k ⊢
  refine zr_iload_n dL_law_393 (rfl : 393 + 1 = 394) rfl ?_
  refine zr_if_eq (tgt := 446) dL_law_394 (by decide) (rfl : 394 + 3 = 397) (by first | exact jb_iff | exact jI_z (by first | omega | (simp only [bset, reduceIte, Nat.reduceEqDiff]; omega)) (by first | omega | (simp only [bset, reduceIte, Nat.reduceEqDiff]; omega))) (fun h394 => ?_) (fun h394 => ?_)
  · exfalso
    omega
  refine zr_iload dL_law_397 (rfl : 397 + 2 = 399) rfl ?_
  refine zr_if_ne (tgt := 446) dL_law_399 (by decide) (rfl : 399 + 3 = 402) (by first | exact jb_iff | exact jI_z (by first | omega | (simp only [bset, reduceIte, Nat.reduceEqDiff]; omega)) (by first | omega | (simp only [bset, reduceIte, Nat.reduceEqDiff]; omega))) (fun h399 => ?_) (fun h399 => ?_)
  rotate_left
  · exfalso
    omega
  refine zr_iload_n dL_law_446 (rfl : 446 + 1 = 447) rfl ?_
  refine zr_if_eq (tgt := 587) dL_law_447 (by decide) (rfl : 447 + 3 = 450) (by first | exact jb_iff | exact jI_z (by first | omega | (simp only [bset, reduceIte, Nat.reduceEqDiff]; omega)) (by first | omega | (simp only [bset, reduceIte, Nat.reduceEqDiff]; omega))) (fun h447 => ?_) (fun h447 => ?_)
  · exfalso
    omega
  refine zr_iload dL_law_450 (rfl : 450 + 2 = 452) rfl ?_
  refine zr_bipush dL_law_452 (rfl : 452 + 2 = 454) (by decide) ?_
  refine zr_icmp_le (tgt := 587) dL_law_454 (by decide) (rfl : 454 + 3 = 457) (jI_le (by first | omega | (simp only [bset, reduceIte, Nat.reduceEqDiff]; omega)) (by first | omega | (simp only [bset, reduceIte, Nat.reduceEqDiff]; omega)) (by first | omega | (simp only [bset, reduceIte, Nat.reduceEqDiff]; omega)) (by first | omega | (simp only [bset, reduceIte, Nat.reduceEqDiff]; omega))) (fun h454 => ?_) (fun h454 => ?_)
  rotate_left
  · exfalso
    omega
  refine zr_iload_n dL_law_587 (rfl : 587 + 1 = 588) rfl ?_
  refine zr_if_eq (tgt := 661) dL_law_588 (by decide) (rfl : 588 + 3 = 591) (by first | exact jb_iff | exact jI_z (by first | omega | (simp only [bset, reduceIte, Nat.reduceEqDiff]; omega)) (by first | omega | (simp only [bset, reduceIte, Nat.reduceEqDiff]; omega))) (fun h588 => ?_) (fun h588 => ?_)
  · exfalso
    omega
  refine zr_iload dL_law_591 (rfl : 591 + 2 = 593) rfl ?_
  refine zr_bipush dL_law_593 (rfl : 593 + 2 = 595) (by decide) ?_
  refine zr_icmp_ne (tgt := 661) dL_law_595 (by decide) (rfl : 595 + 3 = 598) (jI_eq (by first | omega | (simp only [bset, reduceIte, Nat.reduceEqDiff]; omega)) (by first | omega | (simp only [bset, reduceIte, Nat.reduceEqDiff]; omega)) (by first | omega | (simp only [bset, reduceIte, Nat.reduceEqDiff]; omega)) (by first | omega | (simp only [bset, reduceIte, Nat.reduceEqDiff]; omega))) (fun h595 => ?_) (fun h595 => ?_)
  · exfalso
    omega
  refine zr_iload dL_law_598 (rfl : 598 + 2 = 600) rfl ?_
  refine zr_bipush dL_law_600 (rfl : 600 + 2 = 602) (by decide) ?_
  refine zr_irem dL_law_602 (rfl : 602 + 1 = 603) (fun q => absurd ((jI_z (by first | omega | (simp only [bset, reduceIte, Nat.reduceEqDiff]; omega)) (by first | omega | (simp only [bset, reduceIte, Nat.reduceEqDiff]; omega))).mp q) (by first | omega | (simp only [bset, reduceIte, Nat.reduceEqDiff]; omega))) (jI_rem (by first | omega | (simp only [bset, reduceIte, Nat.reduceEqDiff]; omega)) (by first | omega | (simp only [bset, reduceIte, Nat.reduceEqDiff]; omega)) (by first | omega | (simp only [bset, reduceIte, Nat.reduceEqDiff]; omega)) (by first | omega | (simp only [bset, reduceIte, Nat.reduceEqDiff]; omega))) ?_
  refine zr_if_ne (tgt := 661) dL_law_603 (by decide) (rfl : 603 + 3 = 606) (by first | exact jb_iff | exact jI_z (by first | omega | (simp only [bset, reduceIte, Nat.reduceEqDiff]; omega)) (by first | omega | (simp only [bset, reduceIte, Nat.reduceEqDiff]; omega))) (fun h603 => ?_) (fun h603 => ?_)
  rotate_left
  · exfalso
    omega
  refine zr_iload_n dL_law_661 (rfl : 661 + 1 = 662) rfl ?_
  refine zr_if_eq (tgt := 743) dL_law_662 (by decide) (rfl : 662 + 3 = 665) (by first | exact jb_iff | exact jI_z (by first | omega | (simp only [bset, reduceIte, Nat.reduceEqDiff]; omega)) (by first | omega | (simp only [bset, reduceIte, Nat.reduceEqDiff]; omega))) (fun h662 => ?_) (fun h662 => ?_)
  · exfalso
    omega
  refine zr_iload dL_law_665 (rfl : 665 + 2 = 667) rfl ?_
  refine zr_bipush dL_law_667 (rfl : 667 + 2 = 669) (by decide) ?_
  refine zr_icmp_eq (tgt := 679) dL_law_669 (by decide) (rfl : 669 + 3 = 672) (jI_eq (by first | omega | (simp only [bset, reduceIte, Nat.reduceEqDiff]; omega)) (by first | omega | (simp only [bset, reduceIte, Nat.reduceEqDiff]; omega)) (by first | omega | (simp only [bset, reduceIte, Nat.reduceEqDiff]; omega)) (by first | omega | (simp only [bset, reduceIte, Nat.reduceEqDiff]; omega))) (fun h669 => ?_) (fun h669 => ?_)
  rotate_left
  · exfalso
    omega
  refine zr_iload dL_law_679 (rfl : 679 + 2 = 681) rfl ?_
  refine zr_if_eq (tgt := 724) dL_law_681 (by decide) (rfl : 681 + 3 = 684) (by first | exact jb_iff | exact jI_z (by first | omega | (simp only [bset, reduceIte, Nat.reduceEqDiff]; omega)) (by first | omega | (simp only [bset, reduceIte, Nat.reduceEqDiff]; omega))) (fun h681 => ?_) (fun h681 => ?_)
  rotate_left
  · exfalso
    omega
  refine zr_iload dL_law_724 (rfl : 724 + 2 = 726) rfl ?_
  refine zr_bipush dL_law_726 (rfl : 726 + 2 = 728) (by decide) ?_
  refine zr_iload dL_law_728 (rfl : 728 + 2 = 730) rfl ?_
  refine zr_isub dL_law_730 (rfl : 730 + 1 = 731) (by first | exact jI_sub _ _ | rfl) ?_
  refine zr_icmp_le (tgt := 738) dL_law_731 (by decide) (rfl : 731 + 3 = 734) (jI_le (by first | omega | (simp only [bset, reduceIte, Nat.reduceEqDiff]; omega)) (by first | omega | (simp only [bset, reduceIte, Nat.reduceEqDiff]; omega)) (by first | omega | (simp only [bset, reduceIte, Nat.reduceEqDiff]; omega)) (by first | omega | (simp only [bset, reduceIte, Nat.reduceEqDiff]; omega))) (fun h731 => ?_) (fun h731 => ?_)
  · exfalso
    omega
  refine zr_iconst dL_law_734 (rfl : 734 + 1 = 735) ?_
  refine zr_goto (tgt := 739) dL_law_735 (by decide) ?_
  refine zr_istore_n (lv' := [_, _, _, _, _, _, _, _, _, _, _, _, _, _, _, _, _, _, _]) dL_law_739 (rfl : 739 + 1 = 740) (Nat.le_of_ble_eq_true rfl) rfl ?_
  refine zr_goto (tgt := 788) dL_law_740 (by decide) ?_
  exact k
theorem lw_7_d (hy : 0 ≤ y ∧ y < 2147483648) (h : jin B) (h' : jin B') (hv : -2000003 ≤ v ∧ v ≤ 100000) (q : 12 < y % 16) (hb : 1 ≤ balls ∧ balls ≤ 25) (h0 : 1 ≤ v) (hbl : ball = v) (hc : B' 12 0 = B 12 0 + balls) (hj0 : jcl B' 0 0 = v) (k : zRun Γ md_L_law 10 none 788 [some (.ref 0), some (.ref 5), some (.int (jI (1))), some (.int (jI (i))), some (.int (jI (y))), some (.int (jI (y / 16))), some (.int (jI (y % 16))), some (.int (jI (6))), some (.int (jI (B 12 0))), some (.int (jI (B 16 0))), some (.int (jI (B 19 0))), some (.int (jI (B 20 0))), some (.int (jI (B 21 0))), some (.int (jI (due))), some (.int (jI (balls))), some (.int (jI (ball))), some (.int (jI (why))), some (.int (jI (v))), some (.int (jI (jb (-2000000 < v))))] [] (n9, g9, kc, ks) (bk 6 B' (cr σ' τ u)) Q) : zRun Γ md_L_law 10 none 393 [some (.ref 0), some (.ref 5), some (.int (jI (1))), some (.int (jI (i))), some (.int (jI (y))), some (.int (jI (y / 16))), some (.int (jI (y % 16))), some (.int (jI (6))), some (.int (jI (B 12 0))), some (.int (jI (B 16 0))), some (.int (jI (B 19 0))), some (.int (jI (B 20 0))), some (.int (jI (B 21 0))), some (.int (jI (due))), some (.int (jI (balls))), some (.int (jI (ball))), some (.int (jI (why))), some (.int (jI (v))), some (.int (jI (jb (-2000000 < v))))] [] (n9, g9, kc, ks) (bk 6 B' (cr σ' τ u)) Q := by
  have ok := h.ok
  have ok' := h'.ok
  have hca := ok.ca
  have hca' := ok'.ca
  have hpo := ok.po2
  have hdw := jic_r B (y / 16 % 4) (y / 16 / 4 % 4)
  have hj : jb (-2000000 < v) = 1 := jb_pos (by omega)
  rw [hj] at k ⊢
  refine zr_iload_n dL_law_393 (rfl : 393 + 1 = 394) rfl ?_
  refine zr_if_eq (tgt := 446) dL_law_394 (by decide) (rfl : 394 + 3 = 397) (by first | exact jb_iff | exact jI_z (by first | omega | (simp only [bset, reduceIte, Nat.reduceEqDiff]; omega)) (by first | omega | (simp only [bset, reduceIte, Nat.reduceEqDiff]; omega))) (fun h394 => ?_) (fun h394 => ?_)
  · exfalso
    omega
  refine zr_iload dL_law_397 (rfl : 397 + 2 = 399) rfl ?_
  refine zr_if_ne (tgt := 446) dL_law_399 (by decide) (rfl : 399 + 3 = 402) (by first | exact jb_iff | exact jI_z (by first | omega | (simp only [bset, reduceIte, Nat.reduceEqDiff]; omega)) (by first | omega | (simp only [bset, reduceIte, Nat.reduceEqDiff]; omega))) (fun h399 => ?_) (fun h399 => ?_)
  rotate_left
  · exfalso
    omega
  refine zr_iload_n dL_law_446 (rfl : 446 + 1 = 447) rfl ?_
  refine zr_if_eq (tgt := 587) dL_law_447 (by decide) (rfl : 447 + 3 = 450) (by first | exact jb_iff | exact jI_z (by first | omega | (simp only [bset, reduceIte, Nat.reduceEqDiff]; omega)) (by first | omega | (simp only [bset, reduceIte, Nat.reduceEqDiff]; omega))) (fun h447 => ?_) (fun h447 => ?_)
  · exfalso
    omega
  refine zr_iload dL_law_450 (rfl : 450 + 2 = 452) rfl ?_
  refine zr_bipush dL_law_452 (rfl : 452 + 2 = 454) (by decide) ?_
  refine zr_icmp_le (tgt := 587) dL_law_454 (by decide) (rfl : 454 + 3 = 457) (jI_le (by first | omega | (simp only [bset, reduceIte, Nat.reduceEqDiff]; omega)) (by first | omega | (simp only [bset, reduceIte, Nat.reduceEqDiff]; omega)) (by first | omega | (simp only [bset, reduceIte, Nat.reduceEqDiff]; omega)) (by first | omega | (simp only [bset, reduceIte, Nat.reduceEqDiff]; omega))) (fun h454 => ?_) (fun h454 => ?_)
  · exfalso
    omega
  refine zr_iload dL_law_457 (rfl : 457 + 2 = 459) rfl ?_
  refine zr_bipush dL_law_459 (rfl : 459 + 2 = 461) (by decide) ?_
  refine zr_icmp_ge (tgt := 587) dL_law_461 (by decide) (rfl : 461 + 3 = 464) (jI_le (by first | omega | (simp only [bset, reduceIte, Nat.reduceEqDiff]; omega)) (by first | omega | (simp only [bset, reduceIte, Nat.reduceEqDiff]; omega)) (by first | omega | (simp only [bset, reduceIte, Nat.reduceEqDiff]; omega)) (by first | omega | (simp only [bset, reduceIte, Nat.reduceEqDiff]; omega))) (fun h461 => ?_) (fun h461 => ?_)
  rotate_left
  · exfalso
    omega
  refine zr_iload_n dL_law_587 (rfl : 587 + 1 = 588) rfl ?_
  refine zr_if_eq (tgt := 661) dL_law_588 (by decide) (rfl : 588 + 3 = 591) (by first | exact jb_iff | exact jI_z (by first | omega | (simp only [bset, reduceIte, Nat.reduceEqDiff]; omega)) (by first | omega | (simp only [bset, reduceIte, Nat.reduceEqDiff]; omega))) (fun h588 => ?_) (fun h588 => ?_)
  · exfalso
    omega
  refine zr_iload dL_law_591 (rfl : 591 + 2 = 593) rfl ?_
  refine zr_bipush dL_law_593 (rfl : 593 + 2 = 595) (by decide) ?_
  refine zr_icmp_ne (tgt := 661) dL_law_595 (by decide) (rfl : 595 + 3 = 598) (jI_eq (by first | omega | (simp only [bset, reduceIte, Nat.reduceEqDiff]; omega)) (by first | omega | (simp only [bset, reduceIte, Nat.reduceEqDiff]; omega)) (by first | omega | (simp only [bset, reduceIte, Nat.reduceEqDiff]; omega)) (by first | omega | (simp only [bset, reduceIte, Nat.reduceEqDiff]; omega))) (fun h595 => ?_) (fun h595 => ?_)
  rotate_left
  · exfalso
    omega
  refine zr_iload_n dL_law_661 (rfl : 661 + 1 = 662) rfl ?_
  refine zr_if_eq (tgt := 743) dL_law_662 (by decide) (rfl : 662 + 3 = 665) (by first | exact jb_iff | exact jI_z (by first | omega | (simp only [bset, reduceIte, Nat.reduceEqDiff]; omega)) (by first | omega | (simp only [bset, reduceIte, Nat.reduceEqDiff]; omega))) (fun h662 => ?_) (fun h662 => ?_)
  · exfalso
    omega
  refine zr_iload dL_law_665 (rfl : 665 + 2 = 667) rfl ?_
  refine zr_bipush dL_law_667 (rfl : 667 + 2 = 669) (by decide) ?_
  refine zr_icmp_eq (tgt := 679) dL_law_669 (by decide) (rfl : 669 + 3 = 672) (jI_eq (by first | omega | (simp only [bset, reduceIte, Nat.reduceEqDiff]; omega)) (by first | omega | (simp only [bset, reduceIte, Nat.reduceEqDiff]; omega)) (by first | omega | (simp only [bset, reduceIte, Nat.reduceEqDiff]; omega)) (by first | omega | (simp only [bset, reduceIte, Nat.reduceEqDiff]; omega))) (fun h669 => ?_) (fun h669 => ?_)
  · exfalso
    omega
  refine zr_iload dL_law_672 (rfl : 672 + 2 = 674) rfl ?_
  refine zr_bipush dL_law_674 (rfl : 674 + 2 = 676) (by decide) ?_
  refine zr_icmp_le (tgt := 743) dL_law_676 (by decide) (rfl : 676 + 3 = 679) (jI_le (by first | omega | (simp only [bset, reduceIte, Nat.reduceEqDiff]; omega)) (by first | omega | (simp only [bset, reduceIte, Nat.reduceEqDiff]; omega)) (by first | omega | (simp only [bset, reduceIte, Nat.reduceEqDiff]; omega)) (by first | omega | (simp only [bset, reduceIte, Nat.reduceEqDiff]; omega))) (fun h676 => ?_) (fun h676 => ?_)
  · exfalso
    omega
  refine zr_iload dL_law_679 (rfl : 679 + 2 = 681) rfl ?_
  refine zr_if_eq (tgt := 724) dL_law_681 (by decide) (rfl : 681 + 3 = 684) (by first | exact jb_iff | exact jI_z (by first | omega | (simp only [bset, reduceIte, Nat.reduceEqDiff]; omega)) (by first | omega | (simp only [bset, reduceIte, Nat.reduceEqDiff]; omega))) (fun h681 => ?_) (fun h681 => ?_)
  · exfalso
    omega
  refine zr_iload dL_law_684 (rfl : 684 + 2 = 686) rfl ?_
  refine zr_iload dL_law_686 (rfl : 686 + 2 = 688) rfl ?_
  refine zr_icmp_ne (tgt := 720) dL_law_688 (by decide) (rfl : 688 + 3 = 691) (jI_eq (by first | omega | (simp only [bset, reduceIte, Nat.reduceEqDiff]; omega)) (by first | omega | (simp only [bset, reduceIte, Nat.reduceEqDiff]; omega)) (by first | omega | (simp only [bset, reduceIte, Nat.reduceEqDiff]; omega)) (by first | omega | (simp only [bset, reduceIte, Nat.reduceEqDiff]; omega))) (fun h688 => ?_) (fun h688 => ?_)
  · exfalso
    omega
  refine zr_aload_n dL_law_691 (rfl : 691 + 1 = 692) rfl ?_
  refine zr_bipush dL_law_692 (rfl : 692 + 2 = 694) (by decide) ?_
  refine zr_fnH dL_law_694 (rfl : 694 + 3 = 697) l_L_127 (w_count (d := 1) 8 (by decide) ok') rfl rfl (Nat.le_of_ble_eq_true rfl) ?_
  rw [jct_8, hc]
  refine zr_iload dL_law_697 (rfl : 697 + 2 = 699) rfl ?_
  refine zr_iload dL_law_699 (rfl : 699 + 2 = 701) rfl ?_
  refine zr_iadd dL_law_701 (rfl : 701 + 1 = 702) (by first | exact jI_add _ _ | rfl) ?_
  refine zr_icmp_ne (tgt := 720) dL_law_702 (by decide) (rfl : 702 + 3 = 705) (jI_eq (by first | omega | (simp only [bset, reduceIte, Nat.reduceEqDiff]; omega)) (by first | omega | (simp only [bset, reduceIte, Nat.reduceEqDiff]; omega)) (by first | omega | (simp only [bset, reduceIte, Nat.reduceEqDiff]; omega)) (by first | omega | (simp only [bset, reduceIte, Nat.reduceEqDiff]; omega))) (fun h702 => ?_) (fun h702 => ?_)
  · exfalso
    omega
  refine zr_aload_n dL_law_705 (rfl : 705 + 1 = 706) rfl ?_
  refine zr_iconst dL_law_706 (rfl : 706 + 1 = 707) ?_
  refine zr_iconst dL_law_707 (rfl : 707 + 1 = 708) ?_
  refine zr_fnH dL_law_708 (rfl : 708 + 3 = 711) l_L_129 (w_called (d := 1) 0 0 (by decide) (by decide) ok') rfl rfl (Nat.le_of_ble_eq_true rfl) ?_
  rw [hj0]
  refine zr_iload dL_law_711 (rfl : 711 + 2 = 713) rfl ?_
  refine zr_icmp_ne (tgt := 720) dL_law_713 (by decide) (rfl : 713 + 3 = 716) (jI_eq (by first | omega | (simp only [bset, reduceIte, Nat.reduceEqDiff]; omega)) (by first | omega | (simp only [bset, reduceIte, Nat.reduceEqDiff]; omega)) (by first | omega | (simp only [bset, reduceIte, Nat.reduceEqDiff]; omega)) (by first | omega | (simp only [bset, reduceIte, Nat.reduceEqDiff]; omega))) (fun h713 => ?_) (fun h713 => ?_)
  · exfalso
    omega
  refine zr_iconst dL_law_716 (rfl : 716 + 1 = 717) ?_
  refine zr_goto (tgt := 739) dL_law_717 (by decide) ?_
  refine zr_istore_n (lv' := [_, _, _, _, _, _, _, _, _, _, _, _, _, _, _, _, _, _, _]) dL_law_739 (rfl : 739 + 1 = 740) (Nat.le_of_ble_eq_true rfl) rfl ?_
  refine zr_goto (tgt := 788) dL_law_740 (by decide) ?_
  exact k
theorem lw_7_dn (hy : 0 ≤ y ∧ y < 2147483648) (h : jin B) (h' : jin B') (hv : -2000003 ≤ v ∧ v ≤ 100000) (q : 12 < y % 16) (hb : 1 ≤ balls ∧ balls ≤ 25) (h0 : v = -2000002) (hc : 90 - B 12 0 < balls) (k : zRun Γ md_L_law 10 none 788 [some (.ref 0), some (.ref 5), some (.int (jI (1))), some (.int (jI (i))), some (.int (jI (y))), some (.int (jI (y / 16))), some (.int (jI (y % 16))), some (.int (jI (6))), some (.int (jI (B 12 0))), some (.int (jI (B 16 0))), some (.int (jI (B 19 0))), some (.int (jI (B 20 0))), some (.int (jI (B 21 0))), some (.int (jI (due))), some (.int (jI (balls))), some (.int (jI (ball))), some (.int (jI (why))), some (.int (jI (v))), some (.int (jI (jb (-2000000 < v))))] [] (n9, g9, kc, ks) (bk 6 B' (cr σ' τ u)) Q) : zRun Γ md_L_law 10 none 393 [some (.ref 0), some (.ref 5), some (.int (jI (1))), some (.int (jI (i))), some (.int (jI (y))), some (.int (jI (y / 16))), some (.int (jI (y % 16))), some (.int (jI (6))), some (.int (jI (B 12 0))), some (.int (jI (B 16 0))), some (.int (jI (B 19 0))), some (.int (jI (B 20 0))), some (.int (jI (B 21 0))), some (.int (jI (due))), some (.int (jI (balls))), some (.int (jI (ball))), some (.int (jI (why))), some (.int (jI (v))), some (.int (jI (jb (-2000000 < v))))] [] (n9, g9, kc, ks) (bk 6 B' (cr σ' τ u)) Q := by
  have ok := h.ok
  have ok' := h'.ok
  have hca := ok.ca
  have hca' := ok'.ca
  have hpo := ok.po2
  have hdw := jic_r B (y / 16 % 4) (y / 16 / 4 % 4)
  have hj : jb (-2000000 < v) = 0 := jb_neg (by omega)
  rw [hj] at k ⊢
  refine zr_iload_n dL_law_393 (rfl : 393 + 1 = 394) rfl ?_
  refine zr_if_eq (tgt := 446) dL_law_394 (by decide) (rfl : 394 + 3 = 397) (by first | exact jb_iff | exact jI_z (by first | omega | (simp only [bset, reduceIte, Nat.reduceEqDiff]; omega)) (by first | omega | (simp only [bset, reduceIte, Nat.reduceEqDiff]; omega))) (fun h394 => ?_) (fun h394 => ?_)
  · exfalso
    omega
  refine zr_iload dL_law_397 (rfl : 397 + 2 = 399) rfl ?_
  refine zr_if_ne (tgt := 446) dL_law_399 (by decide) (rfl : 399 + 3 = 402) (by first | exact jb_iff | exact jI_z (by first | omega | (simp only [bset, reduceIte, Nat.reduceEqDiff]; omega)) (by first | omega | (simp only [bset, reduceIte, Nat.reduceEqDiff]; omega))) (fun h399 => ?_) (fun h399 => ?_)
  rotate_left
  · exfalso
    omega
  refine zr_iload_n dL_law_446 (rfl : 446 + 1 = 447) rfl ?_
  refine zr_if_eq (tgt := 587) dL_law_447 (by decide) (rfl : 447 + 3 = 450) (by first | exact jb_iff | exact jI_z (by first | omega | (simp only [bset, reduceIte, Nat.reduceEqDiff]; omega)) (by first | omega | (simp only [bset, reduceIte, Nat.reduceEqDiff]; omega))) (fun h447 => ?_) (fun h447 => ?_)
  · exfalso
    omega
  refine zr_iload dL_law_450 (rfl : 450 + 2 = 452) rfl ?_
  refine zr_bipush dL_law_452 (rfl : 452 + 2 = 454) (by decide) ?_
  refine zr_icmp_le (tgt := 587) dL_law_454 (by decide) (rfl : 454 + 3 = 457) (jI_le (by first | omega | (simp only [bset, reduceIte, Nat.reduceEqDiff]; omega)) (by first | omega | (simp only [bset, reduceIte, Nat.reduceEqDiff]; omega)) (by first | omega | (simp only [bset, reduceIte, Nat.reduceEqDiff]; omega)) (by first | omega | (simp only [bset, reduceIte, Nat.reduceEqDiff]; omega))) (fun h454 => ?_) (fun h454 => ?_)
  · exfalso
    omega
  refine zr_iload dL_law_457 (rfl : 457 + 2 = 459) rfl ?_
  refine zr_bipush dL_law_459 (rfl : 459 + 2 = 461) (by decide) ?_
  refine zr_icmp_ge (tgt := 587) dL_law_461 (by decide) (rfl : 461 + 3 = 464) (jI_le (by first | omega | (simp only [bset, reduceIte, Nat.reduceEqDiff]; omega)) (by first | omega | (simp only [bset, reduceIte, Nat.reduceEqDiff]; omega)) (by first | omega | (simp only [bset, reduceIte, Nat.reduceEqDiff]; omega)) (by first | omega | (simp only [bset, reduceIte, Nat.reduceEqDiff]; omega))) (fun h461 => ?_) (fun h461 => ?_)
  rotate_left
  · exfalso
    omega
  refine zr_iload_n dL_law_587 (rfl : 587 + 1 = 588) rfl ?_
  refine zr_if_eq (tgt := 661) dL_law_588 (by decide) (rfl : 588 + 3 = 591) (by first | exact jb_iff | exact jI_z (by first | omega | (simp only [bset, reduceIte, Nat.reduceEqDiff]; omega)) (by first | omega | (simp only [bset, reduceIte, Nat.reduceEqDiff]; omega))) (fun h588 => ?_) (fun h588 => ?_)
  · exfalso
    omega
  refine zr_iload dL_law_591 (rfl : 591 + 2 = 593) rfl ?_
  refine zr_bipush dL_law_593 (rfl : 593 + 2 = 595) (by decide) ?_
  refine zr_icmp_ne (tgt := 661) dL_law_595 (by decide) (rfl : 595 + 3 = 598) (jI_eq (by first | omega | (simp only [bset, reduceIte, Nat.reduceEqDiff]; omega)) (by first | omega | (simp only [bset, reduceIte, Nat.reduceEqDiff]; omega)) (by first | omega | (simp only [bset, reduceIte, Nat.reduceEqDiff]; omega)) (by first | omega | (simp only [bset, reduceIte, Nat.reduceEqDiff]; omega))) (fun h595 => ?_) (fun h595 => ?_)
  rotate_left
  · exfalso
    omega
  refine zr_iload_n dL_law_661 (rfl : 661 + 1 = 662) rfl ?_
  refine zr_if_eq (tgt := 743) dL_law_662 (by decide) (rfl : 662 + 3 = 665) (by first | exact jb_iff | exact jI_z (by first | omega | (simp only [bset, reduceIte, Nat.reduceEqDiff]; omega)) (by first | omega | (simp only [bset, reduceIte, Nat.reduceEqDiff]; omega))) (fun h662 => ?_) (fun h662 => ?_)
  · exfalso
    omega
  refine zr_iload dL_law_665 (rfl : 665 + 2 = 667) rfl ?_
  refine zr_bipush dL_law_667 (rfl : 667 + 2 = 669) (by decide) ?_
  refine zr_icmp_eq (tgt := 679) dL_law_669 (by decide) (rfl : 669 + 3 = 672) (jI_eq (by first | omega | (simp only [bset, reduceIte, Nat.reduceEqDiff]; omega)) (by first | omega | (simp only [bset, reduceIte, Nat.reduceEqDiff]; omega)) (by first | omega | (simp only [bset, reduceIte, Nat.reduceEqDiff]; omega)) (by first | omega | (simp only [bset, reduceIte, Nat.reduceEqDiff]; omega))) (fun h669 => ?_) (fun h669 => ?_)
  · exfalso
    omega
  refine zr_iload dL_law_672 (rfl : 672 + 2 = 674) rfl ?_
  refine zr_bipush dL_law_674 (rfl : 674 + 2 = 676) (by decide) ?_
  refine zr_icmp_le (tgt := 743) dL_law_676 (by decide) (rfl : 676 + 3 = 679) (jI_le (by first | omega | (simp only [bset, reduceIte, Nat.reduceEqDiff]; omega)) (by first | omega | (simp only [bset, reduceIte, Nat.reduceEqDiff]; omega)) (by first | omega | (simp only [bset, reduceIte, Nat.reduceEqDiff]; omega)) (by first | omega | (simp only [bset, reduceIte, Nat.reduceEqDiff]; omega))) (fun h676 => ?_) (fun h676 => ?_)
  · exfalso
    omega
  refine zr_iload dL_law_679 (rfl : 679 + 2 = 681) rfl ?_
  refine zr_if_eq (tgt := 724) dL_law_681 (by decide) (rfl : 681 + 3 = 684) (by first | exact jb_iff | exact jI_z (by first | omega | (simp only [bset, reduceIte, Nat.reduceEqDiff]; omega)) (by first | omega | (simp only [bset, reduceIte, Nat.reduceEqDiff]; omega))) (fun h681 => ?_) (fun h681 => ?_)
  rotate_left
  · exfalso
    omega
  refine zr_iload dL_law_724 (rfl : 724 + 2 = 726) rfl ?_
  refine zr_bipush dL_law_726 (rfl : 726 + 2 = 728) (by decide) ?_
  refine zr_iload dL_law_728 (rfl : 728 + 2 = 730) rfl ?_
  refine zr_isub dL_law_730 (rfl : 730 + 1 = 731) (by first | exact jI_sub _ _ | rfl) ?_
  refine zr_icmp_le (tgt := 738) dL_law_731 (by decide) (rfl : 731 + 3 = 734) (jI_le (by first | omega | (simp only [bset, reduceIte, Nat.reduceEqDiff]; omega)) (by first | omega | (simp only [bset, reduceIte, Nat.reduceEqDiff]; omega)) (by first | omega | (simp only [bset, reduceIte, Nat.reduceEqDiff]; omega)) (by first | omega | (simp only [bset, reduceIte, Nat.reduceEqDiff]; omega))) (fun h731 => ?_) (fun h731 => ?_)
  · exfalso
    omega
  refine zr_iconst dL_law_734 (rfl : 734 + 1 = 735) ?_
  refine zr_goto (tgt := 739) dL_law_735 (by decide) ?_
  refine zr_istore_n (lv' := [_, _, _, _, _, _, _, _, _, _, _, _, _, _, _, _, _, _, _]) dL_law_739 (rfl : 739 + 1 = 740) (Nat.le_of_ble_eq_true rfl) rfl ?_
  refine zr_goto (tgt := 788) dL_law_740 (by decide) ?_
  exact k
theorem lw_7_b3 (hy : 0 ≤ y ∧ y < 2147483648) (h : jin B) (h' : jin B') (hv : -2000003 ≤ v ∧ v ≤ 100000) (q : y % 16 = 3) (h0 : 0 ≤ v) (h1 : v = B 16 0 + B' 23 0) (h2 : B 12 0 = 0) (k : zRun Γ md_L_law 10 none 788 [some (.ref 0), some (.ref 5), some (.int (jI (1))), some (.int (jI (i))), some (.int (jI (y))), some (.int (jI (y / 16))), some (.int (jI (y % 16))), some (.int (jI (6))), some (.int (jI (B 12 0))), some (.int (jI (B 16 0))), some (.int (jI (B 19 0))), some (.int (jI (B 20 0))), some (.int (jI (B 21 0))), some (.int (jI (due))), some (.int (jI (balls))), some (.int (jI (ball))), some (.int (jI (why))), some (.int (jI (v))), some (.int (jI (jb (-2000000 < v))))] [] (n9, g9, kc, ks) (bk 6 B' (cr σ' τ u)) Q) : zRun Γ md_L_law 10 none 393 [some (.ref 0), some (.ref 5), some (.int (jI (1))), some (.int (jI (i))), some (.int (jI (y))), some (.int (jI (y / 16))), some (.int (jI (y % 16))), some (.int (jI (6))), some (.int (jI (B 12 0))), some (.int (jI (B 16 0))), some (.int (jI (B 19 0))), some (.int (jI (B 20 0))), some (.int (jI (B 21 0))), some (.int (jI (due))), some (.int (jI (balls))), some (.int (jI (ball))), some (.int (jI (why))), some (.int (jI (v))), some (.int (jI (jb (-2000000 < v))))] [] (n9, g9, kc, ks) (bk 6 B' (cr σ' τ u)) Q := by
  have ok := h.ok
  have ok' := h'.ok
  have hca := ok.ca
  have hca' := ok'.ca
  have hpo := ok.po2
  have hdw := jic_r B (y / 16 % 4) (y / 16 / 4 % 4)
  have hj : jb (-2000000 < v) = 1 := jb_pos (by omega)
  rw [hj] at k ⊢
  have hse := ok'.se 0
  refine zr_iload_n dL_law_393 (rfl : 393 + 1 = 394) rfl ?_
  refine zr_if_eq (tgt := 446) dL_law_394 (by decide) (rfl : 394 + 3 = 397) (by first | exact jb_iff | exact jI_z (by first | omega | (simp only [bset, reduceIte, Nat.reduceEqDiff]; omega)) (by first | omega | (simp only [bset, reduceIte, Nat.reduceEqDiff]; omega))) (fun h394 => ?_) (fun h394 => ?_)
  · exfalso
    omega
  refine zr_iload dL_law_397 (rfl : 397 + 2 = 399) rfl ?_
  refine zr_if_ne (tgt := 446) dL_law_399 (by decide) (rfl : 399 + 3 = 402) (by first | exact jb_iff | exact jI_z (by first | omega | (simp only [bset, reduceIte, Nat.reduceEqDiff]; omega)) (by first | omega | (simp only [bset, reduceIte, Nat.reduceEqDiff]; omega))) (fun h399 => ?_) (fun h399 => ?_)
  rotate_left
  · exfalso
    omega
  refine zr_iload_n dL_law_446 (rfl : 446 + 1 = 447) rfl ?_
  refine zr_if_eq (tgt := 587) dL_law_447 (by decide) (rfl : 447 + 3 = 450) (by first | exact jb_iff | exact jI_z (by first | omega | (simp only [bset, reduceIte, Nat.reduceEqDiff]; omega)) (by first | omega | (simp only [bset, reduceIte, Nat.reduceEqDiff]; omega))) (fun h447 => ?_) (fun h447 => ?_)
  · exfalso
    omega
  refine zr_iload dL_law_450 (rfl : 450 + 2 = 452) rfl ?_
  refine zr_bipush dL_law_452 (rfl : 452 + 2 = 454) (by decide) ?_
  refine zr_icmp_le (tgt := 587) dL_law_454 (by decide) (rfl : 454 + 3 = 457) (jI_le (by first | omega | (simp only [bset, reduceIte, Nat.reduceEqDiff]; omega)) (by first | omega | (simp only [bset, reduceIte, Nat.reduceEqDiff]; omega)) (by first | omega | (simp only [bset, reduceIte, Nat.reduceEqDiff]; omega)) (by first | omega | (simp only [bset, reduceIte, Nat.reduceEqDiff]; omega))) (fun h454 => ?_) (fun h454 => ?_)
  rotate_left
  · exfalso
    omega
  refine zr_iload_n dL_law_587 (rfl : 587 + 1 = 588) rfl ?_
  refine zr_if_eq (tgt := 661) dL_law_588 (by decide) (rfl : 588 + 3 = 591) (by first | exact jb_iff | exact jI_z (by first | omega | (simp only [bset, reduceIte, Nat.reduceEqDiff]; omega)) (by first | omega | (simp only [bset, reduceIte, Nat.reduceEqDiff]; omega))) (fun h588 => ?_) (fun h588 => ?_)
  · exfalso
    omega
  refine zr_iload dL_law_591 (rfl : 591 + 2 = 593) rfl ?_
  refine zr_bipush dL_law_593 (rfl : 593 + 2 = 595) (by decide) ?_
  refine zr_icmp_ne (tgt := 661) dL_law_595 (by decide) (rfl : 595 + 3 = 598) (jI_eq (by first | omega | (simp only [bset, reduceIte, Nat.reduceEqDiff]; omega)) (by first | omega | (simp only [bset, reduceIte, Nat.reduceEqDiff]; omega)) (by first | omega | (simp only [bset, reduceIte, Nat.reduceEqDiff]; omega)) (by first | omega | (simp only [bset, reduceIte, Nat.reduceEqDiff]; omega))) (fun h595 => ?_) (fun h595 => ?_)
  rotate_left
  · exfalso
    omega
  refine zr_iload_n dL_law_661 (rfl : 661 + 1 = 662) rfl ?_
  refine zr_if_eq (tgt := 743) dL_law_662 (by decide) (rfl : 662 + 3 = 665) (by first | exact jb_iff | exact jI_z (by first | omega | (simp only [bset, reduceIte, Nat.reduceEqDiff]; omega)) (by first | omega | (simp only [bset, reduceIte, Nat.reduceEqDiff]; omega))) (fun h662 => ?_) (fun h662 => ?_)
  · exfalso
    omega
  refine zr_iload dL_law_665 (rfl : 665 + 2 = 667) rfl ?_
  refine zr_bipush dL_law_667 (rfl : 667 + 2 = 669) (by decide) ?_
  refine zr_icmp_eq (tgt := 679) dL_law_669 (by decide) (rfl : 669 + 3 = 672) (jI_eq (by first | omega | (simp only [bset, reduceIte, Nat.reduceEqDiff]; omega)) (by first | omega | (simp only [bset, reduceIte, Nat.reduceEqDiff]; omega)) (by first | omega | (simp only [bset, reduceIte, Nat.reduceEqDiff]; omega)) (by first | omega | (simp only [bset, reduceIte, Nat.reduceEqDiff]; omega))) (fun h669 => ?_) (fun h669 => ?_)
  · exfalso
    omega
  refine zr_iload dL_law_672 (rfl : 672 + 2 = 674) rfl ?_
  refine zr_bipush dL_law_674 (rfl : 674 + 2 = 676) (by decide) ?_
  refine zr_icmp_le (tgt := 743) dL_law_676 (by decide) (rfl : 676 + 3 = 679) (jI_le (by first | omega | (simp only [bset, reduceIte, Nat.reduceEqDiff]; omega)) (by first | omega | (simp only [bset, reduceIte, Nat.reduceEqDiff]; omega)) (by first | omega | (simp only [bset, reduceIte, Nat.reduceEqDiff]; omega)) (by first | omega | (simp only [bset, reduceIte, Nat.reduceEqDiff]; omega))) (fun h676 => ?_) (fun h676 => ?_)
  rotate_left
  · exfalso
    omega
  refine zr_iload_n dL_law_743 (rfl : 743 + 1 = 744) rfl ?_
  refine zr_if_eq (tgt := 788) dL_law_744 (by decide) (rfl : 744 + 3 = 747) (by first | exact jb_iff | exact jI_z (by first | omega | (simp only [bset, reduceIte, Nat.reduceEqDiff]; omega)) (by first | omega | (simp only [bset, reduceIte, Nat.reduceEqDiff]; omega))) (fun h744 => ?_) (fun h744 => ?_)
  · exfalso
    omega
  refine zr_iload dL_law_747 (rfl : 747 + 2 = 749) rfl ?_
  refine zr_iconst dL_law_749 (rfl : 749 + 1 = 750) ?_
  refine zr_icmp_eq (tgt := 759) dL_law_750 (by decide) (rfl : 750 + 3 = 753) (jI_eq (by first | omega | (simp only [bset, reduceIte, Nat.reduceEqDiff]; omega)) (by first | omega | (simp only [bset, reduceIte, Nat.reduceEqDiff]; omega)) (by first | omega | (simp only [bset, reduceIte, Nat.reduceEqDiff]; omega)) (by first | omega | (simp only [bset, reduceIte, Nat.reduceEqDiff]; omega))) (fun h750 => ?_) (fun h750 => ?_)
  rotate_left
  · exfalso
    omega
  refine zr_iload dL_law_759 (rfl : 759 + 2 = 761) rfl ?_
  refine zr_if_eq (tgt := 782) dL_law_761 (by decide) (rfl : 761 + 3 = 764) (by first | exact jb_iff | exact jI_z (by first | omega | (simp only [bset, reduceIte, Nat.reduceEqDiff]; omega)) (by first | omega | (simp only [bset, reduceIte, Nat.reduceEqDiff]; omega))) (fun h761 => ?_) (fun h761 => ?_)
  · exfalso
    omega
  refine zr_iload dL_law_764 (rfl : 764 + 2 = 766) rfl ?_
  refine zr_iload dL_law_766 (rfl : 766 + 2 = 768) rfl ?_
  refine zr_aload_n dL_law_768 (rfl : 768 + 1 = 769) rfl ?_
  refine zr_iconst dL_law_769 (rfl : 769 + 1 = 770) ?_
  refine zr_fnH dL_law_770 (rfl : 770 + 3 = 773) l_L_178 (w_setting (d := 1) 0 (by decide)) rfl rfl (Nat.le_of_ble_eq_true rfl) ?_
  refine zr_iadd dL_law_773 (rfl : 773 + 1 = 774) (by first | exact jI_add _ _ | rfl) ?_
  refine zr_icmp_ne (tgt := 786) dL_law_774 (by decide) (rfl : 774 + 3 = 777) (jI_eq (by first | omega | (simp only [bset, reduceIte, Nat.reduceEqDiff]; omega)) (by first | omega | (simp only [bset, reduceIte, Nat.reduceEqDiff]; omega)) (by first | omega | (simp only [bset, reduceIte, Nat.reduceEqDiff]; omega)) (by first | omega | (simp only [bset, reduceIte, Nat.reduceEqDiff]; omega))) (fun h774 => ?_) (fun h774 => ?_)
  · exfalso
    omega
  refine zr_iload dL_law_777 (rfl : 777 + 2 = 779) rfl ?_
  refine zr_if_ne (tgt := 786) dL_law_779 (by decide) (rfl : 779 + 3 = 782) (by first | exact jb_iff | exact jI_z (by first | omega | (simp only [bset, reduceIte, Nat.reduceEqDiff]; omega)) (by first | omega | (simp only [bset, reduceIte, Nat.reduceEqDiff]; omega))) (fun h779 => ?_) (fun h779 => ?_)
  · exfalso
    omega
  refine zr_iconst dL_law_782 (rfl : 782 + 1 = 783) ?_
  refine zr_goto (tgt := 787) dL_law_783 (by decide) ?_
  refine zr_istore_n (lv' := [_, _, _, _, _, _, _, _, _, _, _, _, _, _, _, _, _, _, _]) dL_law_787 (rfl : 787 + 1 = 788) (Nat.le_of_ble_eq_true rfl) rfl ?_
  exact k
theorem lw_7_b3n (hy : 0 ≤ y ∧ y < 2147483648) (h : jin B) (h' : jin B') (hv : -2000003 ≤ v ∧ v ≤ 100000) (q : y % 16 = 3) (h0 : v = -2000002) (k : zRun Γ md_L_law 10 none 788 [some (.ref 0), some (.ref 5), some (.int (jI (1))), some (.int (jI (i))), some (.int (jI (y))), some (.int (jI (y / 16))), some (.int (jI (y % 16))), some (.int (jI (6))), some (.int (jI (B 12 0))), some (.int (jI (B 16 0))), some (.int (jI (B 19 0))), some (.int (jI (B 20 0))), some (.int (jI (B 21 0))), some (.int (jI (due))), some (.int (jI (balls))), some (.int (jI (ball))), some (.int (jI (why))), some (.int (jI (v))), some (.int (jI (jb (-2000000 < v))))] [] (n9, g9, kc, ks) (bk 6 B' (cr σ' τ u)) Q) : zRun Γ md_L_law 10 none 393 [some (.ref 0), some (.ref 5), some (.int (jI (1))), some (.int (jI (i))), some (.int (jI (y))), some (.int (jI (y / 16))), some (.int (jI (y % 16))), some (.int (jI (6))), some (.int (jI (B 12 0))), some (.int (jI (B 16 0))), some (.int (jI (B 19 0))), some (.int (jI (B 20 0))), some (.int (jI (B 21 0))), some (.int (jI (due))), some (.int (jI (balls))), some (.int (jI (ball))), some (.int (jI (why))), some (.int (jI (v))), some (.int (jI (jb (-2000000 < v))))] [] (n9, g9, kc, ks) (bk 6 B' (cr σ' τ u)) Q := by
  have ok := h.ok
  have ok' := h'.ok
  have hca := ok.ca
  have hca' := ok'.ca
  have hpo := ok.po2
  have hdw := jic_r B (y / 16 % 4) (y / 16 / 4 % 4)
  have hj : jb (-2000000 < v) = 0 := jb_neg (by omega)
  rw [hj] at k ⊢
  refine zr_iload_n dL_law_393 (rfl : 393 + 1 = 394) rfl ?_
  refine zr_if_eq (tgt := 446) dL_law_394 (by decide) (rfl : 394 + 3 = 397) (by first | exact jb_iff | exact jI_z (by first | omega | (simp only [bset, reduceIte, Nat.reduceEqDiff]; omega)) (by first | omega | (simp only [bset, reduceIte, Nat.reduceEqDiff]; omega))) (fun h394 => ?_) (fun h394 => ?_)
  · exfalso
    omega
  refine zr_iload dL_law_397 (rfl : 397 + 2 = 399) rfl ?_
  refine zr_if_ne (tgt := 446) dL_law_399 (by decide) (rfl : 399 + 3 = 402) (by first | exact jb_iff | exact jI_z (by first | omega | (simp only [bset, reduceIte, Nat.reduceEqDiff]; omega)) (by first | omega | (simp only [bset, reduceIte, Nat.reduceEqDiff]; omega))) (fun h399 => ?_) (fun h399 => ?_)
  rotate_left
  · exfalso
    omega
  refine zr_iload_n dL_law_446 (rfl : 446 + 1 = 447) rfl ?_
  refine zr_if_eq (tgt := 587) dL_law_447 (by decide) (rfl : 447 + 3 = 450) (by first | exact jb_iff | exact jI_z (by first | omega | (simp only [bset, reduceIte, Nat.reduceEqDiff]; omega)) (by first | omega | (simp only [bset, reduceIte, Nat.reduceEqDiff]; omega))) (fun h447 => ?_) (fun h447 => ?_)
  · exfalso
    omega
  refine zr_iload dL_law_450 (rfl : 450 + 2 = 452) rfl ?_
  refine zr_bipush dL_law_452 (rfl : 452 + 2 = 454) (by decide) ?_
  refine zr_icmp_le (tgt := 587) dL_law_454 (by decide) (rfl : 454 + 3 = 457) (jI_le (by first | omega | (simp only [bset, reduceIte, Nat.reduceEqDiff]; omega)) (by first | omega | (simp only [bset, reduceIte, Nat.reduceEqDiff]; omega)) (by first | omega | (simp only [bset, reduceIte, Nat.reduceEqDiff]; omega)) (by first | omega | (simp only [bset, reduceIte, Nat.reduceEqDiff]; omega))) (fun h454 => ?_) (fun h454 => ?_)
  rotate_left
  · exfalso
    omega
  refine zr_iload_n dL_law_587 (rfl : 587 + 1 = 588) rfl ?_
  refine zr_if_eq (tgt := 661) dL_law_588 (by decide) (rfl : 588 + 3 = 591) (by first | exact jb_iff | exact jI_z (by first | omega | (simp only [bset, reduceIte, Nat.reduceEqDiff]; omega)) (by first | omega | (simp only [bset, reduceIte, Nat.reduceEqDiff]; omega))) (fun h588 => ?_) (fun h588 => ?_)
  · exfalso
    omega
  refine zr_iload dL_law_591 (rfl : 591 + 2 = 593) rfl ?_
  refine zr_bipush dL_law_593 (rfl : 593 + 2 = 595) (by decide) ?_
  refine zr_icmp_ne (tgt := 661) dL_law_595 (by decide) (rfl : 595 + 3 = 598) (jI_eq (by first | omega | (simp only [bset, reduceIte, Nat.reduceEqDiff]; omega)) (by first | omega | (simp only [bset, reduceIte, Nat.reduceEqDiff]; omega)) (by first | omega | (simp only [bset, reduceIte, Nat.reduceEqDiff]; omega)) (by first | omega | (simp only [bset, reduceIte, Nat.reduceEqDiff]; omega))) (fun h595 => ?_) (fun h595 => ?_)
  rotate_left
  · exfalso
    omega
  refine zr_iload_n dL_law_661 (rfl : 661 + 1 = 662) rfl ?_
  refine zr_if_eq (tgt := 743) dL_law_662 (by decide) (rfl : 662 + 3 = 665) (by first | exact jb_iff | exact jI_z (by first | omega | (simp only [bset, reduceIte, Nat.reduceEqDiff]; omega)) (by first | omega | (simp only [bset, reduceIte, Nat.reduceEqDiff]; omega))) (fun h662 => ?_) (fun h662 => ?_)
  · exfalso
    omega
  refine zr_iload dL_law_665 (rfl : 665 + 2 = 667) rfl ?_
  refine zr_bipush dL_law_667 (rfl : 667 + 2 = 669) (by decide) ?_
  refine zr_icmp_eq (tgt := 679) dL_law_669 (by decide) (rfl : 669 + 3 = 672) (jI_eq (by first | omega | (simp only [bset, reduceIte, Nat.reduceEqDiff]; omega)) (by first | omega | (simp only [bset, reduceIte, Nat.reduceEqDiff]; omega)) (by first | omega | (simp only [bset, reduceIte, Nat.reduceEqDiff]; omega)) (by first | omega | (simp only [bset, reduceIte, Nat.reduceEqDiff]; omega))) (fun h669 => ?_) (fun h669 => ?_)
  · exfalso
    omega
  refine zr_iload dL_law_672 (rfl : 672 + 2 = 674) rfl ?_
  refine zr_bipush dL_law_674 (rfl : 674 + 2 = 676) (by decide) ?_
  refine zr_icmp_le (tgt := 743) dL_law_676 (by decide) (rfl : 676 + 3 = 679) (jI_le (by first | omega | (simp only [bset, reduceIte, Nat.reduceEqDiff]; omega)) (by first | omega | (simp only [bset, reduceIte, Nat.reduceEqDiff]; omega)) (by first | omega | (simp only [bset, reduceIte, Nat.reduceEqDiff]; omega)) (by first | omega | (simp only [bset, reduceIte, Nat.reduceEqDiff]; omega))) (fun h676 => ?_) (fun h676 => ?_)
  rotate_left
  · exfalso
    omega
  refine zr_iload_n dL_law_743 (rfl : 743 + 1 = 744) rfl ?_
  refine zr_if_eq (tgt := 788) dL_law_744 (by decide) (rfl : 744 + 3 = 747) (by first | exact jb_iff | exact jI_z (by first | omega | (simp only [bset, reduceIte, Nat.reduceEqDiff]; omega)) (by first | omega | (simp only [bset, reduceIte, Nat.reduceEqDiff]; omega))) (fun h744 => ?_) (fun h744 => ?_)
  · exfalso
    omega
  refine zr_iload dL_law_747 (rfl : 747 + 2 = 749) rfl ?_
  refine zr_iconst dL_law_749 (rfl : 749 + 1 = 750) ?_
  refine zr_icmp_eq (tgt := 759) dL_law_750 (by decide) (rfl : 750 + 3 = 753) (jI_eq (by first | omega | (simp only [bset, reduceIte, Nat.reduceEqDiff]; omega)) (by first | omega | (simp only [bset, reduceIte, Nat.reduceEqDiff]; omega)) (by first | omega | (simp only [bset, reduceIte, Nat.reduceEqDiff]; omega)) (by first | omega | (simp only [bset, reduceIte, Nat.reduceEqDiff]; omega))) (fun h750 => ?_) (fun h750 => ?_)
  rotate_left
  · exfalso
    omega
  refine zr_iload dL_law_759 (rfl : 759 + 2 = 761) rfl ?_
  refine zr_if_eq (tgt := 782) dL_law_761 (by decide) (rfl : 761 + 3 = 764) (by first | exact jb_iff | exact jI_z (by first | omega | (simp only [bset, reduceIte, Nat.reduceEqDiff]; omega)) (by first | omega | (simp only [bset, reduceIte, Nat.reduceEqDiff]; omega))) (fun h761 => ?_) (fun h761 => ?_)
  rotate_left
  · exfalso
    omega
  refine zr_iconst dL_law_782 (rfl : 782 + 1 = 783) ?_
  refine zr_goto (tgt := 787) dL_law_783 (by decide) ?_
  refine zr_istore_n (lv' := [_, _, _, _, _, _, _, _, _, _, _, _, _, _, _, _, _, _, _]) dL_law_787 (rfl : 787 + 1 = 788) (Nat.le_of_ble_eq_true rfl) rfl ?_
  exact k
theorem lw_7_b4 (hy : 0 ≤ y ∧ y < 2147483648) (h : jin B) (h' : jin B') (hv : -2000003 ≤ v ∧ v ≤ 100000) (q : y % 16 = 4) (h0 : 0 ≤ v) (h1 : v = B 16 0 + B' 23 0) (h2 : B 12 0 = 0) (k : zRun Γ md_L_law 10 none 788 [some (.ref 0), some (.ref 5), some (.int (jI (1))), some (.int (jI (i))), some (.int (jI (y))), some (.int (jI (y / 16))), some (.int (jI (y % 16))), some (.int (jI (6))), some (.int (jI (B 12 0))), some (.int (jI (B 16 0))), some (.int (jI (B 19 0))), some (.int (jI (B 20 0))), some (.int (jI (B 21 0))), some (.int (jI (due))), some (.int (jI (balls))), some (.int (jI (ball))), some (.int (jI (why))), some (.int (jI (v))), some (.int (jI (jb (-2000000 < v))))] [] (n9, g9, kc, ks) (bk 6 B' (cr σ' τ u)) Q) : zRun Γ md_L_law 10 none 393 [some (.ref 0), some (.ref 5), some (.int (jI (1))), some (.int (jI (i))), some (.int (jI (y))), some (.int (jI (y / 16))), some (.int (jI (y % 16))), some (.int (jI (6))), some (.int (jI (B 12 0))), some (.int (jI (B 16 0))), some (.int (jI (B 19 0))), some (.int (jI (B 20 0))), some (.int (jI (B 21 0))), some (.int (jI (due))), some (.int (jI (balls))), some (.int (jI (ball))), some (.int (jI (why))), some (.int (jI (v))), some (.int (jI (jb (-2000000 < v))))] [] (n9, g9, kc, ks) (bk 6 B' (cr σ' τ u)) Q := by
  have ok := h.ok
  have ok' := h'.ok
  have hca := ok.ca
  have hca' := ok'.ca
  have hpo := ok.po2
  have hdw := jic_r B (y / 16 % 4) (y / 16 / 4 % 4)
  have hj : jb (-2000000 < v) = 1 := jb_pos (by omega)
  rw [hj] at k ⊢
  have hse := ok'.se 0
  refine zr_iload_n dL_law_393 (rfl : 393 + 1 = 394) rfl ?_
  refine zr_if_eq (tgt := 446) dL_law_394 (by decide) (rfl : 394 + 3 = 397) (by first | exact jb_iff | exact jI_z (by first | omega | (simp only [bset, reduceIte, Nat.reduceEqDiff]; omega)) (by first | omega | (simp only [bset, reduceIte, Nat.reduceEqDiff]; omega))) (fun h394 => ?_) (fun h394 => ?_)
  · exfalso
    omega
  refine zr_iload dL_law_397 (rfl : 397 + 2 = 399) rfl ?_
  refine zr_if_ne (tgt := 446) dL_law_399 (by decide) (rfl : 399 + 3 = 402) (by first | exact jb_iff | exact jI_z (by first | omega | (simp only [bset, reduceIte, Nat.reduceEqDiff]; omega)) (by first | omega | (simp only [bset, reduceIte, Nat.reduceEqDiff]; omega))) (fun h399 => ?_) (fun h399 => ?_)
  rotate_left
  · exfalso
    omega
  refine zr_iload_n dL_law_446 (rfl : 446 + 1 = 447) rfl ?_
  refine zr_if_eq (tgt := 587) dL_law_447 (by decide) (rfl : 447 + 3 = 450) (by first | exact jb_iff | exact jI_z (by first | omega | (simp only [bset, reduceIte, Nat.reduceEqDiff]; omega)) (by first | omega | (simp only [bset, reduceIte, Nat.reduceEqDiff]; omega))) (fun h447 => ?_) (fun h447 => ?_)
  · exfalso
    omega
  refine zr_iload dL_law_450 (rfl : 450 + 2 = 452) rfl ?_
  refine zr_bipush dL_law_452 (rfl : 452 + 2 = 454) (by decide) ?_
  refine zr_icmp_le (tgt := 587) dL_law_454 (by decide) (rfl : 454 + 3 = 457) (jI_le (by first | omega | (simp only [bset, reduceIte, Nat.reduceEqDiff]; omega)) (by first | omega | (simp only [bset, reduceIte, Nat.reduceEqDiff]; omega)) (by first | omega | (simp only [bset, reduceIte, Nat.reduceEqDiff]; omega)) (by first | omega | (simp only [bset, reduceIte, Nat.reduceEqDiff]; omega))) (fun h454 => ?_) (fun h454 => ?_)
  rotate_left
  · exfalso
    omega
  refine zr_iload_n dL_law_587 (rfl : 587 + 1 = 588) rfl ?_
  refine zr_if_eq (tgt := 661) dL_law_588 (by decide) (rfl : 588 + 3 = 591) (by first | exact jb_iff | exact jI_z (by first | omega | (simp only [bset, reduceIte, Nat.reduceEqDiff]; omega)) (by first | omega | (simp only [bset, reduceIte, Nat.reduceEqDiff]; omega))) (fun h588 => ?_) (fun h588 => ?_)
  · exfalso
    omega
  refine zr_iload dL_law_591 (rfl : 591 + 2 = 593) rfl ?_
  refine zr_bipush dL_law_593 (rfl : 593 + 2 = 595) (by decide) ?_
  refine zr_icmp_ne (tgt := 661) dL_law_595 (by decide) (rfl : 595 + 3 = 598) (jI_eq (by first | omega | (simp only [bset, reduceIte, Nat.reduceEqDiff]; omega)) (by first | omega | (simp only [bset, reduceIte, Nat.reduceEqDiff]; omega)) (by first | omega | (simp only [bset, reduceIte, Nat.reduceEqDiff]; omega)) (by first | omega | (simp only [bset, reduceIte, Nat.reduceEqDiff]; omega))) (fun h595 => ?_) (fun h595 => ?_)
  rotate_left
  · exfalso
    omega
  refine zr_iload_n dL_law_661 (rfl : 661 + 1 = 662) rfl ?_
  refine zr_if_eq (tgt := 743) dL_law_662 (by decide) (rfl : 662 + 3 = 665) (by first | exact jb_iff | exact jI_z (by first | omega | (simp only [bset, reduceIte, Nat.reduceEqDiff]; omega)) (by first | omega | (simp only [bset, reduceIte, Nat.reduceEqDiff]; omega))) (fun h662 => ?_) (fun h662 => ?_)
  · exfalso
    omega
  refine zr_iload dL_law_665 (rfl : 665 + 2 = 667) rfl ?_
  refine zr_bipush dL_law_667 (rfl : 667 + 2 = 669) (by decide) ?_
  refine zr_icmp_eq (tgt := 679) dL_law_669 (by decide) (rfl : 669 + 3 = 672) (jI_eq (by first | omega | (simp only [bset, reduceIte, Nat.reduceEqDiff]; omega)) (by first | omega | (simp only [bset, reduceIte, Nat.reduceEqDiff]; omega)) (by first | omega | (simp only [bset, reduceIte, Nat.reduceEqDiff]; omega)) (by first | omega | (simp only [bset, reduceIte, Nat.reduceEqDiff]; omega))) (fun h669 => ?_) (fun h669 => ?_)
  · exfalso
    omega
  refine zr_iload dL_law_672 (rfl : 672 + 2 = 674) rfl ?_
  refine zr_bipush dL_law_674 (rfl : 674 + 2 = 676) (by decide) ?_
  refine zr_icmp_le (tgt := 743) dL_law_676 (by decide) (rfl : 676 + 3 = 679) (jI_le (by first | omega | (simp only [bset, reduceIte, Nat.reduceEqDiff]; omega)) (by first | omega | (simp only [bset, reduceIte, Nat.reduceEqDiff]; omega)) (by first | omega | (simp only [bset, reduceIte, Nat.reduceEqDiff]; omega)) (by first | omega | (simp only [bset, reduceIte, Nat.reduceEqDiff]; omega))) (fun h676 => ?_) (fun h676 => ?_)
  rotate_left
  · exfalso
    omega
  refine zr_iload_n dL_law_743 (rfl : 743 + 1 = 744) rfl ?_
  refine zr_if_eq (tgt := 788) dL_law_744 (by decide) (rfl : 744 + 3 = 747) (by first | exact jb_iff | exact jI_z (by first | omega | (simp only [bset, reduceIte, Nat.reduceEqDiff]; omega)) (by first | omega | (simp only [bset, reduceIte, Nat.reduceEqDiff]; omega))) (fun h744 => ?_) (fun h744 => ?_)
  · exfalso
    omega
  refine zr_iload dL_law_747 (rfl : 747 + 2 = 749) rfl ?_
  refine zr_iconst dL_law_749 (rfl : 749 + 1 = 750) ?_
  refine zr_icmp_eq (tgt := 759) dL_law_750 (by decide) (rfl : 750 + 3 = 753) (jI_eq (by first | omega | (simp only [bset, reduceIte, Nat.reduceEqDiff]; omega)) (by first | omega | (simp only [bset, reduceIte, Nat.reduceEqDiff]; omega)) (by first | omega | (simp only [bset, reduceIte, Nat.reduceEqDiff]; omega)) (by first | omega | (simp only [bset, reduceIte, Nat.reduceEqDiff]; omega))) (fun h750 => ?_) (fun h750 => ?_)
  · exfalso
    omega
  refine zr_iload dL_law_753 (rfl : 753 + 2 = 755) rfl ?_
  refine zr_iconst dL_law_755 (rfl : 755 + 1 = 756) ?_
  refine zr_icmp_ne (tgt := 788) dL_law_756 (by decide) (rfl : 756 + 3 = 759) (jI_eq (by first | omega | (simp only [bset, reduceIte, Nat.reduceEqDiff]; omega)) (by first | omega | (simp only [bset, reduceIte, Nat.reduceEqDiff]; omega)) (by first | omega | (simp only [bset, reduceIte, Nat.reduceEqDiff]; omega)) (by first | omega | (simp only [bset, reduceIte, Nat.reduceEqDiff]; omega))) (fun h756 => ?_) (fun h756 => ?_)
  · exfalso
    omega
  refine zr_iload dL_law_759 (rfl : 759 + 2 = 761) rfl ?_
  refine zr_if_eq (tgt := 782) dL_law_761 (by decide) (rfl : 761 + 3 = 764) (by first | exact jb_iff | exact jI_z (by first | omega | (simp only [bset, reduceIte, Nat.reduceEqDiff]; omega)) (by first | omega | (simp only [bset, reduceIte, Nat.reduceEqDiff]; omega))) (fun h761 => ?_) (fun h761 => ?_)
  · exfalso
    omega
  refine zr_iload dL_law_764 (rfl : 764 + 2 = 766) rfl ?_
  refine zr_iload dL_law_766 (rfl : 766 + 2 = 768) rfl ?_
  refine zr_aload_n dL_law_768 (rfl : 768 + 1 = 769) rfl ?_
  refine zr_iconst dL_law_769 (rfl : 769 + 1 = 770) ?_
  refine zr_fnH dL_law_770 (rfl : 770 + 3 = 773) l_L_178 (w_setting (d := 1) 0 (by decide)) rfl rfl (Nat.le_of_ble_eq_true rfl) ?_
  refine zr_iadd dL_law_773 (rfl : 773 + 1 = 774) (by first | exact jI_add _ _ | rfl) ?_
  refine zr_icmp_ne (tgt := 786) dL_law_774 (by decide) (rfl : 774 + 3 = 777) (jI_eq (by first | omega | (simp only [bset, reduceIte, Nat.reduceEqDiff]; omega)) (by first | omega | (simp only [bset, reduceIte, Nat.reduceEqDiff]; omega)) (by first | omega | (simp only [bset, reduceIte, Nat.reduceEqDiff]; omega)) (by first | omega | (simp only [bset, reduceIte, Nat.reduceEqDiff]; omega))) (fun h774 => ?_) (fun h774 => ?_)
  · exfalso
    omega
  refine zr_iload dL_law_777 (rfl : 777 + 2 = 779) rfl ?_
  refine zr_if_ne (tgt := 786) dL_law_779 (by decide) (rfl : 779 + 3 = 782) (by first | exact jb_iff | exact jI_z (by first | omega | (simp only [bset, reduceIte, Nat.reduceEqDiff]; omega)) (by first | omega | (simp only [bset, reduceIte, Nat.reduceEqDiff]; omega))) (fun h779 => ?_) (fun h779 => ?_)
  · exfalso
    omega
  refine zr_iconst dL_law_782 (rfl : 782 + 1 = 783) ?_
  refine zr_goto (tgt := 787) dL_law_783 (by decide) ?_
  refine zr_istore_n (lv' := [_, _, _, _, _, _, _, _, _, _, _, _, _, _, _, _, _, _, _]) dL_law_787 (rfl : 787 + 1 = 788) (Nat.le_of_ble_eq_true rfl) rfl ?_
  exact k
theorem lw_7_b4n (hy : 0 ≤ y ∧ y < 2147483648) (h : jin B) (h' : jin B') (hv : -2000003 ≤ v ∧ v ≤ 100000) (q : y % 16 = 4) (h0 : v = -2000002) (k : zRun Γ md_L_law 10 none 788 [some (.ref 0), some (.ref 5), some (.int (jI (1))), some (.int (jI (i))), some (.int (jI (y))), some (.int (jI (y / 16))), some (.int (jI (y % 16))), some (.int (jI (6))), some (.int (jI (B 12 0))), some (.int (jI (B 16 0))), some (.int (jI (B 19 0))), some (.int (jI (B 20 0))), some (.int (jI (B 21 0))), some (.int (jI (due))), some (.int (jI (balls))), some (.int (jI (ball))), some (.int (jI (why))), some (.int (jI (v))), some (.int (jI (jb (-2000000 < v))))] [] (n9, g9, kc, ks) (bk 6 B' (cr σ' τ u)) Q) : zRun Γ md_L_law 10 none 393 [some (.ref 0), some (.ref 5), some (.int (jI (1))), some (.int (jI (i))), some (.int (jI (y))), some (.int (jI (y / 16))), some (.int (jI (y % 16))), some (.int (jI (6))), some (.int (jI (B 12 0))), some (.int (jI (B 16 0))), some (.int (jI (B 19 0))), some (.int (jI (B 20 0))), some (.int (jI (B 21 0))), some (.int (jI (due))), some (.int (jI (balls))), some (.int (jI (ball))), some (.int (jI (why))), some (.int (jI (v))), some (.int (jI (jb (-2000000 < v))))] [] (n9, g9, kc, ks) (bk 6 B' (cr σ' τ u)) Q := by
  have ok := h.ok
  have ok' := h'.ok
  have hca := ok.ca
  have hca' := ok'.ca
  have hpo := ok.po2
  have hdw := jic_r B (y / 16 % 4) (y / 16 / 4 % 4)
  have hj : jb (-2000000 < v) = 0 := jb_neg (by omega)
  rw [hj] at k ⊢
  refine zr_iload_n dL_law_393 (rfl : 393 + 1 = 394) rfl ?_
  refine zr_if_eq (tgt := 446) dL_law_394 (by decide) (rfl : 394 + 3 = 397) (by first | exact jb_iff | exact jI_z (by first | omega | (simp only [bset, reduceIte, Nat.reduceEqDiff]; omega)) (by first | omega | (simp only [bset, reduceIte, Nat.reduceEqDiff]; omega))) (fun h394 => ?_) (fun h394 => ?_)
  · exfalso
    omega
  refine zr_iload dL_law_397 (rfl : 397 + 2 = 399) rfl ?_
  refine zr_if_ne (tgt := 446) dL_law_399 (by decide) (rfl : 399 + 3 = 402) (by first | exact jb_iff | exact jI_z (by first | omega | (simp only [bset, reduceIte, Nat.reduceEqDiff]; omega)) (by first | omega | (simp only [bset, reduceIte, Nat.reduceEqDiff]; omega))) (fun h399 => ?_) (fun h399 => ?_)
  rotate_left
  · exfalso
    omega
  refine zr_iload_n dL_law_446 (rfl : 446 + 1 = 447) rfl ?_
  refine zr_if_eq (tgt := 587) dL_law_447 (by decide) (rfl : 447 + 3 = 450) (by first | exact jb_iff | exact jI_z (by first | omega | (simp only [bset, reduceIte, Nat.reduceEqDiff]; omega)) (by first | omega | (simp only [bset, reduceIte, Nat.reduceEqDiff]; omega))) (fun h447 => ?_) (fun h447 => ?_)
  · exfalso
    omega
  refine zr_iload dL_law_450 (rfl : 450 + 2 = 452) rfl ?_
  refine zr_bipush dL_law_452 (rfl : 452 + 2 = 454) (by decide) ?_
  refine zr_icmp_le (tgt := 587) dL_law_454 (by decide) (rfl : 454 + 3 = 457) (jI_le (by first | omega | (simp only [bset, reduceIte, Nat.reduceEqDiff]; omega)) (by first | omega | (simp only [bset, reduceIte, Nat.reduceEqDiff]; omega)) (by first | omega | (simp only [bset, reduceIte, Nat.reduceEqDiff]; omega)) (by first | omega | (simp only [bset, reduceIte, Nat.reduceEqDiff]; omega))) (fun h454 => ?_) (fun h454 => ?_)
  rotate_left
  · exfalso
    omega
  refine zr_iload_n dL_law_587 (rfl : 587 + 1 = 588) rfl ?_
  refine zr_if_eq (tgt := 661) dL_law_588 (by decide) (rfl : 588 + 3 = 591) (by first | exact jb_iff | exact jI_z (by first | omega | (simp only [bset, reduceIte, Nat.reduceEqDiff]; omega)) (by first | omega | (simp only [bset, reduceIte, Nat.reduceEqDiff]; omega))) (fun h588 => ?_) (fun h588 => ?_)
  · exfalso
    omega
  refine zr_iload dL_law_591 (rfl : 591 + 2 = 593) rfl ?_
  refine zr_bipush dL_law_593 (rfl : 593 + 2 = 595) (by decide) ?_
  refine zr_icmp_ne (tgt := 661) dL_law_595 (by decide) (rfl : 595 + 3 = 598) (jI_eq (by first | omega | (simp only [bset, reduceIte, Nat.reduceEqDiff]; omega)) (by first | omega | (simp only [bset, reduceIte, Nat.reduceEqDiff]; omega)) (by first | omega | (simp only [bset, reduceIte, Nat.reduceEqDiff]; omega)) (by first | omega | (simp only [bset, reduceIte, Nat.reduceEqDiff]; omega))) (fun h595 => ?_) (fun h595 => ?_)
  rotate_left
  · exfalso
    omega
  refine zr_iload_n dL_law_661 (rfl : 661 + 1 = 662) rfl ?_
  refine zr_if_eq (tgt := 743) dL_law_662 (by decide) (rfl : 662 + 3 = 665) (by first | exact jb_iff | exact jI_z (by first | omega | (simp only [bset, reduceIte, Nat.reduceEqDiff]; omega)) (by first | omega | (simp only [bset, reduceIte, Nat.reduceEqDiff]; omega))) (fun h662 => ?_) (fun h662 => ?_)
  · exfalso
    omega
  refine zr_iload dL_law_665 (rfl : 665 + 2 = 667) rfl ?_
  refine zr_bipush dL_law_667 (rfl : 667 + 2 = 669) (by decide) ?_
  refine zr_icmp_eq (tgt := 679) dL_law_669 (by decide) (rfl : 669 + 3 = 672) (jI_eq (by first | omega | (simp only [bset, reduceIte, Nat.reduceEqDiff]; omega)) (by first | omega | (simp only [bset, reduceIte, Nat.reduceEqDiff]; omega)) (by first | omega | (simp only [bset, reduceIte, Nat.reduceEqDiff]; omega)) (by first | omega | (simp only [bset, reduceIte, Nat.reduceEqDiff]; omega))) (fun h669 => ?_) (fun h669 => ?_)
  · exfalso
    omega
  refine zr_iload dL_law_672 (rfl : 672 + 2 = 674) rfl ?_
  refine zr_bipush dL_law_674 (rfl : 674 + 2 = 676) (by decide) ?_
  refine zr_icmp_le (tgt := 743) dL_law_676 (by decide) (rfl : 676 + 3 = 679) (jI_le (by first | omega | (simp only [bset, reduceIte, Nat.reduceEqDiff]; omega)) (by first | omega | (simp only [bset, reduceIte, Nat.reduceEqDiff]; omega)) (by first | omega | (simp only [bset, reduceIte, Nat.reduceEqDiff]; omega)) (by first | omega | (simp only [bset, reduceIte, Nat.reduceEqDiff]; omega))) (fun h676 => ?_) (fun h676 => ?_)
  rotate_left
  · exfalso
    omega
  refine zr_iload_n dL_law_743 (rfl : 743 + 1 = 744) rfl ?_
  refine zr_if_eq (tgt := 788) dL_law_744 (by decide) (rfl : 744 + 3 = 747) (by first | exact jb_iff | exact jI_z (by first | omega | (simp only [bset, reduceIte, Nat.reduceEqDiff]; omega)) (by first | omega | (simp only [bset, reduceIte, Nat.reduceEqDiff]; omega))) (fun h744 => ?_) (fun h744 => ?_)
  · exfalso
    omega
  refine zr_iload dL_law_747 (rfl : 747 + 2 = 749) rfl ?_
  refine zr_iconst dL_law_749 (rfl : 749 + 1 = 750) ?_
  refine zr_icmp_eq (tgt := 759) dL_law_750 (by decide) (rfl : 750 + 3 = 753) (jI_eq (by first | omega | (simp only [bset, reduceIte, Nat.reduceEqDiff]; omega)) (by first | omega | (simp only [bset, reduceIte, Nat.reduceEqDiff]; omega)) (by first | omega | (simp only [bset, reduceIte, Nat.reduceEqDiff]; omega)) (by first | omega | (simp only [bset, reduceIte, Nat.reduceEqDiff]; omega))) (fun h750 => ?_) (fun h750 => ?_)
  · exfalso
    omega
  refine zr_iload dL_law_753 (rfl : 753 + 2 = 755) rfl ?_
  refine zr_iconst dL_law_755 (rfl : 755 + 1 = 756) ?_
  refine zr_icmp_ne (tgt := 788) dL_law_756 (by decide) (rfl : 756 + 3 = 759) (jI_eq (by first | omega | (simp only [bset, reduceIte, Nat.reduceEqDiff]; omega)) (by first | omega | (simp only [bset, reduceIte, Nat.reduceEqDiff]; omega)) (by first | omega | (simp only [bset, reduceIte, Nat.reduceEqDiff]; omega)) (by first | omega | (simp only [bset, reduceIte, Nat.reduceEqDiff]; omega))) (fun h756 => ?_) (fun h756 => ?_)
  · exfalso
    omega
  refine zr_iload dL_law_759 (rfl : 759 + 2 = 761) rfl ?_
  refine zr_if_eq (tgt := 782) dL_law_761 (by decide) (rfl : 761 + 3 = 764) (by first | exact jb_iff | exact jI_z (by first | omega | (simp only [bset, reduceIte, Nat.reduceEqDiff]; omega)) (by first | omega | (simp only [bset, reduceIte, Nat.reduceEqDiff]; omega))) (fun h761 => ?_) (fun h761 => ?_)
  rotate_left
  · exfalso
    omega
  refine zr_iconst dL_law_782 (rfl : 782 + 1 = 783) ?_
  refine zr_goto (tgt := 787) dL_law_783 (by decide) ?_
  refine zr_istore_n (lv' := [_, _, _, _, _, _, _, _, _, _, _, _, _, _, _, _, _, _, _]) dL_law_787 (rfl : 787 + 1 = 788) (Nat.le_of_ble_eq_true rfl) rfl ?_
  exact k
theorem lw_7_1 (hy : 0 ≤ y ∧ y < 2147483648) (h : jin B) (h' : jin B') (hv : -2000003 ≤ v ∧ v ≤ 100000) (q : y % 16 = 1) (k : zRun Γ md_L_law 10 none 788 [some (.ref 0), some (.ref 5), some (.int (jI (1))), some (.int (jI (i))), some (.int (jI (y))), some (.int (jI (y / 16))), some (.int (jI (y % 16))), some (.int (jI (6))), some (.int (jI (B 12 0))), some (.int (jI (B 16 0))), some (.int (jI (B 19 0))), some (.int (jI (B 20 0))), some (.int (jI (B 21 0))), some (.int (jI (due))), some (.int (jI (balls))), some (.int (jI (ball))), some (.int (jI (why))), some (.int (jI (v))), some (.int (jI (jb (-2000000 < v))))] [] (n9, g9, kc, ks) (bk 6 B' (cr σ' τ u)) Q) : zRun Γ md_L_law 10 none 393 [some (.ref 0), some (.ref 5), some (.int (jI (1))), some (.int (jI (i))), some (.int (jI (y))), some (.int (jI (y / 16))), some (.int (jI (y % 16))), some (.int (jI (6))), some (.int (jI (B 12 0))), some (.int (jI (B 16 0))), some (.int (jI (B 19 0))), some (.int (jI (B 20 0))), some (.int (jI (B 21 0))), some (.int (jI (due))), some (.int (jI (balls))), some (.int (jI (ball))), some (.int (jI (why))), some (.int (jI (v))), some (.int (jI (jb (-2000000 < v))))] [] (n9, g9, kc, ks) (bk 6 B' (cr σ' τ u)) Q := by
  have ok := h.ok
  have ok' := h'.ok
  have hca := ok.ca
  have hca' := ok'.ca
  have hpo := ok.po2
  have hdw := jic_r B (y / 16 % 4) (y / 16 / 4 % 4)
  refine zr_iload_n dL_law_393 (rfl : 393 + 1 = 394) rfl ?_
  refine zr_if_eq (tgt := 446) dL_law_394 (by decide) (rfl : 394 + 3 = 397) (by first | exact jb_iff | exact jI_z (by first | omega | (simp only [bset, reduceIte, Nat.reduceEqDiff]; omega)) (by first | omega | (simp only [bset, reduceIte, Nat.reduceEqDiff]; omega))) (fun h394 => ?_) (fun h394 => ?_)
  · exfalso
    omega
  refine zr_iload dL_law_397 (rfl : 397 + 2 = 399) rfl ?_
  refine zr_if_ne (tgt := 446) dL_law_399 (by decide) (rfl : 399 + 3 = 402) (by first | exact jb_iff | exact jI_z (by first | omega | (simp only [bset, reduceIte, Nat.reduceEqDiff]; omega)) (by first | omega | (simp only [bset, reduceIte, Nat.reduceEqDiff]; omega))) (fun h399 => ?_) (fun h399 => ?_)
  rotate_left
  · exfalso
    omega
  refine zr_iload_n dL_law_446 (rfl : 446 + 1 = 447) rfl ?_
  refine zr_if_eq (tgt := 587) dL_law_447 (by decide) (rfl : 447 + 3 = 450) (by first | exact jb_iff | exact jI_z (by first | omega | (simp only [bset, reduceIte, Nat.reduceEqDiff]; omega)) (by first | omega | (simp only [bset, reduceIte, Nat.reduceEqDiff]; omega))) (fun h447 => ?_) (fun h447 => ?_)
  · exfalso
    omega
  refine zr_iload dL_law_450 (rfl : 450 + 2 = 452) rfl ?_
  refine zr_bipush dL_law_452 (rfl : 452 + 2 = 454) (by decide) ?_
  refine zr_icmp_le (tgt := 587) dL_law_454 (by decide) (rfl : 454 + 3 = 457) (jI_le (by first | omega | (simp only [bset, reduceIte, Nat.reduceEqDiff]; omega)) (by first | omega | (simp only [bset, reduceIte, Nat.reduceEqDiff]; omega)) (by first | omega | (simp only [bset, reduceIte, Nat.reduceEqDiff]; omega)) (by first | omega | (simp only [bset, reduceIte, Nat.reduceEqDiff]; omega))) (fun h454 => ?_) (fun h454 => ?_)
  rotate_left
  · exfalso
    omega
  refine zr_iload_n dL_law_587 (rfl : 587 + 1 = 588) rfl ?_
  refine zr_if_eq (tgt := 661) dL_law_588 (by decide) (rfl : 588 + 3 = 591) (by first | exact jb_iff | exact jI_z (by first | omega | (simp only [bset, reduceIte, Nat.reduceEqDiff]; omega)) (by first | omega | (simp only [bset, reduceIte, Nat.reduceEqDiff]; omega))) (fun h588 => ?_) (fun h588 => ?_)
  · exfalso
    omega
  refine zr_iload dL_law_591 (rfl : 591 + 2 = 593) rfl ?_
  refine zr_bipush dL_law_593 (rfl : 593 + 2 = 595) (by decide) ?_
  refine zr_icmp_ne (tgt := 661) dL_law_595 (by decide) (rfl : 595 + 3 = 598) (jI_eq (by first | omega | (simp only [bset, reduceIte, Nat.reduceEqDiff]; omega)) (by first | omega | (simp only [bset, reduceIte, Nat.reduceEqDiff]; omega)) (by first | omega | (simp only [bset, reduceIte, Nat.reduceEqDiff]; omega)) (by first | omega | (simp only [bset, reduceIte, Nat.reduceEqDiff]; omega))) (fun h595 => ?_) (fun h595 => ?_)
  rotate_left
  · exfalso
    omega
  refine zr_iload_n dL_law_661 (rfl : 661 + 1 = 662) rfl ?_
  refine zr_if_eq (tgt := 743) dL_law_662 (by decide) (rfl : 662 + 3 = 665) (by first | exact jb_iff | exact jI_z (by first | omega | (simp only [bset, reduceIte, Nat.reduceEqDiff]; omega)) (by first | omega | (simp only [bset, reduceIte, Nat.reduceEqDiff]; omega))) (fun h662 => ?_) (fun h662 => ?_)
  · exfalso
    omega
  refine zr_iload dL_law_665 (rfl : 665 + 2 = 667) rfl ?_
  refine zr_bipush dL_law_667 (rfl : 667 + 2 = 669) (by decide) ?_
  refine zr_icmp_eq (tgt := 679) dL_law_669 (by decide) (rfl : 669 + 3 = 672) (jI_eq (by first | omega | (simp only [bset, reduceIte, Nat.reduceEqDiff]; omega)) (by first | omega | (simp only [bset, reduceIte, Nat.reduceEqDiff]; omega)) (by first | omega | (simp only [bset, reduceIte, Nat.reduceEqDiff]; omega)) (by first | omega | (simp only [bset, reduceIte, Nat.reduceEqDiff]; omega))) (fun h669 => ?_) (fun h669 => ?_)
  · exfalso
    omega
  refine zr_iload dL_law_672 (rfl : 672 + 2 = 674) rfl ?_
  refine zr_bipush dL_law_674 (rfl : 674 + 2 = 676) (by decide) ?_
  refine zr_icmp_le (tgt := 743) dL_law_676 (by decide) (rfl : 676 + 3 = 679) (jI_le (by first | omega | (simp only [bset, reduceIte, Nat.reduceEqDiff]; omega)) (by first | omega | (simp only [bset, reduceIte, Nat.reduceEqDiff]; omega)) (by first | omega | (simp only [bset, reduceIte, Nat.reduceEqDiff]; omega)) (by first | omega | (simp only [bset, reduceIte, Nat.reduceEqDiff]; omega))) (fun h676 => ?_) (fun h676 => ?_)
  rotate_left
  · exfalso
    omega
  refine zr_iload_n dL_law_743 (rfl : 743 + 1 = 744) rfl ?_
  refine zr_if_eq (tgt := 788) dL_law_744 (by decide) (rfl : 744 + 3 = 747) (by first | exact jb_iff | exact jI_z (by first | omega | (simp only [bset, reduceIte, Nat.reduceEqDiff]; omega)) (by first | omega | (simp only [bset, reduceIte, Nat.reduceEqDiff]; omega))) (fun h744 => ?_) (fun h744 => ?_)
  · exfalso
    omega
  refine zr_iload dL_law_747 (rfl : 747 + 2 = 749) rfl ?_
  refine zr_iconst dL_law_749 (rfl : 749 + 1 = 750) ?_
  refine zr_icmp_eq (tgt := 759) dL_law_750 (by decide) (rfl : 750 + 3 = 753) (jI_eq (by first | omega | (simp only [bset, reduceIte, Nat.reduceEqDiff]; omega)) (by first | omega | (simp only [bset, reduceIte, Nat.reduceEqDiff]; omega)) (by first | omega | (simp only [bset, reduceIte, Nat.reduceEqDiff]; omega)) (by first | omega | (simp only [bset, reduceIte, Nat.reduceEqDiff]; omega))) (fun h750 => ?_) (fun h750 => ?_)
  · exfalso
    omega
  refine zr_iload dL_law_753 (rfl : 753 + 2 = 755) rfl ?_
  refine zr_iconst dL_law_755 (rfl : 755 + 1 = 756) ?_
  refine zr_icmp_ne (tgt := 788) dL_law_756 (by decide) (rfl : 756 + 3 = 759) (jI_eq (by first | omega | (simp only [bset, reduceIte, Nat.reduceEqDiff]; omega)) (by first | omega | (simp only [bset, reduceIte, Nat.reduceEqDiff]; omega)) (by first | omega | (simp only [bset, reduceIte, Nat.reduceEqDiff]; omega)) (by first | omega | (simp only [bset, reduceIte, Nat.reduceEqDiff]; omega))) (fun h756 => ?_) (fun h756 => ?_)
  rotate_left
  · exfalso
    omega
  exact k
theorem lw_7_2 (hy : 0 ≤ y ∧ y < 2147483648) (h : jin B) (h' : jin B') (hv : -2000003 ≤ v ∧ v ≤ 100000) (q : y % 16 = 2) (k : zRun Γ md_L_law 10 none 788 [some (.ref 0), some (.ref 5), some (.int (jI (1))), some (.int (jI (i))), some (.int (jI (y))), some (.int (jI (y / 16))), some (.int (jI (y % 16))), some (.int (jI (6))), some (.int (jI (B 12 0))), some (.int (jI (B 16 0))), some (.int (jI (B 19 0))), some (.int (jI (B 20 0))), some (.int (jI (B 21 0))), some (.int (jI (due))), some (.int (jI (balls))), some (.int (jI (ball))), some (.int (jI (why))), some (.int (jI (v))), some (.int (jI (jb (-2000000 < v))))] [] (n9, g9, kc, ks) (bk 6 B' (cr σ' τ u)) Q) : zRun Γ md_L_law 10 none 393 [some (.ref 0), some (.ref 5), some (.int (jI (1))), some (.int (jI (i))), some (.int (jI (y))), some (.int (jI (y / 16))), some (.int (jI (y % 16))), some (.int (jI (6))), some (.int (jI (B 12 0))), some (.int (jI (B 16 0))), some (.int (jI (B 19 0))), some (.int (jI (B 20 0))), some (.int (jI (B 21 0))), some (.int (jI (due))), some (.int (jI (balls))), some (.int (jI (ball))), some (.int (jI (why))), some (.int (jI (v))), some (.int (jI (jb (-2000000 < v))))] [] (n9, g9, kc, ks) (bk 6 B' (cr σ' τ u)) Q := by
  have ok := h.ok
  have ok' := h'.ok
  have hca := ok.ca
  have hca' := ok'.ca
  have hpo := ok.po2
  have hdw := jic_r B (y / 16 % 4) (y / 16 / 4 % 4)
  refine zr_iload_n dL_law_393 (rfl : 393 + 1 = 394) rfl ?_
  refine zr_if_eq (tgt := 446) dL_law_394 (by decide) (rfl : 394 + 3 = 397) (by first | exact jb_iff | exact jI_z (by first | omega | (simp only [bset, reduceIte, Nat.reduceEqDiff]; omega)) (by first | omega | (simp only [bset, reduceIte, Nat.reduceEqDiff]; omega))) (fun h394 => ?_) (fun h394 => ?_)
  · exfalso
    omega
  refine zr_iload dL_law_397 (rfl : 397 + 2 = 399) rfl ?_
  refine zr_if_ne (tgt := 446) dL_law_399 (by decide) (rfl : 399 + 3 = 402) (by first | exact jb_iff | exact jI_z (by first | omega | (simp only [bset, reduceIte, Nat.reduceEqDiff]; omega)) (by first | omega | (simp only [bset, reduceIte, Nat.reduceEqDiff]; omega))) (fun h399 => ?_) (fun h399 => ?_)
  rotate_left
  · exfalso
    omega
  refine zr_iload_n dL_law_446 (rfl : 446 + 1 = 447) rfl ?_
  refine zr_if_eq (tgt := 587) dL_law_447 (by decide) (rfl : 447 + 3 = 450) (by first | exact jb_iff | exact jI_z (by first | omega | (simp only [bset, reduceIte, Nat.reduceEqDiff]; omega)) (by first | omega | (simp only [bset, reduceIte, Nat.reduceEqDiff]; omega))) (fun h447 => ?_) (fun h447 => ?_)
  · exfalso
    omega
  refine zr_iload dL_law_450 (rfl : 450 + 2 = 452) rfl ?_
  refine zr_bipush dL_law_452 (rfl : 452 + 2 = 454) (by decide) ?_
  refine zr_icmp_le (tgt := 587) dL_law_454 (by decide) (rfl : 454 + 3 = 457) (jI_le (by first | omega | (simp only [bset, reduceIte, Nat.reduceEqDiff]; omega)) (by first | omega | (simp only [bset, reduceIte, Nat.reduceEqDiff]; omega)) (by first | omega | (simp only [bset, reduceIte, Nat.reduceEqDiff]; omega)) (by first | omega | (simp only [bset, reduceIte, Nat.reduceEqDiff]; omega))) (fun h454 => ?_) (fun h454 => ?_)
  rotate_left
  · exfalso
    omega
  refine zr_iload_n dL_law_587 (rfl : 587 + 1 = 588) rfl ?_
  refine zr_if_eq (tgt := 661) dL_law_588 (by decide) (rfl : 588 + 3 = 591) (by first | exact jb_iff | exact jI_z (by first | omega | (simp only [bset, reduceIte, Nat.reduceEqDiff]; omega)) (by first | omega | (simp only [bset, reduceIte, Nat.reduceEqDiff]; omega))) (fun h588 => ?_) (fun h588 => ?_)
  · exfalso
    omega
  refine zr_iload dL_law_591 (rfl : 591 + 2 = 593) rfl ?_
  refine zr_bipush dL_law_593 (rfl : 593 + 2 = 595) (by decide) ?_
  refine zr_icmp_ne (tgt := 661) dL_law_595 (by decide) (rfl : 595 + 3 = 598) (jI_eq (by first | omega | (simp only [bset, reduceIte, Nat.reduceEqDiff]; omega)) (by first | omega | (simp only [bset, reduceIte, Nat.reduceEqDiff]; omega)) (by first | omega | (simp only [bset, reduceIte, Nat.reduceEqDiff]; omega)) (by first | omega | (simp only [bset, reduceIte, Nat.reduceEqDiff]; omega))) (fun h595 => ?_) (fun h595 => ?_)
  rotate_left
  · exfalso
    omega
  refine zr_iload_n dL_law_661 (rfl : 661 + 1 = 662) rfl ?_
  refine zr_if_eq (tgt := 743) dL_law_662 (by decide) (rfl : 662 + 3 = 665) (by first | exact jb_iff | exact jI_z (by first | omega | (simp only [bset, reduceIte, Nat.reduceEqDiff]; omega)) (by first | omega | (simp only [bset, reduceIte, Nat.reduceEqDiff]; omega))) (fun h662 => ?_) (fun h662 => ?_)
  · exfalso
    omega
  refine zr_iload dL_law_665 (rfl : 665 + 2 = 667) rfl ?_
  refine zr_bipush dL_law_667 (rfl : 667 + 2 = 669) (by decide) ?_
  refine zr_icmp_eq (tgt := 679) dL_law_669 (by decide) (rfl : 669 + 3 = 672) (jI_eq (by first | omega | (simp only [bset, reduceIte, Nat.reduceEqDiff]; omega)) (by first | omega | (simp only [bset, reduceIte, Nat.reduceEqDiff]; omega)) (by first | omega | (simp only [bset, reduceIte, Nat.reduceEqDiff]; omega)) (by first | omega | (simp only [bset, reduceIte, Nat.reduceEqDiff]; omega))) (fun h669 => ?_) (fun h669 => ?_)
  · exfalso
    omega
  refine zr_iload dL_law_672 (rfl : 672 + 2 = 674) rfl ?_
  refine zr_bipush dL_law_674 (rfl : 674 + 2 = 676) (by decide) ?_
  refine zr_icmp_le (tgt := 743) dL_law_676 (by decide) (rfl : 676 + 3 = 679) (jI_le (by first | omega | (simp only [bset, reduceIte, Nat.reduceEqDiff]; omega)) (by first | omega | (simp only [bset, reduceIte, Nat.reduceEqDiff]; omega)) (by first | omega | (simp only [bset, reduceIte, Nat.reduceEqDiff]; omega)) (by first | omega | (simp only [bset, reduceIte, Nat.reduceEqDiff]; omega))) (fun h676 => ?_) (fun h676 => ?_)
  rotate_left
  · exfalso
    omega
  refine zr_iload_n dL_law_743 (rfl : 743 + 1 = 744) rfl ?_
  refine zr_if_eq (tgt := 788) dL_law_744 (by decide) (rfl : 744 + 3 = 747) (by first | exact jb_iff | exact jI_z (by first | omega | (simp only [bset, reduceIte, Nat.reduceEqDiff]; omega)) (by first | omega | (simp only [bset, reduceIte, Nat.reduceEqDiff]; omega))) (fun h744 => ?_) (fun h744 => ?_)
  · exfalso
    omega
  refine zr_iload dL_law_747 (rfl : 747 + 2 = 749) rfl ?_
  refine zr_iconst dL_law_749 (rfl : 749 + 1 = 750) ?_
  refine zr_icmp_eq (tgt := 759) dL_law_750 (by decide) (rfl : 750 + 3 = 753) (jI_eq (by first | omega | (simp only [bset, reduceIte, Nat.reduceEqDiff]; omega)) (by first | omega | (simp only [bset, reduceIte, Nat.reduceEqDiff]; omega)) (by first | omega | (simp only [bset, reduceIte, Nat.reduceEqDiff]; omega)) (by first | omega | (simp only [bset, reduceIte, Nat.reduceEqDiff]; omega))) (fun h750 => ?_) (fun h750 => ?_)
  · exfalso
    omega
  refine zr_iload dL_law_753 (rfl : 753 + 2 = 755) rfl ?_
  refine zr_iconst dL_law_755 (rfl : 755 + 1 = 756) ?_
  refine zr_icmp_ne (tgt := 788) dL_law_756 (by decide) (rfl : 756 + 3 = 759) (jI_eq (by first | omega | (simp only [bset, reduceIte, Nat.reduceEqDiff]; omega)) (by first | omega | (simp only [bset, reduceIte, Nat.reduceEqDiff]; omega)) (by first | omega | (simp only [bset, reduceIte, Nat.reduceEqDiff]; omega)) (by first | omega | (simp only [bset, reduceIte, Nat.reduceEqDiff]; omega))) (fun h756 => ?_) (fun h756 => ?_)
  rotate_left
  · exfalso
    omega
  exact k
theorem lw_7_5 (hy : 0 ≤ y ∧ y < 2147483648) (h : jin B) (h' : jin B') (hv : -2000003 ≤ v ∧ v ≤ 100000) (q : y % 16 = 5) (k : zRun Γ md_L_law 10 none 788 [some (.ref 0), some (.ref 5), some (.int (jI (1))), some (.int (jI (i))), some (.int (jI (y))), some (.int (jI (y / 16))), some (.int (jI (y % 16))), some (.int (jI (6))), some (.int (jI (B 12 0))), some (.int (jI (B 16 0))), some (.int (jI (B 19 0))), some (.int (jI (B 20 0))), some (.int (jI (B 21 0))), some (.int (jI (due))), some (.int (jI (balls))), some (.int (jI (ball))), some (.int (jI (why))), some (.int (jI (v))), some (.int (jI (jb (-2000000 < v))))] [] (n9, g9, kc, ks) (bk 6 B' (cr σ' τ u)) Q) : zRun Γ md_L_law 10 none 393 [some (.ref 0), some (.ref 5), some (.int (jI (1))), some (.int (jI (i))), some (.int (jI (y))), some (.int (jI (y / 16))), some (.int (jI (y % 16))), some (.int (jI (6))), some (.int (jI (B 12 0))), some (.int (jI (B 16 0))), some (.int (jI (B 19 0))), some (.int (jI (B 20 0))), some (.int (jI (B 21 0))), some (.int (jI (due))), some (.int (jI (balls))), some (.int (jI (ball))), some (.int (jI (why))), some (.int (jI (v))), some (.int (jI (jb (-2000000 < v))))] [] (n9, g9, kc, ks) (bk 6 B' (cr σ' τ u)) Q := by
  have ok := h.ok
  have ok' := h'.ok
  have hca := ok.ca
  have hca' := ok'.ca
  have hpo := ok.po2
  have hdw := jic_r B (y / 16 % 4) (y / 16 / 4 % 4)
  refine zr_iload_n dL_law_393 (rfl : 393 + 1 = 394) rfl ?_
  refine zr_if_eq (tgt := 446) dL_law_394 (by decide) (rfl : 394 + 3 = 397) (by first | exact jb_iff | exact jI_z (by first | omega | (simp only [bset, reduceIte, Nat.reduceEqDiff]; omega)) (by first | omega | (simp only [bset, reduceIte, Nat.reduceEqDiff]; omega))) (fun h394 => ?_) (fun h394 => ?_)
  · exfalso
    omega
  refine zr_iload dL_law_397 (rfl : 397 + 2 = 399) rfl ?_
  refine zr_if_ne (tgt := 446) dL_law_399 (by decide) (rfl : 399 + 3 = 402) (by first | exact jb_iff | exact jI_z (by first | omega | (simp only [bset, reduceIte, Nat.reduceEqDiff]; omega)) (by first | omega | (simp only [bset, reduceIte, Nat.reduceEqDiff]; omega))) (fun h399 => ?_) (fun h399 => ?_)
  rotate_left
  · exfalso
    omega
  refine zr_iload_n dL_law_446 (rfl : 446 + 1 = 447) rfl ?_
  refine zr_if_eq (tgt := 587) dL_law_447 (by decide) (rfl : 447 + 3 = 450) (by first | exact jb_iff | exact jI_z (by first | omega | (simp only [bset, reduceIte, Nat.reduceEqDiff]; omega)) (by first | omega | (simp only [bset, reduceIte, Nat.reduceEqDiff]; omega))) (fun h447 => ?_) (fun h447 => ?_)
  · exfalso
    omega
  refine zr_iload dL_law_450 (rfl : 450 + 2 = 452) rfl ?_
  refine zr_bipush dL_law_452 (rfl : 452 + 2 = 454) (by decide) ?_
  refine zr_icmp_le (tgt := 587) dL_law_454 (by decide) (rfl : 454 + 3 = 457) (jI_le (by first | omega | (simp only [bset, reduceIte, Nat.reduceEqDiff]; omega)) (by first | omega | (simp only [bset, reduceIte, Nat.reduceEqDiff]; omega)) (by first | omega | (simp only [bset, reduceIte, Nat.reduceEqDiff]; omega)) (by first | omega | (simp only [bset, reduceIte, Nat.reduceEqDiff]; omega))) (fun h454 => ?_) (fun h454 => ?_)
  rotate_left
  · exfalso
    omega
  refine zr_iload_n dL_law_587 (rfl : 587 + 1 = 588) rfl ?_
  refine zr_if_eq (tgt := 661) dL_law_588 (by decide) (rfl : 588 + 3 = 591) (by first | exact jb_iff | exact jI_z (by first | omega | (simp only [bset, reduceIte, Nat.reduceEqDiff]; omega)) (by first | omega | (simp only [bset, reduceIte, Nat.reduceEqDiff]; omega))) (fun h588 => ?_) (fun h588 => ?_)
  · exfalso
    omega
  refine zr_iload dL_law_591 (rfl : 591 + 2 = 593) rfl ?_
  refine zr_bipush dL_law_593 (rfl : 593 + 2 = 595) (by decide) ?_
  refine zr_icmp_ne (tgt := 661) dL_law_595 (by decide) (rfl : 595 + 3 = 598) (jI_eq (by first | omega | (simp only [bset, reduceIte, Nat.reduceEqDiff]; omega)) (by first | omega | (simp only [bset, reduceIte, Nat.reduceEqDiff]; omega)) (by first | omega | (simp only [bset, reduceIte, Nat.reduceEqDiff]; omega)) (by first | omega | (simp only [bset, reduceIte, Nat.reduceEqDiff]; omega))) (fun h595 => ?_) (fun h595 => ?_)
  rotate_left
  · exfalso
    omega
  refine zr_iload_n dL_law_661 (rfl : 661 + 1 = 662) rfl ?_
  refine zr_if_eq (tgt := 743) dL_law_662 (by decide) (rfl : 662 + 3 = 665) (by first | exact jb_iff | exact jI_z (by first | omega | (simp only [bset, reduceIte, Nat.reduceEqDiff]; omega)) (by first | omega | (simp only [bset, reduceIte, Nat.reduceEqDiff]; omega))) (fun h662 => ?_) (fun h662 => ?_)
  · exfalso
    omega
  refine zr_iload dL_law_665 (rfl : 665 + 2 = 667) rfl ?_
  refine zr_bipush dL_law_667 (rfl : 667 + 2 = 669) (by decide) ?_
  refine zr_icmp_eq (tgt := 679) dL_law_669 (by decide) (rfl : 669 + 3 = 672) (jI_eq (by first | omega | (simp only [bset, reduceIte, Nat.reduceEqDiff]; omega)) (by first | omega | (simp only [bset, reduceIte, Nat.reduceEqDiff]; omega)) (by first | omega | (simp only [bset, reduceIte, Nat.reduceEqDiff]; omega)) (by first | omega | (simp only [bset, reduceIte, Nat.reduceEqDiff]; omega))) (fun h669 => ?_) (fun h669 => ?_)
  · exfalso
    omega
  refine zr_iload dL_law_672 (rfl : 672 + 2 = 674) rfl ?_
  refine zr_bipush dL_law_674 (rfl : 674 + 2 = 676) (by decide) ?_
  refine zr_icmp_le (tgt := 743) dL_law_676 (by decide) (rfl : 676 + 3 = 679) (jI_le (by first | omega | (simp only [bset, reduceIte, Nat.reduceEqDiff]; omega)) (by first | omega | (simp only [bset, reduceIte, Nat.reduceEqDiff]; omega)) (by first | omega | (simp only [bset, reduceIte, Nat.reduceEqDiff]; omega)) (by first | omega | (simp only [bset, reduceIte, Nat.reduceEqDiff]; omega))) (fun h676 => ?_) (fun h676 => ?_)
  rotate_left
  · exfalso
    omega
  refine zr_iload_n dL_law_743 (rfl : 743 + 1 = 744) rfl ?_
  refine zr_if_eq (tgt := 788) dL_law_744 (by decide) (rfl : 744 + 3 = 747) (by first | exact jb_iff | exact jI_z (by first | omega | (simp only [bset, reduceIte, Nat.reduceEqDiff]; omega)) (by first | omega | (simp only [bset, reduceIte, Nat.reduceEqDiff]; omega))) (fun h744 => ?_) (fun h744 => ?_)
  · exfalso
    omega
  refine zr_iload dL_law_747 (rfl : 747 + 2 = 749) rfl ?_
  refine zr_iconst dL_law_749 (rfl : 749 + 1 = 750) ?_
  refine zr_icmp_eq (tgt := 759) dL_law_750 (by decide) (rfl : 750 + 3 = 753) (jI_eq (by first | omega | (simp only [bset, reduceIte, Nat.reduceEqDiff]; omega)) (by first | omega | (simp only [bset, reduceIte, Nat.reduceEqDiff]; omega)) (by first | omega | (simp only [bset, reduceIte, Nat.reduceEqDiff]; omega)) (by first | omega | (simp only [bset, reduceIte, Nat.reduceEqDiff]; omega))) (fun h750 => ?_) (fun h750 => ?_)
  · exfalso
    omega
  refine zr_iload dL_law_753 (rfl : 753 + 2 = 755) rfl ?_
  refine zr_iconst dL_law_755 (rfl : 755 + 1 = 756) ?_
  refine zr_icmp_ne (tgt := 788) dL_law_756 (by decide) (rfl : 756 + 3 = 759) (jI_eq (by first | omega | (simp only [bset, reduceIte, Nat.reduceEqDiff]; omega)) (by first | omega | (simp only [bset, reduceIte, Nat.reduceEqDiff]; omega)) (by first | omega | (simp only [bset, reduceIte, Nat.reduceEqDiff]; omega)) (by first | omega | (simp only [bset, reduceIte, Nat.reduceEqDiff]; omega))) (fun h756 => ?_) (fun h756 => ?_)
  rotate_left
  · exfalso
    omega
  exact k
theorem lw_7_12 (hy : 0 ≤ y ∧ y < 2147483648) (h : jin B) (h' : jin B') (hv : -2000003 ≤ v ∧ v ≤ 100000) (q : y % 16 = 12) (k : zRun Γ md_L_law 10 none 788 [some (.ref 0), some (.ref 5), some (.int (jI (1))), some (.int (jI (i))), some (.int (jI (y))), some (.int (jI (y / 16))), some (.int (jI (y % 16))), some (.int (jI (6))), some (.int (jI (B 12 0))), some (.int (jI (B 16 0))), some (.int (jI (B 19 0))), some (.int (jI (B 20 0))), some (.int (jI (B 21 0))), some (.int (jI (due))), some (.int (jI (balls))), some (.int (jI (ball))), some (.int (jI (why))), some (.int (jI (v))), some (.int (jI (jb (-2000000 < v))))] [] (n9, g9, kc, ks) (bk 6 B' (cr σ' τ u)) Q) : zRun Γ md_L_law 10 none 393 [some (.ref 0), some (.ref 5), some (.int (jI (1))), some (.int (jI (i))), some (.int (jI (y))), some (.int (jI (y / 16))), some (.int (jI (y % 16))), some (.int (jI (6))), some (.int (jI (B 12 0))), some (.int (jI (B 16 0))), some (.int (jI (B 19 0))), some (.int (jI (B 20 0))), some (.int (jI (B 21 0))), some (.int (jI (due))), some (.int (jI (balls))), some (.int (jI (ball))), some (.int (jI (why))), some (.int (jI (v))), some (.int (jI (jb (-2000000 < v))))] [] (n9, g9, kc, ks) (bk 6 B' (cr σ' τ u)) Q := by
  have ok := h.ok
  have ok' := h'.ok
  have hca := ok.ca
  have hca' := ok'.ca
  have hpo := ok.po2
  have hdw := jic_r B (y / 16 % 4) (y / 16 / 4 % 4)
  refine zr_iload_n dL_law_393 (rfl : 393 + 1 = 394) rfl ?_
  refine zr_if_eq (tgt := 446) dL_law_394 (by decide) (rfl : 394 + 3 = 397) (by first | exact jb_iff | exact jI_z (by first | omega | (simp only [bset, reduceIte, Nat.reduceEqDiff]; omega)) (by first | omega | (simp only [bset, reduceIte, Nat.reduceEqDiff]; omega))) (fun h394 => ?_) (fun h394 => ?_)
  · exfalso
    omega
  refine zr_iload dL_law_397 (rfl : 397 + 2 = 399) rfl ?_
  refine zr_if_ne (tgt := 446) dL_law_399 (by decide) (rfl : 399 + 3 = 402) (by first | exact jb_iff | exact jI_z (by first | omega | (simp only [bset, reduceIte, Nat.reduceEqDiff]; omega)) (by first | omega | (simp only [bset, reduceIte, Nat.reduceEqDiff]; omega))) (fun h399 => ?_) (fun h399 => ?_)
  rotate_left
  · exfalso
    omega
  refine zr_iload_n dL_law_446 (rfl : 446 + 1 = 447) rfl ?_
  refine zr_if_eq (tgt := 587) dL_law_447 (by decide) (rfl : 447 + 3 = 450) (by first | exact jb_iff | exact jI_z (by first | omega | (simp only [bset, reduceIte, Nat.reduceEqDiff]; omega)) (by first | omega | (simp only [bset, reduceIte, Nat.reduceEqDiff]; omega))) (fun h447 => ?_) (fun h447 => ?_)
  · exfalso
    omega
  refine zr_iload dL_law_450 (rfl : 450 + 2 = 452) rfl ?_
  refine zr_bipush dL_law_452 (rfl : 452 + 2 = 454) (by decide) ?_
  refine zr_icmp_le (tgt := 587) dL_law_454 (by decide) (rfl : 454 + 3 = 457) (jI_le (by first | omega | (simp only [bset, reduceIte, Nat.reduceEqDiff]; omega)) (by first | omega | (simp only [bset, reduceIte, Nat.reduceEqDiff]; omega)) (by first | omega | (simp only [bset, reduceIte, Nat.reduceEqDiff]; omega)) (by first | omega | (simp only [bset, reduceIte, Nat.reduceEqDiff]; omega))) (fun h454 => ?_) (fun h454 => ?_)
  · exfalso
    omega
  refine zr_iload dL_law_457 (rfl : 457 + 2 = 459) rfl ?_
  refine zr_bipush dL_law_459 (rfl : 459 + 2 = 461) (by decide) ?_
  refine zr_icmp_ge (tgt := 587) dL_law_461 (by decide) (rfl : 461 + 3 = 464) (jI_le (by first | omega | (simp only [bset, reduceIte, Nat.reduceEqDiff]; omega)) (by first | omega | (simp only [bset, reduceIte, Nat.reduceEqDiff]; omega)) (by first | omega | (simp only [bset, reduceIte, Nat.reduceEqDiff]; omega)) (by first | omega | (simp only [bset, reduceIte, Nat.reduceEqDiff]; omega))) (fun h461 => ?_) (fun h461 => ?_)
  rotate_left
  · exfalso
    omega
  refine zr_iload_n dL_law_587 (rfl : 587 + 1 = 588) rfl ?_
  refine zr_if_eq (tgt := 661) dL_law_588 (by decide) (rfl : 588 + 3 = 591) (by first | exact jb_iff | exact jI_z (by first | omega | (simp only [bset, reduceIte, Nat.reduceEqDiff]; omega)) (by first | omega | (simp only [bset, reduceIte, Nat.reduceEqDiff]; omega))) (fun h588 => ?_) (fun h588 => ?_)
  · exfalso
    omega
  refine zr_iload dL_law_591 (rfl : 591 + 2 = 593) rfl ?_
  refine zr_bipush dL_law_593 (rfl : 593 + 2 = 595) (by decide) ?_
  refine zr_icmp_ne (tgt := 661) dL_law_595 (by decide) (rfl : 595 + 3 = 598) (jI_eq (by first | omega | (simp only [bset, reduceIte, Nat.reduceEqDiff]; omega)) (by first | omega | (simp only [bset, reduceIte, Nat.reduceEqDiff]; omega)) (by first | omega | (simp only [bset, reduceIte, Nat.reduceEqDiff]; omega)) (by first | omega | (simp only [bset, reduceIte, Nat.reduceEqDiff]; omega))) (fun h595 => ?_) (fun h595 => ?_)
  rotate_left
  · exfalso
    omega
  refine zr_iload_n dL_law_661 (rfl : 661 + 1 = 662) rfl ?_
  refine zr_if_eq (tgt := 743) dL_law_662 (by decide) (rfl : 662 + 3 = 665) (by first | exact jb_iff | exact jI_z (by first | omega | (simp only [bset, reduceIte, Nat.reduceEqDiff]; omega)) (by first | omega | (simp only [bset, reduceIte, Nat.reduceEqDiff]; omega))) (fun h662 => ?_) (fun h662 => ?_)
  · exfalso
    omega
  refine zr_iload dL_law_665 (rfl : 665 + 2 = 667) rfl ?_
  refine zr_bipush dL_law_667 (rfl : 667 + 2 = 669) (by decide) ?_
  refine zr_icmp_eq (tgt := 679) dL_law_669 (by decide) (rfl : 669 + 3 = 672) (jI_eq (by first | omega | (simp only [bset, reduceIte, Nat.reduceEqDiff]; omega)) (by first | omega | (simp only [bset, reduceIte, Nat.reduceEqDiff]; omega)) (by first | omega | (simp only [bset, reduceIte, Nat.reduceEqDiff]; omega)) (by first | omega | (simp only [bset, reduceIte, Nat.reduceEqDiff]; omega))) (fun h669 => ?_) (fun h669 => ?_)
  · exfalso
    omega
  refine zr_iload dL_law_672 (rfl : 672 + 2 = 674) rfl ?_
  refine zr_bipush dL_law_674 (rfl : 674 + 2 = 676) (by decide) ?_
  refine zr_icmp_le (tgt := 743) dL_law_676 (by decide) (rfl : 676 + 3 = 679) (jI_le (by first | omega | (simp only [bset, reduceIte, Nat.reduceEqDiff]; omega)) (by first | omega | (simp only [bset, reduceIte, Nat.reduceEqDiff]; omega)) (by first | omega | (simp only [bset, reduceIte, Nat.reduceEqDiff]; omega)) (by first | omega | (simp only [bset, reduceIte, Nat.reduceEqDiff]; omega))) (fun h676 => ?_) (fun h676 => ?_)
  rotate_left
  · exfalso
    omega
  refine zr_iload_n dL_law_743 (rfl : 743 + 1 = 744) rfl ?_
  refine zr_if_eq (tgt := 788) dL_law_744 (by decide) (rfl : 744 + 3 = 747) (by first | exact jb_iff | exact jI_z (by first | omega | (simp only [bset, reduceIte, Nat.reduceEqDiff]; omega)) (by first | omega | (simp only [bset, reduceIte, Nat.reduceEqDiff]; omega))) (fun h744 => ?_) (fun h744 => ?_)
  · exfalso
    omega
  refine zr_iload dL_law_747 (rfl : 747 + 2 = 749) rfl ?_
  refine zr_iconst dL_law_749 (rfl : 749 + 1 = 750) ?_
  refine zr_icmp_eq (tgt := 759) dL_law_750 (by decide) (rfl : 750 + 3 = 753) (jI_eq (by first | omega | (simp only [bset, reduceIte, Nat.reduceEqDiff]; omega)) (by first | omega | (simp only [bset, reduceIte, Nat.reduceEqDiff]; omega)) (by first | omega | (simp only [bset, reduceIte, Nat.reduceEqDiff]; omega)) (by first | omega | (simp only [bset, reduceIte, Nat.reduceEqDiff]; omega))) (fun h750 => ?_) (fun h750 => ?_)
  · exfalso
    omega
  refine zr_iload dL_law_753 (rfl : 753 + 2 = 755) rfl ?_
  refine zr_iconst dL_law_755 (rfl : 755 + 1 = 756) ?_
  refine zr_icmp_ne (tgt := 788) dL_law_756 (by decide) (rfl : 756 + 3 = 759) (jI_eq (by first | omega | (simp only [bset, reduceIte, Nat.reduceEqDiff]; omega)) (by first | omega | (simp only [bset, reduceIte, Nat.reduceEqDiff]; omega)) (by first | omega | (simp only [bset, reduceIte, Nat.reduceEqDiff]; omega)) (by first | omega | (simp only [bset, reduceIte, Nat.reduceEqDiff]; omega))) (fun h756 => ?_) (fun h756 => ?_)
  rotate_left
  · exfalso
    omega
  exact k
theorem lw_7 (hy : 0 ≤ y ∧ y < 2147483648) (h : jin B) (hst : jStep B σ y v B' σ') (hdue : (7 ≤ y % 16 → y % 16 ≤ 11 → due = jic B (y / 16 % 4) (y / 16 / 4 % 4))) (hb : 1 ≤ balls ∧ balls ≤ 25) (hbal : ((12 < y % 16 → balls = 1 + y / 16 % 25) ∧ (y % 16 ≤ 12 → balls = 1 + y / 16 % 6))) (hbl : ((12 < y % 16 ∨ y % 16 = 6) → ball = jnb B balls)) (hwhy : (y % 16 = 0 → why = jrap B (y / 16 % 6 * 3 + y / 16 / 8 % 3) (1 + y / 16 / 32 % 90))) (k : zRun Γ md_L_law 10 none 788 [some (.ref 0), some (.ref 5), some (.int (jI (1))), some (.int (jI (i))), some (.int (jI (y))), some (.int (jI (y / 16))), some (.int (jI (y % 16))), some (.int (jI (6))), some (.int (jI (B 12 0))), some (.int (jI (B 16 0))), some (.int (jI (B 19 0))), some (.int (jI (B 20 0))), some (.int (jI (B 21 0))), some (.int (jI (due))), some (.int (jI (balls))), some (.int (jI (ball))), some (.int (jI (why))), some (.int (jI (v))), some (.int (jI (jb (-2000000 < v))))] [] (n9, g9, kc, ks) (bk 6 B' (cr σ' τ u)) Q) : zRun Γ md_L_law 10 none 393 [some (.ref 0), some (.ref 5), some (.int (jI (1))), some (.int (jI (i))), some (.int (jI (y))), some (.int (jI (y / 16))), some (.int (jI (y % 16))), some (.int (jI (6))), some (.int (jI (B 12 0))), some (.int (jI (B 16 0))), some (.int (jI (B 19 0))), some (.int (jI (B 20 0))), some (.int (jI (B 21 0))), some (.int (jI (due))), some (.int (jI (balls))), some (.int (jI (ball))), some (.int (jI (why))), some (.int (jI (v))), some (.int (jI (jb (-2000000 < v))))] [] (n9, g9, kc, ks) (bk 6 B' (cr σ' τ u)) Q := by
  obtain ⟨⟨h', -, -⟩, hv, f0, f7, fe, fd6, fd, fb⟩ := hst
  rcases (by omega : y % 16 = 0 ∨ y % 16 = 1 ∨ y % 16 = 2 ∨ y % 16 = 3 ∨ y % 16 = 4 ∨ y % 16 = 5 ∨ y % 16 = 6 ∨ (7 ≤ y % 16 ∧ y % 16 ≤ 11) ∨ y % 16 = 12 ∨ 12 < y % 16) with q | q | q | q | q | q | q | q | q | q
  · obtain ⟨a1, a2, a3⟩ := f0 q
    exact lw_7_0 hy h h' hv q ((hwhy q).trans a1.symm) a2 a3 k
  · exact lw_7_1 hy h h' hv q k
  · exact lw_7_2 hy h h' hv q k
  · rcases fb (Or.inl q) with e | ⟨a1, a2, a3⟩
    · exact lw_7_b3n hy h h' hv q e k
    · exact lw_7_b3 hy h h' hv q a1 a2 a3 k
  · rcases fb (Or.inr q) with e | ⟨a1, a2, a3⟩
    · exact lw_7_b4n hy h h' hv q e k
    · exact lw_7_b4 hy h h' hv q a1 a2 a3 k
  · exact lw_7_5 hy h h' hv q k
  · by_cases q2 : y / 16 % 8 = 0
    · obtain ⟨a1, a2, a3, a4, a5, a6⟩ := fe q q2
      exact lw_7_e hy h h' hv q q2 a1 a2 a3 a4 a5 a6 k
    · have hbb := hbal.2 (by omega)
      rcases fd6 q q2 with ⟨a1, a2⟩ | ⟨a1, a2, a3, a4⟩
      · exact lw_7_d6n hy h h' hv q q2 hb a1 (by omega) k
      · exact lw_7_d6 hy h h' hv q q2 hb a2 ((hbl (Or.inr q)).trans (by rw [hbb]; exact a1.symm)) (by omega) a4 k
  · rcases f7 q.1 q.2 with ⟨a1, a2⟩ | ⟨a1, a2, a3, a4, a5⟩
    · exact lw_7_cn hy h h' hv q.1 q.2 a1 ((hdue q.1 q.2).trans a2) k
    · exact lw_7_c hy h h' hv q.1 q.2 a1 ((hdue q.1 q.2).trans a2.symm) a3 a4 a5 k
  · exact lw_7_12 hy h h' hv q k
  · have hbb := hbal.1 q
    rcases fd q with ⟨a1, a2⟩ | ⟨a1, a2, a3, a4⟩
    · exact lw_7_dn hy h h' hv q hb a1 (by omega) k
    · exact lw_7_d hy h h' hv q hb a2 ((hbl (Or.inl q)).trans (by rw [hbb]; exact a1.symm)) (by omega) a4 k
theorem lw_8 (hi : 0 ≤ i ∧ i < 24) (h : jin B') (k : ∀ τ g9, zRun Γ md_L_law 10 none 119 [some (.ref 0), some (.ref 5), some (.int (jI (1))), some (.int (jI (i + 1))), some (.int (jI (y))), some (.int (jI (y / 16))), some (.int (jI (y % 16))), some (.int (jI (6))), some (.int (jI (B 12 0))), some (.int (jI (B 16 0))), some (.int (jI (B 19 0))), some (.int (jI (B 20 0))), some (.int (jI (B 21 0))), some (.int (jI (due))), some (.int (jI (balls))), some (.int (jI (ball))), some (.int (jI (why))), some (.int (jI (v))), some (.int (jI (jb (-2000000 < v))))] [] (n9, g9, kc, ks) (bk 6 B' (cr σ' τ u)) Q) : zRun Γ md_L_law 10 none 788 [some (.ref 0), some (.ref 5), some (.int (jI (1))), some (.int (jI (i))), some (.int (jI (y))), some (.int (jI (y / 16))), some (.int (jI (y % 16))), some (.int (jI (6))), some (.int (jI (B 12 0))), some (.int (jI (B 16 0))), some (.int (jI (B 19 0))), some (.int (jI (B 20 0))), some (.int (jI (B 21 0))), some (.int (jI (due))), some (.int (jI (balls))), some (.int (jI (ball))), some (.int (jI (why))), some (.int (jI (v))), some (.int (jI (jb (-2000000 < v))))] [] (n9, g9, (kc + 1), (ks + 6)) (bk 6 B' (cr σ' τ u)) Q := by
  have hg9 := hg (Γ := Γ) (d := 0) (σ := σ') (τ := τ) (u := u) h
  by_cases q : i % 6 = 0
  · refine zr_iload_n dL_law_788 (rfl : 788 + 1 = 789) rfl ?_
    refine zr_if_eq (tgt := 810) dL_law_789 (by decide) (rfl : 789 + 3 = 792) (by first | exact jb_iff | exact jI_z (by first | omega | (simp only [bset, reduceIte, Nat.reduceEqDiff]; omega)) (by first | omega | (simp only [bset, reduceIte, Nat.reduceEqDiff]; omega))) (fun h789 => ?_) (fun h789 => ?_)
    · exfalso
      omega
    refine zr_iload_n dL_law_792 (rfl : 792 + 1 = 793) rfl ?_
    refine zr_bipush dL_law_793 (rfl : 793 + 2 = 795) (by decide) ?_
    refine zr_irem dL_law_795 (rfl : 795 + 1 = 796) (fun q => absurd ((jI_z (by first | omega | (simp only [bset, reduceIte, Nat.reduceEqDiff]; omega)) (by first | omega | (simp only [bset, reduceIte, Nat.reduceEqDiff]; omega))).mp q) (by first | omega | (simp only [bset, reduceIte, Nat.reduceEqDiff]; omega))) (jI_rem (by first | omega | (simp only [bset, reduceIte, Nat.reduceEqDiff]; omega)) (by first | omega | (simp only [bset, reduceIte, Nat.reduceEqDiff]; omega)) (by first | omega | (simp only [bset, reduceIte, Nat.reduceEqDiff]; omega)) (by first | omega | (simp only [bset, reduceIte, Nat.reduceEqDiff]; omega))) ?_
    refine zr_if_gt (tgt := 806) dL_law_796 (by decide) (rfl : 796 + 3 = 799) (jI_gtz (by first | omega | (simp only [bset, reduceIte, Nat.reduceEqDiff]; omega)) (by first | omega | (simp only [bset, reduceIte, Nat.reduceEqDiff]; omega))) (fun h796 => ?_) (fun h796 => ?_)
    · exfalso
      omega
    refine zr_aload_n dL_law_799 (rfl : 799 + 1 = 800) rfl ?_
    refine zr_ot dL_law_800 (rfl : 800 + 3 = 803) l_L_180 hg9 rfl rfl (Nat.le_of_ble_eq_true rfl) (by first | omega | (simp only [bset, reduceIte, Nat.reduceEqDiff]; omega)) (by first | omega | (simp only [bset, reduceIte, Nat.reduceEqDiff]; omega)) ?_
    rintro _ g1 _ ⟨rfl, τ2, rfl⟩
    rw [show kc + 1 - 1 = kc by omega, show ks + 6 - 6 * 1 = ks by omega]
    show zRun _ _ _ _ _ _ [.int (jI 1)] _ _ _
    refine zr_if_eq (tgt := 810) dL_law_803 (by decide) (rfl : 803 + 3 = 806) (by first | exact jb_iff | exact jI_z (by first | omega | (simp only [bset, reduceIte, Nat.reduceEqDiff]; omega)) (by first | omega | (simp only [bset, reduceIte, Nat.reduceEqDiff]; omega))) (fun h803 => ?_) (fun h803 => ?_)
    · exfalso
      omega
    refine zr_iconst dL_law_806 (rfl : 806 + 1 = 807) ?_
    refine zr_goto (tgt := 811) dL_law_807 (by decide) ?_
    refine zr_istore_n (lv' := [_, _, _, _, _, _, _, _, _, _, _, _, _, _, _, _, _, _, _]) dL_law_811 (rfl : 811 + 1 = 812) (Nat.le_of_ble_eq_true rfl) rfl ?_
    refine zr_iinc (lv' := [_, _, _, _, _, _, _, _, _, _, _, _, _, _, _, _, _, _, _]) dL_law_812 (rfl : 812 + 3 = 815) (Nat.le_of_ble_eq_true rfl) rfl (by first | exact jI_add _ _ | rfl) rfl ?_
    refine zr_goto (tgt := 119) dL_law_815 (by decide) ?_
    exact k τ2 g1
  · refine zRun.less (kc' := kc) (ks' := ks) (by omega) (by omega) ?_
    refine zr_iload_n dL_law_788 (rfl : 788 + 1 = 789) rfl ?_
    refine zr_if_eq (tgt := 810) dL_law_789 (by decide) (rfl : 789 + 3 = 792) (by first | exact jb_iff | exact jI_z (by first | omega | (simp only [bset, reduceIte, Nat.reduceEqDiff]; omega)) (by first | omega | (simp only [bset, reduceIte, Nat.reduceEqDiff]; omega))) (fun h789 => ?_) (fun h789 => ?_)
    · exfalso
      omega
    refine zr_iload_n dL_law_792 (rfl : 792 + 1 = 793) rfl ?_
    refine zr_bipush dL_law_793 (rfl : 793 + 2 = 795) (by decide) ?_
    refine zr_irem dL_law_795 (rfl : 795 + 1 = 796) (fun q => absurd ((jI_z (by first | omega | (simp only [bset, reduceIte, Nat.reduceEqDiff]; omega)) (by first | omega | (simp only [bset, reduceIte, Nat.reduceEqDiff]; omega))).mp q) (by first | omega | (simp only [bset, reduceIte, Nat.reduceEqDiff]; omega))) (jI_rem (by first | omega | (simp only [bset, reduceIte, Nat.reduceEqDiff]; omega)) (by first | omega | (simp only [bset, reduceIte, Nat.reduceEqDiff]; omega)) (by first | omega | (simp only [bset, reduceIte, Nat.reduceEqDiff]; omega)) (by first | omega | (simp only [bset, reduceIte, Nat.reduceEqDiff]; omega))) ?_
    refine zr_if_gt (tgt := 806) dL_law_796 (by decide) (rfl : 796 + 3 = 799) (jI_gtz (by first | omega | (simp only [bset, reduceIte, Nat.reduceEqDiff]; omega)) (by first | omega | (simp only [bset, reduceIte, Nat.reduceEqDiff]; omega))) (fun h796 => ?_) (fun h796 => ?_)
    rotate_left
    · exfalso
      omega
    refine zr_iconst dL_law_806 (rfl : 806 + 1 = 807) ?_
    refine zr_goto (tgt := 811) dL_law_807 (by decide) ?_
    refine zr_istore_n (lv' := [_, _, _, _, _, _, _, _, _, _, _, _, _, _, _, _, _, _, _]) dL_law_811 (rfl : 811 + 1 = 812) (Nat.le_of_ble_eq_true rfl) rfl ?_
    refine zr_iinc (lv' := [_, _, _, _, _, _, _, _, _, _, _, _, _, _, _, _, _, _, _]) dL_law_812 (rfl : 812 + 3 = 815) (Nat.le_of_ble_eq_true rfl) rfl (by first | exact jI_add _ _ | rfl) rfl ?_
    refine zr_goto (tgt := 119) dL_law_815 (by decide) ?_
    exact k τ g9
end SP

