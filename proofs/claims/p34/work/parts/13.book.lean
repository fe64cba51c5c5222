/-! THE BOOK as cells, at the numbers b .. b+16; B k is its part k: 0 places, 1 rowOf, 2 size, 3 drum's numbers, 4 drum's size, 5 drawn, 6 said, 7 drawnAt, 8 saidTimes, 9 winners, 10 wonAt, 11 bought, 12 calls, 13 slips, 14 coinsOf, 15 turnedDownOf, 16 pot, 17 cameIn, 18 paid, 19 house, 20 claimsWon, 21 claimsTurnedDown, 22 evenings, 23 settings, 24 lot (numbers: at 0) -/
abbrev zB : Type := Nat → Int → Int
def bset (B : zB) (k : Nat) (p : Int → Int) : zB := fun i => if i = k then p else B i
theorem bset_self {B : zB} {k : Nat} {p : Int → Int} : bset B k p k = p := by unfold bset; rw [if_pos rfl]
theorem bset_ne {B : zB} {k i : Nat} {p : Int → Int} (h : i ≠ k) : bset B k p i = B i := by unfold bset; rw [if_neg h]
theorem zup_self {w : zW} {k : Nat} {e : va_E} : zup w k e k = some e := by unfold zup; rw [if_pos rfl]
theorem zup_ne {w : zW} {k j : Nat} {e : va_E} (h : j ≠ k) : zup w k e j = w j := by unfold zup; rw [if_neg h]
def bkc (B : zB) (b : Nat) (k : Nat) : va_E := match k with
  | 0 => .inr (0, [.ref (b + 1), .ref (b + 4), .ref (b + 13), .ref (b + 16), .int (jI (B 24 0))])
  | 1 => .inr (1, [.ref (b + 2), .ref (b + 3), .int (jI (B 2 0))])
  | 2 => zia 162 (B 0)
  | 3 => zia 91 (B 1)
  | 4 => .inr (3, [.ref (b + 5), .ref (b + 7), .ref (b + 8), .ref (b + 9), .ref (b + 10), .ref (b + 11), .ref (b + 12), .int (jI (B 11 0)), .int (jI (B 12 0)), .int (jI (B 13 0))])
  | 5 => .inr (2, [.ref (b + 6), .int (jI (B 4 0))])
  | 6 => zia 90 (B 3)
  | 7 => zia 90 (B 5)
  | 8 => zia 90 (B 6)
  | 9 => zia 91 (B 7)
  | 10 => zia 91 (B 8)
  | 11 => zia 4 (B 9)
  | 12 => zia 4 (B 10)
  | 13 => .inr (4, [.ref (b + 14), .ref (b + 15), .int (jI (B 16 0)), .int (jI (B 17 0)), .int (jI (B 18 0)), .int (jI (B 19 0)), .int (jI (B 20 0)), .int (jI (B 21 0)), .int (jI (B 22 0))])
  | 14 => zia 6 (B 14)
  | 15 => zia 6 (B 15)
  | _ => zia 3 (B 23)
def bk (b : Nat) (B : zB) (w : zW) : zW := fun j => if b ≤ j ∧ j < b + 17 then some (bkc B b (j - b)) else w j
section BK
variable {b : Nat} {B : zB} {w : zW}
theorem bk_0 : bk b B w (b) = some (.inr (0, [.ref (b + 1), .ref (b + 4), .ref (b + 13), .ref (b + 16), .int (jI (B 24 0))])) := by
  unfold bk
  rw [if_pos (by omega), show b - b = 0 by omega]
  rfl
theorem bk_1 : bk b B w (b + 1) = some (.inr (1, [.ref (b + 2), .ref (b + 3), .int (jI (B 2 0))])) := by
  unfold bk
  rw [if_pos (by omega), show b + 1 - b = 1 by omega]
  rfl
theorem bk_2 : bk b B w (b + 2) = some (zia 162 (B 0)) := by
  unfold bk
  rw [if_pos (by omega), show b + 2 - b = 2 by omega]
  rfl
theorem bk_3 : bk b B w (b + 3) = some (zia 91 (B 1)) := by
  unfold bk
  rw [if_pos (by omega), show b + 3 - b = 3 by omega]
  rfl
theorem bk_4 : bk b B w (b + 4) = some (.inr (3, [.ref (b + 5), .ref (b + 7), .ref (b + 8), .ref (b + 9), .ref (b + 10), .ref (b + 11), .ref (b + 12), .int (jI (B 11 0)), .int (jI (B 12 0)), .int (jI (B 13 0))])) := by
  unfold bk
  rw [if_pos (by omega), show b + 4 - b = 4 by omega]
  rfl
theorem bk_5 : bk b B w (b + 5) = some (.inr (2, [.ref (b + 6), .int (jI (B 4 0))])) := by
  unfold bk
  rw [if_pos (by omega), show b + 5 - b = 5 by omega]
  rfl
theorem bk_6 : bk b B w (b + 6) = some (zia 90 (B 3)) := by
  unfold bk
  rw [if_pos (by omega), show b + 6 - b = 6 by omega]
  rfl
theorem bk_7 : bk b B w (b + 7) = some (zia 90 (B 5)) := by
  unfold bk
  rw [if_pos (by omega), show b + 7 - b = 7 by omega]
  rfl
theorem bk_8 : bk b B w (b + 8) = some (zia 90 (B 6)) := by
  unfold bk
  rw [if_pos (by omega), show b + 8 - b = 8 by omega]
  rfl
theorem bk_9 : bk b B w (b + 9) = some (zia 91 (B 7)) := by
  unfold bk
  rw [if_pos (by omega), show b + 9 - b = 9 by omega]
  rfl
theorem bk_10 : bk b B w (b + 10) = some (zia 91 (B 8)) := by
  unfold bk
  rw [if_pos (by omega), show b + 10 - b = 10 by omega]
  rfl
theorem bk_11 : bk b B w (b + 11) = some (zia 4 (B 9)) := by
  unfold bk
  rw [if_pos (by omega), show b + 11 - b = 11 by omega]
  rfl
theorem bk_12 : bk b B w (b + 12) = some (zia 4 (B 10)) := by
  unfold bk
  rw [if_pos (by omega), show b + 12 - b = 12 by omega]
  rfl
theorem bk_13 : bk b B w (b + 13) = some (.inr (4, [.ref (b + 14), .ref (b + 15), .int (jI (B 16 0)), .int (jI (B 17 0)), .int (jI (B 18 0)), .int (jI (B 19 0)), .int (jI (B 20 0)), .int (jI (B 21 0)), .int (jI (B 22 0))])) := by
  unfold bk
  rw [if_pos (by omega), show b + 13 - b = 13 by omega]
  rfl
theorem bk_14 : bk b B w (b + 14) = some (zia 6 (B 14)) := by
  unfold bk
  rw [if_pos (by omega), show b + 14 - b = 14 by omega]
  rfl
theorem bk_15 : bk b B w (b + 15) = some (zia 6 (B 15)) := by
  unfold bk
  rw [if_pos (by omega), show b + 15 - b = 15 by omega]
  rfl
theorem bk_16 : bk b B w (b + 16) = some (zia 3 (B 23)) := by
  unfold bk
  rw [if_pos (by omega), show b + 16 - b = 16 by omega]
  rfl
theorem bk_out {j : Nat} (h : j < b ∨ b + 17 ≤ j) : bk b B w j = w j := by
  unfold bk
  rw [if_neg (by omega)]
theorem bk_upd {k : Nat} {B2 : zB} {e : va_E} (hk : k < 17) (he : bkc B2 b k = e) (ho : ∀ i, i < 17 → i ≠ k → bkc B2 b i = bkc B b i) : zup (bk b B w) (b + k) e = bk b B2 w := by
  funext j
  unfold zup bk
  by_cases hj : j = b + k
  · subst hj
    rw [if_pos rfl, if_pos (by omega), show b + k - b = k by omega, he]
  · rw [if_neg hj]
    by_cases hr : b ≤ j ∧ j < b + 17
    · rw [if_pos hr, if_pos hr, ho (j - b) (by omega) (by omega)]
    · rw [if_neg hr, if_neg hr]
theorem bku_0 {p : Int → Int} : zup (bk b B w) (b + 2) (zia 162 p) = bk b (bset B 0 p) w :=
  bk_upd (k := 2) (by decide) rfl (by intro i hi hne; match i, hi, hne with
    | 0, _, _ => rfl
    | 1, _, _ => rfl
    | 2, _, h => exact absurd rfl h
    | 3, _, _ => rfl
    | 4, _, _ => rfl
    | 5, _, _ => rfl
    | 6, _, _ => rfl
    | 7, _, _ => rfl
    | 8, _, _ => rfl
    | 9, _, _ => rfl
    | 10, _, _ => rfl
    | 11, _, _ => rfl
    | 12, _, _ => rfl
    | 13, _, _ => rfl
    | 14, _, _ => rfl
    | 15, _, _ => rfl
    | 16, _, _ => rfl
    | i + 17, h, _ => exact absurd h (by omega))
theorem bku_1 {p : Int → Int} : zup (bk b B w) (b + 3) (zia 91 p) = bk b (bset B 1 p) w :=
  bk_upd (k := 3) (by decide) rfl (by intro i hi hne; match i, hi, hne with
    | 0, _, _ => rfl
    | 1, _, _ => rfl
    | 2, _, _ => rfl
    | 3, _, h => exact absurd rfl h
    | 4, _, _ => rfl
    | 5, _, _ => rfl
    | 6, _, _ => rfl
    | 7, _, _ => rfl
    | 8, _, _ => rfl
    | 9, _, _ => rfl
    | 10, _, _ => rfl
    | 11, _, _ => rfl
    | 12, _, _ => rfl
    | 13, _, _ => rfl
    | 14, _, _ => rfl
    | 15, _, _ => rfl
    | 16, _, _ => rfl
    | i + 17, h, _ => exact absurd h (by omega))
theorem bku_3 {p : Int → Int} : zup (bk b B w) (b + 6) (zia 90 p) = bk b (bset B 3 p) w :=
  bk_upd (k := 6) (by decide) rfl (by intro i hi hne; match i, hi, hne with
    | 0, _, _ => rfl
    | 1, _, _ => rfl
    | 2, _, _ => rfl
    | 3, _, _ => rfl
    | 4, _, _ => rfl
    | 5, _, _ => rfl
    | 6, _, h => exact absurd rfl h
    | 7, _, _ => rfl
    | 8, _, _ => rfl
    | 9, _, _ => rfl
    | 10, _, _ => rfl
    | 11, _, _ => rfl
    | 12, _, _ => rfl
    | 13, _, _ => rfl
    | 14, _, _ => rfl
    | 15, _, _ => rfl
    | 16, _, _ => rfl
    | i + 17, h, _ => exact absurd h (by omega))
theorem bku_5 {p : Int → Int} : zup (bk b B w) (b + 7) (zia 90 p) = bk b (bset B 5 p) w :=
  bk_upd (k := 7) (by decide) rfl (by intro i hi hne; match i, hi, hne with
    | 0, _, _ => rfl
    | 1, _, _ => rfl
    | 2, _, _ => rfl
    | 3, _, _ => rfl
    | 4, _, _ => rfl
    | 5, _, _ => rfl
    | 6, _, _ => rfl
    | 7, _, h => exact absurd rfl h
    | 8, _, _ => rfl
    | 9, _, _ => rfl
    | 10, _, _ => rfl
    | 11, _, _ => rfl
    | 12, _, _ => rfl
    | 13, _, _ => rfl
    | 14, _, _ => rfl
    | 15, _, _ => rfl
    | 16, _, _ => rfl
    | i + 17, h, _ => exact absurd h (by omega))
theorem bku_6 {p : Int → Int} : zup (bk b B w) (b + 8) (zia 90 p) = bk b (bset B 6 p) w :=
  bk_upd (k := 8) (by decide) rfl (by intro i hi hne; match i, hi, hne with
    | 0, _, _ => rfl
    | 1, _, _ => rfl
    | 2, _, _ => rfl
    | 3, _, _ => rfl
    | 4, _, _ => rfl
    | 5, _, _ => rfl
    | 6, _, _ => rfl
    | 7, _, _ => rfl
    | 8, _, h => exact absurd rfl h
    | 9, _, _ => rfl
    | 10, _, _ => rfl
    | 11, _, _ => rfl
    | 12, _, _ => rfl
    | 13, _, _ => rfl
    | 14, _, _ => rfl
    | 15, _, _ => rfl
    | 16, _, _ => rfl
    | i + 17, h, _ => exact absurd h (by omega))
theorem bku_7 {p : Int → Int} : zup (bk b B w) (b + 9) (zia 91 p) = bk b (bset B 7 p) w :=
  bk_upd (k := 9) (by decide) rfl (by intro i hi hne; match i, hi, hne with
    | 0, _, _ => rfl
    | 1, _, _ => rfl
    | 2, _, _ => rfl
    | 3, _, _ => rfl
    | 4, _, _ => rfl
    | 5, _, _ => rfl
    | 6, _, _ => rfl
    | 7, _, _ => rfl
    | 8, _, _ => rfl
    | 9, _, h => exact absurd rfl h
    | 10, _, _ => rfl
    | 11, _, _ => rfl
    | 12, _, _ => rfl
    | 13, _, _ => rfl
    | 14, _, _ => rfl
    | 15, _, _ => rfl
    | 16, _, _ => rfl
    | i + 17, h, _ => exact absurd h (by omega))
theorem bku_8 {p : Int → Int} : zup (bk b B w) (b + 10) (zia 91 p) = bk b (bset B 8 p) w :=
  bk_upd (k := 10) (by decide) rfl (by intro i hi hne; match i, hi, hne with
    | 0, _, _ => rfl
    | 1, _, _ => rfl
    | 2, _, _ => rfl
    | 3, _, _ => rfl
    | 4, _, _ => rfl
    | 5, _, _ => rfl
    | 6, _, _ => rfl
    | 7, _, _ => rfl
    | 8, _, _ => rfl
    | 9, _, _ => rfl
    | 10, _, h => exact absurd rfl h
    | 11, _, _ => rfl
    | 12, _, _ => rfl
    | 13, _, _ => rfl
    | 14, _, _ => rfl
    | 15, _, _ => rfl
    | 16, _, _ => rfl
    | i + 17, h, _ => exact absurd h (by omega))
theorem bku_9 {p : Int → Int} : zup (bk b B w) (b + 11) (zia 4 p) = bk b (bset B 9 p) w :=
  bk_upd (k := 11) (by decide) rfl (by intro i hi hne; match i, hi, hne with
    | 0, _, _ => rfl
    | 1, _, _ => rfl
    | 2, _, _ => rfl
    | 3, _, _ => rfl
    | 4, _, _ => rfl
    | 5, _, _ => rfl
    | 6, _, _ => rfl
    | 7, _, _ => rfl
    | 8, _, _ => rfl
    | 9, _, _ => rfl
    | 10, _, _ => rfl
    | 11, _, h => exact absurd rfl h
    | 12, _, _ => rfl
    | 13, _, _ => rfl
    | 14, _, _ => rfl
    | 15, _, _ => rfl
    | 16, _, _ => rfl
    | i + 17, h, _ => exact absurd h (by omega))
theorem bku_10 {p : Int → Int} : zup (bk b B w) (b + 12) (zia 4 p) = bk b (bset B 10 p) w :=
  bk_upd (k := 12) (by decide) rfl (by intro i hi hne; match i, hi, hne with
    | 0, _, _ => rfl
    | 1, _, _ => rfl
    | 2, _, _ => rfl
    | 3, _, _ => rfl
    | 4, _, _ => rfl
    | 5, _, _ => rfl
    | 6, _, _ => rfl
    | 7, _, _ => rfl
    | 8, _, _ => rfl
    | 9, _, _ => rfl
    | 10, _, _ => rfl
    | 11, _, _ => rfl
    | 12, _, h => exact absurd rfl h
    | 13, _, _ => rfl
    | 14, _, _ => rfl
    | 15, _, _ => rfl
    | 16, _, _ => rfl
    | i + 17, h, _ => exact absurd h (by omega))
theorem bku_14 {p : Int → Int} : zup (bk b B w) (b + 14) (zia 6 p) = bk b (bset B 14 p) w :=
  bk_upd (k := 14) (by decide) rfl (by intro i hi hne; match i, hi, hne with
    | 0, _, _ => rfl
    | 1, _, _ => rfl
    | 2, _, _ => rfl
    | 3, _, _ => rfl
    | 4, _, _ => rfl
    | 5, _, _ => rfl
    | 6, _, _ => rfl
    | 7, _, _ => rfl
    | 8, _, _ => rfl
    | 9, _, _ => rfl
    | 10, _, _ => rfl
    | 11, _, _ => rfl
    | 12, _, _ => rfl
    | 13, _, _ => rfl
    | 14, _, h => exact absurd rfl h
    | 15, _, _ => rfl
    | 16, _, _ => rfl
    | i + 17, h, _ => exact absurd h (by omega))
theorem bku_15 {p : Int → Int} : zup (bk b B w) (b + 15) (zia 6 p) = bk b (bset B 15 p) w :=
  bk_upd (k := 15) (by decide) rfl (by intro i hi hne; match i, hi, hne with
    | 0, _, _ => rfl
    | 1, _, _ => rfl
    | 2, _, _ => rfl
    | 3, _, _ => rfl
    | 4, _, _ => rfl
    | 5, _, _ => rfl
    | 6, _, _ => rfl
    | 7, _, _ => rfl
    | 8, _, _ => rfl
    | 9, _, _ => rfl
    | 10, _, _ => rfl
    | 11, _, _ => rfl
    | 12, _, _ => rfl
    | 13, _, _ => rfl
    | 14, _, _ => rfl
    | 15, _, h => exact absurd rfl h
    | 16, _, _ => rfl
    | i + 17, h, _ => exact absurd h (by omega))
theorem bku_23 {p : Int → Int} : zup (bk b B w) (b + 16) (zia 3 p) = bk b (bset B 23 p) w :=
  bk_upd (k := 16) (by decide) rfl (by intro i hi hne; match i, hi, hne with
    | 0, _, _ => rfl
    | 1, _, _ => rfl
    | 2, _, _ => rfl
    | 3, _, _ => rfl
    | 4, _, _ => rfl
    | 5, _, _ => rfl
    | 6, _, _ => rfl
    | 7, _, _ => rfl
    | 8, _, _ => rfl
    | 9, _, _ => rfl
    | 10, _, _ => rfl
    | 11, _, _ => rfl
    | 12, _, _ => rfl
    | 13, _, _ => rfl
    | 14, _, _ => rfl
    | 15, _, _ => rfl
    | 16, _, h => exact absurd rfl h
    | i + 17, h, _ => exact absurd h (by omega))
theorem bku_24 {v : Int} : zup (bk b B w) b (.inr (0, [.ref (b + 1), .ref (b + 4), .ref (b + 13), .ref (b + 16), .int (jI (v))])) = bk b (bset B 24 (fun _ => v)) w :=
  bk_upd (k := 0) (by decide) rfl (by intro i hi hne; match i, hi, hne with
    | 0, _, h => exact absurd rfl h
    | 1, _, _ => rfl
    | 2, _, _ => rfl
    | 3, _, _ => rfl
    | 4, _, _ => rfl
    | 5, _, _ => rfl
    | 6, _, _ => rfl
    | 7, _, _ => rfl
    | 8, _, _ => rfl
    | 9, _, _ => rfl
    | 10, _, _ => rfl
    | 11, _, _ => rfl
    | 12, _, _ => rfl
    | 13, _, _ => rfl
    | 14, _, _ => rfl
    | 15, _, _ => rfl
    | 16, _, _ => rfl
    | i + 17, h, _ => exact absurd h (by omega))
theorem bku_2 {v : Int} : zup (bk b B w) (b + 1) (.inr (1, [.ref (b + 2), .ref (b + 3), .int (jI (v))])) = bk b (bset B 2 (fun _ => v)) w :=
  bk_upd (k := 1) (by decide) rfl (by intro i hi hne; match i, hi, hne with
    | 0, _, _ => rfl
    | 1, _, h => exact absurd rfl h
    | 2, _, _ => rfl
    | 3, _, _ => rfl
    | 4, _, _ => rfl
    | 5, _, _ => rfl
    | 6, _, _ => rfl
    | 7, _, _ => rfl
    | 8, _, _ => rfl
    | 9, _, _ => rfl
    | 10, _, _ => rfl
    | 11, _, _ => rfl
    | 12, _, _ => rfl
    | 13, _, _ => rfl
    | 14, _, _ => rfl
    | 15, _, _ => rfl
    | 16, _, _ => rfl
    | i + 17, h, _ => exact absurd h (by omega))
theorem bku_11 {v : Int} : zup (bk b B w) (b + 4) (.inr (3, [.ref (b + 5), .ref (b + 7), .ref (b + 8), .ref (b + 9), .ref (b + 10), .ref (b + 11), .ref (b + 12), .int (jI (v)), .int (jI (B 12 0)), .int (jI (B 13 0))])) = bk b (bset B 11 (fun _ => v)) w :=
  bk_upd (k := 4) (by decide) rfl (by intro i hi hne; match i, hi, hne with
    | 0, _, _ => rfl
    | 1, _, _ => rfl
    | 2, _, _ => rfl
    | 3, _, _ => rfl
    | 4, _, h => exact absurd rfl h
    | 5, _, _ => rfl
    | 6, _, _ => rfl
    | 7, _, _ => rfl
    | 8, _, _ => rfl
    | 9, _, _ => rfl
    | 10, _, _ => rfl
    | 11, _, _ => rfl
    | 12, _, _ => rfl
    | 13, _, _ => rfl
    | 14, _, _ => rfl
    | 15, _, _ => rfl
    | 16, _, _ => rfl
    | i + 17, h, _ => exact absurd h (by omega))
theorem bku_12 {v : Int} : zup (bk b B w) (b + 4) (.inr (3, [.ref (b + 5), .ref (b + 7), .ref (b + 8), .ref (b + 9), .ref (b + 10), .ref (b + 11), .ref (b + 12), .int (jI (B 11 0)), .int (jI (v)), .int (jI (B 13 0))])) = bk b (bset B 12 (fun _ => v)) w :=
  bk_upd (k := 4) (by decide) rfl (by intro i hi hne; match i, hi, hne with
    | 0, _, _ => rfl
    | 1, _, _ => rfl
    | 2, _, _ => rfl
    | 3, _, _ => rfl
    | 4, _, h => exact absurd rfl h
    | 5, _, _ => rfl
    | 6, _, _ => rfl
    | 7, _, _ => rfl
    | 8, _, _ => rfl
    | 9, _, _ => rfl
    | 10, _, _ => rfl
    | 11, _, _ => rfl
    | 12, _, _ => rfl
    | 13, _, _ => rfl
    | 14, _, _ => rfl
    | 15, _, _ => rfl
    | 16, _, _ => rfl
    | i + 17, h, _ => exact absurd h (by omega))
theorem bku_13 {v : Int} : zup (bk b B w) (b + 4) (.inr (3, [.ref (b + 5), .ref (b + 7), .ref (b + 8), .ref (b + 9), .ref (b + 10), .ref (b + 11), .ref (b + 12), .int (jI (B 11 0)), .int (jI (B 12 0)), .int (jI (v))])) = bk b (bset B 13 (fun _ => v)) w :=
  bk_upd (k := 4) (by decide) rfl (by intro i hi hne; match i, hi, hne with
    | 0, _, _ => rfl
    | 1, _, _ => rfl
    | 2, _, _ => rfl
    | 3, _, _ => rfl
    | 4, _, h => exact absurd rfl h
    | 5, _, _ => rfl
    | 6, _, _ => rfl
    | 7, _, _ => rfl
    | 8, _, _ => rfl
    | 9, _, _ => rfl
    | 10, _, _ => rfl
    | 11, _, _ => rfl
    | 12, _, _ => rfl
    | 13, _, _ => rfl
    | 14, _, _ => rfl
    | 15, _, _ => rfl
    | 16, _, _ => rfl
    | i + 17, h, _ => exact absurd h (by omega))
theorem bku_4 {v : Int} : zup (bk b B w) (b + 5) (.inr (2, [.ref (b + 6), .int (jI (v))])) = bk b (bset B 4 (fun _ => v)) w :=
  bk_upd (k := 5) (by decide) rfl (by intro i hi hne; match i, hi, hne with
    | 0, _, _ => rfl
    | 1, _, _ => rfl
    | 2, _, _ => rfl
    | 3, _, _ => rfl
    | 4, _, _ => rfl
    | 5, _, h => exact absurd rfl h
    | 6, _, _ => rfl
    | 7, _, _ => rfl
    | 8, _, _ => rfl
    | 9, _, _ => rfl
    | 10, _, _ => rfl
    | 11, _, _ => rfl
    | 12, _, _ => rfl
    | 13, _, _ => rfl
    | 14, _, _ => rfl
    | 15, _, _ => rfl
    | 16, _, _ => rfl
    | i + 17, h, _ => exact absurd h (by omega))
theorem bku_16 {v : Int} : zup (bk b B w) (b + 13) (.inr (4, [.ref (b + 14), .ref (b + 15), .int (jI (v)), .int (jI (B 17 0)), .int (jI (B 18 0)), .int (jI (B 19 0)), .int (jI (B 20 0)), .int (jI (B 21 0)), .int (jI (B 22 0))])) = bk b (bset B 16 (fun _ => v)) w :=
  bk_upd (k := 13) (by decide) rfl (by intro i hi hne; match i, hi, hne with
    | 0, _, _ => rfl
    | 1, _, _ => rfl
    | 2, _, _ => rfl
    | 3, _, _ => rfl
    | 4, _, _ => rfl
    | 5, _, _ => rfl
    | 6, _, _ => rfl
    | 7, _, _ => rfl
    | 8, _, _ => rfl
    | 9, _, _ => rfl
    | 10, _, _ => rfl
    | 11, _, _ => rfl
    | 12, _, _ => rfl
    | 13, _, h => exact absurd rfl h
    | 14, _, _ => rfl
    | 15, _, _ => rfl
    | 16, _, _ => rfl
    | i + 17, h, _ => exact absurd h (by omega))
theorem bku_17 {v : Int} : zup (bk b B w) (b + 13) (.inr (4, [.ref (b + 14), .ref (b + 15), .int (jI (B 16 0)), .int (jI (v)), .int (jI (B 18 0)), .int (jI (B 19 0)), .int (jI (B 20 0)), .int (jI (B 21 0)), .int (jI (B 22 0))])) = bk b (bset B 17 (fun _ => v)) w :=
  bk_upd (k := 13) (by decide) rfl (by intro i hi hne; match i, hi, hne with
    | 0, _, _ => rfl
    | 1, _, _ => rfl
    | 2, _, _ => rfl
    | 3, _, _ => rfl
    | 4, _, _ => rfl
    | 5, _, _ => rfl
    | 6, _, _ => rfl
    | 7, _, _ => rfl
    | 8, _, _ => rfl
    | 9, _, _ => rfl
    | 10, _, _ => rfl
    | 11, _, _ => rfl
    | 12, _, _ => rfl
    | 13, _, h => exact absurd rfl h
    | 14, _, _ => rfl
    | 15, _, _ => rfl
    | 16, _, _ => rfl
    | i + 17, h, _ => exact absurd h (by omega))
theorem bku_18 {v : Int} : zup (bk b B w) (b + 13) (.inr (4, [.ref (b + 14), .ref (b + 15), .int (jI (B 16 0)), .int (jI (B 17 0)), .int (jI (v)), .int (jI (B 19 0)), .int (jI (B 20 0)), .int (jI (B 21 0)), .int (jI (B 22 0))])) = bk b (bset B 18 (fun _ => v)) w :=
  bk_upd (k := 13) (by decide) rfl (by intro i hi hne; match i, hi, hne with
    | 0, _, _ => rfl
    | 1, _, _ => rfl
    | 2, _, _ => rfl
    | 3, _, _ => rfl
    | 4, _, _ => rfl
    | 5, _, _ => rfl
    | 6, _, _ => rfl
    | 7, _, _ => rfl
    | 8, _, _ => rfl
    | 9, _, _ => rfl
    | 10, _, _ => rfl
    | 11, _, _ => rfl
    | 12, _, _ => rfl
    | 13, _, h => exact absurd rfl h
    | 14, _, _ => rfl
    | 15, _, _ => rfl
    | 16, _, _ => rfl
    | i + 17, h, _ => exact absurd h (by omega))
theorem bku_19 {v : Int} : zup (bk b B w) (b + 13) (.inr (4, [.ref (b + 14), .ref (b + 15), .int (jI (B 16 0)), .int (jI (B 17 0)), .int (jI (B 18 0)), .int (jI (v)), .int (jI (B 20 0)), .int (jI (B 21 0)), .int (jI (B 22 0))])) = bk b (bset B 19 (fun _ => v)) w :=
  bk_upd (k := 13) (by decide) rfl (by intro i hi hne; match i, hi, hne with
    | 0, _, _ => rfl
    | 1, _, _ => rfl
    | 2, _, _ => rfl
    | 3, _, _ => rfl
    | 4, _, _ => rfl
    | 5, _, _ => rfl
    | 6, _, _ => rfl
    | 7, _, _ => rfl
    | 8, _, _ => rfl
    | 9, _, _ => rfl
    | 10, _, _ => rfl
    | 11, _, _ => rfl
    | 12, _, _ => rfl
    | 13, _, h => exact absurd rfl h
    | 14, _, _ => rfl
    | 15, _, _ => rfl
    | 16, _, _ => rfl
    | i + 17, h, _ => exact absurd h (by omega))
theorem bku_20 {v : Int} : zup (bk b B w) (b + 13) (.inr (4, [.ref (b + 14), .ref (b + 15), .int (jI (B 16 0)), .int (jI (B 17 0)), .int (jI (B 18 0)), .int (jI (B 19 0)), .int (jI (v)), .int (jI (B 21 0)), .int (jI (B 22 0))])) = bk b (bset B 20 (fun _ => v)) w :=
  bk_upd (k := 13) (by decide) rfl (by intro i hi hne; match i, hi, hne with
    | 0, _, _ => rfl
    | 1, _, _ => rfl
    | 2, _, _ => rfl
    | 3, _, _ => rfl
    | 4, _, _ => rfl
    | 5, _, _ => rfl
    | 6, _, _ => rfl
    | 7, _, _ => rfl
    | 8, _, _ => rfl
    | 9, _, _ => rfl
    | 10, _, _ => rfl
    | 11, _, _ => rfl
    | 12, _, _ => rfl
    | 13, _, h => exact absurd rfl h
    | 14, _, _ => rfl
    | 15, _, _ => rfl
    | 16, _, _ => rfl
    | i + 17, h, _ => exact absurd h (by omega))
theorem bku_21 {v : Int} : zup (bk b B w) (b + 13) (.inr (4, [.ref (b + 14), .ref (b + 15), .int (jI (B 16 0)), .int (jI (B 17 0)), .int (jI (B 18 0)), .int (jI (B 19 0)), .int (jI (B 20 0)), .int (jI (v)), .int (jI (B 22 0))])) = bk b (bset B 21 (fun _ => v)) w :=
  bk_upd (k := 13) (by decide) rfl (by intro i hi hne; match i, hi, hne with
    | 0, _, _ => rfl
    | 1, _, _ => rfl
    | 2, _, _ => rfl
    | 3, _, _ => rfl
    | 4, _, _ => rfl
    | 5, _, _ => rfl
    | 6, _, _ => rfl
    | 7, _, _ => rfl
    | 8, _, _ => rfl
    | 9, _, _ => rfl
    | 10, _, _ => rfl
    | 11, _, _ => rfl
    | 12, _, _ => rfl
    | 13, _, h => exact absurd rfl h
    | 14, _, _ => rfl
    | 15, _, _ => rfl
    | 16, _, _ => rfl
    | i + 17, h, _ => exact absurd h (by omega))
theorem bku_22 {v : Int} : zup (bk b B w) (b + 13) (.inr (4, [.ref (b + 14), .ref (b + 15), .int (jI (B 16 0)), .int (jI (B 17 0)), .int (jI (B 18 0)), .int (jI (B 19 0)), .int (jI (B 20 0)), .int (jI (B 21 0)), .int (jI (v))])) = bk b (bset B 22 (fun _ => v)) w :=
  bk_upd (k := 13) (by decide) rfl (by intro i hi hne; match i, hi, hne with
    | 0, _, _ => rfl
    | 1, _, _ => rfl
    | 2, _, _ => rfl
    | 3, _, _ => rfl
    | 4, _, _ => rfl
    | 5, _, _ => rfl
    | 6, _, _ => rfl
    | 7, _, _ => rfl
    | 8, _, _ => rfl
    | 9, _, _ => rfl
    | 10, _, _ => rfl
    | 11, _, _ => rfl
    | 12, _, _ => rfl
    | 13, _, h => exact absurd rfl h
    | 14, _, _ => rfl
    | 15, _, _ => rfl
    | 16, _, _ => rfl
    | i + 17, h, _ => exact absurd h (by omega))
end BK
/-! counting -/
/-- how many of 0 .. n-1 are such -/
def jcnt : Nat → (Int → Bool) → Int
  | 0, _ => 0
  | n + 1, q => jcnt n q + (if q (n : Int) = true then 1 else 0)
theorem jcnt_nn (n : Nat) (q : Int → Bool) : 0 ≤ jcnt n q ∧ jcnt n q ≤ n := by
  induction n with
  | zero => exact ⟨Int.le_refl 0, Int.le_refl 0⟩
  | succ n ih =>
    show 0 ≤ jcnt n q + _ ∧ jcnt n q + _ ≤ _
    split <;> omega
theorem jcnt_congr {n : Nat} {q r : Int → Bool} (h : ∀ z : Int, 0 ≤ z → z < n → q z = r z) : jcnt n q = jcnt n r := by
  induction n with
  | zero => rfl
  | succ n ih =>
    show jcnt n q + _ = jcnt n r + _
    rw [ih (fun z h1 h2 => h z h1 (by omega)), h n (by omega) (by omega)]
/-- a loop of n turns: from turn i's state to turn i + 1's; told by the number of the turn -/
theorem zloop {Γ : zΓ} {M : zMd} {d : Nat} {Q : zQ} {μ : zMu} {pc : Nat} (N : Nat) (lv : Int → List (Option Value)) (w : Int → zW) (hstep : ∀ i : Int, 0 ≤ i → i < N → zRun Γ M d none pc (lv (i + 1)) [] μ (w (i + 1)) Q → zRun Γ M d none pc (lv i) [] μ (w i) Q) (hend : zRun Γ M d none pc (lv N) [] μ (w N) Q) : zRun Γ M d none pc (lv 0) [] μ (w 0) Q := by
  have key : ∀ k : Nat, k ≤ N → zRun Γ M d none pc (lv ((N : Int) - (k : Int))) [] μ (w ((N : Int) - (k : Int))) Q := by
    intro k
    induction k with
    | zero => intro _; simpa using hend
    | succ k ih =>
      intro hk
      refine hstep _ (by omega) (by omega) ?_
      have e : ((N : Int) - ((k + 1 : Nat) : Int) + 1) = (N : Int) - (k : Int) := by omega
      rw [e]
      exact ih (by omega)
  have := key N (Nat.le_refl _)
  simpa using this
/-- 1 for yes, 0 for no -/
def jb (P : Prop) [Decidable P] : Int := if P then 1 else 0
theorem jb_pos {P : Prop} [Decidable P] (h : P) : jb P = 1 := by unfold jb; rw [if_pos h]
theorem jb_neg {P : Prop} [Decidable P] (h : ¬ P) : jb P = 0 := by unfold jb; rw [if_neg h]
theorem jb_iff {P : Prop} [Decidable P] : (jI (jb P) = 0) ↔ ¬ P := by
  by_cases h : P
  · rw [jb_pos h]
    exact ⟨fun q => absurd ((jI_z (by decide) (by decide)).mp q) (by decide), fun q => absurd h q⟩
  · rw [jb_neg h]
    exact ⟨fun _ => h, fun _ => rfl⟩
theorem jb_r {P : Prop} [Decidable P] : 0 ≤ jb P ∧ jb P ≤ 1 := by unfold jb; split <;> decide
theorem jb_congr {P P' : Prop} [Decidable P] [Decidable P'] (h : P ↔ P') : jb P = jb P' := by
  by_cases q : P
  · rw [jb_pos q, jb_pos (h.mp q)]
  · rw [jb_neg q, jb_neg (fun z => q (h.mpr z))]
theorem jb_nar {P : Prop} [Decidable P] : narrow .boolean (.int (jI (jb P))) = .int (jI (jb P)) := by
  unfold jb
  split <;> rfl
theorem jcnt_succ (n : Nat) (q : Int → Bool) : jcnt (n + 1) q = jcnt n q + jb (q (n : Int) = true) := rfl
theorem jcnt_next {q : Int → Bool} {i : Int} (h : 0 ≤ i) : jcnt (i + 1).toNat q = jcnt i.toNat q + jb (q i = true) := by
  rw [show (i + 1).toNat = i.toNat + 1 by omega, jcnt_succ, show (i.toNat : Int) = i by omega]
section LP
variable {Γ : zΓ} {M : zMd} {d : Nat} {Q : zQ} {μ : zMu} {pc : Nat} {α β γ : Type}
theorem zloop1 (N : Nat) (I : Int → α → Prop) (lv : Int → α → List (Option Value)) (w : Int → α → zW) (a0 : α) (h0 : I 0 a0) (hstep : ∀ (i : Int) (a : α), 0 ≤ i → i < N → I i a → (∀ a', I (i + 1) a' → zRun Γ M d none pc (lv (i + 1) a') [] μ (w (i + 1) a') Q) → zRun Γ M d none pc (lv i a) [] μ (w i a) Q) (hend : ∀ a, I N a → zRun Γ M d none pc (lv N a) [] μ (w N a) Q) : zRun Γ M d none pc (lv 0 a0) [] μ (w 0 a0) Q := by
  have key : ∀ k : Nat, k ≤ N → ∀ a, I ((N : Int) - (k : Int)) a → zRun Γ M d none pc (lv ((N : Int) - (k : Int)) a) [] μ (w ((N : Int) - (k : Int)) a) Q := by
    intro k
    induction k with
    | zero => intro _ a ha; rw [show ((N : Int) - ((0 : Nat) : Int)) = N by omega] at ha ⊢; exact hend a ha
    | succ k ih =>
      intro hk a ha
      refine hstep _ a (by omega) (by omega) ha (fun a' ha' => ?_)
      have e : ((N : Int) - ((k + 1 : Nat) : Int) + 1) = (N : Int) - (k : Int) := by omega
      rw [e] at ha' ⊢
      exact ih (by omega) a' ha'
  have := key N (Nat.le_refl _) a0
  rw [Int.sub_self] at this
  exact this h0
theorem zloop2 (N : Nat) (I : Int → α → β → Prop) (lv : Int → α → β → List (Option Value)) (w : Int → α → β → zW) (a0 : α) (b0 : β) (h0 : I 0 a0 b0) (hstep : ∀ (i : Int) (a : α) (b : β), 0 ≤ i → i < N → I i a b → (∀ a' b', I (i + 1) a' b' → zRun Γ M d none pc (lv (i + 1) a' b') [] μ (w (i + 1) a' b') Q) → zRun Γ M d none pc (lv i a b) [] μ (w i a b) Q) (hend : ∀ a b, I N a b → zRun Γ M d none pc (lv N a b) [] μ (w N a b) Q) : zRun Γ M d none pc (lv 0 a0 b0) [] μ (w 0 a0 b0) Q :=
  zloop1 N (fun i a => I i a.1 a.2) (fun i a => lv i a.1 a.2) (fun i a => w i a.1 a.2) (a0, b0) h0 (fun i a h1 h2 h3 h4 => hstep i a.1 a.2 h1 h2 h3 (fun a' b' h => h4 (a', b') h)) (fun a h => hend a.1 a.2 h)
theorem zloop3 (N : Nat) (I : Int → α → β → γ → Prop) (lv : Int → α → β → γ → List (Option Value)) (w : Int → α → β → γ → zW) (a0 : α) (b0 : β) (c0 : γ) (h0 : I 0 a0 b0 c0) (hstep : ∀ (i : Int) (a : α) (b : β) (c : γ), 0 ≤ i → i < N → I i a b c → (∀ a' b' c', I (i + 1) a' b' c' → zRun Γ M d none pc (lv (i + 1) a' b' c') [] μ (w (i + 1) a' b' c') Q) → zRun Γ M d none pc (lv i a b c) [] μ (w i a b c) Q) (hend : ∀ a b c, I N a b c → zRun Γ M d none pc (lv N a b c) [] μ (w N a b c) Q) : zRun Γ M d none pc (lv 0 a0 b0 c0) [] μ (w 0 a0 b0 c0) Q :=
  zloop1 N (fun i a => I i a.1 a.2.1 a.2.2) (fun i a => lv i a.1 a.2.1 a.2.2) (fun i a => w i a.1 a.2.1 a.2.2) (a0, b0, c0) h0 (fun i a h1 h2 h3 h4 => hstep i a.1 a.2.1 a.2.2 h1 h2 h3 (fun a' b' c' h => h4 (a', b', c') h)) (fun a h => hend a.1 a.2.1 a.2.2 h)
end LP
/-- the first value that isn't 0; 0 if there is none -/
def jfst : Nat → (Int → Int) → Int
  | 0, _ => 0
  | n + 1, f => if jfst n f ≠ 0 then jfst n f else f n
theorem jfst_spec (n : Nat) (f : Int → Int) : (jfst n f = 0 ∧ ∀ i : Int, 0 ≤ i → i < n → f i = 0) ∨ ∃ k : Int, 0 ≤ k ∧ k < n ∧ f k ≠ 0 ∧ jfst n f = f k ∧ ∀ i : Int, 0 ≤ i → i < k → f i = 0 := by
  induction n with
  | zero => exact Or.inl ⟨rfl, fun i h1 h2 => by omega⟩
  | succ n ih =>
    rcases ih with ⟨h1, h2⟩ | ⟨k, k1, k2, k3, k4, k5⟩
    · have e : jfst (n + 1) f = f n := by
        show (if jfst n f ≠ 0 then jfst n f else f n) = _
        rw [if_neg (by omega)]
      rw [e]
      by_cases h : f n = 0
      · refine Or.inl ⟨h, fun i a1 a2 => ?_⟩
        by_cases q : i = n
        · rw [q]; exact h
        · exact h2 i a1 (by omega)
      · exact Or.inr ⟨n, by omega, by omega, h, rfl, fun i a1 a2 => h2 i a1 (by omega)⟩
    · refine Or.inr ⟨k, k1, by omega, k3, ?_, k5⟩
      show (if jfst n f ≠ 0 then jfst n f else f n) = _
      rw [if_pos (by rw [k4]; exact k3), k4]
/-- f k, where all before it is 0 -/
theorem jfst_at {n : Nat} {f : Int → Int} {k : Int} (h1 : 0 ≤ k) (h2 : k < n) (h3 : f k ≠ 0) (h4 : ∀ i : Int, 0 ≤ i → i < k → f i = 0) : jfst n f = f k := by
  rcases jfst_spec n f with ⟨_, b⟩ | ⟨j, j1, j2, j3, j4, j5⟩
  · exact absurd (b k h1 h2) h3
  · have : j = k := by
      rcases Int.lt_trichotomy j k with q | q | q
      · exact absurd (h4 j j1 q) j3
      · exact q
      · exact absurd (j5 k h1 q) h3
    rw [j4, this]
theorem jfst_none {n : Nat} {f : Int → Int} (h : ∀ i : Int, 0 ≤ i → i < n → f i = 0) : jfst n f = 0 := by
  rcases jfst_spec n f with ⟨a, _⟩ | ⟨j, j1, j2, j3, _, _⟩
  · exact a
  · exact absurd (h j j1 j2) j3
