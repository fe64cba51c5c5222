/-! the bits of a share -/
def jlt1 (x : UInt64) : Bool := decide (¬ 0 ≤ Op.cmpValue (FP.dcmp x FP.dconst1) .g)
def jbl : Nat → UInt64 → Int64 → UInt64 × Int64
  | 0, x, e => (x, e)
  | n + 1, x, e => if jlt1 x = true then jbl n (FP.dmul x 4611686018427387904) (e - Int64.ofNat ((1 : Fin 2) : Nat)) else (x, e)
theorem jbl_succ (n : Nat) (x : UInt64) (e : Int64) : jbl (n + 1) x e = if jlt1 x = true then jbl n (FP.dmul x 4611686018427387904) (e - Int64.ofNat ((1 : Fin 2) : Nat)) else (x, e) := rfl
def jn64 (x : UInt64) : Bool := decide (x &&& 0x7fffffffffffffff ≤ 0x7ff0000000000000)
theorem jn64_n {x : UInt64} (h : jn64 x = true) : vf_n64 x := by
  unfold vf_n64
  exact of_decide_eq_true h
def jbok : Nat → UInt64 → Bool
  | 0, _ => true
  | n + 1, x => if jlt1 x = true then jn64 (FP.dmul x 4611686018427387904) && jbok n (FP.dmul x 4611686018427387904) else true
theorem jbok_succ (n : Nat) (x : UInt64) : jbok (n + 1) x = if jlt1 x = true then jn64 (FP.dmul x 4611686018427387904) && jbok n (FP.dmul x 4611686018427387904) else true := rfl
/-- the class's bits -/
def jbs (x : UInt64) : Int64 := ((jbl 64 x 1023).2 <<< ((jI 52).toInt64 &&& 63)) + FP.d2l (FP.dmul (FP.dsub (jbl 64 x 1023).1 FP.dconst1) 4841369599423283200)
def jsh (a b : Int) : UInt64 := FP.ddiv (FP.i2d (jI a)) (FP.i2d (jI b))
/-- all that is to be known of a share -/
def jck (x : UInt64) : Bool := jn64 x && decide (FP.dcmp x x = some .eq) && (if 0 < Op.cmpValue (FP.dcmp x FP.dconst0) .g then jbok 64 x && jn64 (FP.dsub (jbl 64 x 1023).1 FP.dconst1) && jn64 (FP.dmul (FP.dsub (jbl 64 x 1023).1 FP.dconst1) 4841369599423283200) && decide (jbs x = x.toInt64) else decide (x.toInt64 = 0))
def jckr (lo n : Nat) : Bool := (List.range n).all (fun b => (List.range (lo + b + 1)).all fun a => jck (jsh ((a : Nat) : Int) ((lo + b : Nat) : Int)))
theorem jck_a : jckr 1 40 = true := by decide +kernel
theorem jck_b : jckr 41 20 = true := by decide +kernel
theorem jck_c : jckr 61 15 = true := by decide +kernel
theorem jck_d : jckr 76 15 = true := by decide +kernel
theorem jckr_at {lo n : Nat} (h : jckr lo n = true) {a b : Int} (hb : lo ≤ b ∧ b < lo + n) (ha : 0 ≤ a ∧ a ≤ b) : jck (jsh a b) = true := by
  unfold jckr at h
  rw [List.all_eq_true] at h
  have h1 := h (b.toNat - lo) (List.mem_range.mpr (by omega))
  rw [List.all_eq_true] at h1
  have h2 := h1 a.toNat (List.mem_range.mpr (by omega))
  rw [show ((a.toNat : Nat) : Int) = a by omega, show ((lo + (b.toNat - lo) : Nat) : Int) = b by omega] at h2
  exact h2
theorem jck_sh {a b : Int} (hb : 1 ≤ b ∧ b ≤ 90) (ha : 0 ≤ a ∧ a ≤ b) : jck (jsh a b) = true := by
  by_cases h1 : b < 41
  · exact jckr_at jck_a (by omega) ha
  · by_cases h2 : b < 61
    · exact jckr_at jck_b (by omega) ha
    · by_cases h3 : b < 76
      · exact jckr_at jck_c (by omega) ha
      · exact jckr_at jck_d (by omega) ha
theorem jck_0 : jck FP.dconst0 = true := by decide +kernel

