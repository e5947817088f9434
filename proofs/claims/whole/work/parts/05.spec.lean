/-! the pure words: numbers, directions, steps -/
theorem lgE {a b : Int64} : lg_cmp a b = 0 ↔ a = b := by
  unfold lg_cmp
  by_cases h : b < a
  · rw [if_pos h]
    refine ⟨fun q => absurd q (by decide), fun q => ?_⟩
    subst q
    exact absurd h (by simp)
  · rw [if_neg h]
    by_cases h2 : a = b <;> simp [h2]
theorem lgG {a b : Int64} : 0 < lg_cmp a b ↔ b < a := by
  unfold lg_cmp
  by_cases h : b < a
  · simp [h]
  · by_cases h2 : a = b <;> simp [h, h2] <;> decide
theorem lgL {a b : Int64} : lg_cmp a b < 0 ↔ a < b := by
  unfold lg_cmp
  have e1 : (a < b) = (a.toInt < b.toInt) := propext Int64.lt_iff_toInt_lt
  have e2 : (b < a) = (b.toInt < a.toInt) := propext Int64.lt_iff_toInt_lt
  have e3 : (a = b) = (a.toInt = b.toInt) := propext Int64.toInt_inj.symm
  rw [e1]
  by_cases h : b < a
  · rw [if_pos h]
    rw [e2] at h
    exact ⟨fun q => absurd q (by decide), fun q => absurd q (by omega)⟩
  · rw [if_neg h]
    rw [e2] at h
    by_cases h2 : a = b
    · rw [if_pos h2]
      rw [e3] at h2
      exact ⟨fun q => absurd q (by decide), fun q => absurd q (by omega)⟩
    · rw [if_neg h2]
      rw [e3] at h2
      exact ⟨fun _ => by omega, fun _ => by decide⟩
theorem i32nl {x : Int32} : (0 ≤ x) ↔ ¬ x < 0 := by
  rw [Int32.le_iff_toInt_le, Int32.lt_iff_toInt_lt]
  omega
theorem i64nl {x y : Int64} : (x ≤ y) ↔ ¬ y < x := by
  rw [Int64.le_iff_toInt_le, Int64.lt_iff_toInt_lt]
  omega
theorem lgGe {a b : Int64} : 0 ≤ lg_cmp a b ↔ b ≤ a := by rw [i32nl, lgL, i64nl]
theorem lgLe {a b : Int64} : lg_cmp a b ≤ 0 ↔ a ≤ b := by
  have h : (lg_cmp a b ≤ 0) ↔ ¬ (0 < lg_cmp a b) := by
    rw [Int32.le_iff_toInt_le, Int32.lt_iff_toInt_lt]
    omega
  rw [h, lgG, i64nl]
theorem sub1_neg {a : Nat} (h : a < 2 ^ 30) : nI a - nI 1 < 0 ↔ a < 1 := by
  rw [Int32.lt_iff_toInt_lt, pk_sub_toInt h (by decide)]
  show (a : Int) - 1 < 0 ↔ _
  omega
theorem sub1_ge {a b : Nat} (h : a < 2 ^ 30) (hb : b < 2 ^ 30) : nI b ≤ nI a - nI 1 ↔ b + 1 ≤ a := by
  rw [Int32.le_iff_toInt_le, pk_sub_toInt h (by decide), nI_toInt (by omega)]
  omega
theorem sub1_lt {a b : Nat} (h : a < 2 ^ 30) (hb : b < 2 ^ 30) : nI a - nI 1 < nI b ↔ a < b + 1 := by
  rw [Int32.lt_iff_toInt_lt, pk_sub_toInt h (by decide), nI_toInt (by omega)]
  omega
def kc : Nat → Nat
  | 0 => 1
  | 1 => 3
  | 2 => 0
  | 3 => 6
  | _ => 4
/-- one and the way from a to b: 0, 1, 2 -/
def upN (a b : Nat) : Nat := if a < b then 2 else if b < a then 0 else 1
/-- where a needle of a kind points, by its home, from a place -/
def pointN (k h p : Nat) : Nat :=
  match k with
  | 0 => 3 * upN (p / 6) (h / 6) + upN (p % 6) (h % 6)
  | 1 => 3 * (2 - upN (p / 6) (h / 6)) + (2 - upN (p % 6) (h % 6))
  | 2 => if upN (p % 6) (h % 6) = 1 then 3 * upN (p / 6) (h / 6) + 1 else 3 + upN (p % 6) (h % 6)
  | 3 => 3 * upN (p % 6) (h % 6) + (2 - upN (p / 6) (h / 6))
  | _ => if upN (p / 6) (h / 6) = 1 then 3 + upN (p % 6) (h % 6) else 3 * upN (p / 6) (h / 6) + 1
theorem upN_lt (a b : Nat) : upN a b < 3 := by
  unfold upN
  split
  · omega
  · split <;> omega
theorem pointN_lt (k h p : Nat) : pointN k h p < 9 := by
  have h1 := upN_lt (p / 6) (h / 6)
  have h2 := upN_lt (p % 6) (h % 6)
  unfold pointN
  split
  · omega
  · omega
  · split <;> omega
  · omega
  · split <;> omega
/-- an island, by the system's bits, by the reference's row -/
def xb (isl : Int64) (j : Nat) : Bool := decide (j < 36) && decide (isl >>> ((nI j).toInt64 &&& 63) &&& 1 = 1)
def mb (im : Nat → Int32) (j : Nat) : Bool := decide (j < 36) && decide (im j = 1)
theorem xb_t {isl : Int64} {j : Nat} (h : j < 36) (c : isl >>> ((nI j).toInt64 &&& 63) &&& 1 = 1) : nI 1 = bI (xb isl j) := by
  simp [xb, h, c]; rfl
theorem xb_f {isl : Int64} {j : Nat} (h : j < 36) (c : ¬ isl >>> ((nI j).toInt64 &&& 63) &&& 1 = 1) : nI 0 = bI (xb isl j) := by
  simp [xb, h, c]; rfl
/-- where a step leads -/
def stepN (ib : Nat → Bool) (p d : Nat) : Nat :=
  if p / 6 + d / 3 < 1 ∨ 7 ≤ p / 6 + d / 3 ∨ p % 6 + d % 3 < 1 ∨ 7 ≤ p % 6 + d % 3 then p
  else if ib (6 * (p / 6 + d / 3 - 1) + (p % 6 + d % 3 - 1)) = true then p else 6 * (p / 6 + d / 3 - 1) + (p % 6 + d % 3 - 1)
theorem stepN_off {ib : Nat → Bool} {p d : Nat} (h : p / 6 + d / 3 < 1 ∨ 7 ≤ p / 6 + d / 3 ∨ p % 6 + d % 3 < 1 ∨ 7 ≤ p % 6 + d % 3) : stepN ib p d = p := by
  unfold stepN; rw [if_pos h]
theorem stepN_isl {ib : Nat → Bool} {p d : Nat} (c : ib (6 * (p / 6 + d / 3 - 1) + (p % 6 + d % 3 - 1)) = true) : stepN ib p d = p := by
  unfold stepN
  rw [if_pos c]
  split <;> rfl
theorem stepN_on {ib : Nat → Bool} {p d : Nat} (h : ¬ (p / 6 + d / 3 < 1 ∨ 7 ≤ p / 6 + d / 3 ∨ p % 6 + d % 3 < 1 ∨ 7 ≤ p % 6 + d % 3)) (c : ib (6 * (p / 6 + d / 3 - 1) + (p % 6 + d % 3 - 1)) = false) : stepN ib p d = 6 * (p / 6 + d / 3 - 1) + (p % 6 + d % 3 - 1) := by
  unfold stepN
  rw [if_neg h, if_neg (by rw [c]; decide)]
theorem stepN_lt {ib : Nat → Bool} {p d : Nat} (hp : p < 36) : stepN ib p d < 36 := by
  unfold stepN
  split
  · exact hp
  · split
    · exact hp
    · omega
/-- a number that names one of n -/
def rng (x : Int32) (n : Nat) : Bool := !decide (x < 0) && !decide (nI n ≤ x)
theorem rng_ex {x : Int32} {n : Nat} (h : rng x n = true) (hn : n < 2 ^ 31) : ∃ d, d < n ∧ x = nI d := by
  unfold rng at h
  simp at h
  rcases pk_ix x hn with h1 | h1 | h1
  · exact absurd h1 (by rw [Int32.lt_iff_toInt_lt] at *; have := Int32.le_iff_toInt_le.mp h.1; omega)
  · exact absurd h1 (by rw [Int32.le_iff_toInt_le] at *; have := Int32.lt_iff_toInt_lt.mp h.2; omega)
  · exact h1
theorem rng_nI {d n : Nat} (h : d < n) (hn : n < 2 ^ 31) : rng (nI d) n = true := by
  unfold rng
  simp [nI_pos (show d < 2 ^ 31 by omega), nI_ge h hn]
theorem nI_le0 {a : Nat} (h : a < 2 ^ 31) : nI a ≤ 0 ↔ a = 0 := by
  have e := nI_leI (a := a) (b := 0) h (by decide)
  rw [show nI a ≤ 0 ↔ nI a ≤ nI 0 from Iff.rfl, e]
  omega
