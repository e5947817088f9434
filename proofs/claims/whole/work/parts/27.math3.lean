/-! bits -/
def bt (b : Bool) : Nat := if b = true then 1 else 0
def cntN (f : Nat → Bool) : Nat → Nat
  | 0 => 0
  | n + 1 => cntN f n + bt (f n)
def bitN (f : Nat → Bool) : Nat → Nat
  | 0 => 0
  | n + 1 => bitN f n + 2 ^ n * bt (f n)
theorem bt_le (b : Bool) : bt b ≤ 1 := by
  cases b <;> decide
theorem bitN_lt (f : Nat → Bool) : ∀ n, bitN f n < 2 ^ n
  | 0 => Nat.one_pos
  | n + 1 => by
    have h1 := bitN_lt f n
    have h2 : 2 ^ n * bt (f n) ≤ 2 ^ n * 1 := Nat.mul_le_mul_left _ (bt_le _)
    show bitN f n + 2 ^ n * bt (f n) < 2 ^ (n + 1)
    rw [Nat.pow_succ]
    omega
theorem bt_tb (b : Bool) (i : Nat) : (bt b).testBit i = (decide (i = 0) && b) := by
  cases b
  · show Nat.testBit 0 i = _
    simp
  · show Nat.testBit 1 i = _
    cases i with
    | zero => rfl
    | succ k => simp [Nat.testBit_succ]
theorem bitN_tb (f : Nat → Bool) : ∀ n i, (bitN f n).testBit i = (decide (i < n) && f i)
  | 0, i => by
    show Nat.testBit 0 i = _
    simp
  | n + 1, i => by
    show (bitN f n + 2 ^ n * bt (f n)).testBit i = _
    rw [Nat.add_comm, Nat.testBit_two_pow_mul_add _ (bitN_lt f n), bt_tb, bitN_tb f n i]
    by_cases h : i < n
    · rw [if_pos h]
      simp [h, show i < n + 1 by omega]
    · rw [if_neg h]
      by_cases h2 : i = n
      · subst h2
        simp
      · simp [show ¬ i < n + 1 by omega, show ¬ i - n = 0 by omega]
theorem lN_or (a b : Nat) : lN a ||| lN b = lN (a ||| b) := by
  apply Int64.toBitVec_inj.mp
  show BitVec.ofNat 64 a ||| BitVec.ofNat 64 b = BitVec.ofNat 64 (a ||| b)
  simp
theorem lN_xor (a b : Nat) : lN a ^^^ lN b = lN (a ^^^ b) := by
  apply Int64.toBitVec_inj.mp
  show BitVec.ofNat 64 a ^^^ BitVec.ofNat 64 b = BitVec.ofNat 64 (a ^^^ b)
  simp
theorem sh1 : ∀ j, j < 36 → (1 : Int64) <<< ((nI j).toInt64 &&& 63) = lN (2 ^ j) := by decide +kernel
theorem sm1 : ∀ j, j < 36 → ((nI j).toInt64 &&& 63).toBitVec.smod 64 = BitVec.ofNat 64 j := by decide +kernel
theorem lN_nat {N : Nat} (h : N < 2 ^ 64) : (lN N).toBitVec.toNat = N := by
  show (BitVec.ofNat 64 N).toNat = N
  rw [BitVec.toNat_ofNat]
  exact Nat.mod_eq_of_lt h
theorem lN_sar {N j : Nat} (hN : N < 2 ^ 63) (hj : j < 36) : lN N >>> ((nI j).toInt64 &&& 63) = lN (N / 2 ^ j) := by
  apply Int64.toInt_inj.mp
  rw [pk_lT (n := N / 2 ^ j) (Nat.lt_of_le_of_lt (Nat.div_le_self _ _) hN)]
  show (BitVec.sshiftRight' (lN N).toBitVec (((nI j).toInt64 &&& 63).toBitVec.smod 64)).toInt = _
  rw [sm1 j hj]
  show (BitVec.sshiftRight (lN N).toBitVec (BitVec.ofNat 64 j).toNat).toInt = _
  rw [BitVec.toInt_sshiftRight, show (lN N).toBitVec.toInt = (N : Int) from pk_lT hN, show (BitVec.ofNat 64 j).toNat = j by (rw [BitVec.toNat_ofNat]; exact Nat.mod_eq_of_lt (by omega)), Int.shiftRight_eq_div_pow]
  rfl
theorem mbit_lN {N j : Nat} (hN : N < 2 ^ 63) (hj : j < 36) : mbit (lN N) j = N.testBit j := by
  unfold mbit
  rw [lN_sar hN hj, show (1 : Int64) = lN 1 from rfl, lN_and, Nat.testBit_eq_decide_div_mod_eq, show N / 2 ^ j &&& 1 = N / 2 ^ j % 2 from Nat.and_one_is_mod _]
  have h2 : N / 2 ^ j % 2 < 2 := Nat.mod_lt _ (by decide)
  have e := pk_lEQ (a := N / 2 ^ j % 2) (b := 1) (by omega) (by decide)
  exact decide_eq_decide.mpr e
theorem b36 (f : Nat → Bool) : bitN f 36 < 2 ^ 63 := Nat.lt_trans (bitN_lt f 36) (by decide)
theorem mbit_f (f : Nat → Bool) {j : Nat} (hj : j < 36) : mbit (lN (bitN f 36)) j = f j := by
  rw [mbit_lN (b36 f) hj, bitN_tb]
  simp [hj]
theorem phL_bits (f : Nat → Bool) : ∀ n j, j + n ≤ 36 → phL f n j (lN (bitN f j)) = lN (bitN f (j + n))
  | 0, _, _ => rfl
  | n + 1, j, h => by
    have e : (if f j = true then lN (bitN f j) ||| (1 <<< ((nI j).toInt64 &&& 63)) else lN (bitN f j)) = lN (bitN f (j + 1)) := by
      show _ = lN (bitN f j + 2 ^ j * bt (f j))
      by_cases hf : f j = true
      · rw [if_pos hf, sh1 j (by omega), lN_or, hf]
        show _ = lN (bitN f j + 2 ^ j * 1)
        rw [Nat.add_comm (bitN f j), Nat.two_pow_add_eq_or_of_lt (bitN_lt f j), Nat.mul_one, Nat.or_comm]
      · rw [if_neg hf, Bool.eq_false_iff.mpr hf]
        show _ = lN (bitN f j + 2 ^ j * 0)
        rw [Nat.mul_zero, Nat.add_zero]
    show phL f n (j + 1) _ = _
    rw [e, phL_bits f n (j + 1) (by omega), show j + 1 + n = j + (n + 1) by omega]
theorem phL_36 (f : Nat → Bool) : phL f 36 0 0 = lN (bitN f 36) := phL_bits f 36 0 (by decide)
/-! the least of them -/
def lpB (f : Nat → Bool) : Nat → Nat → Int32 → Int32
  | 0, _, x => x
  | n + 1, j, x => if f j = true then nI j else lpB f n (j + 1) x
theorem lpB_snoc (f : Nat → Bool) : ∀ (n j : Nat) (x : Int32), lpB f (n + 1) j x = lpB f n j (if f (j + n) = true then nI (j + n) else x)
  | 0, j, x => rfl
  | n + 1, j, x => by
    show (if f j = true then nI j else lpB f (n + 1) (j + 1) x) = (if f j = true then nI j else lpB f n (j + 1) _)
    rw [lpB_snoc f n (j + 1) x, show j + 1 + n = j + (n + 1) by omega]
theorem hmM_2 (f : Nat → Bool) : ∀ (n m : Nat) (x : Int32), (hmM f n m x).2 = lpB f n 0 x
  | 0, _, _ => rfl
  | n + 1, m, x => by
    rw [lpB_snoc, Nat.zero_add]
    unfold hmM
    by_cases h : f n = true
    · rw [if_pos h, if_pos h, hmM_2 f n]
    · rw [if_neg h, if_neg h, hmM_2 f n]
theorem hmM_1 (f : Nat → Bool) : ∀ (n m : Nat) (x : Int32), (hmM f n m x).1 = m + cntN f n
  | 0, _, _ => rfl
  | n + 1, m, x => by
    unfold hmM
    show _ = m + (cntN f n + bt (f n))
    by_cases h : f n = true
    · rw [if_pos h, hmM_1 f n, h]
      show _ = m + (cntN f n + 1)
      omega
    · rw [if_neg h, hmM_1 f n, Bool.eq_false_iff.mpr h]
      rfl
theorem lpL_B (f : Nat → Bool) : ∀ n j, j + n ≤ 36 → lpL (lN (bitN f 36)) n j = lpB f n j (-1)
  | 0, _, _ => rfl
  | n + 1, j, h => by
    have e := mbit_f f (j := j) (by omega)
    unfold mbit at e
    unfold lpL lpB
    by_cases hf : f j = true
    · rw [hf] at e
      rw [if_pos hf, if_pos (of_decide_eq_true e)]
    · rw [Bool.eq_false_iff.mpr hf] at e
      rw [if_neg hf, if_neg (of_decide_eq_false e)]
      exact lpL_B f n (j + 1) (by omega)
theorem lp_eq (f : Nat → Bool) : lpL (phL f 36 0 0) 36 0 = (hmM f 36 0 (-1)).2 := by rw [phL_36, hmM_2, lpL_B f 36 0 (by decide)]
/-! where to look -/
theorem lw_lm (f : Nat → Nat) (a b : Nat → Bool) : ∀ (n j : Nat) (lq : Nat → Nat) (w : Nat), (∀ i, i < j + n → a i = b i) → (∀ x, lq x ≤ w) → lwL f a n j lq w = lmL f b n j lq w
  | 0, _, _, _, _, _ => rfl
  | n + 1, j, lq, w, h, hq => by
    unfold lwL lmL
    rw [h j (by omega)]
    by_cases hb : b j = true
    · rw [if_pos hb, if_pos hb]
      refine lw_lm f a b n (j + 1) _ _ (fun i hi => h i (by omega)) (fun x => ?_)
      have h1 := hq x
      have h2 := hq (f j)
      unfold va_up
      by_cases hx : x = f j
      · rw [if_pos hx]
        split <;> omega
      · rw [if_neg hx]
        split <;> omega
    · rw [if_neg hb, if_neg hb, Nat.add_zero, if_neg (by have := hq (f j); omega)]
      have e : va_up lq (f j) (lq (f j) + 0) = lq := by
        funext x
        unfold va_up
        by_cases hx : x = f j
        · subst hx
          exact if_pos rfl
        · rw [if_neg hx]
      rw [e]
      exact lw_lm f a b n (j + 1) _ _ (fun i hi => h i (by omega)) hq
theorem lw_ge (f : Nat → Nat) (b : Nat → Bool) : ∀ (n j : Nat) (lq : Nat → Nat) (w : Nat), w ≤ lwL f b n j lq w
  | 0, _, _, _ => Nat.le_refl _
  | n + 1, j, lq, w => by
    unfold lwL
    split
    · refine Nat.le_trans ?_ (lw_ge f b n (j + 1) _ _)
      split <;> omega
    · exact lw_ge f b n (j + 1) _ _
theorem lw_pos (f : Nat → Nat) (b : Nat → Bool) : ∀ (n j : Nat) (lq : Nat → Nat) (w i : Nat), j ≤ i → i < j + n → b i = true → 1 ≤ lwL f b n j lq w
  | 0, _, _, _, _, h1, h2, _ => absurd h2 (by omega)
  | n + 1, j, lq, w, i, h1, h2, hb => by
    unfold lwL
    by_cases hj : b j = true
    · rw [if_pos hj]
      refine Nat.le_trans ?_ (lw_ge f b n (j + 1) _ _)
      split <;> omega
    · rw [if_neg hj]
      have hne : ¬ i = j := fun q => hj (by rw [← q]; exact hb)
      exact lw_pos f b n (j + 1) _ _ i (by omega) (by omega) hb
theorem lw_zero (f : Nat → Nat) (b : Nat → Bool) : ∀ (n j : Nat) (lq : Nat → Nat) (w : Nat), (∀ i, i < j + n → ¬ b i = true) → lwL f b n j lq w = w
  | 0, _, _, _, _ => rfl
  | n + 1, j, lq, w, h => by
    unfold lwL
    rw [if_neg (h j (by omega))]
    exact lw_zero f b n (j + 1) lq w (fun i hi => h i (by omega))
theorem bl_bm (g g' : Nat → Nat) : ∀ (n j : Nat) (b : Int32) (w : Nat), (∀ i, g i = g' i) → (∀ i, 1 ≤ g i) → blL g n j b w = bmL g' n j b w
  | 0, _, _, _, _, _ => rfl
  | n + 1, j, b, w, h, hp => by
    unfold blL bmL
    rw [← h j]
    have h1 := hp j
    by_cases hw : g j < w
    · rw [if_pos hw, if_pos ⟨by omega, by omega⟩]
      exact bl_bm g g' n (j + 1) _ _ h hp
    · rw [if_neg hw, if_neg (fun q => hw (by omega))]
      exact bl_bm g g' n (j + 1) _ _ h hp
theorem bm_zero (g : Nat → Nat) : ∀ (n j : Nat) (b : Int32) (w : Nat), (∀ i, g i = 0) → bmL g n j b w = b
  | 0, _, _, _, _ => rfl
  | n + 1, j, b, w, h => by
    unfold bmL
    rw [if_neg (fun q => q.1 (h j))]
    exact bm_zero g n (j + 1) b w h
theorem bitN_z {f : Nat → Bool} : ∀ n, (∀ j, j < n → ¬ f j = true) → bitN f n = 0
  | 0, _ => rfl
  | n + 1, h => by
    show bitN f n + 2 ^ n * bt (f n) = 0
    rw [bitN_z n (fun j hj => h j (by omega)), Bool.eq_false_iff.mpr (h n (by omega))]
    rfl
theorem bitN_nz {f : Nat → Bool} {n j : Nat} (hj : j < n) (hf : f j = true) : ¬ bitN f n = 0 := by
  intro q
  have h := bitN_tb f n j
  rw [q] at h
  simp [hj, hf] at h
theorem look_eq (k : Nat) (f : Nat → Bool) : lookI k (phL f 36 0 0) = lookM k f := by
  rw [phL_36]
  unfold lookI lookM
  have hm : ∀ i, i < 0 + 36 → mbit (lN (bitN f 36)) i = f i := fun i hi => mbit_f f (by omega)
  by_cases h : ∃ i, i < 36 ∧ f i = true
  · obtain ⟨i, hi, hf⟩ := h
    have hnz := bitN_nz hi hf
    have h0 : ¬ lN (bitN f 36) = 0 := fun q => hnz ((pk_lEQ (b36 f) (by decide)).mp q)
    rw [if_neg h0]
    exact bl_bm _ _ 36 0 _ _ (fun pp => lw_lm _ _ _ 36 0 _ _ hm (fun _ => Nat.le_refl _)) (fun pp => lw_pos _ _ 36 0 _ _ i (by omega) (by omega) (by rw [hm i (by omega)]; exact hf))
  · have hz : ∀ j, j < 36 → ¬ f j = true := fun j hj q => h ⟨j, hj, q⟩
    rw [bitN_z 36 hz, if_pos (show lN 0 = 0 from rfl)]
    rw [bm_zero _ 36 0 _ _ (fun pp => ?_)]
    rw [← lw_lm _ f f 36 0 _ _ (fun _ _ => rfl) (fun _ => Nat.le_refl _)]
    exact lw_zero _ _ 36 0 _ _ (fun i hi => hz i (by omega))
/-! islands -/
def okI (isl : Int64) : Prop := isl = lN (bitN (xb isl) 36)
theorem bitN_cg {f g : Nat → Bool} : ∀ n, (∀ j, j < n → f j = g j) → bitN f n = bitN g n
  | 0, _ => rfl
  | n + 1, h => by
    show bitN f n + 2 ^ n * bt (f n) = bitN g n + 2 ^ n * bt (g n)
    rw [bitN_cg n (fun j hj => h j (by omega)), h n (by omega)]
theorem xb_lN (f : Nat → Bool) (j : Nat) : xb (lN (bitN f 36)) j = (decide (j < 36) && f j) := by
  show (decide (j < 36) && mbit (lN (bitN f 36)) j) = _
  by_cases h : j < 36
  · rw [mbit_f f h]
  · simp [h]
theorem okI_mk (f : Nat → Bool) : okI (lN (bitN f 36)) := by
  show lN (bitN f 36) = lN (bitN (xb (lN (bitN f 36))) 36)
  congr 1
  refine bitN_cg 36 (fun j hj => ?_)
  rw [xb_lN]
  simp [hj]
theorem xb_hi (isl : Int64) {j : Nat} (h : ¬ j < 36) : xb isl j = false := by
  unfold xb
  simp [h]
theorem setI_eq {isl : Int64} (h : okI isl) {j : Nat} (hj : j < 36) (x : Int32) : setI isl j x = lN (bitN (va_up (xb isl) j (!decide (x = 0))) 36) := by
  have e : ∀ i, (bitN (xb isl) 36).testBit i = xb isl i := by
    intro i
    rw [bitN_tb]
    by_cases hi : i < 36
    · simp [hi]
    · simp [xb_hi isl hi]
  have e2 : ∀ b i, (bitN (va_up (xb isl) j b) 36).testBit i = (if i = j then b else xb isl i) := by
    intro b i
    rw [bitN_tb]
    unfold va_up
    by_cases hi : i = j
    · rw [if_pos hi, hi]
      simp [hj]
    · rw [if_neg hi]
      by_cases h3 : i < 36
      · simp [h3]
      · simp [xb_hi isl h3]
  unfold setI
  rw [sh1 j hj]
  by_cases hx : x = 0
  · rw [if_pos hx]
    conv => lhs; rw [h]
    rw [show (-1 : Int64) = lN (2 ^ 64 - 1) by decide, lN_xor, lN_and]
    congr 1
    apply Nat.eq_of_testBit_eq
    intro i
    rw [Nat.testBit_and, Nat.testBit_xor, Nat.testBit_two_pow, Nat.testBit_two_pow_sub_one, e, e2]
    by_cases hi : i = j
    · subst hi
      simp [hx, show i < 64 by omega]
    · rw [if_neg hi]
      by_cases h3 : i < 36
      · simp [show ¬ j = i from fun q => hi q.symm, show i < 64 by omega]
      · simp [xb_hi isl h3]
  · rw [if_neg hx]
    conv => lhs; rw [h]
    rw [lN_or]
    congr 1
    apply Nat.eq_of_testBit_eq
    intro i
    rw [Nat.testBit_or, Nat.testBit_two_pow, e, e2]
    by_cases hi : i = j
    · subst hi
      simp [hx]
    · rw [if_neg hi]
      simp [show ¬ j = i from fun q => hi q.symm]
theorem okI_set {isl : Int64} (h : okI isl) {j : Nat} (hj : j < 36) (x : Int32) : okI (setI isl j x) := by
  rw [setI_eq h hj]
  exact okI_mk _
theorem xb_set {isl : Int64} (h : okI isl) {j : Nat} (hj : j < 36) (x : Int32) : xb (setI isl j x) = va_up (xb isl) j (!decide (x = 0)) := by
  funext i
  rw [setI_eq h hj, xb_lN]
  by_cases hi : i < 36
  · simp [hi]
  · unfold va_up
    rw [if_neg (by omega), xb_hi isl hi]
    simp
theorem bit_f0 : bitN (fun _ => false) 36 = 0 := bitN_z 36 (fun _ _ => by decide)
theorem xb_0 : xb 0 = fun _ => false := by
  funext j
  have h := xb_lN (fun _ => false) j
  rw [bit_f0] at h
  rw [show (0 : Int64) = lN 0 from rfl, h]
  simp
theorem okI_0 : okI 0 := by
  have h := okI_mk (fun _ => false)
  rw [bit_f0] at h
  exact h
theorem isI_ok (pl : Nat → Nat) (b : Nat) : ∀ t, (∀ n, n < t → plcN pl (b + 2 * n) < 36) → okI (isI pl b t) ∧ xb (isI pl b t) = isT pl b t
  | 0, _ => ⟨okI_0, xb_0⟩
  | t + 1, h => by
    obtain ⟨h1, h2⟩ := isI_ok pl b t (fun n hn => h n (by omega))
    have h3 := h t (by omega)
    exact ⟨okI_set h1 h3 _, by show xb (setI (isI pl b t) (plcN pl (b + 2 * t)) (nI 1)) = va_up (isT pl b t) (plcN pl (b + 2 * t)) true; rw [xb_set h1 h3, h2]; rfl⟩
/-! how many bits -/
theorem and256 {a b c d : Nat} (hb : b < 256) (hd : d < 256) : (256 * a + b) &&& (256 * c + d) = 256 * (a &&& c) + (b &&& d) := by
  have h1 : ((256 * a + b) &&& (256 * c + d)) / 2 ^ 8 = (256 * a + b) / 2 ^ 8 &&& (256 * c + d) / 2 ^ 8 := Nat.and_div_two_pow
  have h2 : ((256 * a + b) &&& (256 * c + d)) % 2 ^ 8 = (256 * a + b) % 2 ^ 8 &&& (256 * c + d) % 2 ^ 8 := Nat.and_mod_two_pow
  rw [show (256 * a + b) / 2 ^ 8 = a by omega, show (256 * c + d) / 2 ^ 8 = c by omega] at h1
  rw [show (256 * a + b) % 2 ^ 8 = b by omega, show (256 * c + d) % 2 ^ 8 = d by omega] at h2
  omega
def a8 (l : Nat) : Nat := l - (l / 2 &&& 85)
def b8 (l : Nat) : Nat := (l &&& 51) + (l / 4 &&& 51)
def c8 (l : Nat) : Nat := (l + l / 16) &&& 15
def p8 (l : Nat) : Nat := c8 (b8 (a8 l))
theorem dA : ∀ b, b < 2 → ∀ l, l < 256 → (128 * b + l / 2) &&& 85 = l / 2 &&& 85 := by decide +kernel
theorem dB : ∀ b, b < 4 → ∀ l, l < 256 → (64 * b + l / 4) &&& 51 = l / 4 &&& 51 := by decide +kernel
theorem dCc : ∀ b, b < 5 → ∀ l, l < 69 → (l + l / 16 + 16 * b) &&& 15 = (l + l / 16) &&& 15 := by decide +kernel
theorem d8 : ∀ l, l < 256 → a8 l < 256 ∧ b8 (a8 l) < 69 ∧ b8 (a8 l) % 16 < 5 ∧ p8 l ≤ 8 := by decide +kernel
theorem sA8 (h l M : Nat) (hl : l < 256) : (256 * h + l) - ((256 * h + l) / 2 &&& (256 * M + 85)) = 256 * (h - (h / 2 &&& M)) + a8 l := by
  have e1 : (256 * h + l) / 2 = 256 * (h / 2) + (128 * (h % 2) + l / 2) := by omega
  rw [e1, and256 (by omega) (by decide), dA (h % 2) (by omega) l hl]
  have h1 : h / 2 &&& M ≤ h / 2 := Nat.and_le_left
  have h2 : l / 2 &&& 85 ≤ l / 2 := Nat.and_le_left
  unfold a8
  omega
theorem sB8 (h l M : Nat) (hl : l < 256) : ((256 * h + l) &&& (256 * M + 51)) + ((256 * h + l) / 4 &&& (256 * M + 51)) = 256 * ((h &&& M) + (h / 4 &&& M)) + b8 l := by
  have e1 : (256 * h + l) / 4 = 256 * (h / 4) + (64 * (h % 4) + l / 4) := by omega
  rw [e1, and256 hl (by decide), and256 (by omega) (by decide), dB (h % 4) (by omega) l hl]
  unfold b8
  omega
theorem sC8 (h l M : Nat) (hl : l < 69) (hh : h % 16 < 5) : ((256 * h + l) + (256 * h + l) / 16) &&& (256 * M + 15) = 256 * ((h + h / 16) &&& M) + c8 l := by
  have e1 : (256 * h + l) + (256 * h + l) / 16 = 256 * (h + h / 16) + (l + l / 16 + 16 * (h % 16)) := by omega
  rw [e1, and256 (by omega) (by decide), dCc (h % 16) hh l hl]
  rfl
abbrev M5 : Nat := 6148914691236517205
abbrev M3 : Nat := 3689348814741910323
abbrev M0 : Nat := 1085102592571150095
abbrev j5 (a b c d e : Nat) : Nat := 256 * (256 * (256 * (256 * (256 * 0 + e) + d) + c) + b) + a
theorem sA {a b c d e : Nat} (ha : a < 256) (hb : b < 256) (hc : c < 256) (hd : d < 256) (he : e < 256) : j5 a b c d e - (j5 a b c d e / 2 &&& M5) = j5 (a8 a) (a8 b) (a8 c) (a8 d) (a8 e) := by
  rw [show M5 = 256 * (256 * (256 * (256 * (256 * 5592405 + 85) + 85) + 85) + 85) + 85 by decide, sA8 _ _ _ ha, sA8 _ _ _ hb, sA8 _ _ _ hc, sA8 _ _ _ hd, sA8 _ _ _ he]
  rfl
theorem sB {a b c d e : Nat} (ha : a < 256) (hb : b < 256) (hc : c < 256) (hd : d < 256) (he : e < 256) : (j5 a b c d e &&& M3) + (j5 a b c d e / 4 &&& M3) = j5 (b8 a) (b8 b) (b8 c) (b8 d) (b8 e) := by
  rw [show M3 = 256 * (256 * (256 * (256 * (256 * 3355443 + 51) + 51) + 51) + 51) + 51 by decide, sB8 _ _ _ ha, sB8 _ _ _ hb, sB8 _ _ _ hc, sB8 _ _ _ hd, sB8 _ _ _ he]
  rfl
theorem sC {a b c d e : Nat} (ha : a < 69) (hb : b < 69) (hc : c < 69) (hd : d < 69) (he : e < 69) (hb5 : b % 16 < 5) (hc5 : c % 16 < 5) (hd5 : d % 16 < 5) (he5 : e % 16 < 5) : (j5 a b c d e + j5 a b c d e / 16) &&& M0 = j5 (c8 a) (c8 b) (c8 c) (c8 d) (c8 e) := by
  rw [show M0 = 256 * (256 * (256 * (256 * (256 * 986895 + 15) + 15) + 15) + 15) + 15 by decide, sC8 _ _ _ ha (by omega), sC8 _ _ _ hb (by omega), sC8 _ _ _ hc (by omega), sC8 _ _ _ hd (by omega), sC8 _ _ _ he (by decide)]
  rfl
theorem shu : ∀ k, k < 36 → ((nI k).toInt64.toUInt64 &&& Int64.toUInt64 63) = UInt64.ofNat k := by decide +kernel
theorem lN_shr {N k : Nat} (hN : N < 2 ^ 64) (hk : k < 36) : ((lN N).toUInt64 >>> ((nI k).toInt64.toUInt64 &&& Int64.toUInt64 63)).toInt64 = lN (N / 2 ^ k) := by
  rw [shu k hk]
  apply Int64.toBitVec_inj.mp
  apply BitVec.eq_of_toNat_eq
  rw [lN_nat (Nat.lt_of_le_of_lt (Nat.div_le_self _ _) hN)]
  have e : (((lN N).toUInt64 >>> UInt64.ofNat k).toInt64).toBitVec.toNat = ((lN N).toUInt64 >>> UInt64.ofNat k).toNat := rfl
  rw [e, UInt64.toNat_shiftRight, show (lN N).toUInt64.toNat = N from lN_nat hN, UInt64.toNat_ofNat', show k % 2 ^ 64 = k from Nat.mod_eq_of_lt (by omega), Nat.mod_eq_of_lt (show k < 64 by omega), Nat.shiftRight_eq_div_pow]
theorem pA_N {x : Nat} (h : x < 2 ^ 64) : pcA (lN x) = lN (x - (x / 2 &&& M5)) := by
  unfold pcA
  rw [lN_shr h (by decide), show (6148914691236517205 : Int64) = lN M5 by decide, lN_and]
  exact lN_sub (Nat.le_trans Nat.and_le_left (Nat.div_le_self _ _))
theorem pB_N {x : Nat} (h : x < 2 ^ 64) : pcB (lN x) = lN ((x &&& M3) + (x / 4 &&& M3)) := by
  unfold pcB
  rw [lN_shr h (by decide), show (3689348814741910323 : Int64) = lN M3 by decide, lN_and, lN_and, lN_add]
theorem pC_N {x : Nat} (h : x < 2 ^ 64) : pcC (lN x) = lN ((x + x / 16) &&& M0) := by
  unfold pcC
  rw [lN_shr h (by decide), show (1085102592571150095 : Int64) = lN M0 by decide, lN_add, lN_and]
theorem pD_N {x k : Nat} (h : x < 2 ^ 64) (hk : k < 36) : pcD (lN x) k = lN (x + x / 2 ^ k) := by
  unfold pcD
  rw [lN_shr h hk, lN_add]
theorem pZ_N (x : Nat) : pcZ (lN x) = nI (x % 128) := by
  unfold pcZ
  rw [lN_i]
  have e : nI x &&& nI 127 = nI (x &&& 127) := by
    apply Int32.toBitVec_inj.mp
    show BitVec.ofNat 32 x &&& BitVec.ofNat 32 127 = BitVec.ofNat 32 (x &&& 127)
    simp
  rw [e, show (127 : Nat) = 2 ^ 7 - 1 from rfl, Nat.and_two_pow_sub_one_eq_mod]
theorem j5_lt {a b c d e : Nat} (ha : a < 256) (hb : b < 256) (hc : c < 256) (hd : d < 256) (he : e < 256) : j5 a b c d e < 2 ^ 64 := by
  unfold j5
  omega
theorem popc_5 {a b c d e : Nat} (ha : a < 256) (hb : b < 256) (hc : c < 256) (hd : d < 256) (he : e < 256) : popc (lN (j5 a b c d e)) = nI (p8 a + p8 b + p8 c + p8 d + p8 e) := by
  obtain ⟨a1, a2, a3, a4⟩ := d8 a ha
  obtain ⟨b1, b2, b3, b4⟩ := d8 b hb
  obtain ⟨c1, c2, c3, c4⟩ := d8 c hc
  obtain ⟨d1, d2, d3, d4⟩ := d8 d hd
  obtain ⟨e1, e2, e3, e4⟩ := d8 e he
  unfold popc
  rw [pA_N (j5_lt ha hb hc hd he), sA ha hb hc hd he, pB_N (j5_lt a1 b1 c1 d1 e1), sB a1 b1 c1 d1 e1, pC_N (j5_lt (by omega) (by omega) (by omega) (by omega) (by omega)), sC a2 b2 c2 d2 e2 b3 c3 d3 e3]
  show pcZ (pcD (pcD (pcD (lN (256 * (256 * (256 * (256 * (256 * 0 + p8 e) + p8 d) + p8 c) + p8 b) + p8 a)) 8) 16) 32) = _
  clear a1 a2 a3 b1 b2 b3 c1 c2 c3 d1 d2 d3 e1 e2 e3
  generalize p8 a = A at *
  generalize p8 b = B at *
  generalize p8 c = C at *
  generalize p8 d = D at *
  generalize p8 e = E at *
  rw [pD_N (by omega) (by decide), pD_N (by omega) (by decide), pD_N (by omega) (by decide), pZ_N]
  congr 1
  rw [show (256 * (256 * (256 * (256 * (256 * 0 + E) + D) + C) + B) + A) / 2 ^ 8 = (256 * (256 * (256 * E + D) + C) + B) by omega, show ((256 * (256 * (256 * (256 * (256 * 0 + E) + D) + C) + B) + A) + (256 * (256 * (256 * E + D) + C) + B)) / 2 ^ 16 = (65536 * E + 256 * (D + E) + (C + D)) by omega, show ((256 * (256 * (256 * (256 * (256 * 0 + E) + D) + C) + B) + A) + (256 * (256 * (256 * E + D) + C) + B) + (65536 * E + 256 * (D + E) + (C + D))) / 2 ^ 32 = E by omega]
  omega
theorem p8_b : ∀ a b c d e f g h : Bool, p8 (bt a + 2 * bt b + 4 * bt c + 8 * bt d + 16 * bt e + 32 * bt f + 64 * bt g + 128 * bt h) = bt a + bt b + bt c + bt d + bt e + bt f + bt g + bt h := by decide +kernel
theorem p8_4 (a b c d : Bool) : p8 (bt a + 2 * bt b + 4 * bt c + 8 * bt d) = bt a + bt b + bt c + bt d := p8_b a b c d false false false false
abbrev by8 (f : Nat → Bool) (k : Nat) : Nat := bt (f k) + 2 * bt (f (k + 1)) + 4 * bt (f (k + 2)) + 8 * bt (f (k + 3)) + 16 * bt (f (k + 4)) + 32 * bt (f (k + 5)) + 64 * bt (f (k + 6)) + 128 * bt (f (k + 7))
theorem by8_lt (f : Nat → Bool) (k : Nat) : by8 f k < 256 := by
  have h0 := bt_le (f k)
  have h1 := bt_le (f (k + 1))
  have h2 := bt_le (f (k + 2))
  have h3 := bt_le (f (k + 3))
  have h4 := bt_le (f (k + 4))
  have h5 := bt_le (f (k + 5))
  have h6 := bt_le (f (k + 6))
  have h7 := bt_le (f (k + 7))
  unfold by8
  omega
theorem bitN_5 (f : Nat → Bool) : bitN f 36 = j5 (by8 f 0) (by8 f 8) (by8 f 16) (by8 f 24) (bt (f 32) + 2 * bt (f 33) + 4 * bt (f 34) + 8 * bt (f 35)) := by
  simp only [bitN, j5, by8, Nat.reducePow, Nat.reduceAdd]
  omega
theorem popc_cnt (f : Nat → Bool) : popc (lN (bitN f 36)) = nI (cntN f 36) := by
  have h1 := bt_le (f 32)
  have h2 := bt_le (f 33)
  have h3 := bt_le (f 34)
  have h4 := bt_le (f 35)
  rw [bitN_5, popc_5 (by8_lt f 0) (by8_lt f 8) (by8_lt f 16) (by8_lt f 24) (by omega), p8_b, p8_b, p8_b, p8_b, p8_4]
  congr 1
  simp only [cntN, Nat.reduceAdd]
  omega
theorem pop_eq (f : Nat → Bool) : popc (phL f 36 0 0) = nI (hmM f 36 0 (-1)).1 := by rw [phL_36, popc_cnt, hmM_1, Nat.zero_add]
theorem iaL_cnt (f : Nat → Bool) : ∀ n j, iaL f n j (nI (cntN f j)) = nI (cntN f (j + n))
  | 0, _ => rfl
  | n + 1, j => by
    have e : nI (cntN f j) + bI (f j) = nI (cntN f (j + 1)) := by
      show _ = nI (cntN f j + bt (f j))
      rw [← nI_add]
      congr 1
      cases f j <;> rfl
    show iaL f n (j + 1) (nI (cntN f j) + bI (f j)) = _
    rw [e, iaL_cnt f n (j + 1), show j + 1 + n = j + (n + 1) by omega]
theorem isl_cnt {isl : Int64} (h : okI isl) : popc isl = iaL (xb isl) 36 0 (nI 0) := by
  rw [show iaL (xb isl) 36 0 (nI 0) = nI (cntN (xb isl) (0 + 36)) from iaL_cnt (xb isl) 36 0]
  conv => lhs; rw [h]
  exact popc_cnt _
/-! what is told of a needle, and of all -/
theorem tell_eq (kd hm : Nat → Nat) (ib : Nat → Bool) {br : Nat} (se : Nat) (sn sp sd : Nat → Nat) {i : Nat} (w : Int32) (hbr : br < 36) (hho : hm i < 36) : tellX kd hm ib br se sn sp sd i w = tellM kd hm ib br se sn sp sd i w := by
  unfold tellX tellM
  rw [few_eq ib hbr hho, pop_eq, lp_eq, look_eq]
theorem needle_eq {nc : Nat} (kd hm : Nat → Nat) (ib : Nat → Bool) {br : Nat} (se : Nat) (sn sp sd : Nat → Nat) (x w : Int32) (hnc : nc ≤ 4) (hbr : br < 36) (hhm : ∀ j, j < 4 → hm j < 36) : needleX nc kd hm ib br se sn sp sd x w = needleM nc kd hm ib br se sn sp sd x w := by
  unfold needleX needleM
  by_cases h : rng x nc = true
  · rw [if_pos h, if_pos h]
    obtain ⟨d, hd, rfl⟩ := rng_ex h (by omega)
    rw [show tn (nI d) = d from nI_clamp (by omega)]
    exact tell_eq kd hm ib se sn sp sd w hbr (hhm d (by omega))
  · rw [if_neg h, if_neg h]
theorem sayL_cg {f g : Nat → Int32} : ∀ (n j : Nat) (h : Int64), (∀ i, f i = g i) → sayL f n j h = sayL g n j h
  | 0, _, _, _ => rfl
  | n + 1, j, h, e => by
    unfold sayL
    rw [e j]
    exact sayL_cg n (j + 1) _ e
theorem dgL_cg {g g' : Nat → Int64 → Int64} : ∀ (n i : Nat) (h : Int64), (∀ j, i ≤ j → j < i + n → ∀ z, g j z = g' j z) → dgL g n i h = dgL g' n i h
  | 0, _, _, _ => rfl
  | n + 1, i, h, e => by
    unfold dgL
    rw [e i (by omega) (by omega)]
    exact dgL_cg n (i + 1) _ (fun j h1 h2 => e j (by omega) (by omega))
