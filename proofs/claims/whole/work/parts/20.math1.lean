/-! the page: both readings are one -/
theorem fstL_pre {f : Nat → Bool} : ∀ (n j a : Nat), j ≤ a → a < fstL f n j → f a = false
  | 0, j, a, h1, h2 => absurd h2 (by show ¬ a < j; omega)
  | n + 1, j, a, h1, h2 => by
    unfold fstL at h2
    by_cases hf : f j = true
    · rw [if_pos hf] at h2
      omega
    · rw [if_neg hf] at h2
      by_cases hj : a = j
      · rw [hj]
        exact Bool.eq_false_iff.mpr hf
      · exact fstL_pre n (j + 1) a (by omega) h2
theorem fstL_at {f : Nat → Bool} : ∀ (n j : Nat), fstL f n j < j + n → f (fstL f n j) = true
  | 0, j, h => absurd h (by show ¬ j < j + 0; omega)
  | n + 1, j, h => by
    unfold fstL at h ⊢
    by_cases hf : f j = true
    · rw [if_pos hf]
      exact hf
    · rw [if_neg hf] at h ⊢
      exact fstL_at n (j + 1) (by omega)
theorem hE_pre {pl : Nat → Nat} {ps a : Nat} (h : a < hE pl ps) : ¬ pl a = 59 := by
  have h1 := fstL_pre (f := fun j => decide (pl j = 59)) ps 0 a (Nat.zero_le a) h
  simpa using h1
theorem hE_at {pl : Nat → Nat} {ps : Nat} (h : hE pl ps < ps) : pl (hE pl ps) = 59 := by
  have h1 : decide (pl (hE pl ps) = 59) = true := fstL_at (f := fun j => decide (pl j = 59)) ps 0 (by show hE pl ps < 0 + ps; omega)
  simpa using h1
theorem kindI_59 : kindI 59 = -1 := by decide
theorem dig_59 : dig 59 = false := by decide
theorem fitH_59 {pl : Nat → Nat} {a : Nat} (h : pl a = 59) (hf : fitH pl a = true) : a % 4 = 3 := by
  unfold fitH at hf
  rw [h] at hf
  by_cases h0 : a % 4 = 0
  · rw [if_pos h0, kindI_59] at hf
    simp at hf
  · rw [if_neg h0] at hf
    by_cases h3 : a % 4 = 3
    · exact h3
    · rw [if_neg h3, dig_59] at hf
      cases hf
theorem fm_B (pl : Nat → Nat) (he : Nat) : ∀ (n k : Nat), he < k → fmL pl n k (some he) = (fstL (fun a => !fitX pl he a) n k, some he)
  | 0, _, _ => rfl
  | n + 1, k, h => by
    have e : fitX pl he k = fitT pl he k := if_pos h
    simp only [fmL, fstL, gdB, gdE, e]
    by_cases hf : fitT pl he k = true
    · simp only [hf, Bool.not_true, Bool.false_eq_true, ↓reduceIte]
      exact fm_B pl he n (k + 1) (by omega)
    · have hf' := Bool.eq_false_iff.mpr hf
      simp only [hf', Bool.not_false, Bool.false_eq_true, ↓reduceIte]
theorem fm_A (pl : Nat → Nat) (ps he : Nat) (h59 : ∀ a, a < he → ¬ pl a = 59) (hat : he < ps → pl he = 59) : ∀ (n k : Nat), k + n = ps → k ≤ he → he ≤ ps →
    (fmL pl n k none).1 = fstL (fun a => !fitX pl he a) n k ∧ (fstL (fun a => !fitX pl he a) n k = ps → (fmL pl n k none).2 = if he < ps then some he else none)
  | 0, k, h1, h2, h3 => ⟨rfl, fun _ => by show none = _; rw [if_neg (by omega)]⟩
  | n + 1, k, h1, h2, h3 => by
    have e : fitX pl he k = fitH pl k := if_neg (by omega)
    simp only [fmL, fstL, gdB, e]
    by_cases hf : fitH pl k = true
    case neg =>
      have hf' := Bool.eq_false_iff.mpr hf
      simp only [hf', Bool.not_false, Bool.false_eq_true, ↓reduceIte]
      refine ⟨trivial, fun h => ?_⟩
      omega
    case pos =>
      simp only [hf, Bool.not_true, Bool.false_eq_true, ↓reduceIte]
      by_cases hk : k = he
      · have hk2 := hat (by omega)
        have h4 := fitH_59 (by rw [hk]; exact hk2) hf
        have eE : gdE pl none k = some he := by
          unfold gdE
          rw [if_pos ⟨h4, by rw [hk]; exact hk2⟩, hk]
        rw [eE, fm_B pl he n (k + 1) (by omega)]
        exact ⟨rfl, fun _ => by rw [if_pos (by omega)]⟩
      · have eE : gdE pl none k = none := by
          unfold gdE
          rw [if_neg (fun h => h59 k (by omega) h.2)]
        rw [eE]
        exact fm_A pl ps he h59 hat n (k + 1) (by omega) (by omega) h3
theorem fm_fw (pl : Nat → Nat) (ps : Nat) : (fmL pl ps 0 none).1 = fwN pl ps := (fm_A pl ps (hE pl ps) (fun _ h => hE_pre h) (fun h => hE_at h) ps 0 (by omega) (Nat.zero_le _) (hE_le pl ps)).1
theorem fm_en {pl : Nat → Nat} {ps : Nat} (h : fwN pl ps = ps) : (fmL pl ps 0 none).2 = if hE pl ps < ps then some (hE pl ps) else none := (fm_A pl ps (hE pl ps) (fun _ h => hE_pre h) (fun h => hE_at h) ps 0 (by omega) (Nat.zero_le _) (hE_le pl ps)).2 h
def kN (x : Nat) : Nat := if 110 = x then 0 else if 115 = x then 1 else if 108 = x then 2 else if 116 = x then 3 else 4
theorem kN_lt (x : Nat) : kN x < 5 := by
  unfold kN
  repeat' split
  all_goals omega
theorem kN_eq {x : Nat} (h : ¬ kindI x = -1) : kindI x = nI (kN x) := by
  unfold kindI kN at *
  by_cases h1 : 110 = x
  · rw [if_pos h1, if_pos h1]
  · rw [if_neg h1] at h ⊢
    rw [if_neg h1]
    by_cases h2 : 115 = x
    · rw [if_pos h2, if_pos h2]
    · rw [if_neg h2] at h ⊢
      rw [if_neg h2]
      by_cases h3 : 108 = x
      · rw [if_pos h3, if_pos h3]
      · rw [if_neg h3] at h ⊢
        rw [if_neg h3]
        by_cases h4 : 116 = x
        · rw [if_pos h4, if_pos h4]
        · rw [if_neg h4] at h ⊢
          rw [if_neg h4]
          by_cases h5 : 111 = x
          · rw [if_pos h5]
          · rw [if_neg h5] at h
            exact absurd rfl h
/-- a page that is a sea: its shape -/
theorem whN_ok {pl : Nat → Nat} {ps : Nat} (h : whN pl ps = true) : hE pl ps % 4 = 3 ∧ hE pl ps ≤ 15 ∧ hE pl ps + 3 ≤ ps ∧ (ps - hE pl ps) % 2 = 1 ∧ ps - hE pl ps ≤ 11 ∧ (∀ a, a < hE pl ps → a % 4 = 0 → ¬ kindI (pl a) = -1) ∧ (∀ a, a < hE pl ps → (a % 4 = 1 ∨ a % 4 = 2) → dig (pl a) = true) ∧ ∀ a, hE pl ps < a → a < ps → dig (pl a) = true := by
  unfold whN at h
  simp at h
  obtain ⟨h1, h2, h3⟩ := h
  have hfit : ∀ a, a < ps → fitX pl (hE pl ps) a = true := by
    intro a ha
    have h4 := fstL_pre (f := fun a => !fitX pl (hE pl ps) a) ps 0 a (Nat.zero_le a) (by show a < fwN pl ps; omega)
    simpa using h4
  have hat := hE_at (pl := pl) (ps := ps) (by omega)
  have hH : ∀ a, a ≤ hE pl ps → fitH pl a = true := by
    intro a ha
    have h4 := hfit a (by omega)
    unfold fitX at h4
    rw [if_neg (by omega)] at h4
    exact h4
  have hT : ∀ a, hE pl ps < a → a < ps → fitT pl (hE pl ps) a = true := by
    intro a ha hb
    have h4 := hfit a hb
    unfold fitX at h4
    rw [if_pos ha] at h4
    exact h4
  have h43 := fitH_59 hat (hH _ (Nat.le_refl _))
  refine ⟨h43, ?_, h2, by omega, ?_, ?_, ?_, ?_⟩
  · rcases Nat.lt_or_ge 15 (hE pl ps) with hc | hc
    · have h5 := hH 15 (by omega)
      have h6 := hE_pre (pl := pl) (ps := ps) hc
      unfold fitH at h5
      simp [h6] at h5
    · exact hc
  · have h5 := hT (ps - 1) (by omega) (by omega)
    unfold fitT at h5
    simp at h5
    omega
  · intro a ha h0
    have h5 := hH a (by omega)
    unfold fitH at h5
    rw [if_pos h0] at h5
    simpa using h5
  · intro a ha h0
    have h5 := hH a (by omega)
    unfold fitH at h5
    rw [if_neg (by omega), if_neg (by omega)] at h5
    exact h5
  · intro a ha hb
    have h5 := hT a ha hb
    unfold fitT at h5
    simp at h5
    exact h5.1
theorem dig_b {x : Nat} (h : dig x = true) : 48 ≤ x ∧ x < 54 := by
  unfold dig at h
  simpa using h
theorem plcN_lt {pl : Nat → Nat} {a : Nat} (h1 : dig (pl a) = true) (h2 : dig (pl (a + 1)) = true) : plcN pl a < 36 := by
  have := dig_b h1
  have := dig_b h2
  unfold plcN
  omega
/-- kinds and homes as they are read -/
def kdL (pl : Nat → Nat) (kd : Nat → Nat) (n : Nat) : Nat → Nat := fun j => if j < n then kN (pl (4 * j)) else kd j
def hmL (pl : Nat → Nat) (hm : Nat → Nat) (n : Nat) : Nat → Nat := fun j => if j < n then plcN pl (4 * j + 1) else hm j
theorem kdL_0 (pl kd : Nat → Nat) : kdL pl kd 0 = kd := by
  funext j
  unfold kdL
  rw [if_neg (by omega)]
theorem hmL_0 (pl hm : Nat → Nat) : hmL pl hm 0 = hm := by
  funext j
  unfold hmL
  rw [if_neg (by omega)]
theorem kdL_up (pl kd : Nat → Nat) (n : Nat) : va_up (kdL pl kd n) n (kN (pl (4 * n))) = kdL pl kd (n + 1) := by
  funext j
  unfold va_up kdL
  by_cases h : j = n
  · rw [if_pos h, if_pos (show j < n + 1 by omega), h]
  · rw [if_neg h]
    by_cases h2 : j < n
    · rw [if_pos h2, if_pos (show j < n + 1 by omega)]
    · rw [if_neg h2, if_neg (show ¬ j < n + 1 by omega)]
theorem hmL_up (pl hm : Nat → Nat) (n : Nat) : va_up (hmL pl hm n) n (plcN pl (4 * n + 1)) = hmL pl hm (n + 1) := by
  funext j
  unfold va_up hmL
  by_cases h : j = n
  · rw [if_pos h, if_pos (show j < n + 1 by omega), h]
  · rw [if_neg h]
    by_cases h2 : j < n
    · rw [if_pos h2, if_pos (show j < n + 1 by omega)]
    · rw [if_neg h2, if_neg (show ¬ j < n + 1 by omega)]
theorem rwN_up0 (kd hm : Nat → Nat) (k v : Nat) : va_up (rwN kd hm) (2 * k) v = rwN (va_up kd k v) hm := by
  funext j
  unfold va_up rwN
  by_cases h : j = 2 * k
  · subst h
    rw [if_pos rfl, if_pos (by omega)]
    show v = if 2 * k / 2 = k then v else kd (2 * k / 2)
    rw [if_pos (by omega)]
  · rw [if_neg h]
    by_cases h2 : j % 2 = 0
    · rw [if_pos h2, if_pos h2]
      show kd (j / 2) = if j / 2 = k then v else kd (j / 2)
      rw [if_neg (by omega)]
    · rw [if_neg h2, if_neg h2]
/-- islands as they are read, by marks, by bits -/
def isT (pl : Nat → Nat) (b : Nat) : Nat → Nat → Bool
  | 0 => fun _ => false
  | n + 1 => va_up (isT pl b n) (plcN pl (b + 2 * n)) true
def isI (pl : Nat → Nat) (b : Nat) : Nat → Int64
  | 0 => 0
  | n + 1 => setI (isI pl b n) (plcN pl (b + 2 * n)) (nI 1)
