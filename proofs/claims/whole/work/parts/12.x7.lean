abbrev tn (x : Int32) : Nat := x.toNatClampNeg
def okC (x : Int32) : Bool := !decide (x < nI 1) && decide (x ≤ nI 126)
theorem okC_ex {x : Int32} (h : okC x = true) : ∃ d, 1 ≤ d ∧ d ≤ 126 ∧ x = nI d := by
  unfold okC at h
  simp at h
  obtain ⟨h1, h2⟩ := h
  rw [Int32.le_iff_toInt_le, nI_toInt (by decide)] at h1 h2
  obtain ⟨j, hj, rfl⟩ := nI_of (x := x) (by rw [Int32.lt_iff_toInt_lt]; show ¬ x.toInt < 0; omega)
  rw [nI_toInt hj] at h1 h2
  exact ⟨j, by omega, by omega, rfl⟩
theorem i2c_s : ∀ x, x < 127 → ((nI x).toUInt32 % 65536).toInt32 = nI x := by decide +kernel
def letterR (ps : Nat) (x : Int32) : Int32 := if okC x = true then (if ps < 28 then nI (ps + 1) else -104) else -102
def okL (ps : Nat) (x : Int32) : Bool := okC x && decide (ps < 28)
def pointsR (nc : Nat) (kd hm : Nat → Nat) (x y : Int32) : Int32 := if (rng x nc && rng y 36) = true then nI (pointN (kd (tn x)) (hm (tn x)) (tn y)) else -101
def swingR (nc : Nat) (hm : Nat → Nat) (x y : Int32) : Int32 := if (rng x nc && rng y 36) = true then nI (hm (tn x)) else -101
def islandR (nc : Nat) (ib : Nat → Bool) (x : Int32) : Int32 := if (!decide (nc = 0) && rng x 36) = true then bI (ib (tn x)) else -101
def stepR (nc : Nat) (ib : Nat → Bool) (br : Nat) (x : Int32) : Int32 := if rng x 9 = true then (if nc = 0 then -103 else nI (stepN ib br (tn x))) else -102
def okT (nc : Nat) (x : Int32) : Bool := rng x 9 && !decide (nc = 0)
def followR (nc : Nat) (kd hm : Nat → Nat) (ib : Nat → Bool) (br : Nat) (x : Int32) : Int32 := if rng x nc = true then nI (stepN ib br (pointN (kd (tn x)) (hm (tn x)) br)) else -101
def okE (nc se : Nat) (x y z : Int32) : Bool := (rng x nc && rng y 36) && (rng z 9 && decide (se < 6))
def seeR (nc se : Nat) (x y z : Int32) : Int32 := if (rng x nc && rng y 36) = true then (if rng z 9 = true then (if se < 6 then nI (se + 1) else -104) else -102) else -101
def countR (nc br : Nat) (cn st so dn : Int32) (se ps : Nat) (sr w : Int32) : Int32 := if w = nI 0 then nI nc else if w = nI 1 then nI br else if w = nI 2 then cn else if w = nI 3 then st else if w = nI 4 then so else if w = nI 5 then dn else if w = nI 6 then nI se else if w = nI 7 then nI ps else if w = nI 8 then sr else -102
set_option maxHeartbeats 4000000 in
set_option maxRecDepth 100000 in
theorem kX8_letter (l : Launch) (dC : Nat → ClassId) (dI : Nat → Nat → Nat) (ca : Nat → ClassId) (sz : Nat) (x1 : Int32) (q : Nat → Nat) (nc : Nat) (sr : Int32) (ik : Int32) (ps : Nat) (pl : Nat → Nat) (hps : ps ≤ 28) : Met l yX8_letter (Cond.code yX8_letter cX8_letter 2 (some .int) :: gT) (rk 2) (EFp (dC, dI) [(q 0, .inr (8, [.ref (q 1), .ref (q 3), .ref (q 4), .ref (q 9), .ref (q 14), .ref (q 15), .ref (q 16), .ref (q 17), .int (nI nc), .int sr, .int ik])), (q 1, .inr (2, [.ref (q 2), .int (nI ps)])), (q 2, .inl (ca 0, 28, .inl (fun zj => nI (pl zj))))] (TY ca) sz [Value.ref (q 0), Value.int x1]) (va_Qi (fun (r : Int32) (_ : Unit) => r = letterR ps x1) (EFb (dC, dI) (fun (_ : Unit) => [(q 0, .inr (8, [.ref (q 1), .ref (q 3), .ref (q 4), .ref (q 9), .ref (q 14), .ref (q 15), .ref (q 16), .ref (q 17), .int (nI nc), .int sr, .int ik])), (q 1, .inr (2, [.ref (q 2), .int (nI (if okL ps x1 = true then ps + 1 else ps))])), (q 2, .inl (ca 0, 28, .inl (fun zj => nI ((if okL ps x1 = true then va_up pl ps (tn x1) else pl) zj))))]) (TY ca) (va_A [(q 0, .inr (8, [.ref (q 1), .ref (q 3), .ref (q 4), .ref (q 9), .ref (q 14), .ref (q 15), .ref (q 16), .ref (q 17), .int (nI nc), .int sr, .int ik])), (q 1, .inr (2, [.ref (q 2), .int (nI ps)])), (q 2, .inl (ca 0, 28, .inl (fun zj => nI (pl zj))))] sz)) (va_A [(q 0, .inr (8, [.ref (q 1), .ref (q 3), .ref (q 4), .ref (q 9), .ref (q 14), .ref (q 15), .ref (q 16), .ref (q 17), .int (nI nc), .int sr, .int ik])), (q 1, .inr (2, [.ref (q 2), .int (nI ps)])), (q 2, .inl (ca 0, 28, .inl (fun zj => nI (pl zj))))] sz)) 0 0 (va_A [(q 0, .inr (8, [.ref (q 1), .ref (q 3), .ref (q 4), .ref (q 9), .ref (q 14), .ref (q 15), .ref (q 16), .ref (q 17), .int (nI nc), .int sr, .int ik])), (q 1, .inr (2, [.ref (q 2), .int (nI ps)])), (q 2, .inl (ca 0, 28, .inl (fun zj => nI (pl zj))))] sz) := by
  refine Met.ofW (cc := cX8_letter) (maxL := 2) (ret := (some .int)) (by decide) rfl ?_
  intro p e s m args below meth c s₁ B hml hv
  obtain ⟨rfl, hsz, hP, hK, hD0⟩ := hv
  have hx := B.exec
  have hb := B.bytes
  have hr := B.returns
  have hts := atoms_spec (ws := (Cond.code yX8_letter cX8_letter 2 (some .int) :: gT)) B.pre
  have htl : ∀ w ∈ gT, w.before _ s = true := fun w h => hts w (List.mem_cons_of_mem _ h)
  have hown : s.vm.findClass RX8 = some m.cls := findClass_of_methodNamed B.named
  have hlocks := B.notSynchronized
  subst hsz
  have hD := hD0.self (sz := s.heap.size)
  generalize hAe : va_A [(q 0, .inr (8, [.ref (q 1), .ref (q 3), .ref (q 4), .ref (q 9), .ref (q 14), .ref (q 15), .ref (q 16), .ref (q 17), .int (nI nc), .int sr, .int ik])), (q 1, .inr (2, [.ref (q 2), .int (nI ps)])), (q 2, .inl (ca 0, 28, .inl (fun zj => nI (pl zj))))] s.heap.size = A at hD ⊢
  have hA : ∀ q : Nat, s.heap.size ≤ q → A q := fun q h => by rw [← hAe]; exact Or.inr h
  have hS : va_S A s.heap s.heap [] := va_S.rf
  have hl := lv_entry ([Value.ref (q 0), Value.int x1]) (n := 2) (Nat.le_of_ble_eq_true rfl)
  rw [lg_entry_eq]
  generalize (lg_sl ([Value.ref (q 0), Value.int x1]) ++ List.replicate (2 - (lg_sl ([Value.ref (q 0), Value.int x1])).length) Slot.unset).toArray = ls at hl ⊢
  have hl : lv_has ls 2 [(0, .ref (q 0)), (1, .int x1)] := hl
  refine lv_iload_n hx hb dX8_letter_0 rfl (lv_at hl 1 rfl) ?_
  refine lv_iconst (v := nI 1) hx hb dX8_letter_1 (by decide) ?_
  refine lv_icmp_lt (tgt := 11) hx hb dX8_letter_2 (by decide) (fun c_1 => ?_) (fun c_1 => ?_)
  · refine lv_bipush (v := (-102)) hx hb dX8_letter_11 (by decide) ?_
    have hP9 := hP.sub (ws' := [(q 0, .inr (8, [.ref (q 1), .ref (q 3), .ref (q 4), .ref (q 9), .ref (q 14), .ref (q 15), .ref (q 16), .ref (q 17), .int (nI nc), .int sr, .int ik])), (q 1, .inr (2, [.ref (q 2), .int (nI ps)])), (q 2, .inl (ca 0, 28, .inl (fun zj => nI (pl zj))))]) [0, 1, 2] rfl
    have hD9 := hD.sub (ws' := [(q 0, .inr (8, [.ref (q 1), .ref (q 3), .ref (q 4), .ref (q 9), .ref (q 14), .ref (q 15), .ref (q 16), .ref (q 17), .int (nI nc), .int sr, .int ik])), (q 1, .inr (2, [.ref (q 2), .int (nI ps)])), (q 2, .inl (ca 0, 28, .inl (fun zj => nI (pl zj))))]) [0, 1, 2] (by decide) rfl
    have hk : okL ps x1 = false := by simp [okL, okC, c_1]
    exact W.iret (v := (-102)) hx hb hr (fun t ht hW => ⟨⟨(-102), (), rfl, by show _ = _; simp [letterR, okC, c_1], by rw [ht]; simp only [hk, Bool.false_eq_true, ↓reduceIte]; exact hP9, va_K.moved hW.alike hK, (by simp only [hk, Bool.false_eq_true, ↓reduceIte]; exact hD9)⟩, hS.F ht⟩) hS.2.2 dX8_letter_13
  · refine lv_iload_n hx hb dX8_letter_5 rfl (lv_at hl 1 rfl) ?_
    refine lv_bipush (v := nI 126) hx hb dX8_letter_6 (by decide) ?_
    refine lv_icmp_le (tgt := 14) hx hb dX8_letter_8 (by decide) (fun c_2 => ?_) (fun c_2 => ?_)
    · refine lv_aload_n hx hb dX8_letter_14 rfl (lv_at hl 0 rfl) ?_
      refine va_get (D := (dC, dI)) (ci := 8) (v := .ref (q 1)) (C := RX8) (T := TX8) (N := 11) hx hb htl iX8 hown hK hP 0 rfl rfl 0 (by decide) (htl _ wd_111) (fun _ h9 => h9) rfl dX8_letter_15 ?_
      refine va_get (D := (dC, dI)) (ci := 2) (v := .int (nI ps)) (C := RX2) (T := TX2) (N := 2) hx hb htl iX2 hown hK hP 1 rfl rfl 1 (by decide) (htl _ wd_37) (fun _ h9 => h9) rfl dX8_letter_18 ?_
      refine lv_bipush (v := nI 28) hx hb dX8_letter_21 (by decide) ?_
      refine lv_icmp_lt (tgt := 29) hx hb dX8_letter_23 (by decide) (fun c_3 => ?_) (fun c_3 => ?_)
      · rw [nI_ltI (by omega) (by decide)] at c_3
        have hok : okC x1 = true := by simp [okC, c_1, c_2]
        obtain ⟨d, hd1, hd2, rfl⟩ := okC_ex hok
        refine lv_aload_n hx hb dX8_letter_29 rfl (lv_at hl 0 rfl) ?_
        refine va_get (D := (dC, dI)) (ci := 8) (v := .ref (q 1)) (C := RX8) (T := TX8) (N := 11) hx hb htl iX8 hown hK hP 0 rfl rfl 0 (by decide) (htl _ wd_111) (fun _ h9 => h9) rfl dX8_letter_30 ?_
        refine lv_iload_n hx hb dX8_letter_33 rfl (lv_at hl 1 rfl) ?_
        refine lv_i2c (v := ((nI d).toUInt32 % 65536).toInt32) hx hb dX8_letter_34 rfl ?_
        refine lv_ri (y := nI d) (i2c_s d (by omega)) ?_
        refine efVv (As := [Value.int (nI d)]) (rest := []) (wr := [(q 0, .inr (8, [.ref (q 1), .ref (q 3), .ref (q 4), .ref (q 9), .ref (q 14), .ref (q 15), .ref (q 16), .ref (q 17), .int (nI nc), .int sr, .int ik]))]) (kX2_write l dC dI ca _ d q ps pl (by omega) (by omega)) ⟨hx, hb, hml, hown, htl⟩ (cVg (C := RX2) 1 htl wd_149 wd_150 wd_151 wd_2 wd_152 rfl rfl (by decide +kernel) ⟨Nat.le_of_ble_eq_true rfl, Nat.le_of_ble_eq_true rfl⟩) hP hD hS hA hK [1, 2] [0] rfl rfl (by decide) (by decide) (by decide) (va_recv hK hP (ci := 2) (q0 := 1) rfl rfl) rfl hl.1 rfl (Nat.le_of_ble_eq_true rfl) dX8_letter_35 ⟨Nat.zero_le _, Nat.zero_le _⟩ (fun u H locs hw_35 hP hD hS => ?_)
        have hP : va_P (dC, dI) vwCl [(q 0, .inr (8, [.ref (q 1), .ref (q 3), .ref (q 4), .ref (q 9), .ref (q 14), .ref (q 15), .ref (q 16), .ref (q 17), .int (nI nc), .int sr, .int ik])), (q 1, .inr (2, [.ref (q 2), .int (nI (ps + 1))])), (q 2, .inl (ca 0, 28, .inl (fun zj => nI (va_up pl ps d zj))))] H := hP
        have hD : va_D A [(q 0, .inr (8, [.ref (q 1), .ref (q 3), .ref (q 4), .ref (q 9), .ref (q 14), .ref (q 15), .ref (q 16), .ref (q 17), .int (nI nc), .int sr, .int ik])), (q 1, .inr (2, [.ref (q 2), .int (nI (ps + 1))])), (q 2, .inl (ca 0, 28, .inl (fun zj => nI (va_up pl ps d zj))))] := hD
        refine lv_aload_n hx hb dX8_letter_38 rfl (lv_at hl 0 rfl) ?_
        refine va_get (D := (dC, dI)) (ci := 8) (v := .ref (q 1)) (C := RX8) (T := TX8) (N := 11) hx hb htl iX8 hown hK hP 0 rfl rfl 0 (by decide) (htl _ wd_111) (fun _ h9 => h9) rfl dX8_letter_39 ?_
        refine va_get (D := (dC, dI)) (ci := 2) (v := .int (nI (ps + 1))) (C := RX2) (T := TX2) (N := 2) hx hb htl iX2 hown hK hP 1 rfl rfl 1 (by decide) (htl _ wd_37) (fun _ h9 => h9) rfl dX8_letter_42 ?_
        have hP9 := hP.sub (ws' := [(q 0, .inr (8, [.ref (q 1), .ref (q 3), .ref (q 4), .ref (q 9), .ref (q 14), .ref (q 15), .ref (q 16), .ref (q 17), .int (nI nc), .int sr, .int ik])), (q 1, .inr (2, [.ref (q 2), .int (nI (ps + 1))])), (q 2, .inl (ca 0, 28, .inl (fun zj => nI (va_up pl ps d zj))))]) [0, 1, 2] rfl
        have hD9 := hD.sub (ws' := [(q 0, .inr (8, [.ref (q 1), .ref (q 3), .ref (q 4), .ref (q 9), .ref (q 14), .ref (q 15), .ref (q 16), .ref (q 17), .int (nI nc), .int sr, .int ik])), (q 1, .inr (2, [.ref (q 2), .int (nI (ps + 1))])), (q 2, .inl (ca 0, 28, .inl (fun zj => nI (va_up pl ps d zj))))]) [0, 1, 2] (by decide) rfl
        have hk : okL ps (nI d) = true := by simp [okL, hok, c_3]
        exact W.iret (v := nI (ps + 1)) hx hb hr (fun t ht hW => ⟨⟨nI (ps + 1), (), rfl, by show _ = _; simp [letterR, hok, c_3], by rw [ht]; simp only [hk, ↓reduceIte, nI_clamp (show d < 2 ^ 31 by omega)]; exact hP9, va_K.moved hW.alike hK, (by simp only [hk, ↓reduceIte, nI_clamp (show d < 2 ^ 31 by omega)]; exact hD9)⟩, hS.F ht⟩) hS.2.2 dX8_letter_45
      · rw [nI_ltI (by omega) (by decide)] at c_3
        refine lv_bipush (v := (-104)) hx hb dX8_letter_26 (by decide) ?_
        have hP9 := hP.sub (ws' := [(q 0, .inr (8, [.ref (q 1), .ref (q 3), .ref (q 4), .ref (q 9), .ref (q 14), .ref (q 15), .ref (q 16), .ref (q 17), .int (nI nc), .int sr, .int ik])), (q 1, .inr (2, [.ref (q 2), .int (nI ps)])), (q 2, .inl (ca 0, 28, .inl (fun zj => nI (pl zj))))]) [0, 1, 2] rfl
        have hD9 := hD.sub (ws' := [(q 0, .inr (8, [.ref (q 1), .ref (q 3), .ref (q 4), .ref (q 9), .ref (q 14), .ref (q 15), .ref (q 16), .ref (q 17), .int (nI nc), .int sr, .int ik])), (q 1, .inr (2, [.ref (q 2), .int (nI ps)])), (q 2, .inl (ca 0, 28, .inl (fun zj => nI (pl zj))))]) [0, 1, 2] (by decide) rfl
        have hk : okL ps x1 = false := by simp [okL, c_3]
        exact W.iret (v := (-104)) hx hb hr (fun t ht hW => ⟨⟨(-104), (), rfl, by show _ = _; simp [letterR, okC, c_1, c_2, c_3], by rw [ht]; simp only [hk, Bool.false_eq_true, ↓reduceIte]; exact hP9, va_K.moved hW.alike hK, (by simp only [hk, Bool.false_eq_true, ↓reduceIte]; exact hD9)⟩, hS.F ht⟩) hS.2.2 dX8_letter_28
    · refine lv_bipush (v := (-102)) hx hb dX8_letter_11 (by decide) ?_
      have hP9 := hP.sub (ws' := [(q 0, .inr (8, [.ref (q 1), .ref (q 3), .ref (q 4), .ref (q 9), .ref (q 14), .ref (q 15), .ref (q 16), .ref (q 17), .int (nI nc), .int sr, .int ik])), (q 1, .inr (2, [.ref (q 2), .int (nI ps)])), (q 2, .inl (ca 0, 28, .inl (fun zj => nI (pl zj))))]) [0, 1, 2] rfl
      have hD9 := hD.sub (ws' := [(q 0, .inr (8, [.ref (q 1), .ref (q 3), .ref (q 4), .ref (q 9), .ref (q 14), .ref (q 15), .ref (q 16), .ref (q 17), .int (nI nc), .int sr, .int ik])), (q 1, .inr (2, [.ref (q 2), .int (nI ps)])), (q 2, .inl (ca 0, 28, .inl (fun zj => nI (pl zj))))]) [0, 1, 2] (by decide) rfl
      have hk : okL ps x1 = false := by simp [okL, okC, c_1, c_2]
      exact W.iret (v := (-102)) hx hb hr (fun t ht hW => ⟨⟨(-102), (), rfl, by show _ = _; simp [letterR, okC, c_1, c_2], by rw [ht]; simp only [hk, Bool.false_eq_true, ↓reduceIte]; exact hP9, va_K.moved hW.alike hK, (by simp only [hk, Bool.false_eq_true, ↓reduceIte]; exact hD9)⟩, hS.F ht⟩) hS.2.2 dX8_letter_13
set_option maxHeartbeats 4000000 in
set_option maxRecDepth 100000 in
theorem kX8_blank (l : Launch) (dC : Nat → ClassId) (dI : Nat → Nat → Nat) (ca : Nat → ClassId) (sz : Nat) (q : Nat → Nat) (nc : Nat) (sr : Int32) (ik : Int32) (ps : Nat) : Met l yX8_blank (Cond.code yX8_blank cX8_blank 2 (some .int) :: gT) (rk 1) (EFp (dC, dI) [(q 0, .inr (8, [.ref (q 1), .ref (q 3), .ref (q 4), .ref (q 9), .ref (q 14), .ref (q 15), .ref (q 16), .ref (q 17), .int (nI nc), .int sr, .int ik])), (q 1, .inr (2, [.ref (q 2), .int (nI ps)]))] (TY ca) sz [Value.ref (q 0)]) (va_Qi (fun (r : Int32) (_ : Unit) => r = nI ps) (EFb (dC, dI) (fun (_ : Unit) => [(q 0, .inr (8, [.ref (q 1), .ref (q 3), .ref (q 4), .ref (q 9), .ref (q 14), .ref (q 15), .ref (q 16), .ref (q 17), .int (nI nc), .int sr, .int ik])), (q 1, .inr (2, [.ref (q 2), .int (nI 0)]))]) (TY ca) (va_A [(q 0, .inr (8, [.ref (q 1), .ref (q 3), .ref (q 4), .ref (q 9), .ref (q 14), .ref (q 15), .ref (q 16), .ref (q 17), .int (nI nc), .int sr, .int ik])), (q 1, .inr (2, [.ref (q 2), .int (nI ps)]))] sz)) (va_A [(q 0, .inr (8, [.ref (q 1), .ref (q 3), .ref (q 4), .ref (q 9), .ref (q 14), .ref (q 15), .ref (q 16), .ref (q 17), .int (nI nc), .int sr, .int ik])), (q 1, .inr (2, [.ref (q 2), .int (nI ps)]))] sz)) 0 0 (va_A [(q 0, .inr (8, [.ref (q 1), .ref (q 3), .ref (q 4), .ref (q 9), .ref (q 14), .ref (q 15), .ref (q 16), .ref (q 17), .int (nI nc), .int sr, .int ik])), (q 1, .inr (2, [.ref (q 2), .int (nI ps)]))] sz) := by
  refine Met.ofW (cc := cX8_blank) (maxL := 2) (ret := (some .int)) (by decide) rfl ?_
  intro p e s m args below meth c s₁ B hml hv
  obtain ⟨rfl, hsz, hP, hK, hD0⟩ := hv
  have hx := B.exec
  have hb := B.bytes
  have hr := B.returns
  have hts := atoms_spec (ws := (Cond.code yX8_blank cX8_blank 2 (some .int) :: gT)) B.pre
  have htl : ∀ w ∈ gT, w.before _ s = true := fun w h => hts w (List.mem_cons_of_mem _ h)
  have hown : s.vm.findClass RX8 = some m.cls := findClass_of_methodNamed B.named
  have hlocks := B.notSynchronized
  subst hsz
  have hD := hD0.self (sz := s.heap.size)
  generalize hAe : va_A [(q 0, .inr (8, [.ref (q 1), .ref (q 3), .ref (q 4), .ref (q 9), .ref (q 14), .ref (q 15), .ref (q 16), .ref (q 17), .int (nI nc), .int sr, .int ik])), (q 1, .inr (2, [.ref (q 2), .int (nI ps)]))] s.heap.size = A at hD ⊢
  have hA : ∀ q : Nat, s.heap.size ≤ q → A q := fun q h => by rw [← hAe]; exact Or.inr h
  have hS : va_S A s.heap s.heap [] := va_S.rf
  have hl := lv_entry ([Value.ref (q 0)]) (n := 2) (Nat.le_of_ble_eq_true rfl)
  rw [lg_entry_eq]
  generalize (lg_sl ([Value.ref (q 0)]) ++ List.replicate (2 - (lg_sl ([Value.ref (q 0)])).length) Slot.unset).toArray = ls at hl ⊢
  have hl : lv_has ls 2 [(0, .ref (q 0))] := hl
  refine lv_aload_n hx hb dX8_blank_0 rfl (lv_at hl 0 rfl) ?_
  refine va_get (D := (dC, dI)) (ci := 8) (v := .ref (q 1)) (C := RX8) (T := TX8) (N := 11) hx hb htl iX8 hown hK hP 0 rfl rfl 0 (by decide) (htl _ wd_111) (fun _ h9 => h9) rfl dX8_blank_1 ?_
  refine va_get (D := (dC, dI)) (ci := 2) (v := .int (nI ps)) (C := RX2) (T := TX2) (N := 2) hx hb htl iX2 hown hK hP 1 rfl rfl 1 (by decide) (htl _ wd_37) (fun _ h9 => h9) rfl dX8_blank_4 ?_
  refine lv_istore_n (lv' := [(1, .int (nI ps)), (0, .ref (q 0))]) hx hb dX8_blank_7 rfl hl (by decide) rfl (fun ls hl => ?_)
  refine lv_aload_n hx hb dX8_blank_8 rfl (lv_at hl 1 rfl) ?_
  refine va_get (D := (dC, dI)) (ci := 8) (v := .ref (q 1)) (C := RX8) (T := TX8) (N := 11) hx hb htl iX8 hown hK hP 0 rfl rfl 0 (by decide) (htl _ wd_111) (fun _ h9 => h9) rfl dX8_blank_9 ?_
  refine lv_iconst (v := nI 0) hx hb dX8_blank_12 (by decide) ?_
  refine va_put (D := (dC, dI)) (ci := 2) (v := .int (nI 0)) (ty := .int) (C := RX2) (T := TX2) (N := 2) hx hb htl iX2 tyX2 tyX2_ok nmX2 hown hK hP hD hS 1 rfl rfl 1 (by decide) (htl _ wd_37) (fun _ h9 => h9) rfl (by decide +kernel) rfl rfl (Nat.le_of_ble_eq_true rfl) dX8_blank_13 (fun H locs hP hD hS => ?_)
  have hP : va_P (dC, dI) vwCl [(q 0, .inr (8, [.ref (q 1), .ref (q 3), .ref (q 4), .ref (q 9), .ref (q 14), .ref (q 15), .ref (q 16), .ref (q 17), .int (nI nc), .int sr, .int ik])), (q 1, .inr (2, [.ref (q 2), .int (nI 0)]))] H := hP
  have hD : va_D A [(q 0, .inr (8, [.ref (q 1), .ref (q 3), .ref (q 4), .ref (q 9), .ref (q 14), .ref (q 15), .ref (q 16), .ref (q 17), .int (nI nc), .int sr, .int ik])), (q 1, .inr (2, [.ref (q 2), .int (nI 0)]))] := hD
  refine lv_iload_n hx hb dX8_blank_16 rfl (lv_at hl 0 rfl) ?_
  have hP9 := hP.sub (ws' := [(q 0, .inr (8, [.ref (q 1), .ref (q 3), .ref (q 4), .ref (q 9), .ref (q 14), .ref (q 15), .ref (q 16), .ref (q 17), .int (nI nc), .int sr, .int ik])), (q 1, .inr (2, [.ref (q 2), .int (nI 0)]))]) [0, 1] rfl
  have hD9 := hD.sub (ws' := [(q 0, .inr (8, [.ref (q 1), .ref (q 3), .ref (q 4), .ref (q 9), .ref (q 14), .ref (q 15), .ref (q 16), .ref (q 17), .int (nI nc), .int sr, .int ik])), (q 1, .inr (2, [.ref (q 2), .int (nI 0)]))]) [0, 1] (by decide) rfl
  exact W.iret (v := nI ps) hx hb hr (fun t ht hW => ⟨⟨nI ps, (), rfl, rfl, by rw [ht]; exact hP9, va_K.moved hW.alike hK, hD9⟩, hS.F ht⟩) hS.2.2 dX8_blank_17
set_option maxHeartbeats 4000000 in
set_option maxRecDepth 100000 in
theorem kX8_fault (l : Launch) (dC : Nat → ClassId) (dI : Nat → Nat → Nat) (ca : Nat → ClassId) (k1 k2 : Nat → Nat) (q : Nat → Nat) (nc : Nat) (sr : Int32) (ik : Int32) (ps : Nat) (pl : Nat → Nat) (hps : ps ≤ 28) (hpl : ∀ j, j < 28 → pl j < 127) : Met l yX8_fault (Cond.code yX8_fault cX8_fault 1 (some .int) :: gT) (rk 8) (ROs (dC, dI) [(q 0, .inr (8, [.ref (q 1), .ref (q 3), .ref (q 4), .ref (q 9), .ref (q 14), .ref (q 15), .ref (q 16), .ref (q 17), .int (nI nc), .int sr, .int ik])), (q 1, .inr (2, [.ref (q 2), .int (nI ps)])), (q 2, .inl (ca 0, 28, .inl (fun zj => nI (pl zj))))] (TY ca) k1 k2 [Value.ref (q 0)]) (vp_Si (fun r => r = nI (fwN pl ps))) 0 0 (fun _ => False) := by
  refine Met.ofW (cc := cX8_fault) (maxL := 1) (ret := (some .int)) (by decide) rfl ?_
  intro p e s m args below meth c s₁ B hml hv
  obtain ⟨rfl, hP, hK, hF⟩ := hv
  have hx := B.exec
  have hb := B.bytes
  have hr := B.returns
  have hts := atoms_spec (ws := (Cond.code yX8_fault cX8_fault 1 (some .int) :: gT)) B.pre
  have htl : ∀ w ∈ gT, w.before _ s = true := fun w h => hts w (List.mem_cons_of_mem _ h)
  have hown : s.vm.findClass RX8 = some m.cls := findClass_of_methodNamed B.named
  have hlocks := B.notSynchronized
  have hl := lv_entry ([Value.ref (q 0)]) (n := 1) (Nat.le_of_ble_eq_true rfl)
  rw [lg_entry_eq]
  generalize (lg_sl ([Value.ref (q 0)]) ++ List.replicate (1 - (lg_sl ([Value.ref (q 0)])).length) Slot.unset).toArray = ls at hl ⊢
  have hl : lv_has ls 1 [(0, .ref (q 0))] := hl
  refine lv_aload_n hx hb dX8_fault_0 rfl (lv_at hl 0 rfl) ?_
  refine va_get (D := (dC, dI)) (ci := 8) (v := .ref (q 1)) (C := RX8) (T := TX8) (N := 11) hx hb htl iX8 hown hK hP 0 rfl rfl 0 (by decide) (htl _ wd_111) (fun _ h9 => h9) rfl dX8_fault_1 ?_
  refine roVs (As := []) (rest := []) (kX2_firstWrong l dC dI ca k1 k2 q ps pl hps hpl) ⟨hx, hb, hml, hown, htl⟩ (cVg (C := RX2) 0 htl wd_161 wd_162 wd_163 wd_2 wd_164 rfl rfl (by decide +kernel) ⟨Nat.le_of_ble_eq_true rfl, Nat.le_of_ble_eq_true rfl⟩) (hP.sub [1, 2] rfl) hF hK (va_recv hK hP (ci := 2) (q0 := 1) rfl rfl) rfl hl.1 rfl (Nat.le_of_ble_eq_true rfl) dX8_fault_4 ⟨Nat.zero_le _, Nat.zero_le _⟩ (fun r hr9 => ?_)
  subst hr9
  exact W.iret (v := nI (fwN pl ps)) hx hb hr (fun t ht hW => ⟨nI (fwN pl ps), rfl, rfl, ht⟩) (fun q h => by cases h) dX8_fault_7
set_option maxHeartbeats 4000000 in
set_option maxRecDepth 100000 in
theorem kX8_points (l : Launch) (dC : Nat → ClassId) (dI : Nat → Nat → Nat) (ca : Nat → ClassId) (x1 : Int32) (x2 : Int32) (q : Nat → Nat) (qn : Nat → Nat) (kd : Nat → Nat) (nc : Nat) (sr : Int32) (ik : Int32) (isl : Int64) (br : Nat) (st : Int32) (so : Int32) (se : Nat) (hm : Nat → Nat) (hnc : nc ≤ 4) (hkd : ∀ j, j < 4 → kd j < 5) (hhm : ∀ j, j < 4 → hm j < 36) : Met l yX8_points (Cond.code yX8_points cX8_points 3 (some .int) :: gT) (rk 4) (ROp (dC, dI) [(q 0, .inr (8, [.ref (q 1), .ref (q 3), .ref (q 4), .ref (q 9), .ref (q 14), .ref (q 15), .ref (q 16), .ref (q 17), .int (nI nc), .int sr, .int ik])), (q 3, .inl (ca 1, 4, .inr (.inr (.inr (.inr (fun zj => some (qn zj))))))), (q 4, .inr (7, [.ref (q 5), .ref (q 6), .ref (q 7), .ref (q 8), .long isl, .int (nI br), .int st, .int so, .int (nI se)])), (q 5, .inl (ca 2, 4, .inl (fun zj => nI (hm zj)))), (qn 0, .inr (kc (kd 0), [])), (qn 1, .inr (kc (kd 1), [])), (qn 2, .inr (kc (kd 2), [])), (qn 3, .inr (kc (kd 3), []))] (TY ca) [Value.ref (q 0), Value.int x1, Value.int x2]) (vp_Si (fun r => r = pointsR nc kd hm x1 x2)) 0 0 (fun _ => False) := by
  refine Met.ofW (cc := cX8_points) (maxL := 3) (ret := (some .int)) (by decide) rfl ?_
  intro p e s m args below meth c s₁ B hml hv
  obtain ⟨rfl, hP, hK⟩ := hv
  have hx := B.exec
  have hb := B.bytes
  have hr := B.returns
  have hts := atoms_spec (ws := (Cond.code yX8_points cX8_points 3 (some .int) :: gT)) B.pre
  have htl : ∀ w ∈ gT, w.before _ s = true := fun w h => hts w (List.mem_cons_of_mem _ h)
  have hown : s.vm.findClass RX8 = some m.cls := findClass_of_methodNamed B.named
  have hlocks := B.notSynchronized
  have hl := lv_entry ([Value.ref (q 0), Value.int x1, Value.int x2]) (n := 3) (Nat.le_of_ble_eq_true rfl)
  rw [lg_entry_eq]
  generalize (lg_sl ([Value.ref (q 0), Value.int x1, Value.int x2]) ++ List.replicate (3 - (lg_sl ([Value.ref (q 0), Value.int x1, Value.int x2])).length) Slot.unset).toArray = ls at hl ⊢
  have hl : lv_has ls 3 [(0, .ref (q 0)), (1, .int x1), (2, .int x2)] := hl
  refine lv_aload_n hx hb dX8_points_0 rfl (lv_at hl 0 rfl) ?_
  refine lv_iload_n hx hb dX8_points_1 rfl (lv_at hl 1 rfl) ?_
  refine roV (As := [Value.int x1]) (rest := []) (kX8_isNeedle l dC dI ca x1 q nc sr ik ) ⟨hx, hb, hml, hown, htl⟩ (cVg (C := RX8) 1 htl wd_332 wd_334 wp_2 wd_1 wd_335 rfl rfl (by decide +kernel) ⟨Nat.le_of_ble_eq_true rfl, Nat.le_of_ble_eq_true rfl⟩) (hP.sub [0] rfl) hK (va_recv hK hP (ci := 8) (q0 := 0) rfl rfl) rfl hl.1 rfl (Nat.le_of_ble_eq_true rfl) dX8_points_2 ⟨Nat.zero_le _, Nat.zero_le _⟩ (fun r hr9 => ?_)
  subst hr9
  refine lv_if_eq (tgt := 15) hx hb dX8_points_5 (by decide) (fun c_1 => ?_) (fun c_1 => ?_)
  · replace c_1 := bI_f c_1
    refine lv_bipush (v := (-101)) hx hb dX8_points_15 (by decide) ?_
    exact W.iret (v := (-101)) hx hb hr (fun t ht hW => ⟨(-101), rfl, by show _ = _; simp [pointsR, c_1], ht⟩) (fun q h => by cases h) dX8_points_17
  · replace c_1 := bI_t c_1
    refine lv_iload_n hx hb dX8_points_8 rfl (lv_at hl 2 rfl) ?_
    refine roS (As := [Value.int x2]) (rest := []) (kX8_isPlace l dC dI ca x2 ) ⟨hx, hb, hml, hown, htl⟩ (cSg 1 htl wd_436 wd_437 wd_1 wd_438 rfl rfl (by decide +kernel) ⟨Nat.le_of_ble_eq_true rfl, Nat.le_of_ble_eq_true rfl⟩) (hP.sub [] rfl) hK rfl hl.1 rfl (Nat.le_of_ble_eq_true rfl) dX8_points_9 ⟨Nat.zero_le _, Nat.zero_le _⟩ (fun r hr9 => ?_)
    subst hr9
    refine lv_if_ne (tgt := 18) hx hb dX8_points_12 (by decide) (fun c_2 => ?_) (fun c_2 => ?_)
    · replace c_2 := bI_t c_2
      obtain ⟨i, hi, rfl⟩ := rng_ex c_1 (by omega)
      obtain ⟨pp, hp, rfl⟩ := rng_ex c_2 (by decide)
      refine lv_aload_n hx hb dX8_points_18 rfl (lv_at hl 0 rfl) ?_
      refine lv_iload_n hx hb dX8_points_19 rfl (lv_at hl 1 rfl) ?_
      refine lv_iload_n hx hb dX8_points_20 rfl (lv_at hl 2 rfl) ?_
      refine roV (As := [Value.int (nI i), Value.int (nI pp)]) (rest := []) (kX8_pointing l dC dI ca i pp q qn kd nc sr ik isl br st so se hm (by omega) hp hkd hhm) ⟨hx, hb, hml, hown, htl⟩ (cVg (C := RX8) 2 htl wd_353 wd_355 wp_3 wd_1 wd_356 rfl rfl (by decide +kernel) ⟨Nat.le_of_ble_eq_true rfl, Nat.le_of_ble_eq_true rfl⟩) (va_P.app (hP.sub [0, 1, 2, 3] rfl) (nd4 hP i (by omega) 4 5 6 7 rfl rfl rfl rfl)) hK (va_recv hK hP (ci := 8) (q0 := 0) rfl rfl) rfl hl.1 rfl (Nat.le_of_ble_eq_true rfl) dX8_points_21 ⟨Nat.zero_le _, Nat.zero_le _⟩ (fun r hr9 => ?_)
      subst hr9
      exact W.iret (v := nI (pointN (kd i) (hm i) pp)) hx hb hr (fun t ht hW => ⟨nI (pointN (kd i) (hm i) pp), rfl, by show _ = _; simp [pointsR, c_1, c_2, nI_clamp (show i < 2 ^ 31 by omega), nI_clamp (show pp < 2 ^ 31 by omega)], ht⟩) (fun q h => by cases h) dX8_points_24
    · replace c_2 := bI_f c_2
      refine lv_bipush (v := (-101)) hx hb dX8_points_15 (by decide) ?_
      exact W.iret (v := (-101)) hx hb hr (fun t ht hW => ⟨(-101), rfl, by show _ = _; simp [pointsR, c_1, c_2], ht⟩) (fun q h => by cases h) dX8_points_17
set_option maxHeartbeats 4000000 in
set_option maxRecDepth 100000 in
theorem kX8_swing (l : Launch) (dC : Nat → ClassId) (dI : Nat → Nat → Nat) (ca : Nat → ClassId) (sz : Nat) (x1 : Int32) (x2 : Int32) (q : Nat → Nat) (nc : Nat) (sr : Int32) (ik : Int32) (isl : Int64) (br : Nat) (st : Int32) (so : Int32) (se : Nat) (hm : Nat → Nat) (hnc : nc ≤ 4) : Met l yX8_swing (Cond.code yX8_swing cX8_swing 4 (some .int) :: gT) (rk 2) (EFp (dC, dI) [(q 0, .inr (8, [.ref (q 1), .ref (q 3), .ref (q 4), .ref (q 9), .ref (q 14), .ref (q 15), .ref (q 16), .ref (q 17), .int (nI nc), .int sr, .int ik])), (q 4, .inr (7, [.ref (q 5), .ref (q 6), .ref (q 7), .ref (q 8), .long isl, .int (nI br), .int st, .int so, .int (nI se)])), (q 5, .inl (ca 2, 4, .inl (fun zj => nI (hm zj))))] (TY ca) sz [Value.ref (q 0), Value.int x1, Value.int x2]) (va_Qi (fun (r : Int32) (_ : Unit) => r = swingR nc hm x1 x2) (EFb (dC, dI) (fun (_ : Unit) => [(q 0, .inr (8, [.ref (q 1), .ref (q 3), .ref (q 4), .ref (q 9), .ref (q 14), .ref (q 15), .ref (q 16), .ref (q 17), .int (nI nc), .int sr, .int ik])), (q 4, .inr (7, [.ref (q 5), .ref (q 6), .ref (q 7), .ref (q 8), .long isl, .int (nI br), .int st, .int so, .int (nI se)])), (q 5, .inl (ca 2, 4, .inl (fun zj => nI ((if (rng x1 nc && rng x2 36) = true then va_up hm (tn x1) (tn x2) else hm) zj))))]) (TY ca) (va_A [(q 0, .inr (8, [.ref (q 1), .ref (q 3), .ref (q 4), .ref (q 9), .ref (q 14), .ref (q 15), .ref (q 16), .ref (q 17), .int (nI nc), .int sr, .int ik])), (q 4, .inr (7, [.ref (q 5), .ref (q 6), .ref (q 7), .ref (q 8), .long isl, .int (nI br), .int st, .int so, .int (nI se)])), (q 5, .inl (ca 2, 4, .inl (fun zj => nI (hm zj))))] sz)) (va_A [(q 0, .inr (8, [.ref (q 1), .ref (q 3), .ref (q 4), .ref (q 9), .ref (q 14), .ref (q 15), .ref (q 16), .ref (q 17), .int (nI nc), .int sr, .int ik])), (q 4, .inr (7, [.ref (q 5), .ref (q 6), .ref (q 7), .ref (q 8), .long isl, .int (nI br), .int st, .int so, .int (nI se)])), (q 5, .inl (ca 2, 4, .inl (fun zj => nI (hm zj))))] sz)) 0 0 (va_A [(q 0, .inr (8, [.ref (q 1), .ref (q 3), .ref (q 4), .ref (q 9), .ref (q 14), .ref (q 15), .ref (q 16), .ref (q 17), .int (nI nc), .int sr, .int ik])), (q 4, .inr (7, [.ref (q 5), .ref (q 6), .ref (q 7), .ref (q 8), .long isl, .int (nI br), .int st, .int so, .int (nI se)])), (q 5, .inl (ca 2, 4, .inl (fun zj => nI (hm zj))))] sz) := by
  refine Met.ofW (cc := cX8_swing) (maxL := 4) (ret := (some .int)) (by decide) rfl ?_
  intro p e s m args below meth c s₁ B hml hv
  obtain ⟨rfl, hsz, hP, hK, hD0⟩ := hv
  have hx := B.exec
  have hb := B.bytes
  have hr := B.returns
  have hts := atoms_spec (ws := (Cond.code yX8_swing cX8_swing 4 (some .int) :: gT)) B.pre
  have htl : ∀ w ∈ gT, w.before _ s = true := fun w h => hts w (List.mem_cons_of_mem _ h)
  have hown : s.vm.findClass RX8 = some m.cls := findClass_of_methodNamed B.named
  have hlocks := B.notSynchronized
  subst hsz
  have hD := hD0.self (sz := s.heap.size)
  generalize hAe : va_A [(q 0, .inr (8, [.ref (q 1), .ref (q 3), .ref (q 4), .ref (q 9), .ref (q 14), .ref (q 15), .ref (q 16), .ref (q 17), .int (nI nc), .int sr, .int ik])), (q 4, .inr (7, [.ref (q 5), .ref (q 6), .ref (q 7), .ref (q 8), .long isl, .int (nI br), .int st, .int so, .int (nI se)])), (q 5, .inl (ca 2, 4, .inl (fun zj => nI (hm zj))))] s.heap.size = A at hD ⊢
  have hA : ∀ q : Nat, s.heap.size ≤ q → A q := fun q h => by rw [← hAe]; exact Or.inr h
  have hS : va_S A s.heap s.heap [] := va_S.rf
  have hl := lv_entry ([Value.ref (q 0), Value.int x1, Value.int x2]) (n := 4) (Nat.le_of_ble_eq_true rfl)
  rw [lg_entry_eq]
  generalize (lg_sl ([Value.ref (q 0), Value.int x1, Value.int x2]) ++ List.replicate (4 - (lg_sl ([Value.ref (q 0), Value.int x1, Value.int x2])).length) Slot.unset).toArray = ls at hl ⊢
  have hl : lv_has ls 4 [(0, .ref (q 0)), (1, .int x1), (2, .int x2)] := hl
  refine lv_aload_n hx hb dX8_swing_0 rfl (lv_at hl 0 rfl) ?_
  refine lv_iload_n hx hb dX8_swing_1 rfl (lv_at hl 1 rfl) ?_
  refine roV (As := [Value.int x1]) (rest := []) (kX8_isNeedle l dC dI ca x1 q nc sr ik ) ⟨hx, hb, hml, hown, htl⟩ (cVg (C := RX8) 1 htl wd_332 wd_334 wp_2 wd_1 wd_335 rfl rfl (by decide +kernel) ⟨Nat.le_of_ble_eq_true rfl, Nat.le_of_ble_eq_true rfl⟩) (hP.sub [0] rfl) hK (va_recv hK hP (ci := 8) (q0 := 0) rfl rfl) rfl hl.1 rfl (Nat.le_of_ble_eq_true rfl) dX8_swing_2 ⟨Nat.zero_le _, Nat.zero_le _⟩ (fun r hr9 => ?_)
  subst hr9
  refine lv_if_eq (tgt := 15) hx hb dX8_swing_5 (by decide) (fun c_1 => ?_) (fun c_1 => ?_)
  · replace c_1 := bI_f c_1
    refine lv_bipush (v := (-101)) hx hb dX8_swing_15 (by decide) ?_
    have hP9 := hP.sub (ws' := [(q 0, .inr (8, [.ref (q 1), .ref (q 3), .ref (q 4), .ref (q 9), .ref (q 14), .ref (q 15), .ref (q 16), .ref (q 17), .int (nI nc), .int sr, .int ik])), (q 4, .inr (7, [.ref (q 5), .ref (q 6), .ref (q 7), .ref (q 8), .long isl, .int (nI br), .int st, .int so, .int (nI se)])), (q 5, .inl (ca 2, 4, .inl (fun zj => nI (hm zj))))]) [0, 1, 2] rfl
    have hD9 := hD.sub (ws' := [(q 0, .inr (8, [.ref (q 1), .ref (q 3), .ref (q 4), .ref (q 9), .ref (q 14), .ref (q 15), .ref (q 16), .ref (q 17), .int (nI nc), .int sr, .int ik])), (q 4, .inr (7, [.ref (q 5), .ref (q 6), .ref (q 7), .ref (q 8), .long isl, .int (nI br), .int st, .int so, .int (nI se)])), (q 5, .inl (ca 2, 4, .inl (fun zj => nI (hm zj))))]) [0, 1, 2] (by decide) rfl
    have hk : (rng x1 nc && rng x2 36) = false := by simp [c_1]
    exact W.iret (v := (-101)) hx hb hr (fun t ht hW => ⟨⟨(-101), (), rfl, by show _ = _; simp [swingR, c_1], by rw [ht]; simp only [hk, Bool.false_eq_true, ↓reduceIte]; exact hP9, va_K.moved hW.alike hK, (by simp only [hk, Bool.false_eq_true, ↓reduceIte]; exact hD9)⟩, hS.F ht⟩) hS.2.2 dX8_swing_17
  · replace c_1 := bI_t c_1
    refine lv_iload_n hx hb dX8_swing_8 rfl (lv_at hl 2 rfl) ?_
    refine roS (As := [Value.int x2]) (rest := []) (kX8_isPlace l dC dI ca x2 ) ⟨hx, hb, hml, hown, htl⟩ (cSg 1 htl wd_436 wd_437 wd_1 wd_438 rfl rfl (by decide +kernel) ⟨Nat.le_of_ble_eq_true rfl, Nat.le_of_ble_eq_true rfl⟩) (hP.sub [] rfl) hK rfl hl.1 rfl (Nat.le_of_ble_eq_true rfl) dX8_swing_9 ⟨Nat.zero_le _, Nat.zero_le _⟩ (fun r hr9 => ?_)
    subst hr9
    refine lv_if_ne (tgt := 18) hx hb dX8_swing_12 (by decide) (fun c_2 => ?_) (fun c_2 => ?_)
    · replace c_2 := bI_t c_2
      obtain ⟨i, hi, rfl⟩ := rng_ex c_1 (by omega)
      obtain ⟨pp, hp, rfl⟩ := rng_ex c_2 (by decide)
      refine lv_aload_n hx hb dX8_swing_18 rfl (lv_at hl 0 rfl) ?_
      refine va_get (D := (dC, dI)) (ci := 8) (v := .ref (q 4)) (C := RX8) (T := TX8) (N := 11) hx hb htl iX8 hown hK hP 0 rfl rfl 2 (by decide) (htl _ wd_113) (fun _ h9 => h9) rfl dX8_swing_19 ?_
      refine va_get (D := (dC, dI)) (ci := 7) (v := .ref (q 5)) (C := RX7) (T := TX7) (N := 9) hx hb htl iX7 hown hK hP 1 rfl rfl 0 (by decide) (htl _ wd_53) (fun _ h9 => h9) rfl dX8_swing_22 ?_
      refine lv_iload_n hx hb dX8_swing_25 rfl (lv_at hl 1 rfl) ?_
      refine va_iald hx hb hK hP 2 2 rfl rfl (vp_in_nI (by omega) (by decide)) dX8_swing_26 ?_
      refine lv_ri (y := nI (hm i)) (congrArg (fun zj => nI (hm zj)) (nI_clamp (by omega))) ?_
      refine lv_istore_n (lv' := [(3, .int (nI (hm i))), (0, .ref (q 0)), (1, .int (nI i)), (2, .int (nI pp))]) hx hb dX8_swing_27 rfl hl (by decide) rfl (fun ls hl => ?_)
      refine lv_aload_n hx hb dX8_swing_28 rfl (lv_at hl 1 rfl) ?_
      refine va_get (D := (dC, dI)) (ci := 8) (v := .ref (q 4)) (C := RX8) (T := TX8) (N := 11) hx hb htl iX8 hown hK hP 0 rfl rfl 2 (by decide) (htl _ wd_113) (fun _ h9 => h9) rfl dX8_swing_29 ?_
      refine va_get (D := (dC, dI)) (ci := 7) (v := .ref (q 5)) (C := RX7) (T := TX7) (N := 9) hx hb htl iX7 hown hK hP 1 rfl rfl 0 (by decide) (htl _ wd_53) (fun _ h9 => h9) rfl dX8_swing_32 ?_
      refine lv_iload_n hx hb dX8_swing_35 rfl (lv_at hl 2 rfl) ?_
      refine lv_iload_n hx hb dX8_swing_36 rfl (lv_at hl 3 rfl) ?_
      refine va_iast hx hb hK hP hD hS 2 2 rfl rfl (vp_in_nI (by omega) (by decide)) dX8_swing_37 (fun H locs hP hD hS => ?_)
      rw [nI_clamp (show i < 2 ^ 31 by omega)] at hP hD
      rw [show (upd (fun zj => nI (hm zj)) i (nI pp)) = (fun zj => nI (va_up hm i pp zj)) from upd_nI _ _ _] at hP hD
      have hP : va_P (dC, dI) vwCl [(q 0, .inr (8, [.ref (q 1), .ref (q 3), .ref (q 4), .ref (q 9), .ref (q 14), .ref (q 15), .ref (q 16), .ref (q 17), .int (nI nc), .int sr, .int ik])), (q 4, .inr (7, [.ref (q 5), .ref (q 6), .ref (q 7), .ref (q 8), .long isl, .int (nI br), .int st, .int so, .int (nI se)])), (q 5, .inl (ca 2, 4, .inl (fun zj => nI (va_up hm i pp zj))))] H := hP
      have hD : va_D A [(q 0, .inr (8, [.ref (q 1), .ref (q 3), .ref (q 4), .ref (q 9), .ref (q 14), .ref (q 15), .ref (q 16), .ref (q 17), .int (nI nc), .int sr, .int ik])), (q 4, .inr (7, [.ref (q 5), .ref (q 6), .ref (q 7), .ref (q 8), .long isl, .int (nI br), .int st, .int so, .int (nI se)])), (q 5, .inl (ca 2, 4, .inl (fun zj => nI (va_up hm i pp zj))))] := hD
      refine lv_iload_n hx hb dX8_swing_38 rfl (lv_at hl 0 rfl) ?_
      have hP9 := hP.sub (ws' := [(q 0, .inr (8, [.ref (q 1), .ref (q 3), .ref (q 4), .ref (q 9), .ref (q 14), .ref (q 15), .ref (q 16), .ref (q 17), .int (nI nc), .int sr, .int ik])), (q 4, .inr (7, [.ref (q 5), .ref (q 6), .ref (q 7), .ref (q 8), .long isl, .int (nI br), .int st, .int so, .int (nI se)])), (q 5, .inl (ca 2, 4, .inl (fun zj => nI (va_up hm i pp zj))))]) [0, 1, 2] rfl
      have hD9 := hD.sub (ws' := [(q 0, .inr (8, [.ref (q 1), .ref (q 3), .ref (q 4), .ref (q 9), .ref (q 14), .ref (q 15), .ref (q 16), .ref (q 17), .int (nI nc), .int sr, .int ik])), (q 4, .inr (7, [.ref (q 5), .ref (q 6), .ref (q 7), .ref (q 8), .long isl, .int (nI br), .int st, .int so, .int (nI se)])), (q 5, .inl (ca 2, 4, .inl (fun zj => nI (va_up hm i pp zj))))]) [0, 1, 2] (by decide) rfl
      have hk : (rng (nI i) nc && rng (nI pp) 36) = true := by simp [c_1, c_2]
      exact W.iret (v := nI (hm i)) hx hb hr (fun t ht hW => ⟨⟨nI (hm i), (), rfl, by show _ = _; simp [swingR, c_1, c_2, nI_clamp (show i < 2 ^ 31 by omega)], by rw [ht]; simp only [hk, ↓reduceIte, nI_clamp (show i < 2 ^ 31 by omega), nI_clamp (show pp < 2 ^ 31 by omega)]; exact hP9, va_K.moved hW.alike hK, (by simp only [hk, ↓reduceIte, nI_clamp (show i < 2 ^ 31 by omega), nI_clamp (show pp < 2 ^ 31 by omega)]; exact hD9)⟩, hS.F ht⟩) hS.2.2 dX8_swing_39
    · replace c_2 := bI_f c_2
      refine lv_bipush (v := (-101)) hx hb dX8_swing_15 (by decide) ?_
      have hP9 := hP.sub (ws' := [(q 0, .inr (8, [.ref (q 1), .ref (q 3), .ref (q 4), .ref (q 9), .ref (q 14), .ref (q 15), .ref (q 16), .ref (q 17), .int (nI nc), .int sr, .int ik])), (q 4, .inr (7, [.ref (q 5), .ref (q 6), .ref (q 7), .ref (q 8), .long isl, .int (nI br), .int st, .int so, .int (nI se)])), (q 5, .inl (ca 2, 4, .inl (fun zj => nI (hm zj))))]) [0, 1, 2] rfl
      have hD9 := hD.sub (ws' := [(q 0, .inr (8, [.ref (q 1), .ref (q 3), .ref (q 4), .ref (q 9), .ref (q 14), .ref (q 15), .ref (q 16), .ref (q 17), .int (nI nc), .int sr, .int ik])), (q 4, .inr (7, [.ref (q 5), .ref (q 6), .ref (q 7), .ref (q 8), .long isl, .int (nI br), .int st, .int so, .int (nI se)])), (q 5, .inl (ca 2, 4, .inl (fun zj => nI (hm zj))))]) [0, 1, 2] (by decide) rfl
      have hk : (rng x1 nc && rng x2 36) = false := by simp [c_1, c_2]
      exact W.iret (v := (-101)) hx hb hr (fun t ht hW => ⟨⟨(-101), (), rfl, by show _ = _; simp [swingR, c_1, c_2], by rw [ht]; simp only [hk, Bool.false_eq_true, ↓reduceIte]; exact hP9, va_K.moved hW.alike hK, (by simp only [hk, Bool.false_eq_true, ↓reduceIte]; exact hD9)⟩, hS.F ht⟩) hS.2.2 dX8_swing_17
set_option maxHeartbeats 4000000 in
set_option maxRecDepth 100000 in
theorem kX8_island (l : Launch) (dC : Nat → ClassId) (dI : Nat → Nat → Nat) (ca : Nat → ClassId) (x1 : Int32) (q : Nat → Nat) (nc : Nat) (sr : Int32) (ik : Int32) (isl : Int64) (br : Nat) (st : Int32) (so : Int32) (se : Nat) (hnc : nc ≤ 4) : Met l yX8_island (Cond.code yX8_island cX8_island 2 (some .int) :: gT) (rk 2) (ROp (dC, dI) [(q 0, .inr (8, [.ref (q 1), .ref (q 3), .ref (q 4), .ref (q 9), .ref (q 14), .ref (q 15), .ref (q 16), .ref (q 17), .int (nI nc), .int sr, .int ik])), (q 4, .inr (7, [.ref (q 5), .ref (q 6), .ref (q 7), .ref (q 8), .long isl, .int (nI br), .int st, .int so, .int (nI se)]))] (TY ca) [Value.ref (q 0), Value.int x1]) (vp_Si (fun r => r = islandR nc (xb isl) x1)) 0 0 (fun _ => False) := by
  refine Met.ofW (cc := cX8_island) (maxL := 2) (ret := (some .int)) (by decide) rfl ?_
  intro p e s m args below meth c s₁ B hml hv
  obtain ⟨rfl, hP, hK⟩ := hv
  have hx := B.exec
  have hb := B.bytes
  have hr := B.returns
  have hts := atoms_spec (ws := (Cond.code yX8_island cX8_island 2 (some .int) :: gT)) B.pre
  have htl : ∀ w ∈ gT, w.before _ s = true := fun w h => hts w (List.mem_cons_of_mem _ h)
  have hown : s.vm.findClass RX8 = some m.cls := findClass_of_methodNamed B.named
  have hlocks := B.notSynchronized
  have hl := lv_entry ([Value.ref (q 0), Value.int x1]) (n := 2) (Nat.le_of_ble_eq_true rfl)
  rw [lg_entry_eq]
  generalize (lg_sl ([Value.ref (q 0), Value.int x1]) ++ List.replicate (2 - (lg_sl ([Value.ref (q 0), Value.int x1])).length) Slot.unset).toArray = ls at hl ⊢
  have hl : lv_has ls 2 [(0, .ref (q 0)), (1, .int x1)] := hl
  refine lv_aload_n hx hb dX8_island_0 rfl (lv_at hl 0 rfl) ?_
  refine roV (As := []) (rest := []) (kX8_hasSea l dC dI ca q nc sr ik hnc) ⟨hx, hb, hml, hown, htl⟩ (cVg (C := RX8) 0 htl wd_447 wd_449 wp_10 wd_1 wd_450 rfl rfl (by decide +kernel) ⟨Nat.le_of_ble_eq_true rfl, Nat.le_of_ble_eq_true rfl⟩) (hP.sub [0] rfl) hK (va_recv hK hP (ci := 8) (q0 := 0) rfl rfl) rfl hl.1 rfl (Nat.le_of_ble_eq_true rfl) dX8_island_1 ⟨Nat.zero_le _, Nat.zero_le _⟩ (fun r hr9 => ?_)
  subst hr9
  refine lv_if_eq (tgt := 14) hx hb dX8_island_4 (by decide) (fun c_1 => ?_) (fun c_1 => ?_)
  · replace c_1 := bI_f c_1
    refine lv_bipush (v := (-101)) hx hb dX8_island_14 (by decide) ?_
    exact W.iret (v := (-101)) hx hb hr (fun t ht hW => ⟨(-101), rfl, by show _ = _; simp [islandR, c_1], ht⟩) (fun q h => by cases h) dX8_island_16
  · replace c_1 := bI_t c_1
    refine lv_iload_n hx hb dX8_island_7 rfl (lv_at hl 1 rfl) ?_
    refine roS (As := [Value.int x1]) (rest := []) (kX8_isPlace l dC dI ca x1 ) ⟨hx, hb, hml, hown, htl⟩ (cSg 1 htl wd_436 wd_437 wd_1 wd_438 rfl rfl (by decide +kernel) ⟨Nat.le_of_ble_eq_true rfl, Nat.le_of_ble_eq_true rfl⟩) (hP.sub [] rfl) hK rfl hl.1 rfl (Nat.le_of_ble_eq_true rfl) dX8_island_8 ⟨Nat.zero_le _, Nat.zero_le _⟩ (fun r hr9 => ?_)
    subst hr9
    refine lv_if_ne (tgt := 17) hx hb dX8_island_11 (by decide) (fun c_2 => ?_) (fun c_2 => ?_)
    · replace c_2 := bI_t c_2
      obtain ⟨j, hj, rfl⟩ := rng_ex c_2 (by decide)
      refine lv_aload_n hx hb dX8_island_17 rfl (lv_at hl 0 rfl) ?_
      refine va_get (D := (dC, dI)) (ci := 8) (v := .ref (q 4)) (C := RX8) (T := TX8) (N := 11) hx hb htl iX8 hown hK hP 0 rfl rfl 2 (by decide) (htl _ wd_113) (fun _ h9 => h9) rfl dX8_island_18 ?_
      refine lv_iload_n hx hb dX8_island_21 rfl (lv_at hl 1 rfl) ?_
      refine roV (As := [Value.int (nI j)]) (rest := []) (kX7_isIsland l dC dI ca j q isl br st so se hj) ⟨hx, hb, hml, hown, htl⟩ (cVg (C := RX7) 1 htl wd_451 wd_389 wd_390 wd_3 wd_391 rfl rfl (by decide +kernel) ⟨Nat.le_of_ble_eq_true rfl, Nat.le_of_ble_eq_true rfl⟩) (hP.sub [1] rfl) hK (va_recv hK hP (ci := 7) (q0 := 1) rfl rfl) rfl hl.1 rfl (Nat.le_of_ble_eq_true rfl) dX8_island_22 ⟨Nat.zero_le _, Nat.zero_le _⟩ (fun r hr9 => ?_)
      subst hr9
      refine lv_if_eq (tgt := 32) hx hb dX8_island_25 (by decide) (fun c_3 => ?_) (fun c_3 => ?_)
      · replace c_3 := bI_f c_3
        refine lv_iconst (v := nI 0) hx hb dX8_island_32 (by decide) ?_
        exact W.iret (v := nI 0) hx hb hr (fun t ht hW => ⟨nI 0, rfl, by show _ = _; simp [islandR, c_1, c_2, c_3, nI_clamp (show j < 2 ^ 31 by omega)]; rfl, ht⟩) (fun q h => by cases h) dX8_island_33
      · replace c_3 := bI_t c_3
        refine lv_iconst (v := nI 1) hx hb dX8_island_28 (by decide) ?_
        refine lv_goto (tgt := 33) hx hb dX8_island_29 (by decide) ?_
        exact W.iret (v := nI 1) hx hb hr (fun t ht hW => ⟨nI 1, rfl, by show _ = _; simp [islandR, c_1, c_2, c_3, nI_clamp (show j < 2 ^ 31 by omega)]; rfl, ht⟩) (fun q h => by cases h) dX8_island_33
    · replace c_2 := bI_f c_2
      refine lv_bipush (v := (-101)) hx hb dX8_island_14 (by decide) ?_
      exact W.iret (v := (-101)) hx hb hr (fun t ht hW => ⟨(-101), rfl, by show _ = _; simp [islandR, c_1, c_2], ht⟩) (fun q h => by cases h) dX8_island_16
set_option maxHeartbeats 4000000 in
set_option maxRecDepth 100000 in
theorem kX8_raise (l : Launch) (dC : Nat → ClassId) (dI : Nat → Nat → Nat) (ca : Nat → ClassId) (sz : Nat) (x1 : Int32) (x2 : Int32) (q : Nat → Nat) (nc : Nat) (sr : Int32) (ik : Int32) (isl : Int64) (br : Nat) (st : Int32) (so : Int32) (se : Nat) (hnc : nc ≤ 4) : Met l yX8_raise (Cond.code yX8_raise cX8_raise 4 (some .int) :: gT) (rk 2) (EFp (dC, dI) [(q 0, .inr (8, [.ref (q 1), .ref (q 3), .ref (q 4), .ref (q 9), .ref (q 14), .ref (q 15), .ref (q 16), .ref (q 17), .int (nI nc), .int sr, .int ik])), (q 4, .inr (7, [.ref (q 5), .ref (q 6), .ref (q 7), .ref (q 8), .long isl, .int (nI br), .int st, .int so, .int (nI se)]))] (TY ca) sz [Value.ref (q 0), Value.int x1, Value.int x2]) (va_Qi (fun (r : Int32) (_ : Unit) => r = islandR nc (xb isl) x1) (EFb (dC, dI) (fun (_ : Unit) => [(q 0, .inr (8, [.ref (q 1), .ref (q 3), .ref (q 4), .ref (q 9), .ref (q 14), .ref (q 15), .ref (q 16), .ref (q 17), .int (nI nc), .int sr, .int ik])), (q 4, .inr (7, [.ref (q 5), .ref (q 6), .ref (q 7), .ref (q 8), .long (if (!decide (nc = 0) && rng x1 36) = true then setI isl (tn x1) x2 else isl), .int (nI br), .int st, .int so, .int (nI se)]))]) (TY ca) (va_A [(q 0, .inr (8, [.ref (q 1), .ref (q 3), .ref (q 4), .ref (q 9), .ref (q 14), .ref (q 15), .ref (q 16), .ref (q 17), .int (nI nc), .int sr, .int ik])), (q 4, .inr (7, [.ref (q 5), .ref (q 6), .ref (q 7), .ref (q 8), .long isl, .int (nI br), .int st, .int so, .int (nI se)]))] sz)) (va_A [(q 0, .inr (8, [.ref (q 1), .ref (q 3), .ref (q 4), .ref (q 9), .ref (q 14), .ref (q 15), .ref (q 16), .ref (q 17), .int (nI nc), .int sr, .int ik])), (q 4, .inr (7, [.ref (q 5), .ref (q 6), .ref (q 7), .ref (q 8), .long isl, .int (nI br), .int st, .int so, .int (nI se)]))] sz)) 0 0 (va_A [(q 0, .inr (8, [.ref (q 1), .ref (q 3), .ref (q 4), .ref (q 9), .ref (q 14), .ref (q 15), .ref (q 16), .ref (q 17), .int (nI nc), .int sr, .int ik])), (q 4, .inr (7, [.ref (q 5), .ref (q 6), .ref (q 7), .ref (q 8), .long isl, .int (nI br), .int st, .int so, .int (nI se)]))] sz) := by
  refine Met.ofW (cc := cX8_raise) (maxL := 4) (ret := (some .int)) (by decide) rfl ?_
  intro p e s m args below meth c s₁ B hml hv
  obtain ⟨rfl, hsz, hP, hK, hD0⟩ := hv
  have hx := B.exec
  have hb := B.bytes
  have hr := B.returns
  have hts := atoms_spec (ws := (Cond.code yX8_raise cX8_raise 4 (some .int) :: gT)) B.pre
  have htl : ∀ w ∈ gT, w.before _ s = true := fun w h => hts w (List.mem_cons_of_mem _ h)
  have hown : s.vm.findClass RX8 = some m.cls := findClass_of_methodNamed B.named
  have hlocks := B.notSynchronized
  subst hsz
  have hD := hD0.self (sz := s.heap.size)
  generalize hAe : va_A [(q 0, .inr (8, [.ref (q 1), .ref (q 3), .ref (q 4), .ref (q 9), .ref (q 14), .ref (q 15), .ref (q 16), .ref (q 17), .int (nI nc), .int sr, .int ik])), (q 4, .inr (7, [.ref (q 5), .ref (q 6), .ref (q 7), .ref (q 8), .long isl, .int (nI br), .int st, .int so, .int (nI se)]))] s.heap.size = A at hD ⊢
  have hA : ∀ q : Nat, s.heap.size ≤ q → A q := fun q h => by rw [← hAe]; exact Or.inr h
  have hS : va_S A s.heap s.heap [] := va_S.rf
  have hl := lv_entry ([Value.ref (q 0), Value.int x1, Value.int x2]) (n := 4) (Nat.le_of_ble_eq_true rfl)
  rw [lg_entry_eq]
  generalize (lg_sl ([Value.ref (q 0), Value.int x1, Value.int x2]) ++ List.replicate (4 - (lg_sl ([Value.ref (q 0), Value.int x1, Value.int x2])).length) Slot.unset).toArray = ls at hl ⊢
  have hl : lv_has ls 4 [(0, .ref (q 0)), (1, .int x1), (2, .int x2)] := hl
  refine lv_aload_n hx hb dX8_raise_0 rfl (lv_at hl 0 rfl) ?_
  refine roV (As := []) (rest := []) (kX8_hasSea l dC dI ca q nc sr ik hnc) ⟨hx, hb, hml, hown, htl⟩ (cVg (C := RX8) 0 htl wd_447 wd_449 wp_10 wd_1 wd_450 rfl rfl (by decide +kernel) ⟨Nat.le_of_ble_eq_true rfl, Nat.le_of_ble_eq_true rfl⟩) (hP.sub [0] rfl) hK (va_recv hK hP (ci := 8) (q0 := 0) rfl rfl) rfl hl.1 rfl (Nat.le_of_ble_eq_true rfl) dX8_raise_1 ⟨Nat.zero_le _, Nat.zero_le _⟩ (fun r hr9 => ?_)
  subst hr9
  refine lv_if_eq (tgt := 14) hx hb dX8_raise_4 (by decide) (fun c_1 => ?_) (fun c_1 => ?_)
  · replace c_1 := bI_f c_1
    refine lv_bipush (v := (-101)) hx hb dX8_raise_14 (by decide) ?_
    have hP9 := hP.sub (ws' := [(q 0, .inr (8, [.ref (q 1), .ref (q 3), .ref (q 4), .ref (q 9), .ref (q 14), .ref (q 15), .ref (q 16), .ref (q 17), .int (nI nc), .int sr, .int ik])), (q 4, .inr (7, [.ref (q 5), .ref (q 6), .ref (q 7), .ref (q 8), .long isl, .int (nI br), .int st, .int so, .int (nI se)]))]) [0, 1] rfl
    have hD9 := hD.sub (ws' := [(q 0, .inr (8, [.ref (q 1), .ref (q 3), .ref (q 4), .ref (q 9), .ref (q 14), .ref (q 15), .ref (q 16), .ref (q 17), .int (nI nc), .int sr, .int ik])), (q 4, .inr (7, [.ref (q 5), .ref (q 6), .ref (q 7), .ref (q 8), .long isl, .int (nI br), .int st, .int so, .int (nI se)]))]) [0, 1] (by decide) rfl
    have hk : (!decide (nc = 0) && rng x1 36) = false := by simp [c_1]
    exact W.iret (v := (-101)) hx hb hr (fun t ht hW => ⟨⟨(-101), (), rfl, by show _ = _; simp [islandR, c_1], by rw [ht]; simp only [hk, Bool.false_eq_true, ↓reduceIte]; exact hP9, va_K.moved hW.alike hK, (by simp only [hk, Bool.false_eq_true, ↓reduceIte]; exact hD9)⟩, hS.F ht⟩) hS.2.2 dX8_raise_16
  · replace c_1 := bI_t c_1
    refine lv_iload_n hx hb dX8_raise_7 rfl (lv_at hl 1 rfl) ?_
    refine roS (As := [Value.int x1]) (rest := []) (kX8_isPlace l dC dI ca x1 ) ⟨hx, hb, hml, hown, htl⟩ (cSg 1 htl wd_436 wd_437 wd_1 wd_438 rfl rfl (by decide +kernel) ⟨Nat.le_of_ble_eq_true rfl, Nat.le_of_ble_eq_true rfl⟩) (hP.sub [] rfl) hK rfl hl.1 rfl (Nat.le_of_ble_eq_true rfl) dX8_raise_8 ⟨Nat.zero_le _, Nat.zero_le _⟩ (fun r hr9 => ?_)
    subst hr9
    refine lv_if_ne (tgt := 17) hx hb dX8_raise_11 (by decide) (fun c_2 => ?_) (fun c_2 => ?_)
    · replace c_2 := bI_t c_2
      obtain ⟨j, hj, rfl⟩ := rng_ex c_2 (by decide)
      refine lv_aload_n hx hb dX8_raise_17 rfl (lv_at hl 0 rfl) ?_
      refine va_get (D := (dC, dI)) (ci := 8) (v := .ref (q 4)) (C := RX8) (T := TX8) (N := 11) hx hb htl iX8 hown hK hP 0 rfl rfl 2 (by decide) (htl _ wd_113) (fun _ h9 => h9) rfl dX8_raise_18 ?_
      refine lv_iload_n hx hb dX8_raise_21 rfl (lv_at hl 1 rfl) ?_
      refine roV (As := [Value.int (nI j)]) (rest := []) (kX7_isIsland l dC dI ca j q isl br st so se hj) ⟨hx, hb, hml, hown, htl⟩ (cVg (C := RX7) 1 htl wd_451 wd_389 wd_390 wd_3 wd_391 rfl rfl (by decide +kernel) ⟨Nat.le_of_ble_eq_true rfl, Nat.le_of_ble_eq_true rfl⟩) (hP.sub [1] rfl) hK (va_recv hK hP (ci := 7) (q0 := 1) rfl rfl) rfl hl.1 rfl (Nat.le_of_ble_eq_true rfl) dX8_raise_22 ⟨Nat.zero_le _, Nat.zero_le _⟩ (fun r hr9 => ?_)
      subst hr9
      refine lv_if_eq (tgt := 32) hx hb dX8_raise_25 (by decide) (fun c_3 => ?_) (fun c_3 => ?_)
      · replace c_3 := bI_f c_3
        refine lv_iconst (v := nI 0) hx hb dX8_raise_32 (by decide) ?_
        refine lv_istore_n (lv' := [(3, .int (nI 0)), (0, .ref (q 0)), (1, .int (nI j)), (2, .int x2)]) hx hb dX8_raise_33 rfl hl (by decide) rfl (fun ls hl => ?_)
        refine lv_aload_n hx hb dX8_raise_34 rfl (lv_at hl 1 rfl) ?_
        refine va_get (D := (dC, dI)) (ci := 8) (v := .ref (q 4)) (C := RX8) (T := TX8) (N := 11) hx hb htl iX8 hown hK hP 0 rfl rfl 2 (by decide) (htl _ wd_113) (fun _ h9 => h9) rfl dX8_raise_35 ?_
        refine lv_iload_n hx hb dX8_raise_38 rfl (lv_at hl 2 rfl) ?_
        refine lv_iload_n hx hb dX8_raise_39 rfl (lv_at hl 3 rfl) ?_
        refine efVv (As := [Value.int (nI j), Value.int x2]) (rest := []) (wr := [(q 0, .inr (8, [.ref (q 1), .ref (q 3), .ref (q 4), .ref (q 9), .ref (q 14), .ref (q 15), .ref (q 16), .ref (q 17), .int (nI nc), .int sr, .int ik]))]) (kX7_setIsland l dC dI ca _ j x2 q isl br st so se ) ⟨hx, hb, hml, hown, htl⟩ (cVg (C := RX7) 2 htl wd_323 wd_324 wd_325 wd_3 wd_326 rfl rfl (by decide +kernel) ⟨Nat.le_of_ble_eq_true rfl, Nat.le_of_ble_eq_true rfl⟩) hP hD hS hA hK [1] [0] rfl rfl (by decide) (by decide) (by decide) (va_recv hK hP (ci := 7) (q0 := 1) rfl rfl) rfl hl.1 rfl (Nat.le_of_ble_eq_true rfl) dX8_raise_40 ⟨Nat.zero_le _, Nat.zero_le _⟩ (fun u H locs hw_40 hP hD hS => ?_)
        have hP : va_P (dC, dI) vwCl [(q 0, .inr (8, [.ref (q 1), .ref (q 3), .ref (q 4), .ref (q 9), .ref (q 14), .ref (q 15), .ref (q 16), .ref (q 17), .int (nI nc), .int sr, .int ik])), (q 4, .inr (7, [.ref (q 5), .ref (q 6), .ref (q 7), .ref (q 8), .long (setI isl j x2), .int (nI br), .int st, .int so, .int (nI se)]))] H := hP
        have hD : va_D A [(q 0, .inr (8, [.ref (q 1), .ref (q 3), .ref (q 4), .ref (q 9), .ref (q 14), .ref (q 15), .ref (q 16), .ref (q 17), .int (nI nc), .int sr, .int ik])), (q 4, .inr (7, [.ref (q 5), .ref (q 6), .ref (q 7), .ref (q 8), .long (setI isl j x2), .int (nI br), .int st, .int so, .int (nI se)]))] := hD
        refine lv_iload_n hx hb dX8_raise_43 rfl (lv_at hl 0 rfl) ?_
        have hP9 := hP.sub (ws' := [(q 0, .inr (8, [.ref (q 1), .ref (q 3), .ref (q 4), .ref (q 9), .ref (q 14), .ref (q 15), .ref (q 16), .ref (q 17), .int (nI nc), .int sr, .int ik])), (q 4, .inr (7, [.ref (q 5), .ref (q 6), .ref (q 7), .ref (q 8), .long (setI isl j x2), .int (nI br), .int st, .int so, .int (nI se)]))]) [0, 1] rfl
        have hD9 := hD.sub (ws' := [(q 0, .inr (8, [.ref (q 1), .ref (q 3), .ref (q 4), .ref (q 9), .ref (q 14), .ref (q 15), .ref (q 16), .ref (q 17), .int (nI nc), .int sr, .int ik])), (q 4, .inr (7, [.ref (q 5), .ref (q 6), .ref (q 7), .ref (q 8), .long (setI isl j x2), .int (nI br), .int st, .int so, .int (nI se)]))]) [0, 1] (by decide) rfl
        have hk : (!decide (nc = 0) && rng (nI j) 36) = true := by simp [c_1, c_2]
        exact W.iret (v := nI 0) hx hb hr (fun t ht hW => ⟨⟨nI 0, (), rfl, by show _ = _; simp [islandR, c_1, c_2, c_3, nI_clamp (show j < 2 ^ 31 by omega)]; rfl, by rw [ht]; simp only [hk, ↓reduceIte, nI_clamp (show j < 2 ^ 31 by omega)]; exact hP9, va_K.moved hW.alike hK, (by simp only [hk, ↓reduceIte, nI_clamp (show j < 2 ^ 31 by omega)]; exact hD9)⟩, hS.F ht⟩) hS.2.2 dX8_raise_44
      · replace c_3 := bI_t c_3
        refine lv_iconst (v := nI 1) hx hb dX8_raise_28 (by decide) ?_
        refine lv_goto (tgt := 33) hx hb dX8_raise_29 (by decide) ?_
        refine lv_istore_n (lv' := [(3, .int (nI 1)), (0, .ref (q 0)), (1, .int (nI j)), (2, .int x2)]) hx hb dX8_raise_33 rfl hl (by decide) rfl (fun ls hl => ?_)
        refine lv_aload_n hx hb dX8_raise_34 rfl (lv_at hl 1 rfl) ?_
        refine va_get (D := (dC, dI)) (ci := 8) (v := .ref (q 4)) (C := RX8) (T := TX8) (N := 11) hx hb htl iX8 hown hK hP 0 rfl rfl 2 (by decide) (htl _ wd_113) (fun _ h9 => h9) rfl dX8_raise_35 ?_
        refine lv_iload_n hx hb dX8_raise_38 rfl (lv_at hl 2 rfl) ?_
        refine lv_iload_n hx hb dX8_raise_39 rfl (lv_at hl 3 rfl) ?_
        refine efVv (As := [Value.int (nI j), Value.int x2]) (rest := []) (wr := [(q 0, .inr (8, [.ref (q 1), .ref (q 3), .ref (q 4), .ref (q 9), .ref (q 14), .ref (q 15), .ref (q 16), .ref (q 17), .int (nI nc), .int sr, .int ik]))]) (kX7_setIsland l dC dI ca _ j x2 q isl br st so se ) ⟨hx, hb, hml, hown, htl⟩ (cVg (C := RX7) 2 htl wd_323 wd_324 wd_325 wd_3 wd_326 rfl rfl (by decide +kernel) ⟨Nat.le_of_ble_eq_true rfl, Nat.le_of_ble_eq_true rfl⟩) hP hD hS hA hK [1] [0] rfl rfl (by decide) (by decide) (by decide) (va_recv hK hP (ci := 7) (q0 := 1) rfl rfl) rfl hl.1 rfl (Nat.le_of_ble_eq_true rfl) dX8_raise_40 ⟨Nat.zero_le _, Nat.zero_le _⟩ (fun u H locs hw_40 hP hD hS => ?_)
        have hP : va_P (dC, dI) vwCl [(q 0, .inr (8, [.ref (q 1), .ref (q 3), .ref (q 4), .ref (q 9), .ref (q 14), .ref (q 15), .ref (q 16), .ref (q 17), .int (nI nc), .int sr, .int ik])), (q 4, .inr (7, [.ref (q 5), .ref (q 6), .ref (q 7), .ref (q 8), .long (setI isl j x2), .int (nI br), .int st, .int so, .int (nI se)]))] H := hP
        have hD : va_D A [(q 0, .inr (8, [.ref (q 1), .ref (q 3), .ref (q 4), .ref (q 9), .ref (q 14), .ref (q 15), .ref (q 16), .ref (q 17), .int (nI nc), .int sr, .int ik])), (q 4, .inr (7, [.ref (q 5), .ref (q 6), .ref (q 7), .ref (q 8), .long (setI isl j x2), .int (nI br), .int st, .int so, .int (nI se)]))] := hD
        refine lv_iload_n hx hb dX8_raise_43 rfl (lv_at hl 0 rfl) ?_
        have hP9 := hP.sub (ws' := [(q 0, .inr (8, [.ref (q 1), .ref (q 3), .ref (q 4), .ref (q 9), .ref (q 14), .ref (q 15), .ref (q 16), .ref (q 17), .int (nI nc), .int sr, .int ik])), (q 4, .inr (7, [.ref (q 5), .ref (q 6), .ref (q 7), .ref (q 8), .long (setI isl j x2), .int (nI br), .int st, .int so, .int (nI se)]))]) [0, 1] rfl
        have hD9 := hD.sub (ws' := [(q 0, .inr (8, [.ref (q 1), .ref (q 3), .ref (q 4), .ref (q 9), .ref (q 14), .ref (q 15), .ref (q 16), .ref (q 17), .int (nI nc), .int sr, .int ik])), (q 4, .inr (7, [.ref (q 5), .ref (q 6), .ref (q 7), .ref (q 8), .long (setI isl j x2), .int (nI br), .int st, .int so, .int (nI se)]))]) [0, 1] (by decide) rfl
        have hk : (!decide (nc = 0) && rng (nI j) 36) = true := by simp [c_1, c_2]
        exact W.iret (v := nI 1) hx hb hr (fun t ht hW => ⟨⟨nI 1, (), rfl, by show _ = _; simp [islandR, c_1, c_2, c_3, nI_clamp (show j < 2 ^ 31 by omega)]; rfl, by rw [ht]; simp only [hk, ↓reduceIte, nI_clamp (show j < 2 ^ 31 by omega)]; exact hP9, va_K.moved hW.alike hK, (by simp only [hk, ↓reduceIte, nI_clamp (show j < 2 ^ 31 by omega)]; exact hD9)⟩, hS.F ht⟩) hS.2.2 dX8_raise_44
    · replace c_2 := bI_f c_2
      refine lv_bipush (v := (-101)) hx hb dX8_raise_14 (by decide) ?_
      have hP9 := hP.sub (ws' := [(q 0, .inr (8, [.ref (q 1), .ref (q 3), .ref (q 4), .ref (q 9), .ref (q 14), .ref (q 15), .ref (q 16), .ref (q 17), .int (nI nc), .int sr, .int ik])), (q 4, .inr (7, [.ref (q 5), .ref (q 6), .ref (q 7), .ref (q 8), .long isl, .int (nI br), .int st, .int so, .int (nI se)]))]) [0, 1] rfl
      have hD9 := hD.sub (ws' := [(q 0, .inr (8, [.ref (q 1), .ref (q 3), .ref (q 4), .ref (q 9), .ref (q 14), .ref (q 15), .ref (q 16), .ref (q 17), .int (nI nc), .int sr, .int ik])), (q 4, .inr (7, [.ref (q 5), .ref (q 6), .ref (q 7), .ref (q 8), .long isl, .int (nI br), .int st, .int so, .int (nI se)]))]) [0, 1] (by decide) rfl
      have hk : (!decide (nc = 0) && rng x1 36) = false := by simp [c_1, c_2]
      exact W.iret (v := (-101)) hx hb hr (fun t ht hW => ⟨⟨(-101), (), rfl, by show _ = _; simp [islandR, c_1, c_2], by rw [ht]; simp only [hk, Bool.false_eq_true, ↓reduceIte]; exact hP9, va_K.moved hW.alike hK, (by simp only [hk, Bool.false_eq_true, ↓reduceIte]; exact hD9)⟩, hS.F ht⟩) hS.2.2 dX8_raise_16
set_option maxHeartbeats 4000000 in
set_option maxRecDepth 100000 in
theorem kX8_step (l : Launch) (dC : Nat → ClassId) (dI : Nat → Nat → Nat) (ca : Nat → ClassId) (sz : Nat) (x1 : Int32) (q : Nat → Nat) (nc : Nat) (sr : Int32) (ik : Int32) (isl : Int64) (br : Nat) (st : Int32) (so : Int32) (se : Nat) (hnc : nc ≤ 4) (hbr : br < 36) : Met l yX8_step (Cond.code yX8_step cX8_step 2 (some .int) :: gT) (rk 4) (EFp (dC, dI) [(q 0, .inr (8, [.ref (q 1), .ref (q 3), .ref (q 4), .ref (q 9), .ref (q 14), .ref (q 15), .ref (q 16), .ref (q 17), .int (nI nc), .int sr, .int ik])), (q 4, .inr (7, [.ref (q 5), .ref (q 6), .ref (q 7), .ref (q 8), .long isl, .int (nI br), .int st, .int so, .int (nI se)]))] (TY ca) sz [Value.ref (q 0), Value.int x1]) (va_Qi (fun (r : Int32) (_ : Unit) => r = stepR nc (xb isl) br x1) (EFb (dC, dI) (fun (_ : Unit) => [(q 0, .inr (8, [.ref (q 1), .ref (q 3), .ref (q 4), .ref (q 9), .ref (q 14), .ref (q 15), .ref (q 16), .ref (q 17), .int (nI nc), .int sr, .int ik])), (q 4, .inr (7, [.ref (q 5), .ref (q 6), .ref (q 7), .ref (q 8), .long isl, .int (nI (if okT nc x1 = true then stepN (xb isl) br (tn x1) else br)), .int (if okT nc x1 = true then st + nI 1 else st), .int (if okT nc x1 = true then (if stepN (xb isl) br (tn x1) = br then so else so + nI 1) else so), .int (nI se)]))]) (TY ca) (va_A [(q 0, .inr (8, [.ref (q 1), .ref (q 3), .ref (q 4), .ref (q 9), .ref (q 14), .ref (q 15), .ref (q 16), .ref (q 17), .int (nI nc), .int sr, .int ik])), (q 4, .inr (7, [.ref (q 5), .ref (q 6), .ref (q 7), .ref (q 8), .long isl, .int (nI br), .int st, .int so, .int (nI se)]))] sz)) (va_A [(q 0, .inr (8, [.ref (q 1), .ref (q 3), .ref (q 4), .ref (q 9), .ref (q 14), .ref (q 15), .ref (q 16), .ref (q 17), .int (nI nc), .int sr, .int ik])), (q 4, .inr (7, [.ref (q 5), .ref (q 6), .ref (q 7), .ref (q 8), .long isl, .int (nI br), .int st, .int so, .int (nI se)]))] sz)) 0 0 (va_A [(q 0, .inr (8, [.ref (q 1), .ref (q 3), .ref (q 4), .ref (q 9), .ref (q 14), .ref (q 15), .ref (q 16), .ref (q 17), .int (nI nc), .int sr, .int ik])), (q 4, .inr (7, [.ref (q 5), .ref (q 6), .ref (q 7), .ref (q 8), .long isl, .int (nI br), .int st, .int so, .int (nI se)]))] sz) := by
  refine Met.ofW (cc := cX8_step) (maxL := 2) (ret := (some .int)) (by decide) rfl ?_
  intro p e s m args below meth c s₁ B hml hv
  obtain ⟨rfl, hsz, hP, hK, hD0⟩ := hv
  have hx := B.exec
  have hb := B.bytes
  have hr := B.returns
  have hts := atoms_spec (ws := (Cond.code yX8_step cX8_step 2 (some .int) :: gT)) B.pre
  have htl : ∀ w ∈ gT, w.before _ s = true := fun w h => hts w (List.mem_cons_of_mem _ h)
  have hown : s.vm.findClass RX8 = some m.cls := findClass_of_methodNamed B.named
  have hlocks := B.notSynchronized
  subst hsz
  have hD := hD0.self (sz := s.heap.size)
  generalize hAe : va_A [(q 0, .inr (8, [.ref (q 1), .ref (q 3), .ref (q 4), .ref (q 9), .ref (q 14), .ref (q 15), .ref (q 16), .ref (q 17), .int (nI nc), .int sr, .int ik])), (q 4, .inr (7, [.ref (q 5), .ref (q 6), .ref (q 7), .ref (q 8), .long isl, .int (nI br), .int st, .int so, .int (nI se)]))] s.heap.size = A at hD ⊢
  have hA : ∀ q : Nat, s.heap.size ≤ q → A q := fun q h => by rw [← hAe]; exact Or.inr h
  have hS : va_S A s.heap s.heap [] := va_S.rf
  have hl := lv_entry ([Value.ref (q 0), Value.int x1]) (n := 2) (Nat.le_of_ble_eq_true rfl)
  rw [lg_entry_eq]
  generalize (lg_sl ([Value.ref (q 0), Value.int x1]) ++ List.replicate (2 - (lg_sl ([Value.ref (q 0), Value.int x1])).length) Slot.unset).toArray = ls at hl ⊢
  have hl : lv_has ls 2 [(0, .ref (q 0)), (1, .int x1)] := hl
  refine lv_iload_n hx hb dX8_step_0 rfl (lv_at hl 1 rfl) ?_
  refine roS (As := [Value.int x1]) (rest := []) (kX8_isDirection l dC dI ca x1 ) ⟨hx, hb, hml, hown, htl⟩ (cSg 1 htl wd_460 wd_461 wd_1 wd_462 rfl rfl (by decide +kernel) ⟨Nat.le_of_ble_eq_true rfl, Nat.le_of_ble_eq_true rfl⟩) (hP.sub [] rfl) hK rfl hl.1 rfl (Nat.le_of_ble_eq_true rfl) dX8_step_1 ⟨Nat.zero_le _, Nat.zero_le _⟩ (fun r hr9 => ?_)
  subst hr9
  refine lv_if_ne (tgt := 10) hx hb dX8_step_4 (by decide) (fun c_1 => ?_) (fun c_1 => ?_)
  · replace c_1 := bI_t c_1
    refine lv_aload_n hx hb dX8_step_10 rfl (lv_at hl 0 rfl) ?_
    refine roV (As := []) (rest := []) (kX8_hasSea l dC dI ca q nc sr ik hnc) ⟨hx, hb, hml, hown, htl⟩ (cVg (C := RX8) 0 htl wd_447 wd_449 wp_10 wd_1 wd_450 rfl rfl (by decide +kernel) ⟨Nat.le_of_ble_eq_true rfl, Nat.le_of_ble_eq_true rfl⟩) (hP.sub [0] rfl) hK (va_recv hK hP (ci := 8) (q0 := 0) rfl rfl) rfl hl.1 rfl (Nat.le_of_ble_eq_true rfl) dX8_step_11 ⟨Nat.zero_le _, Nat.zero_le _⟩ (fun r hr9 => ?_)
    subst hr9
    refine lv_if_ne (tgt := 20) hx hb dX8_step_14 (by decide) (fun c_2 => ?_) (fun c_2 => ?_)
    · replace c_2 := bI_t c_2
      obtain ⟨d, hd, rfl⟩ := rng_ex c_1 (by decide)
      refine lv_aload_n hx hb dX8_step_20 rfl (lv_at hl 0 rfl) ?_
      refine va_get (D := (dC, dI)) (ci := 8) (v := .ref (q 4)) (C := RX8) (T := TX8) (N := 11) hx hb htl iX8 hown hK hP 0 rfl rfl 2 (by decide) (htl _ wd_113) (fun _ h9 => h9) rfl dX8_step_21 ?_
      refine lv_iload_n hx hb dX8_step_24 rfl (lv_at hl 1 rfl) ?_
      refine efV (As := [Value.int (nI d)]) (rest := []) (wr := [(q 0, .inr (8, [.ref (q 1), .ref (q 3), .ref (q 4), .ref (q 9), .ref (q 14), .ref (q 15), .ref (q 16), .ref (q 17), .int (nI nc), .int sr, .int ik]))]) (kX7_move l dC dI ca _ d q isl br st so se hd hbr) ⟨hx, hb, hml, hown, htl⟩ (cVg (C := RX7) 1 htl wd_463 wd_464 wd_465 wd_3 wd_466 rfl rfl (by decide +kernel) ⟨Nat.le_of_ble_eq_true rfl, Nat.le_of_ble_eq_true rfl⟩) hP hD hS hA hK [1] [0] rfl rfl (by decide) (by decide) (by decide) (va_recv hK hP (ci := 7) (q0 := 1) rfl rfl) rfl hl.1 rfl (Nat.le_of_ble_eq_true rfl) dX8_step_25 ⟨Nat.zero_le _, Nat.zero_le _⟩ (fun r_3 u H locs hw_25 hP hD hS => ?_)
      have hP : va_P (dC, dI) vwCl [(q 0, .inr (8, [.ref (q 1), .ref (q 3), .ref (q 4), .ref (q 9), .ref (q 14), .ref (q 15), .ref (q 16), .ref (q 17), .int (nI nc), .int sr, .int ik])), (q 4, .inr (7, [.ref (q 5), .ref (q 6), .ref (q 7), .ref (q 8), .long isl, .int (nI (stepN (xb isl) br d)), .int (st + nI 1), .int (if stepN (xb isl) br d = br then so else so + nI 1), .int (nI se)]))] H := hP
      have hD : va_D A [(q 0, .inr (8, [.ref (q 1), .ref (q 3), .ref (q 4), .ref (q 9), .ref (q 14), .ref (q 15), .ref (q 16), .ref (q 17), .int (nI nc), .int sr, .int ik])), (q 4, .inr (7, [.ref (q 5), .ref (q 6), .ref (q 7), .ref (q 8), .long isl, .int (nI (stepN (xb isl) br d)), .int (st + nI 1), .int (if stepN (xb isl) br d = br then so else so + nI 1), .int (nI se)]))] := hD
      have hw_25 : r_3 = nI (stepN (xb isl) br d) := hw_25
      refine lv_ri (y := nI (stepN (xb isl) br d)) hw_25 ?_
      have hP9 := hP.sub (ws' := [(q 0, .inr (8, [.ref (q 1), .ref (q 3), .ref (q 4), .ref (q 9), .ref (q 14), .ref (q 15), .ref (q 16), .ref (q 17), .int (nI nc), .int sr, .int ik])), (q 4, .inr (7, [.ref (q 5), .ref (q 6), .ref (q 7), .ref (q 8), .long isl, .int (nI (stepN (xb isl) br d)), .int (st + nI 1), .int (if stepN (xb isl) br d = br then so else so + nI 1), .int (nI se)]))]) [0, 1] rfl
      have hD9 := hD.sub (ws' := [(q 0, .inr (8, [.ref (q 1), .ref (q 3), .ref (q 4), .ref (q 9), .ref (q 14), .ref (q 15), .ref (q 16), .ref (q 17), .int (nI nc), .int sr, .int ik])), (q 4, .inr (7, [.ref (q 5), .ref (q 6), .ref (q 7), .ref (q 8), .long isl, .int (nI (stepN (xb isl) br d)), .int (st + nI 1), .int (if stepN (xb isl) br d = br then so else so + nI 1), .int (nI se)]))]) [0, 1] (by decide) rfl
      have hk : okT nc (nI d) = true := by simp at c_2; simp [okT, c_1, c_2]
      exact W.iret (v := nI (stepN (xb isl) br d)) hx hb hr (fun t ht hW => ⟨⟨nI (stepN (xb isl) br d), (), rfl, by show _ = _; simp at c_2; simp [stepR, c_1, c_2, nI_clamp (show d < 2 ^ 31 by omega)], by rw [ht]; simp only [hk, ↓reduceIte, nI_clamp (show d < 2 ^ 31 by omega)]; exact hP9, va_K.moved hW.alike hK, (by simp only [hk, ↓reduceIte, nI_clamp (show d < 2 ^ 31 by omega)]; exact hD9)⟩, hS.F ht⟩) hS.2.2 dX8_step_28
    · replace c_2 := bI_f c_2
      refine lv_bipush (v := (-103)) hx hb dX8_step_17 (by decide) ?_
      have hP9 := hP.sub (ws' := [(q 0, .inr (8, [.ref (q 1), .ref (q 3), .ref (q 4), .ref (q 9), .ref (q 14), .ref (q 15), .ref (q 16), .ref (q 17), .int (nI nc), .int sr, .int ik])), (q 4, .inr (7, [.ref (q 5), .ref (q 6), .ref (q 7), .ref (q 8), .long isl, .int (nI br), .int st, .int so, .int (nI se)]))]) [0, 1] rfl
      have hD9 := hD.sub (ws' := [(q 0, .inr (8, [.ref (q 1), .ref (q 3), .ref (q 4), .ref (q 9), .ref (q 14), .ref (q 15), .ref (q 16), .ref (q 17), .int (nI nc), .int sr, .int ik])), (q 4, .inr (7, [.ref (q 5), .ref (q 6), .ref (q 7), .ref (q 8), .long isl, .int (nI br), .int st, .int so, .int (nI se)]))]) [0, 1] (by decide) rfl
      have hk : okT nc x1 = false := by simp at *; simp [okT, c_1, c_2]
      exact W.iret (v := (-103)) hx hb hr (fun t ht hW => ⟨⟨(-103), (), rfl, by show _ = _; simp at *; simp [stepR, c_1, c_2], by rw [ht]; simp only [hk, Bool.false_eq_true, ↓reduceIte]; exact hP9, va_K.moved hW.alike hK, (by simp only [hk, Bool.false_eq_true, ↓reduceIte]; exact hD9)⟩, hS.F ht⟩) hS.2.2 dX8_step_19
  · replace c_1 := bI_f c_1
    refine lv_bipush (v := (-102)) hx hb dX8_step_7 (by decide) ?_
    have hP9 := hP.sub (ws' := [(q 0, .inr (8, [.ref (q 1), .ref (q 3), .ref (q 4), .ref (q 9), .ref (q 14), .ref (q 15), .ref (q 16), .ref (q 17), .int (nI nc), .int sr, .int ik])), (q 4, .inr (7, [.ref (q 5), .ref (q 6), .ref (q 7), .ref (q 8), .long isl, .int (nI br), .int st, .int so, .int (nI se)]))]) [0, 1] rfl
    have hD9 := hD.sub (ws' := [(q 0, .inr (8, [.ref (q 1), .ref (q 3), .ref (q 4), .ref (q 9), .ref (q 14), .ref (q 15), .ref (q 16), .ref (q 17), .int (nI nc), .int sr, .int ik])), (q 4, .inr (7, [.ref (q 5), .ref (q 6), .ref (q 7), .ref (q 8), .long isl, .int (nI br), .int st, .int so, .int (nI se)]))]) [0, 1] (by decide) rfl
    have hk : okT nc x1 = false := by simp at *; simp [okT, c_1]
    exact W.iret (v := (-102)) hx hb hr (fun t ht hW => ⟨⟨(-102), (), rfl, by show _ = _; simp at *; simp [stepR, c_1], by rw [ht]; simp only [hk, Bool.false_eq_true, ↓reduceIte]; exact hP9, va_K.moved hW.alike hK, (by simp only [hk, Bool.false_eq_true, ↓reduceIte]; exact hD9)⟩, hS.F ht⟩) hS.2.2 dX8_step_9
set_option maxHeartbeats 4000000 in
set_option maxRecDepth 100000 in
theorem kX8_follow (l : Launch) (dC : Nat → ClassId) (dI : Nat → Nat → Nat) (ca : Nat → ClassId) (sz : Nat) (x1 : Int32) (q : Nat → Nat) (qn : Nat → Nat) (kd : Nat → Nat) (nc : Nat) (sr : Int32) (ik : Int32) (isl : Int64) (br : Nat) (st : Int32) (so : Int32) (se : Nat) (hm : Nat → Nat) (hnc : nc ≤ 4) (hbr : br < 36) (hkd : ∀ j, j < 4 → kd j < 5) (hhm : ∀ j, j < 4 → hm j < 36) : Met l yX8_follow (Cond.code yX8_follow cX8_follow 2 (some .int) :: gT) (rk 4) (EFp (dC, dI) [(q 0, .inr (8, [.ref (q 1), .ref (q 3), .ref (q 4), .ref (q 9), .ref (q 14), .ref (q 15), .ref (q 16), .ref (q 17), .int (nI nc), .int sr, .int ik])), (q 3, .inl (ca 1, 4, .inr (.inr (.inr (.inr (fun zj => some (qn zj))))))), (q 4, .inr (7, [.ref (q 5), .ref (q 6), .ref (q 7), .ref (q 8), .long isl, .int (nI br), .int st, .int so, .int (nI se)])), (q 5, .inl (ca 2, 4, .inl (fun zj => nI (hm zj)))), (qn 0, .inr (kc (kd 0), [])), (qn 1, .inr (kc (kd 1), [])), (qn 2, .inr (kc (kd 2), [])), (qn 3, .inr (kc (kd 3), []))] (TY ca) sz [Value.ref (q 0), Value.int x1]) (va_Qi (fun (r : Int32) (_ : Unit) => r = followR nc kd hm (xb isl) br x1) (EFb (dC, dI) (fun (_ : Unit) => [(q 0, .inr (8, [.ref (q 1), .ref (q 3), .ref (q 4), .ref (q 9), .ref (q 14), .ref (q 15), .ref (q 16), .ref (q 17), .int (nI nc), .int sr, .int ik])), (q 3, .inl (ca 1, 4, .inr (.inr (.inr (.inr (fun zj => some (qn zj))))))), (q 4, .inr (7, [.ref (q 5), .ref (q 6), .ref (q 7), .ref (q 8), .long isl, .int (nI (if rng x1 nc = true then stepN (xb isl) br (pointN (kd (tn x1)) (hm (tn x1)) br) else br)), .int (if rng x1 nc = true then st + nI 1 else st), .int (if rng x1 nc = true then (if stepN (xb isl) br (pointN (kd (tn x1)) (hm (tn x1)) br) = br then so else so + nI 1) else so), .int (nI se)])), (q 5, .inl (ca 2, 4, .inl (fun zj => nI (hm zj)))), (qn 0, .inr (kc (kd 0), [])), (qn 1, .inr (kc (kd 1), [])), (qn 2, .inr (kc (kd 2), [])), (qn 3, .inr (kc (kd 3), []))]) (TY ca) (va_A [(q 0, .inr (8, [.ref (q 1), .ref (q 3), .ref (q 4), .ref (q 9), .ref (q 14), .ref (q 15), .ref (q 16), .ref (q 17), .int (nI nc), .int sr, .int ik])), (q 3, .inl (ca 1, 4, .inr (.inr (.inr (.inr (fun zj => some (qn zj))))))), (q 4, .inr (7, [.ref (q 5), .ref (q 6), .ref (q 7), .ref (q 8), .long isl, .int (nI br), .int st, .int so, .int (nI se)])), (q 5, .inl (ca 2, 4, .inl (fun zj => nI (hm zj)))), (qn 0, .inr (kc (kd 0), [])), (qn 1, .inr (kc (kd 1), [])), (qn 2, .inr (kc (kd 2), [])), (qn 3, .inr (kc (kd 3), []))] sz)) (va_A [(q 0, .inr (8, [.ref (q 1), .ref (q 3), .ref (q 4), .ref (q 9), .ref (q 14), .ref (q 15), .ref (q 16), .ref (q 17), .int (nI nc), .int sr, .int ik])), (q 3, .inl (ca 1, 4, .inr (.inr (.inr (.inr (fun zj => some (qn zj))))))), (q 4, .inr (7, [.ref (q 5), .ref (q 6), .ref (q 7), .ref (q 8), .long isl, .int (nI br), .int st, .int so, .int (nI se)])), (q 5, .inl (ca 2, 4, .inl (fun zj => nI (hm zj)))), (qn 0, .inr (kc (kd 0), [])), (qn 1, .inr (kc (kd 1), [])), (qn 2, .inr (kc (kd 2), [])), (qn 3, .inr (kc (kd 3), []))] sz)) 0 0 (va_A [(q 0, .inr (8, [.ref (q 1), .ref (q 3), .ref (q 4), .ref (q 9), .ref (q 14), .ref (q 15), .ref (q 16), .ref (q 17), .int (nI nc), .int sr, .int ik])), (q 3, .inl (ca 1, 4, .inr (.inr (.inr (.inr (fun zj => some (qn zj))))))), (q 4, .inr (7, [.ref (q 5), .ref (q 6), .ref (q 7), .ref (q 8), .long isl, .int (nI br), .int st, .int so, .int (nI se)])), (q 5, .inl (ca 2, 4, .inl (fun zj => nI (hm zj)))), (qn 0, .inr (kc (kd 0), [])), (qn 1, .inr (kc (kd 1), [])), (qn 2, .inr (kc (kd 2), [])), (qn 3, .inr (kc (kd 3), []))] sz) := by
  refine Met.ofW (cc := cX8_follow) (maxL := 2) (ret := (some .int)) (by decide) rfl ?_
  intro p e s m args below meth c s₁ B hml hv
  obtain ⟨rfl, hsz, hP, hK, hD0⟩ := hv
  have hx := B.exec
  have hb := B.bytes
  have hr := B.returns
  have hts := atoms_spec (ws := (Cond.code yX8_follow cX8_follow 2 (some .int) :: gT)) B.pre
  have htl : ∀ w ∈ gT, w.before _ s = true := fun w h => hts w (List.mem_cons_of_mem _ h)
  have hown : s.vm.findClass RX8 = some m.cls := findClass_of_methodNamed B.named
  have hlocks := B.notSynchronized
  subst hsz
  have hD := hD0.self (sz := s.heap.size)
  generalize hAe : va_A [(q 0, .inr (8, [.ref (q 1), .ref (q 3), .ref (q 4), .ref (q 9), .ref (q 14), .ref (q 15), .ref (q 16), .ref (q 17), .int (nI nc), .int sr, .int ik])), (q 3, .inl (ca 1, 4, .inr (.inr (.inr (.inr (fun zj => some (qn zj))))))), (q 4, .inr (7, [.ref (q 5), .ref (q 6), .ref (q 7), .ref (q 8), .long isl, .int (nI br), .int st, .int so, .int (nI se)])), (q 5, .inl (ca 2, 4, .inl (fun zj => nI (hm zj)))), (qn 0, .inr (kc (kd 0), [])), (qn 1, .inr (kc (kd 1), [])), (qn 2, .inr (kc (kd 2), [])), (qn 3, .inr (kc (kd 3), []))] s.heap.size = A at hD ⊢
  have hA : ∀ q : Nat, s.heap.size ≤ q → A q := fun q h => by rw [← hAe]; exact Or.inr h
  have hS : va_S A s.heap s.heap [] := va_S.rf
  have hl := lv_entry ([Value.ref (q 0), Value.int x1]) (n := 2) (Nat.le_of_ble_eq_true rfl)
  rw [lg_entry_eq]
  generalize (lg_sl ([Value.ref (q 0), Value.int x1]) ++ List.replicate (2 - (lg_sl ([Value.ref (q 0), Value.int x1])).length) Slot.unset).toArray = ls at hl ⊢
  have hl : lv_has ls 2 [(0, .ref (q 0)), (1, .int x1)] := hl
  refine lv_aload_n hx hb dX8_follow_0 rfl (lv_at hl 0 rfl) ?_
  refine lv_iload_n hx hb dX8_follow_1 rfl (lv_at hl 1 rfl) ?_
  refine roV (As := [Value.int x1]) (rest := []) (kX8_isNeedle l dC dI ca x1 q nc sr ik ) ⟨hx, hb, hml, hown, htl⟩ (cVg (C := RX8) 1 htl wd_332 wd_334 wp_2 wd_1 wd_335 rfl rfl (by decide +kernel) ⟨Nat.le_of_ble_eq_true rfl, Nat.le_of_ble_eq_true rfl⟩) (hP.sub [0] rfl) hK (va_recv hK hP (ci := 8) (q0 := 0) rfl rfl) rfl hl.1 rfl (Nat.le_of_ble_eq_true rfl) dX8_follow_2 ⟨Nat.zero_le _, Nat.zero_le _⟩ (fun r hr9 => ?_)
  subst hr9
  refine lv_if_ne (tgt := 11) hx hb dX8_follow_5 (by decide) (fun c_1 => ?_) (fun c_1 => ?_)
  · replace c_1 := bI_t c_1
    obtain ⟨i, hi, rfl⟩ := rng_ex c_1 (by omega)
    refine lv_aload_n hx hb dX8_follow_11 rfl (lv_at hl 0 rfl) ?_
    refine va_get (D := (dC, dI)) (ci := 8) (v := .ref (q 4)) (C := RX8) (T := TX8) (N := 11) hx hb htl iX8 hown hK hP 0 rfl rfl 2 (by decide) (htl _ wd_113) (fun _ h9 => h9) rfl dX8_follow_12 ?_
    refine lv_aload_n hx hb dX8_follow_15 rfl (lv_at hl 0 rfl) ?_
    refine lv_iload_n hx hb dX8_follow_16 rfl (lv_at hl 1 rfl) ?_
    refine lv_aload_n hx hb dX8_follow_17 rfl (lv_at hl 0 rfl) ?_
    refine va_get (D := (dC, dI)) (ci := 8) (v := .ref (q 4)) (C := RX8) (T := TX8) (N := 11) hx hb htl iX8 hown hK hP 0 rfl rfl 2 (by decide) (htl _ wd_113) (fun _ h9 => h9) rfl dX8_follow_18 ?_
    refine va_get (D := (dC, dI)) (ci := 7) (v := .int (nI br)) (C := RX7) (T := TX7) (N := 9) hx hb htl iX7 hown hK hP 2 rfl rfl 5 (by decide) (htl _ wd_63) (fun _ h9 => h9) rfl dX8_follow_21 ?_
    refine roV (As := [Value.int (nI i), Value.int (nI br)]) (rest := [.ref (q 4)]) (kX8_pointing l dC dI ca i br q qn kd nc sr ik isl br st so se hm (by omega) hbr hkd hhm) ⟨hx, hb, hml, hown, htl⟩ (cVg (C := RX8) 2 htl wd_353 wd_355 wp_3 wd_1 wd_356 rfl rfl (by decide +kernel) ⟨Nat.le_of_ble_eq_true rfl, Nat.le_of_ble_eq_true rfl⟩) (va_P.app (hP.sub [0, 1, 2, 3] rfl) (nd4 hP i (by omega) 4 5 6 7 rfl rfl rfl rfl)) hK (va_recv hK hP (ci := 8) (q0 := 0) rfl rfl) rfl hl.1 rfl (Nat.le_of_ble_eq_true rfl) dX8_follow_24 ⟨Nat.zero_le _, Nat.zero_le _⟩ (fun r hr9 => ?_)
    subst hr9
    refine efV (As := [Value.int (nI (pointN (kd i) (hm i) br))]) (rest := []) (wr := [(q 0, .inr (8, [.ref (q 1), .ref (q 3), .ref (q 4), .ref (q 9), .ref (q 14), .ref (q 15), .ref (q 16), .ref (q 17), .int (nI nc), .int sr, .int ik])), (q 3, .inl (ca 1, 4, .inr (.inr (.inr (.inr (fun zj => some (qn zj))))))), (q 5, .inl (ca 2, 4, .inl (fun zj => nI (hm zj)))), (qn 0, .inr (kc (kd 0), [])), (qn 1, .inr (kc (kd 1), [])), (qn 2, .inr (kc (kd 2), [])), (qn 3, .inr (kc (kd 3), []))]) (kX7_move l dC dI ca _ (pointN (kd i) (hm i) br) q isl br st so se (pointN_lt _ _ _) hbr) ⟨hx, hb, hml, hown, htl⟩ (cVg (C := RX7) 1 htl wd_463 wd_464 wd_465 wd_3 wd_466 rfl rfl (by decide +kernel) ⟨Nat.le_of_ble_eq_true rfl, Nat.le_of_ble_eq_true rfl⟩) hP hD hS hA hK [2] [0, 1, 3, 4, 5, 6, 7] rfl rfl (by decide) (by decide) (by decide) (va_recv hK hP (ci := 7) (q0 := 2) rfl rfl) rfl hl.1 rfl (Nat.le_of_ble_eq_true rfl) dX8_follow_27 ⟨Nat.zero_le _, Nat.zero_le _⟩ (fun r_2 u H locs hw_27 hP hD hS => ?_)
    have hP : va_P (dC, dI) vwCl [(q 0, .inr (8, [.ref (q 1), .ref (q 3), .ref (q 4), .ref (q 9), .ref (q 14), .ref (q 15), .ref (q 16), .ref (q 17), .int (nI nc), .int sr, .int ik])), (q 3, .inl (ca 1, 4, .inr (.inr (.inr (.inr (fun zj => some (qn zj))))))), (q 5, .inl (ca 2, 4, .inl (fun zj => nI (hm zj)))), (qn 0, .inr (kc (kd 0), [])), (qn 1, .inr (kc (kd 1), [])), (qn 2, .inr (kc (kd 2), [])), (qn 3, .inr (kc (kd 3), [])), (q 4, .inr (7, [.ref (q 5), .ref (q 6), .ref (q 7), .ref (q 8), .long isl, .int (nI (stepN (xb isl) br (pointN (kd i) (hm i) br))), .int (st + nI 1), .int (if stepN (xb isl) br (pointN (kd i) (hm i) br) = br then so else so + nI 1), .int (nI se)]))] H := hP
    have hD : va_D A [(q 0, .inr (8, [.ref (q 1), .ref (q 3), .ref (q 4), .ref (q 9), .ref (q 14), .ref (q 15), .ref (q 16), .ref (q 17), .int (nI nc), .int sr, .int ik])), (q 3, .inl (ca 1, 4, .inr (.inr (.inr (.inr (fun zj => some (qn zj))))))), (q 5, .inl (ca 2, 4, .inl (fun zj => nI (hm zj)))), (qn 0, .inr (kc (kd 0), [])), (qn 1, .inr (kc (kd 1), [])), (qn 2, .inr (kc (kd 2), [])), (qn 3, .inr (kc (kd 3), [])), (q 4, .inr (7, [.ref (q 5), .ref (q 6), .ref (q 7), .ref (q 8), .long isl, .int (nI (stepN (xb isl) br (pointN (kd i) (hm i) br))), .int (st + nI 1), .int (if stepN (xb isl) br (pointN (kd i) (hm i) br) = br then so else so + nI 1), .int (nI se)]))] := hD
    have hw_27 : r_2 = nI (stepN (xb isl) br (pointN (kd i) (hm i) br)) := hw_27
    refine lv_ri (y := nI (stepN (xb isl) br (pointN (kd i) (hm i) br))) hw_27 ?_
    have hP9 := hP.sub (ws' := [(q 0, .inr (8, [.ref (q 1), .ref (q 3), .ref (q 4), .ref (q 9), .ref (q 14), .ref (q 15), .ref (q 16), .ref (q 17), .int (nI nc), .int sr, .int ik])), (q 3, .inl (ca 1, 4, .inr (.inr (.inr (.inr (fun zj => some (qn zj))))))), (q 4, .inr (7, [.ref (q 5), .ref (q 6), .ref (q 7), .ref (q 8), .long isl, .int (nI (stepN (xb isl) br (pointN (kd i) (hm i) br))), .int (st + nI 1), .int (if stepN (xb isl) br (pointN (kd i) (hm i) br) = br then so else so + nI 1), .int (nI se)])), (q 5, .inl (ca 2, 4, .inl (fun zj => nI (hm zj)))), (qn 0, .inr (kc (kd 0), [])), (qn 1, .inr (kc (kd 1), [])), (qn 2, .inr (kc (kd 2), [])), (qn 3, .inr (kc (kd 3), []))]) [0, 1, 7, 2, 3, 4, 5, 6] rfl
    have hD9 := hD.sub (ws' := [(q 0, .inr (8, [.ref (q 1), .ref (q 3), .ref (q 4), .ref (q 9), .ref (q 14), .ref (q 15), .ref (q 16), .ref (q 17), .int (nI nc), .int sr, .int ik])), (q 3, .inl (ca 1, 4, .inr (.inr (.inr (.inr (fun zj => some (qn zj))))))), (q 4, .inr (7, [.ref (q 5), .ref (q 6), .ref (q 7), .ref (q 8), .long isl, .int (nI (stepN (xb isl) br (pointN (kd i) (hm i) br))), .int (st + nI 1), .int (if stepN (xb isl) br (pointN (kd i) (hm i) br) = br then so else so + nI 1), .int (nI se)])), (q 5, .inl (ca 2, 4, .inl (fun zj => nI (hm zj)))), (qn 0, .inr (kc (kd 0), [])), (qn 1, .inr (kc (kd 1), [])), (qn 2, .inr (kc (kd 2), [])), (qn 3, .inr (kc (kd 3), []))]) [0, 1, 7, 2, 3, 4, 5, 6] (by decide) rfl
    have hk : rng (nI i) nc = true := c_1
    exact W.iret (v := nI (stepN (xb isl) br (pointN (kd i) (hm i) br))) hx hb hr (fun t ht hW => ⟨⟨nI (stepN (xb isl) br (pointN (kd i) (hm i) br)), (), rfl, by show _ = _; simp [followR, c_1, nI_clamp (show i < 2 ^ 31 by omega)], by rw [ht]; simp only [hk, ↓reduceIte, nI_clamp (show i < 2 ^ 31 by omega)]; exact hP9, va_K.moved hW.alike hK, (by simp only [hk, ↓reduceIte, nI_clamp (show i < 2 ^ 31 by omega)]; exact hD9)⟩, hS.F ht⟩) hS.2.2 dX8_follow_30
  · replace c_1 := bI_f c_1
    refine lv_bipush (v := (-101)) hx hb dX8_follow_8 (by decide) ?_
    have hP9 := hP.sub (ws' := [(q 0, .inr (8, [.ref (q 1), .ref (q 3), .ref (q 4), .ref (q 9), .ref (q 14), .ref (q 15), .ref (q 16), .ref (q 17), .int (nI nc), .int sr, .int ik])), (q 3, .inl (ca 1, 4, .inr (.inr (.inr (.inr (fun zj => some (qn zj))))))), (q 4, .inr (7, [.ref (q 5), .ref (q 6), .ref (q 7), .ref (q 8), .long isl, .int (nI br), .int st, .int so, .int (nI se)])), (q 5, .inl (ca 2, 4, .inl (fun zj => nI (hm zj)))), (qn 0, .inr (kc (kd 0), [])), (qn 1, .inr (kc (kd 1), [])), (qn 2, .inr (kc (kd 2), [])), (qn 3, .inr (kc (kd 3), []))]) [0, 1, 2, 3, 4, 5, 6, 7] rfl
    have hD9 := hD.sub (ws' := [(q 0, .inr (8, [.ref (q 1), .ref (q 3), .ref (q 4), .ref (q 9), .ref (q 14), .ref (q 15), .ref (q 16), .ref (q 17), .int (nI nc), .int sr, .int ik])), (q 3, .inl (ca 1, 4, .inr (.inr (.inr (.inr (fun zj => some (qn zj))))))), (q 4, .inr (7, [.ref (q 5), .ref (q 6), .ref (q 7), .ref (q 8), .long isl, .int (nI br), .int st, .int so, .int (nI se)])), (q 5, .inl (ca 2, 4, .inl (fun zj => nI (hm zj)))), (qn 0, .inr (kc (kd 0), [])), (qn 1, .inr (kc (kd 1), [])), (qn 2, .inr (kc (kd 2), [])), (qn 3, .inr (kc (kd 3), []))]) [0, 1, 2, 3, 4, 5, 6, 7] (by decide) rfl
    have hk : rng x1 nc = false := c_1
    exact W.iret (v := (-101)) hx hb hr (fun t ht hW => ⟨⟨(-101), (), rfl, by show _ = _; simp [followR, c_1], by rw [ht]; simp only [hk, Bool.false_eq_true, ↓reduceIte]; exact hP9, va_K.moved hW.alike hK, (by simp only [hk, Bool.false_eq_true, ↓reduceIte]; exact hD9)⟩, hS.F ht⟩) hS.2.2 dX8_follow_10
def homingR (nc : Nat) (f : Nat → Bool) : Int32 := if nc = 0 then -103 else homL f nc 0 (nI 0)
set_option maxHeartbeats 4000000 in
set_option maxRecDepth 100000 in
theorem kX8_homing (l : Launch) (dC : Nat → ClassId) (dI : Nat → Nat → Nat) (ca : Nat → ClassId) (sz : Nat) (q : Nat → Nat) (qn : Nat → Nat) (kd : Nat → Nat) (nc : Nat) (sr : Int32) (ik : Int32) (isl : Int64) (br : Nat) (st : Int32) (so : Int32) (se : Nat) (hm : Nat → Nat) (ts : Int32) (tp : Int32) (hnc : nc ≤ 4) (hbr : br < 36) (hkd : ∀ j, j < 4 → kd j < 5) (hhm : ∀ j, j < 4 → hm j < 36) : Met l yX8_homing (Cond.code yX8_homing cX8_homing 1 (some .int) :: gT) (rk 6) (EFp (dC, dI) [(q 0, .inr (8, [.ref (q 1), .ref (q 3), .ref (q 4), .ref (q 9), .ref (q 14), .ref (q 15), .ref (q 16), .ref (q 17), .int (nI nc), .int sr, .int ik])), (q 3, .inl (ca 1, 4, .inr (.inr (.inr (.inr (fun zj => some (qn zj))))))), (q 4, .inr (7, [.ref (q 5), .ref (q 6), .ref (q 7), .ref (q 8), .long isl, .int (nI br), .int st, .int so, .int (nI se)])), (q 5, .inl (ca 2, 4, .inl (fun zj => nI (hm zj)))), (qn 0, .inr (kc (kd 0), [])), (qn 1, .inr (kc (kd 1), [])), (qn 2, .inr (kc (kd 2), [])), (qn 3, .inr (kc (kd 3), [])), (q 14, .inr (5, [.int ts, .int tp]))] (TY ca) sz [Value.ref (q 0)]) (va_Qi (fun (r : Int32) (u : Int32 × Int32) => match u with | (ts2, tp2) => r = homingR nc (fun i => decide ((trailN (xb isl) (kd i) (hm i) 40 br 0).1 = hm i))) (EFb (dC, dI) (fun (u : Int32 × Int32) => match u with | (ts2, tp2) => [(q 0, .inr (8, [.ref (q 1), .ref (q 3), .ref (q 4), .ref (q 9), .ref (q 14), .ref (q 15), .ref (q 16), .ref (q 17), .int (nI nc), .int sr, .int ik])), (q 3, .inl (ca 1, 4, .inr (.inr (.inr (.inr (fun zj => some (qn zj))))))), (q 4, .inr (7, [.ref (q 5), .ref (q 6), .ref (q 7), .ref (q 8), .long isl, .int (nI br), .int st, .int so, .int (nI se)])), (q 5, .inl (ca 2, 4, .inl (fun zj => nI (hm zj)))), (qn 0, .inr (kc (kd 0), [])), (qn 1, .inr (kc (kd 1), [])), (qn 2, .inr (kc (kd 2), [])), (qn 3, .inr (kc (kd 3), [])), (q 14, .inr (5, [.int ts2, .int tp2]))]) (TY ca) (va_A [(q 0, .inr (8, [.ref (q 1), .ref (q 3), .ref (q 4), .ref (q 9), .ref (q 14), .ref (q 15), .ref (q 16), .ref (q 17), .int (nI nc), .int sr, .int ik])), (q 3, .inl (ca 1, 4, .inr (.inr (.inr (.inr (fun zj => some (qn zj))))))), (q 4, .inr (7, [.ref (q 5), .ref (q 6), .ref (q 7), .ref (q 8), .long isl, .int (nI br), .int st, .int so, .int (nI se)])), (q 5, .inl (ca 2, 4, .inl (fun zj => nI (hm zj)))), (qn 0, .inr (kc (kd 0), [])), (qn 1, .inr (kc (kd 1), [])), (qn 2, .inr (kc (kd 2), [])), (qn 3, .inr (kc (kd 3), [])), (q 14, .inr (5, [.int ts, .int tp]))] sz)) (va_A [(q 0, .inr (8, [.ref (q 1), .ref (q 3), .ref (q 4), .ref (q 9), .ref (q 14), .ref (q 15), .ref (q 16), .ref (q 17), .int (nI nc), .int sr, .int ik])), (q 3, .inl (ca 1, 4, .inr (.inr (.inr (.inr (fun zj => some (qn zj))))))), (q 4, .inr (7, [.ref (q 5), .ref (q 6), .ref (q 7), .ref (q 8), .long isl, .int (nI br), .int st, .int so, .int (nI se)])), (q 5, .inl (ca 2, 4, .inl (fun zj => nI (hm zj)))), (qn 0, .inr (kc (kd 0), [])), (qn 1, .inr (kc (kd 1), [])), (qn 2, .inr (kc (kd 2), [])), (qn 3, .inr (kc (kd 3), [])), (q 14, .inr (5, [.int ts, .int tp]))] sz)) 0 0 (va_A [(q 0, .inr (8, [.ref (q 1), .ref (q 3), .ref (q 4), .ref (q 9), .ref (q 14), .ref (q 15), .ref (q 16), .ref (q 17), .int (nI nc), .int sr, .int ik])), (q 3, .inl (ca 1, 4, .inr (.inr (.inr (.inr (fun zj => some (qn zj))))))), (q 4, .inr (7, [.ref (q 5), .ref (q 6), .ref (q 7), .ref (q 8), .long isl, .int (nI br), .int st, .int so, .int (nI se)])), (q 5, .inl (ca 2, 4, .inl (fun zj => nI (hm zj)))), (qn 0, .inr (kc (kd 0), [])), (qn 1, .inr (kc (kd 1), [])), (qn 2, .inr (kc (kd 2), [])), (qn 3, .inr (kc (kd 3), [])), (q 14, .inr (5, [.int ts, .int tp]))] sz) := by
  refine Met.ofW (cc := cX8_homing) (maxL := 1) (ret := (some .int)) (by decide) rfl ?_
  intro p e s m args below meth c s₁ B hml hv
  obtain ⟨rfl, hsz, hP, hK, hD0⟩ := hv
  have hx := B.exec
  have hb := B.bytes
  have hr := B.returns
  have hts := atoms_spec (ws := (Cond.code yX8_homing cX8_homing 1 (some .int) :: gT)) B.pre
  have htl : ∀ w ∈ gT, w.before _ s = true := fun w h => hts w (List.mem_cons_of_mem _ h)
  have hown : s.vm.findClass RX8 = some m.cls := findClass_of_methodNamed B.named
  have hlocks := B.notSynchronized
  subst hsz
  have hD := hD0.self (sz := s.heap.size)
  generalize hAe : va_A [(q 0, .inr (8, [.ref (q 1), .ref (q 3), .ref (q 4), .ref (q 9), .ref (q 14), .ref (q 15), .ref (q 16), .ref (q 17), .int (nI nc), .int sr, .int ik])), (q 3, .inl (ca 1, 4, .inr (.inr (.inr (.inr (fun zj => some (qn zj))))))), (q 4, .inr (7, [.ref (q 5), .ref (q 6), .ref (q 7), .ref (q 8), .long isl, .int (nI br), .int st, .int so, .int (nI se)])), (q 5, .inl (ca 2, 4, .inl (fun zj => nI (hm zj)))), (qn 0, .inr (kc (kd 0), [])), (qn 1, .inr (kc (kd 1), [])), (qn 2, .inr (kc (kd 2), [])), (qn 3, .inr (kc (kd 3), [])), (q 14, .inr (5, [.int ts, .int tp]))] s.heap.size = A at hD ⊢
  have hA : ∀ q : Nat, s.heap.size ≤ q → A q := fun q h => by rw [← hAe]; exact Or.inr h
  have hS : va_S A s.heap s.heap [] := va_S.rf
  have hl := lv_entry ([Value.ref (q 0)]) (n := 1) (Nat.le_of_ble_eq_true rfl)
  rw [lg_entry_eq]
  generalize (lg_sl ([Value.ref (q 0)]) ++ List.replicate (1 - (lg_sl ([Value.ref (q 0)])).length) Slot.unset).toArray = ls at hl ⊢
  have hl : lv_has ls 1 [(0, .ref (q 0))] := hl
  refine lv_aload_n hx hb dX8_homing_0 rfl (lv_at hl 0 rfl) ?_
  refine roV (As := []) (rest := []) (kX8_hasSea l dC dI ca q nc sr ik hnc) ⟨hx, hb, hml, hown, htl⟩ (cVg (C := RX8) 0 htl wd_447 wd_449 wp_10 wd_1 wd_450 rfl rfl (by decide +kernel) ⟨Nat.le_of_ble_eq_true rfl, Nat.le_of_ble_eq_true rfl⟩) (hP.sub [0] rfl) hK (va_recv hK hP (ci := 8) (q0 := 0) rfl rfl) rfl hl.1 rfl (Nat.le_of_ble_eq_true rfl) dX8_homing_1 ⟨Nat.zero_le _, Nat.zero_le _⟩ (fun r hr9 => ?_)
  subst hr9
  refine lv_if_eq (tgt := 14) hx hb dX8_homing_4 (by decide) (fun c_1 => ?_) (fun c_1 => ?_)
  · replace c_1 := bI_f c_1
    refine lv_bipush (v := (-103)) hx hb dX8_homing_14 (by decide) ?_
    have hP9 := hP.sub (ws' := [(q 0, .inr (8, [.ref (q 1), .ref (q 3), .ref (q 4), .ref (q 9), .ref (q 14), .ref (q 15), .ref (q 16), .ref (q 17), .int (nI nc), .int sr, .int ik])), (q 3, .inl (ca 1, 4, .inr (.inr (.inr (.inr (fun zj => some (qn zj))))))), (q 4, .inr (7, [.ref (q 5), .ref (q 6), .ref (q 7), .ref (q 8), .long isl, .int (nI br), .int st, .int so, .int (nI se)])), (q 5, .inl (ca 2, 4, .inl (fun zj => nI (hm zj)))), (qn 0, .inr (kc (kd 0), [])), (qn 1, .inr (kc (kd 1), [])), (qn 2, .inr (kc (kd 2), [])), (qn 3, .inr (kc (kd 3), [])), (q 14, .inr (5, [.int ts, .int tp]))]) [0, 1, 2, 3, 4, 5, 6, 7, 8] rfl
    have hD9 := hD.sub (ws' := [(q 0, .inr (8, [.ref (q 1), .ref (q 3), .ref (q 4), .ref (q 9), .ref (q 14), .ref (q 15), .ref (q 16), .ref (q 17), .int (nI nc), .int sr, .int ik])), (q 3, .inl (ca 1, 4, .inr (.inr (.inr (.inr (fun zj => some (qn zj))))))), (q 4, .inr (7, [.ref (q 5), .ref (q 6), .ref (q 7), .ref (q 8), .long isl, .int (nI br), .int st, .int so, .int (nI se)])), (q 5, .inl (ca 2, 4, .inl (fun zj => nI (hm zj)))), (qn 0, .inr (kc (kd 0), [])), (qn 1, .inr (kc (kd 1), [])), (qn 2, .inr (kc (kd 2), [])), (qn 3, .inr (kc (kd 3), [])), (q 14, .inr (5, [.int ts, .int tp]))]) [0, 1, 2, 3, 4, 5, 6, 7, 8] (by decide) rfl
    exact W.iret (v := (-103)) hx hb hr (fun t ht hW => ⟨⟨(-103), (ts, tp), rfl, by show _ = _; simp at *; simp [homingR, c_1], by rw [ht]; exact hP9, va_K.moved hW.alike hK, hD9⟩, hS.F ht⟩) hS.2.2 dX8_homing_16
  · replace c_1 := bI_t c_1
    refine lv_aload_n hx hb dX8_homing_7 rfl (lv_at hl 0 rfl) ?_
    refine efV (As := []) (rest := []) (wr := []) (kX8_homingBits l dC dI ca _ q qn kd nc sr ik isl br st so se hm ts tp hnc hbr hkd hhm) ⟨hx, hb, hml, hown, htl⟩ (cVg (C := RX8) 0 htl wd_476 wd_478 wp_11 wd_1 wd_479 rfl rfl (by decide +kernel) ⟨Nat.le_of_ble_eq_true rfl, Nat.le_of_ble_eq_true rfl⟩) hP hD hS hA hK [0, 1, 2, 3, 4, 5, 6, 7, 8] [] rfl rfl (by decide) (by decide) (by decide) (va_recv hK hP (ci := 8) (q0 := 0) rfl rfl) rfl hl.1 rfl (Nat.le_of_ble_eq_true rfl) dX8_homing_8 ⟨Nat.zero_le _, Nat.zero_le _⟩ (fun r_4 u H locs hw_8 hP hD hS => ?_)
    obtain ⟨ts2_2, tp2_3⟩ := u
    have hP : va_P (dC, dI) vwCl [(q 0, .inr (8, [.ref (q 1), .ref (q 3), .ref (q 4), .ref (q 9), .ref (q 14), .ref (q 15), .ref (q 16), .ref (q 17), .int (nI nc), .int sr, .int ik])), (q 3, .inl (ca 1, 4, .inr (.inr (.inr (.inr (fun zj => some (qn zj))))))), (q 4, .inr (7, [.ref (q 5), .ref (q 6), .ref (q 7), .ref (q 8), .long isl, .int (nI br), .int st, .int so, .int (nI se)])), (q 5, .inl (ca 2, 4, .inl (fun zj => nI (hm zj)))), (qn 0, .inr (kc (kd 0), [])), (qn 1, .inr (kc (kd 1), [])), (qn 2, .inr (kc (kd 2), [])), (qn 3, .inr (kc (kd 3), [])), (q 14, .inr (5, [.int ts2_2, .int tp2_3]))] H := hP
    have hD : va_D A [(q 0, .inr (8, [.ref (q 1), .ref (q 3), .ref (q 4), .ref (q 9), .ref (q 14), .ref (q 15), .ref (q 16), .ref (q 17), .int (nI nc), .int sr, .int ik])), (q 3, .inl (ca 1, 4, .inr (.inr (.inr (.inr (fun zj => some (qn zj))))))), (q 4, .inr (7, [.ref (q 5), .ref (q 6), .ref (q 7), .ref (q 8), .long isl, .int (nI br), .int st, .int so, .int (nI se)])), (q 5, .inl (ca 2, 4, .inl (fun zj => nI (hm zj)))), (qn 0, .inr (kc (kd 0), [])), (qn 1, .inr (kc (kd 1), [])), (qn 2, .inr (kc (kd 2), [])), (qn 3, .inr (kc (kd 3), [])), (q 14, .inr (5, [.int ts2_2, .int tp2_3]))] := hD
    have hw_8 : r_4 = homL (fun i => decide ((trailN (xb isl) (kd i) (hm i) 40 br 0).1 = hm i)) nc 0 (nI 0) := hw_8
    refine lv_ri (y := homL (fun i => decide ((trailN (xb isl) (kd i) (hm i) 40 br 0).1 = hm i)) nc 0 (nI 0)) hw_8 ?_
    refine lv_goto (tgt := 16) hx hb dX8_homing_11 (by decide) ?_
    have hP9 := hP.sub (ws' := [(q 0, .inr (8, [.ref (q 1), .ref (q 3), .ref (q 4), .ref (q 9), .ref (q 14), .ref (q 15), .ref (q 16), .ref (q 17), .int (nI nc), .int sr, .int ik])), (q 3, .inl (ca 1, 4, .inr (.inr (.inr (.inr (fun zj => some (qn zj))))))), (q 4, .inr (7, [.ref (q 5), .ref (q 6), .ref (q 7), .ref (q 8), .long isl, .int (nI br), .int st, .int so, .int (nI se)])), (q 5, .inl (ca 2, 4, .inl (fun zj => nI (hm zj)))), (qn 0, .inr (kc (kd 0), [])), (qn 1, .inr (kc (kd 1), [])), (qn 2, .inr (kc (kd 2), [])), (qn 3, .inr (kc (kd 3), [])), (q 14, .inr (5, [.int ts2_2, .int tp2_3]))]) [0, 1, 2, 3, 4, 5, 6, 7, 8] rfl
    have hD9 := hD.sub (ws' := [(q 0, .inr (8, [.ref (q 1), .ref (q 3), .ref (q 4), .ref (q 9), .ref (q 14), .ref (q 15), .ref (q 16), .ref (q 17), .int (nI nc), .int sr, .int ik])), (q 3, .inl (ca 1, 4, .inr (.inr (.inr (.inr (fun zj => some (qn zj))))))), (q 4, .inr (7, [.ref (q 5), .ref (q 6), .ref (q 7), .ref (q 8), .long isl, .int (nI br), .int st, .int so, .int (nI se)])), (q 5, .inl (ca 2, 4, .inl (fun zj => nI (hm zj)))), (qn 0, .inr (kc (kd 0), [])), (qn 1, .inr (kc (kd 1), [])), (qn 2, .inr (kc (kd 2), [])), (qn 3, .inr (kc (kd 3), [])), (q 14, .inr (5, [.int ts2_2, .int tp2_3]))]) [0, 1, 2, 3, 4, 5, 6, 7, 8] (by decide) rfl
    exact W.iret (v := homL (fun i => decide ((trailN (xb isl) (kd i) (hm i) 40 br 0).1 = hm i)) nc 0 (nI 0)) hx hb hr (fun t ht hW => ⟨⟨homL (fun i => decide ((trailN (xb isl) (kd i) (hm i) 40 br 0).1 = hm i)) nc 0 (nI 0), (ts2_2, tp2_3), rfl, by show _ = _; simp at *; simp [homingR, c_1], by rw [ht]; exact hP9, va_K.moved hW.alike hK, hD9⟩, hS.F ht⟩) hS.2.2 dX8_homing_16
set_option maxHeartbeats 4000000 in
set_option maxRecDepth 100000 in
theorem kX8_see (l : Launch) (dC : Nat → ClassId) (dI : Nat → Nat → Nat) (ca : Nat → ClassId) (sz : Nat) (x1 : Int32) (x2 : Int32) (x3 : Int32) (q : Nat → Nat) (nc : Nat) (sr : Int32) (ik : Int32) (isl : Int64) (br : Nat) (st : Int32) (so : Int32) (se : Nat) (sn : Nat → Nat) (sp : Nat → Nat) (sd : Nat → Nat) (hnc : nc ≤ 4) (hse : se ≤ 6) : Met l yX8_see (Cond.code yX8_see cX8_see 4 (some .int) :: gT) (rk 2) (EFp (dC, dI) [(q 0, .inr (8, [.ref (q 1), .ref (q 3), .ref (q 4), .ref (q 9), .ref (q 14), .ref (q 15), .ref (q 16), .ref (q 17), .int (nI nc), .int sr, .int ik])), (q 4, .inr (7, [.ref (q 5), .ref (q 6), .ref (q 7), .ref (q 8), .long isl, .int (nI br), .int st, .int so, .int (nI se)])), (q 6, .inl (ca 3, 6, .inl (fun zj => nI (sn zj)))), (q 7, .inl (ca 4, 6, .inl (fun zj => nI (sp zj)))), (q 8, .inl (ca 5, 6, .inl (fun zj => nI (sd zj))))] (TY ca) sz [Value.ref (q 0), Value.int x1, Value.int x2, Value.int x3]) (va_Qi (fun (r : Int32) (_ : Unit) => r = seeR nc se x1 x2 x3) (EFb (dC, dI) (fun (_ : Unit) => [(q 0, .inr (8, [.ref (q 1), .ref (q 3), .ref (q 4), .ref (q 9), .ref (q 14), .ref (q 15), .ref (q 16), .ref (q 17), .int (nI nc), .int sr, .int ik])), (q 4, .inr (7, [.ref (q 5), .ref (q 6), .ref (q 7), .ref (q 8), .long isl, .int (nI br), .int st, .int so, .int (nI (if okE nc se x1 x2 x3 = true then se + 1 else se))])), (q 6, .inl (ca 3, 6, .inl (fun zj => nI ((if okE nc se x1 x2 x3 = true then va_up sn se (tn x1) else sn) zj)))), (q 7, .inl (ca 4, 6, .inl (fun zj => nI ((if okE nc se x1 x2 x3 = true then va_up sp se (tn x2) else sp) zj)))), (q 8, .inl (ca 5, 6, .inl (fun zj => nI ((if okE nc se x1 x2 x3 = true then va_up sd se (tn x3) else sd) zj))))]) (TY ca) (va_A [(q 0, .inr (8, [.ref (q 1), .ref (q 3), .ref (q 4), .ref (q 9), .ref (q 14), .ref (q 15), .ref (q 16), .ref (q 17), .int (nI nc), .int sr, .int ik])), (q 4, .inr (7, [.ref (q 5), .ref (q 6), .ref (q 7), .ref (q 8), .long isl, .int (nI br), .int st, .int so, .int (nI se)])), (q 6, .inl (ca 3, 6, .inl (fun zj => nI (sn zj)))), (q 7, .inl (ca 4, 6, .inl (fun zj => nI (sp zj)))), (q 8, .inl (ca 5, 6, .inl (fun zj => nI (sd zj))))] sz)) (va_A [(q 0, .inr (8, [.ref (q 1), .ref (q 3), .ref (q 4), .ref (q 9), .ref (q 14), .ref (q 15), .ref (q 16), .ref (q 17), .int (nI nc), .int sr, .int ik])), (q 4, .inr (7, [.ref (q 5), .ref (q 6), .ref (q 7), .ref (q 8), .long isl, .int (nI br), .int st, .int so, .int (nI se)])), (q 6, .inl (ca 3, 6, .inl (fun zj => nI (sn zj)))), (q 7, .inl (ca 4, 6, .inl (fun zj => nI (sp zj)))), (q 8, .inl (ca 5, 6, .inl (fun zj => nI (sd zj))))] sz)) 0 0 (va_A [(q 0, .inr (8, [.ref (q 1), .ref (q 3), .ref (q 4), .ref (q 9), .ref (q 14), .ref (q 15), .ref (q 16), .ref (q 17), .int (nI nc), .int sr, .int ik])), (q 4, .inr (7, [.ref (q 5), .ref (q 6), .ref (q 7), .ref (q 8), .long isl, .int (nI br), .int st, .int so, .int (nI se)])), (q 6, .inl (ca 3, 6, .inl (fun zj => nI (sn zj)))), (q 7, .inl (ca 4, 6, .inl (fun zj => nI (sp zj)))), (q 8, .inl (ca 5, 6, .inl (fun zj => nI (sd zj))))] sz) := by
  refine Met.ofW (cc := cX8_see) (maxL := 4) (ret := (some .int)) (by decide) rfl ?_
  intro p e s m args below meth c s₁ B hml hv
  obtain ⟨rfl, hsz, hP, hK, hD0⟩ := hv
  have hx := B.exec
  have hb := B.bytes
  have hr := B.returns
  have hts := atoms_spec (ws := (Cond.code yX8_see cX8_see 4 (some .int) :: gT)) B.pre
  have htl : ∀ w ∈ gT, w.before _ s = true := fun w h => hts w (List.mem_cons_of_mem _ h)
  have hown : s.vm.findClass RX8 = some m.cls := findClass_of_methodNamed B.named
  have hlocks := B.notSynchronized
  subst hsz
  have hD := hD0.self (sz := s.heap.size)
  generalize hAe : va_A [(q 0, .inr (8, [.ref (q 1), .ref (q 3), .ref (q 4), .ref (q 9), .ref (q 14), .ref (q 15), .ref (q 16), .ref (q 17), .int (nI nc), .int sr, .int ik])), (q 4, .inr (7, [.ref (q 5), .ref (q 6), .ref (q 7), .ref (q 8), .long isl, .int (nI br), .int st, .int so, .int (nI se)])), (q 6, .inl (ca 3, 6, .inl (fun zj => nI (sn zj)))), (q 7, .inl (ca 4, 6, .inl (fun zj => nI (sp zj)))), (q 8, .inl (ca 5, 6, .inl (fun zj => nI (sd zj))))] s.heap.size = A at hD ⊢
  have hA : ∀ q : Nat, s.heap.size ≤ q → A q := fun q h => by rw [← hAe]; exact Or.inr h
  have hS : va_S A s.heap s.heap [] := va_S.rf
  have hl := lv_entry ([Value.ref (q 0), Value.int x1, Value.int x2, Value.int x3]) (n := 4) (Nat.le_of_ble_eq_true rfl)
  rw [lg_entry_eq]
  generalize (lg_sl ([Value.ref (q 0), Value.int x1, Value.int x2, Value.int x3]) ++ List.replicate (4 - (lg_sl ([Value.ref (q 0), Value.int x1, Value.int x2, Value.int x3])).length) Slot.unset).toArray = ls at hl ⊢
  have hl : lv_has ls 4 [(0, .ref (q 0)), (1, .int x1), (2, .int x2), (3, .int x3)] := hl
  refine lv_aload_n hx hb dX8_see_0 rfl (lv_at hl 0 rfl) ?_
  refine lv_iload_n hx hb dX8_see_1 rfl (lv_at hl 1 rfl) ?_
  refine roV (As := [Value.int x1]) (rest := []) (kX8_isNeedle l dC dI ca x1 q nc sr ik ) ⟨hx, hb, hml, hown, htl⟩ (cVg (C := RX8) 1 htl wd_332 wd_334 wp_2 wd_1 wd_335 rfl rfl (by decide +kernel) ⟨Nat.le_of_ble_eq_true rfl, Nat.le_of_ble_eq_true rfl⟩) (hP.sub [0] rfl) hK (va_recv hK hP (ci := 8) (q0 := 0) rfl rfl) rfl hl.1 rfl (Nat.le_of_ble_eq_true rfl) dX8_see_2 ⟨Nat.zero_le _, Nat.zero_le _⟩ (fun r hr9 => ?_)
  subst hr9
  refine lv_if_eq (tgt := 15) hx hb dX8_see_5 (by decide) (fun c_1 => ?_) (fun c_1 => ?_)
  · replace c_1 := bI_f c_1
    refine lv_bipush (v := (-101)) hx hb dX8_see_15 (by decide) ?_
    have hP9 := hP.sub (ws' := [(q 0, .inr (8, [.ref (q 1), .ref (q 3), .ref (q 4), .ref (q 9), .ref (q 14), .ref (q 15), .ref (q 16), .ref (q 17), .int (nI nc), .int sr, .int ik])), (q 4, .inr (7, [.ref (q 5), .ref (q 6), .ref (q 7), .ref (q 8), .long isl, .int (nI br), .int st, .int so, .int (nI se)])), (q 6, .inl (ca 3, 6, .inl (fun zj => nI (sn zj)))), (q 7, .inl (ca 4, 6, .inl (fun zj => nI (sp zj)))), (q 8, .inl (ca 5, 6, .inl (fun zj => nI (sd zj))))]) [0, 1, 2, 3, 4] rfl
    have hD9 := hD.sub (ws' := [(q 0, .inr (8, [.ref (q 1), .ref (q 3), .ref (q 4), .ref (q 9), .ref (q 14), .ref (q 15), .ref (q 16), .ref (q 17), .int (nI nc), .int sr, .int ik])), (q 4, .inr (7, [.ref (q 5), .ref (q 6), .ref (q 7), .ref (q 8), .long isl, .int (nI br), .int st, .int so, .int (nI se)])), (q 6, .inl (ca 3, 6, .inl (fun zj => nI (sn zj)))), (q 7, .inl (ca 4, 6, .inl (fun zj => nI (sp zj)))), (q 8, .inl (ca 5, 6, .inl (fun zj => nI (sd zj))))]) [0, 1, 2, 3, 4] (by decide) rfl
    have hk : okE nc se x1 x2 x3 = false := by simp [okE, c_1]
    exact W.iret (v := (-101)) hx hb hr (fun t ht hW => ⟨⟨(-101), (), rfl, by show _ = _; simp [seeR, c_1], by rw [ht]; simp only [hk, Bool.false_eq_true, ↓reduceIte]; exact hP9, va_K.moved hW.alike hK, (by simp only [hk, Bool.false_eq_true, ↓reduceIte]; exact hD9)⟩, hS.F ht⟩) hS.2.2 dX8_see_17
  · replace c_1 := bI_t c_1
    refine lv_iload_n hx hb dX8_see_8 rfl (lv_at hl 2 rfl) ?_
    refine roS (As := [Value.int x2]) (rest := []) (kX8_isPlace l dC dI ca x2 ) ⟨hx, hb, hml, hown, htl⟩ (cSg 1 htl wd_436 wd_437 wd_1 wd_438 rfl rfl (by decide +kernel) ⟨Nat.le_of_ble_eq_true rfl, Nat.le_of_ble_eq_true rfl⟩) (hP.sub [] rfl) hK rfl hl.1 rfl (Nat.le_of_ble_eq_true rfl) dX8_see_9 ⟨Nat.zero_le _, Nat.zero_le _⟩ (fun r hr9 => ?_)
    subst hr9
    refine lv_if_ne (tgt := 18) hx hb dX8_see_12 (by decide) (fun c_2 => ?_) (fun c_2 => ?_)
    · replace c_2 := bI_t c_2
      refine lv_iload_n hx hb dX8_see_18 rfl (lv_at hl 3 rfl) ?_
      refine roS (As := [Value.int x3]) (rest := []) (kX8_isDirection l dC dI ca x3 ) ⟨hx, hb, hml, hown, htl⟩ (cSg 1 htl wd_460 wd_461 wd_1 wd_462 rfl rfl (by decide +kernel) ⟨Nat.le_of_ble_eq_true rfl, Nat.le_of_ble_eq_true rfl⟩) (hP.sub [] rfl) hK rfl hl.1 rfl (Nat.le_of_ble_eq_true rfl) dX8_see_19 ⟨Nat.zero_le _, Nat.zero_le _⟩ (fun r hr9 => ?_)
      subst hr9
      refine lv_if_ne (tgt := 28) hx hb dX8_see_22 (by decide) (fun c_3 => ?_) (fun c_3 => ?_)
      · replace c_3 := bI_t c_3
        refine lv_aload_n hx hb dX8_see_28 rfl (lv_at hl 0 rfl) ?_
        refine va_get (D := (dC, dI)) (ci := 8) (v := .ref (q 4)) (C := RX8) (T := TX8) (N := 11) hx hb htl iX8 hown hK hP 0 rfl rfl 2 (by decide) (htl _ wd_113) (fun _ h9 => h9) rfl dX8_see_29 ?_
        refine va_get (D := (dC, dI)) (ci := 7) (v := .int (nI se)) (C := RX7) (T := TX7) (N := 9) hx hb htl iX7 hown hK hP 1 rfl rfl 8 (by decide) (htl _ wd_69) (fun _ h9 => h9) rfl dX8_see_32 ?_
        refine lv_bipush (v := nI 6) hx hb dX8_see_35 (by decide) ?_
        refine lv_icmp_lt (tgt := 43) hx hb dX8_see_37 (by decide) (fun c_4 => ?_) (fun c_4 => ?_)
        · rw [nI_ltI (by omega) (by decide)] at c_4
          obtain ⟨i, hi, rfl⟩ := rng_ex c_1 (by omega)
          obtain ⟨pp, hp, rfl⟩ := rng_ex c_2 (by decide)
          obtain ⟨d, hd, rfl⟩ := rng_ex c_3 (by decide)
          refine lv_aload_n hx hb dX8_see_43 rfl (lv_at hl 0 rfl) ?_
          refine va_get (D := (dC, dI)) (ci := 8) (v := .ref (q 4)) (C := RX8) (T := TX8) (N := 11) hx hb htl iX8 hown hK hP 0 rfl rfl 2 (by decide) (htl _ wd_113) (fun _ h9 => h9) rfl dX8_see_44 ?_
          refine lv_iload_n hx hb dX8_see_47 rfl (lv_at hl 1 rfl) ?_
          refine lv_iload_n hx hb dX8_see_48 rfl (lv_at hl 2 rfl) ?_
          refine lv_iload_n hx hb dX8_see_49 rfl (lv_at hl 3 rfl) ?_
          refine efVv (As := [Value.int (nI i), Value.int (nI pp), Value.int (nI d)]) (rest := []) (wr := [(q 0, .inr (8, [.ref (q 1), .ref (q 3), .ref (q 4), .ref (q 9), .ref (q 14), .ref (q 15), .ref (q 16), .ref (q 17), .int (nI nc), .int sr, .int ik]))]) (kX7_addSeen l dC dI ca _ i pp d q isl br st so se sn sp sd (by omega)) ⟨hx, hb, hml, hown, htl⟩ (cVg (C := RX7) 3 htl wd_484 wd_485 wd_486 wd_3 wd_487 rfl rfl (by decide +kernel) ⟨Nat.le_of_ble_eq_true rfl, Nat.le_of_ble_eq_true rfl⟩) hP hD hS hA hK [1, 2, 3, 4] [0] rfl rfl (by decide) (by decide) (by decide) (va_recv hK hP (ci := 7) (q0 := 1) rfl rfl) rfl hl.1 rfl (Nat.le_of_ble_eq_true rfl) dX8_see_50 ⟨Nat.zero_le _, Nat.zero_le _⟩ (fun u H locs hw_50 hP hD hS => ?_)
          have hP : va_P (dC, dI) vwCl [(q 0, .inr (8, [.ref (q 1), .ref (q 3), .ref (q 4), .ref (q 9), .ref (q 14), .ref (q 15), .ref (q 16), .ref (q 17), .int (nI nc), .int sr, .int ik])), (q 4, .inr (7, [.ref (q 5), .ref (q 6), .ref (q 7), .ref (q 8), .long isl, .int (nI br), .int st, .int so, .int (nI (se + 1))])), (q 6, .inl (ca 3, 6, .inl (fun zj => nI (va_up sn se i zj)))), (q 7, .inl (ca 4, 6, .inl (fun zj => nI (va_up sp se pp zj)))), (q 8, .inl (ca 5, 6, .inl (fun zj => nI (va_up sd se d zj))))] H := hP
          have hD : va_D A [(q 0, .inr (8, [.ref (q 1), .ref (q 3), .ref (q 4), .ref (q 9), .ref (q 14), .ref (q 15), .ref (q 16), .ref (q 17), .int (nI nc), .int sr, .int ik])), (q 4, .inr (7, [.ref (q 5), .ref (q 6), .ref (q 7), .ref (q 8), .long isl, .int (nI br), .int st, .int so, .int (nI (se + 1))])), (q 6, .inl (ca 3, 6, .inl (fun zj => nI (va_up sn se i zj)))), (q 7, .inl (ca 4, 6, .inl (fun zj => nI (va_up sp se pp zj)))), (q 8, .inl (ca 5, 6, .inl (fun zj => nI (va_up sd se d zj))))] := hD
          refine lv_aload_n hx hb dX8_see_53 rfl (lv_at hl 0 rfl) ?_
          refine va_get (D := (dC, dI)) (ci := 8) (v := .ref (q 4)) (C := RX8) (T := TX8) (N := 11) hx hb htl iX8 hown hK hP 0 rfl rfl 2 (by decide) (htl _ wd_113) (fun _ h9 => h9) rfl dX8_see_54 ?_
          refine va_get (D := (dC, dI)) (ci := 7) (v := .int (nI (se + 1))) (C := RX7) (T := TX7) (N := 9) hx hb htl iX7 hown hK hP 1 rfl rfl 8 (by decide) (htl _ wd_69) (fun _ h9 => h9) rfl dX8_see_57 ?_
          have hP9 := hP.sub (ws' := [(q 0, .inr (8, [.ref (q 1), .ref (q 3), .ref (q 4), .ref (q 9), .ref (q 14), .ref (q 15), .ref (q 16), .ref (q 17), .int (nI nc), .int sr, .int ik])), (q 4, .inr (7, [.ref (q 5), .ref (q 6), .ref (q 7), .ref (q 8), .long isl, .int (nI br), .int st, .int so, .int (nI (se + 1))])), (q 6, .inl (ca 3, 6, .inl (fun zj => nI (va_up sn se i zj)))), (q 7, .inl (ca 4, 6, .inl (fun zj => nI (va_up sp se pp zj)))), (q 8, .inl (ca 5, 6, .inl (fun zj => nI (va_up sd se d zj))))]) [0, 1, 2, 3, 4] rfl
          have hD9 := hD.sub (ws' := [(q 0, .inr (8, [.ref (q 1), .ref (q 3), .ref (q 4), .ref (q 9), .ref (q 14), .ref (q 15), .ref (q 16), .ref (q 17), .int (nI nc), .int sr, .int ik])), (q 4, .inr (7, [.ref (q 5), .ref (q 6), .ref (q 7), .ref (q 8), .long isl, .int (nI br), .int st, .int so, .int (nI (se + 1))])), (q 6, .inl (ca 3, 6, .inl (fun zj => nI (va_up sn se i zj)))), (q 7, .inl (ca 4, 6, .inl (fun zj => nI (va_up sp se pp zj)))), (q 8, .inl (ca 5, 6, .inl (fun zj => nI (va_up sd se d zj))))]) [0, 1, 2, 3, 4] (by decide) rfl
          have hk : okE nc se (nI i) (nI pp) (nI d) = true := by simp [okE, c_1, c_2, c_3, c_4]
          exact W.iret (v := nI (se + 1)) hx hb hr (fun t ht hW => ⟨⟨nI (se + 1), (), rfl, by show _ = _; simp [seeR, c_1, c_2, c_3, c_4], by rw [ht]; simp only [hk, ↓reduceIte, nI_clamp (show i < 2 ^ 31 by omega), nI_clamp (show pp < 2 ^ 31 by omega), nI_clamp (show d < 2 ^ 31 by omega)]; exact hP9, va_K.moved hW.alike hK, (by simp only [hk, ↓reduceIte, nI_clamp (show i < 2 ^ 31 by omega), nI_clamp (show pp < 2 ^ 31 by omega), nI_clamp (show d < 2 ^ 31 by omega)]; exact hD9)⟩, hS.F ht⟩) hS.2.2 dX8_see_60
        · rw [nI_ltI (by omega) (by decide)] at c_4
          refine lv_bipush (v := (-104)) hx hb dX8_see_40 (by decide) ?_
          have hP9 := hP.sub (ws' := [(q 0, .inr (8, [.ref (q 1), .ref (q 3), .ref (q 4), .ref (q 9), .ref (q 14), .ref (q 15), .ref (q 16), .ref (q 17), .int (nI nc), .int sr, .int ik])), (q 4, .inr (7, [.ref (q 5), .ref (q 6), .ref (q 7), .ref (q 8), .long isl, .int (nI br), .int st, .int so, .int (nI se)])), (q 6, .inl (ca 3, 6, .inl (fun zj => nI (sn zj)))), (q 7, .inl (ca 4, 6, .inl (fun zj => nI (sp zj)))), (q 8, .inl (ca 5, 6, .inl (fun zj => nI (sd zj))))]) [0, 1, 2, 3, 4] rfl
          have hD9 := hD.sub (ws' := [(q 0, .inr (8, [.ref (q 1), .ref (q 3), .ref (q 4), .ref (q 9), .ref (q 14), .ref (q 15), .ref (q 16), .ref (q 17), .int (nI nc), .int sr, .int ik])), (q 4, .inr (7, [.ref (q 5), .ref (q 6), .ref (q 7), .ref (q 8), .long isl, .int (nI br), .int st, .int so, .int (nI se)])), (q 6, .inl (ca 3, 6, .inl (fun zj => nI (sn zj)))), (q 7, .inl (ca 4, 6, .inl (fun zj => nI (sp zj)))), (q 8, .inl (ca 5, 6, .inl (fun zj => nI (sd zj))))]) [0, 1, 2, 3, 4] (by decide) rfl
          have hk : okE nc se x1 x2 x3 = false := by simp [okE, c_1, c_2, c_3, c_4]
          exact W.iret (v := (-104)) hx hb hr (fun t ht hW => ⟨⟨(-104), (), rfl, by show _ = _; simp [seeR, c_1, c_2, c_3, c_4], by rw [ht]; simp only [hk, Bool.false_eq_true, ↓reduceIte]; exact hP9, va_K.moved hW.alike hK, (by simp only [hk, Bool.false_eq_true, ↓reduceIte]; exact hD9)⟩, hS.F ht⟩) hS.2.2 dX8_see_42
      · replace c_3 := bI_f c_3
        refine lv_bipush (v := (-102)) hx hb dX8_see_25 (by decide) ?_
        have hP9 := hP.sub (ws' := [(q 0, .inr (8, [.ref (q 1), .ref (q 3), .ref (q 4), .ref (q 9), .ref (q 14), .ref (q 15), .ref (q 16), .ref (q 17), .int (nI nc), .int sr, .int ik])), (q 4, .inr (7, [.ref (q 5), .ref (q 6), .ref (q 7), .ref (q 8), .long isl, .int (nI br), .int st, .int so, .int (nI se)])), (q 6, .inl (ca 3, 6, .inl (fun zj => nI (sn zj)))), (q 7, .inl (ca 4, 6, .inl (fun zj => nI (sp zj)))), (q 8, .inl (ca 5, 6, .inl (fun zj => nI (sd zj))))]) [0, 1, 2, 3, 4] rfl
        have hD9 := hD.sub (ws' := [(q 0, .inr (8, [.ref (q 1), .ref (q 3), .ref (q 4), .ref (q 9), .ref (q 14), .ref (q 15), .ref (q 16), .ref (q 17), .int (nI nc), .int sr, .int ik])), (q 4, .inr (7, [.ref (q 5), .ref (q 6), .ref (q 7), .ref (q 8), .long isl, .int (nI br), .int st, .int so, .int (nI se)])), (q 6, .inl (ca 3, 6, .inl (fun zj => nI (sn zj)))), (q 7, .inl (ca 4, 6, .inl (fun zj => nI (sp zj)))), (q 8, .inl (ca 5, 6, .inl (fun zj => nI (sd zj))))]) [0, 1, 2, 3, 4] (by decide) rfl
        have hk : okE nc se x1 x2 x3 = false := by simp [okE, c_1, c_2, c_3]
        exact W.iret (v := (-102)) hx hb hr (fun t ht hW => ⟨⟨(-102), (), rfl, by show _ = _; simp [seeR, c_1, c_2, c_3], by rw [ht]; simp only [hk, Bool.false_eq_true, ↓reduceIte]; exact hP9, va_K.moved hW.alike hK, (by simp only [hk, Bool.false_eq_true, ↓reduceIte]; exact hD9)⟩, hS.F ht⟩) hS.2.2 dX8_see_27
    · replace c_2 := bI_f c_2
      refine lv_bipush (v := (-101)) hx hb dX8_see_15 (by decide) ?_
      have hP9 := hP.sub (ws' := [(q 0, .inr (8, [.ref (q 1), .ref (q 3), .ref (q 4), .ref (q 9), .ref (q 14), .ref (q 15), .ref (q 16), .ref (q 17), .int (nI nc), .int sr, .int ik])), (q 4, .inr (7, [.ref (q 5), .ref (q 6), .ref (q 7), .ref (q 8), .long isl, .int (nI br), .int st, .int so, .int (nI se)])), (q 6, .inl (ca 3, 6, .inl (fun zj => nI (sn zj)))), (q 7, .inl (ca 4, 6, .inl (fun zj => nI (sp zj)))), (q 8, .inl (ca 5, 6, .inl (fun zj => nI (sd zj))))]) [0, 1, 2, 3, 4] rfl
      have hD9 := hD.sub (ws' := [(q 0, .inr (8, [.ref (q 1), .ref (q 3), .ref (q 4), .ref (q 9), .ref (q 14), .ref (q 15), .ref (q 16), .ref (q 17), .int (nI nc), .int sr, .int ik])), (q 4, .inr (7, [.ref (q 5), .ref (q 6), .ref (q 7), .ref (q 8), .long isl, .int (nI br), .int st, .int so, .int (nI se)])), (q 6, .inl (ca 3, 6, .inl (fun zj => nI (sn zj)))), (q 7, .inl (ca 4, 6, .inl (fun zj => nI (sp zj)))), (q 8, .inl (ca 5, 6, .inl (fun zj => nI (sd zj))))]) [0, 1, 2, 3, 4] (by decide) rfl
      have hk : okE nc se x1 x2 x3 = false := by simp [okE, c_1, c_2]
      exact W.iret (v := (-101)) hx hb hr (fun t ht hW => ⟨⟨(-101), (), rfl, by show _ = _; simp [seeR, c_1, c_2], by rw [ht]; simp only [hk, Bool.false_eq_true, ↓reduceIte]; exact hP9, va_K.moved hW.alike hK, (by simp only [hk, Bool.false_eq_true, ↓reduceIte]; exact hD9)⟩, hS.F ht⟩) hS.2.2 dX8_see_17
set_option maxHeartbeats 4000000 in
set_option maxRecDepth 100000 in
theorem kX8_forget (l : Launch) (dC : Nat → ClassId) (dI : Nat → Nat → Nat) (ca : Nat → ClassId) (sz : Nat) (q : Nat → Nat) (nc : Nat) (sr : Int32) (ik : Int32) (isl : Int64) (br : Nat) (st : Int32) (so : Int32) (se : Nat) : Met l yX8_forget (Cond.code yX8_forget cX8_forget 2 (some .int) :: gT) (rk 1) (EFp (dC, dI) [(q 0, .inr (8, [.ref (q 1), .ref (q 3), .ref (q 4), .ref (q 9), .ref (q 14), .ref (q 15), .ref (q 16), .ref (q 17), .int (nI nc), .int sr, .int ik])), (q 4, .inr (7, [.ref (q 5), .ref (q 6), .ref (q 7), .ref (q 8), .long isl, .int (nI br), .int st, .int so, .int (nI se)]))] (TY ca) sz [Value.ref (q 0)]) (va_Qi (fun (r : Int32) (_ : Unit) => r = nI se) (EFb (dC, dI) (fun (_ : Unit) => [(q 0, .inr (8, [.ref (q 1), .ref (q 3), .ref (q 4), .ref (q 9), .ref (q 14), .ref (q 15), .ref (q 16), .ref (q 17), .int (nI nc), .int sr, .int ik])), (q 4, .inr (7, [.ref (q 5), .ref (q 6), .ref (q 7), .ref (q 8), .long isl, .int (nI br), .int st, .int so, .int (nI 0)]))]) (TY ca) (va_A [(q 0, .inr (8, [.ref (q 1), .ref (q 3), .ref (q 4), .ref (q 9), .ref (q 14), .ref (q 15), .ref (q 16), .ref (q 17), .int (nI nc), .int sr, .int ik])), (q 4, .inr (7, [.ref (q 5), .ref (q 6), .ref (q 7), .ref (q 8), .long isl, .int (nI br), .int st, .int so, .int (nI se)]))] sz)) (va_A [(q 0, .inr (8, [.ref (q 1), .ref (q 3), .ref (q 4), .ref (q 9), .ref (q 14), .ref (q 15), .ref (q 16), .ref (q 17), .int (nI nc), .int sr, .int ik])), (q 4, .inr (7, [.ref (q 5), .ref (q 6), .ref (q 7), .ref (q 8), .long isl, .int (nI br), .int st, .int so, .int (nI se)]))] sz)) 0 0 (va_A [(q 0, .inr (8, [.ref (q 1), .ref (q 3), .ref (q 4), .ref (q 9), .ref (q 14), .ref (q 15), .ref (q 16), .ref (q 17), .int (nI nc), .int sr, .int ik])), (q 4, .inr (7, [.ref (q 5), .ref (q 6), .ref (q 7), .ref (q 8), .long isl, .int (nI br), .int st, .int so, .int (nI se)]))] sz) := by
  refine Met.ofW (cc := cX8_forget) (maxL := 2) (ret := (some .int)) (by decide) rfl ?_
  intro p e s m args below meth c s₁ B hml hv
  obtain ⟨rfl, hsz, hP, hK, hD0⟩ := hv
  have hx := B.exec
  have hb := B.bytes
  have hr := B.returns
  have hts := atoms_spec (ws := (Cond.code yX8_forget cX8_forget 2 (some .int) :: gT)) B.pre
  have htl : ∀ w ∈ gT, w.before _ s = true := fun w h => hts w (List.mem_cons_of_mem _ h)
  have hown : s.vm.findClass RX8 = some m.cls := findClass_of_methodNamed B.named
  have hlocks := B.notSynchronized
  subst hsz
  have hD := hD0.self (sz := s.heap.size)
  generalize hAe : va_A [(q 0, .inr (8, [.ref (q 1), .ref (q 3), .ref (q 4), .ref (q 9), .ref (q 14), .ref (q 15), .ref (q 16), .ref (q 17), .int (nI nc), .int sr, .int ik])), (q 4, .inr (7, [.ref (q 5), .ref (q 6), .ref (q 7), .ref (q 8), .long isl, .int (nI br), .int st, .int so, .int (nI se)]))] s.heap.size = A at hD ⊢
  have hA : ∀ q : Nat, s.heap.size ≤ q → A q := fun q h => by rw [← hAe]; exact Or.inr h
  have hS : va_S A s.heap s.heap [] := va_S.rf
  have hl := lv_entry ([Value.ref (q 0)]) (n := 2) (Nat.le_of_ble_eq_true rfl)
  rw [lg_entry_eq]
  generalize (lg_sl ([Value.ref (q 0)]) ++ List.replicate (2 - (lg_sl ([Value.ref (q 0)])).length) Slot.unset).toArray = ls at hl ⊢
  have hl : lv_has ls 2 [(0, .ref (q 0))] := hl
  refine lv_aload_n hx hb dX8_forget_0 rfl (lv_at hl 0 rfl) ?_
  refine va_get (D := (dC, dI)) (ci := 8) (v := .ref (q 4)) (C := RX8) (T := TX8) (N := 11) hx hb htl iX8 hown hK hP 0 rfl rfl 2 (by decide) (htl _ wd_113) (fun _ h9 => h9) rfl dX8_forget_1 ?_
  refine va_get (D := (dC, dI)) (ci := 7) (v := .int (nI se)) (C := RX7) (T := TX7) (N := 9) hx hb htl iX7 hown hK hP 1 rfl rfl 8 (by decide) (htl _ wd_69) (fun _ h9 => h9) rfl dX8_forget_4 ?_
  refine lv_istore_n (lv' := [(1, .int (nI se)), (0, .ref (q 0))]) hx hb dX8_forget_7 rfl hl (by decide) rfl (fun ls hl => ?_)
  refine lv_aload_n hx hb dX8_forget_8 rfl (lv_at hl 1 rfl) ?_
  refine va_get (D := (dC, dI)) (ci := 8) (v := .ref (q 4)) (C := RX8) (T := TX8) (N := 11) hx hb htl iX8 hown hK hP 0 rfl rfl 2 (by decide) (htl _ wd_113) (fun _ h9 => h9) rfl dX8_forget_9 ?_
  refine lv_iconst (v := nI 0) hx hb dX8_forget_12 (by decide) ?_
  refine va_put (D := (dC, dI)) (ci := 7) (v := .int (nI 0)) (ty := .int) (C := RX7) (T := TX7) (N := 9) hx hb htl iX7 tyX7 tyX7_ok nmX7 hown hK hP hD hS 1 rfl rfl 8 (by decide) (htl _ wd_69) (fun _ h9 => h9) rfl (by decide +kernel) rfl rfl (Nat.le_of_ble_eq_true rfl) dX8_forget_13 (fun H locs hP hD hS => ?_)
  have hP : va_P (dC, dI) vwCl [(q 0, .inr (8, [.ref (q 1), .ref (q 3), .ref (q 4), .ref (q 9), .ref (q 14), .ref (q 15), .ref (q 16), .ref (q 17), .int (nI nc), .int sr, .int ik])), (q 4, .inr (7, [.ref (q 5), .ref (q 6), .ref (q 7), .ref (q 8), .long isl, .int (nI br), .int st, .int so, .int (nI 0)]))] H := hP
  have hD : va_D A [(q 0, .inr (8, [.ref (q 1), .ref (q 3), .ref (q 4), .ref (q 9), .ref (q 14), .ref (q 15), .ref (q 16), .ref (q 17), .int (nI nc), .int sr, .int ik])), (q 4, .inr (7, [.ref (q 5), .ref (q 6), .ref (q 7), .ref (q 8), .long isl, .int (nI br), .int st, .int so, .int (nI 0)]))] := hD
  refine lv_iload_n hx hb dX8_forget_16 rfl (lv_at hl 0 rfl) ?_
  have hP9 := hP.sub (ws' := [(q 0, .inr (8, [.ref (q 1), .ref (q 3), .ref (q 4), .ref (q 9), .ref (q 14), .ref (q 15), .ref (q 16), .ref (q 17), .int (nI nc), .int sr, .int ik])), (q 4, .inr (7, [.ref (q 5), .ref (q 6), .ref (q 7), .ref (q 8), .long isl, .int (nI br), .int st, .int so, .int (nI 0)]))]) [0, 1] rfl
  have hD9 := hD.sub (ws' := [(q 0, .inr (8, [.ref (q 1), .ref (q 3), .ref (q 4), .ref (q 9), .ref (q 14), .ref (q 15), .ref (q 16), .ref (q 17), .int (nI nc), .int sr, .int ik])), (q 4, .inr (7, [.ref (q 5), .ref (q 6), .ref (q 7), .ref (q 8), .long isl, .int (nI br), .int st, .int so, .int (nI 0)]))]) [0, 1] (by decide) rfl
  exact W.iret (v := nI se) hx hb hr (fun t ht hW => ⟨⟨nI se, (), rfl, rfl, by rw [ht]; exact hP9, va_K.moved hW.alike hK, hD9⟩, hS.F ht⟩) hS.2.2 dX8_forget_17
set_option maxHeartbeats 4000000 in
set_option maxRecDepth 100000 in
theorem kX8_image (l : Launch) (dC : Nat → ClassId) (dI : Nat → Nat → Nat) (ca : Nat → ClassId) (sz : Nat) (q : Nat → Nat) (nc : Nat) (sr : Int32) (ik : Int32) (isl : Int64) (br : Nat) (st : Int32) (so : Int32) (se : Nat) (hm : Nat → Nat) (sn : Nat → Nat) (sp : Nat → Nat) (sd : Nat → Nat) (kisl : Int64) (kbr : Nat) (kst : Int32) (kso : Int32) (kse : Nat) (khm : Nat → Nat) (ksn : Nat → Nat) (ksp : Nat → Nat) (ksd : Nat → Nat) (hnc : nc ≤ 4) : Met l yX8_image (Cond.code yX8_image cX8_image 1 (some .int) :: gT) (rk 3) (EFp (dC, dI) [(q 0, .inr (8, [.ref (q 1), .ref (q 3), .ref (q 4), .ref (q 9), .ref (q 14), .ref (q 15), .ref (q 16), .ref (q 17), .int (nI nc), .int sr, .int ik])), (q 4, .inr (7, [.ref (q 5), .ref (q 6), .ref (q 7), .ref (q 8), .long isl, .int (nI br), .int st, .int so, .int (nI se)])), (q 5, .inl (ca 2, 4, .inl (fun zj => nI (hm zj)))), (q 6, .inl (ca 3, 6, .inl (fun zj => nI (sn zj)))), (q 7, .inl (ca 4, 6, .inl (fun zj => nI (sp zj)))), (q 8, .inl (ca 5, 6, .inl (fun zj => nI (sd zj)))), (q 9, .inr (7, [.ref (q 10), .ref (q 11), .ref (q 12), .ref (q 13), .long kisl, .int (nI kbr), .int kst, .int kso, .int (nI kse)])), (q 10, .inl (ca 6, 4, .inl (fun zj => nI (khm zj)))), (q 11, .inl (ca 7, 6, .inl (fun zj => nI (ksn zj)))), (q 12, .inl (ca 8, 6, .inl (fun zj => nI (ksp zj)))), (q 13, .inl (ca 9, 6, .inl (fun zj => nI (ksd zj))))] (TY ca) sz [Value.ref (q 0)]) (va_Qi (fun (r : Int32) (_ : Unit) => r = if nc = 0 then -103 else st) (EFb (dC, dI) (fun (_ : Unit) => [(q 0, .inr (8, [.ref (q 1), .ref (q 3), .ref (q 4), .ref (q 9), .ref (q 14), .ref (q 15), .ref (q 16), .ref (q 17), .int (nI nc), .int sr, .int (if nc = 0 then ik else nI 1)])), (q 4, .inr (7, [.ref (q 5), .ref (q 6), .ref (q 7), .ref (q 8), .long isl, .int (nI br), .int st, .int so, .int (nI se)])), (q 5, .inl (ca 2, 4, .inl (fun zj => nI (hm zj)))), (q 6, .inl (ca 3, 6, .inl (fun zj => nI (sn zj)))), (q 7, .inl (ca 4, 6, .inl (fun zj => nI (sp zj)))), (q 8, .inl (ca 5, 6, .inl (fun zj => nI (sd zj)))), (q 9, .inr (7, [.ref (q 10), .ref (q 11), .ref (q 12), .ref (q 13), .long (if nc = 0 then kisl else isl), .int (nI (if nc = 0 then kbr else br)), .int (if nc = 0 then kst else st), .int (if nc = 0 then kso else so), .int (nI (if nc = 0 then kse else se))])), (q 10, .inl (ca 6, 4, .inl (fun zj => nI ((if nc = 0 then khm else hm) zj)))), (q 11, .inl (ca 7, 6, .inl (fun zj => nI ((if nc = 0 then ksn else sn) zj)))), (q 12, .inl (ca 8, 6, .inl (fun zj => nI ((if nc = 0 then ksp else sp) zj)))), (q 13, .inl (ca 9, 6, .inl (fun zj => nI ((if nc = 0 then ksd else sd) zj))))]) (TY ca) (va_A [(q 0, .inr (8, [.ref (q 1), .ref (q 3), .ref (q 4), .ref (q 9), .ref (q 14), .ref (q 15), .ref (q 16), .ref (q 17), .int (nI nc), .int sr, .int ik])), (q 4, .inr (7, [.ref (q 5), .ref (q 6), .ref (q 7), .ref (q 8), .long isl, .int (nI br), .int st, .int so, .int (nI se)])), (q 5, .inl (ca 2, 4, .inl (fun zj => nI (hm zj)))), (q 6, .inl (ca 3, 6, .inl (fun zj => nI (sn zj)))), (q 7, .inl (ca 4, 6, .inl (fun zj => nI (sp zj)))), (q 8, .inl (ca 5, 6, .inl (fun zj => nI (sd zj)))), (q 9, .inr (7, [.ref (q 10), .ref (q 11), .ref (q 12), .ref (q 13), .long kisl, .int (nI kbr), .int kst, .int kso, .int (nI kse)])), (q 10, .inl (ca 6, 4, .inl (fun zj => nI (khm zj)))), (q 11, .inl (ca 7, 6, .inl (fun zj => nI (ksn zj)))), (q 12, .inl (ca 8, 6, .inl (fun zj => nI (ksp zj)))), (q 13, .inl (ca 9, 6, .inl (fun zj => nI (ksd zj))))] sz)) (va_A [(q 0, .inr (8, [.ref (q 1), .ref (q 3), .ref (q 4), .ref (q 9), .ref (q 14), .ref (q 15), .ref (q 16), .ref (q 17), .int (nI nc), .int sr, .int ik])), (q 4, .inr (7, [.ref (q 5), .ref (q 6), .ref (q 7), .ref (q 8), .long isl, .int (nI br), .int st, .int so, .int (nI se)])), (q 5, .inl (ca 2, 4, .inl (fun zj => nI (hm zj)))), (q 6, .inl (ca 3, 6, .inl (fun zj => nI (sn zj)))), (q 7, .inl (ca 4, 6, .inl (fun zj => nI (sp zj)))), (q 8, .inl (ca 5, 6, .inl (fun zj => nI (sd zj)))), (q 9, .inr (7, [.ref (q 10), .ref (q 11), .ref (q 12), .ref (q 13), .long kisl, .int (nI kbr), .int kst, .int kso, .int (nI kse)])), (q 10, .inl (ca 6, 4, .inl (fun zj => nI (khm zj)))), (q 11, .inl (ca 7, 6, .inl (fun zj => nI (ksn zj)))), (q 12, .inl (ca 8, 6, .inl (fun zj => nI (ksp zj)))), (q 13, .inl (ca 9, 6, .inl (fun zj => nI (ksd zj))))] sz)) 0 0 (va_A [(q 0, .inr (8, [.ref (q 1), .ref (q 3), .ref (q 4), .ref (q 9), .ref (q 14), .ref (q 15), .ref (q 16), .ref (q 17), .int (nI nc), .int sr, .int ik])), (q 4, .inr (7, [.ref (q 5), .ref (q 6), .ref (q 7), .ref (q 8), .long isl, .int (nI br), .int st, .int so, .int (nI se)])), (q 5, .inl (ca 2, 4, .inl (fun zj => nI (hm zj)))), (q 6, .inl (ca 3, 6, .inl (fun zj => nI (sn zj)))), (q 7, .inl (ca 4, 6, .inl (fun zj => nI (sp zj)))), (q 8, .inl (ca 5, 6, .inl (fun zj => nI (sd zj)))), (q 9, .inr (7, [.ref (q 10), .ref (q 11), .ref (q 12), .ref (q 13), .long kisl, .int (nI kbr), .int kst, .int kso, .int (nI kse)])), (q 10, .inl (ca 6, 4, .inl (fun zj => nI (khm zj)))), (q 11, .inl (ca 7, 6, .inl (fun zj => nI (ksn zj)))), (q 12, .inl (ca 8, 6, .inl (fun zj => nI (ksp zj)))), (q 13, .inl (ca 9, 6, .inl (fun zj => nI (ksd zj))))] sz) := by
  refine Met.ofW (cc := cX8_image) (maxL := 1) (ret := (some .int)) (by decide) rfl ?_
  intro p e s m args below meth c s₁ B hml hv
  obtain ⟨rfl, hsz, hP, hK, hD0⟩ := hv
  have hx := B.exec
  have hb := B.bytes
  have hr := B.returns
  have hts := atoms_spec (ws := (Cond.code yX8_image cX8_image 1 (some .int) :: gT)) B.pre
  have htl : ∀ w ∈ gT, w.before _ s = true := fun w h => hts w (List.mem_cons_of_mem _ h)
  have hown : s.vm.findClass RX8 = some m.cls := findClass_of_methodNamed B.named
  have hlocks := B.notSynchronized
  subst hsz
  have hD := hD0.self (sz := s.heap.size)
  generalize hAe : va_A [(q 0, .inr (8, [.ref (q 1), .ref (q 3), .ref (q 4), .ref (q 9), .ref (q 14), .ref (q 15), .ref (q 16), .ref (q 17), .int (nI nc), .int sr, .int ik])), (q 4, .inr (7, [.ref (q 5), .ref (q 6), .ref (q 7), .ref (q 8), .long isl, .int (nI br), .int st, .int so, .int (nI se)])), (q 5, .inl (ca 2, 4, .inl (fun zj => nI (hm zj)))), (q 6, .inl (ca 3, 6, .inl (fun zj => nI (sn zj)))), (q 7, .inl (ca 4, 6, .inl (fun zj => nI (sp zj)))), (q 8, .inl (ca 5, 6, .inl (fun zj => nI (sd zj)))), (q 9, .inr (7, [.ref (q 10), .ref (q 11), .ref (q 12), .ref (q 13), .long kisl, .int (nI kbr), .int kst, .int kso, .int (nI kse)])), (q 10, .inl (ca 6, 4, .inl (fun zj => nI (khm zj)))), (q 11, .inl (ca 7, 6, .inl (fun zj => nI (ksn zj)))), (q 12, .inl (ca 8, 6, .inl (fun zj => nI (ksp zj)))), (q 13, .inl (ca 9, 6, .inl (fun zj => nI (ksd zj))))] s.heap.size = A at hD ⊢
  have hA : ∀ q : Nat, s.heap.size ≤ q → A q := fun q h => by rw [← hAe]; exact Or.inr h
  have hS : va_S A s.heap s.heap [] := va_S.rf
  have hl := lv_entry ([Value.ref (q 0)]) (n := 1) (Nat.le_of_ble_eq_true rfl)
  rw [lg_entry_eq]
  generalize (lg_sl ([Value.ref (q 0)]) ++ List.replicate (1 - (lg_sl ([Value.ref (q 0)])).length) Slot.unset).toArray = ls at hl ⊢
  have hl : lv_has ls 1 [(0, .ref (q 0))] := hl
  refine lv_aload_n hx hb dX8_image_0 rfl (lv_at hl 0 rfl) ?_
  refine roV (As := []) (rest := []) (kX8_hasSea l dC dI ca q nc sr ik hnc) ⟨hx, hb, hml, hown, htl⟩ (cVg (C := RX8) 0 htl wd_447 wd_449 wp_10 wd_1 wd_450 rfl rfl (by decide +kernel) ⟨Nat.le_of_ble_eq_true rfl, Nat.le_of_ble_eq_true rfl⟩) (hP.sub [0] rfl) hK (va_recv hK hP (ci := 8) (q0 := 0) rfl rfl) rfl hl.1 rfl (Nat.le_of_ble_eq_true rfl) dX8_image_1 ⟨Nat.zero_le _, Nat.zero_le _⟩ (fun r hr9 => ?_)
  subst hr9
  refine lv_if_ne (tgt := 10) hx hb dX8_image_4 (by decide) (fun c_1 => ?_) (fun c_1 => ?_)
  · replace c_1 := bI_t c_1
    refine lv_aload_n hx hb dX8_image_10 rfl (lv_at hl 0 rfl) ?_
    refine va_get (D := (dC, dI)) (ci := 8) (v := .ref (q 9)) (C := RX8) (T := TX8) (N := 11) hx hb htl iX8 hown hK hP 0 rfl rfl 3 (by decide) (htl _ wd_114) (fun _ h9 => h9) rfl dX8_image_11 ?_
    refine lv_aload_n hx hb dX8_image_14 rfl (lv_at hl 0 rfl) ?_
    refine va_get (D := (dC, dI)) (ci := 8) (v := .ref (q 4)) (C := RX8) (T := TX8) (N := 11) hx hb htl iX8 hown hK hP 0 rfl rfl 2 (by decide) (htl _ wd_113) (fun _ h9 => h9) rfl dX8_image_15 ?_
    refine efVv (As := [Value.ref (q 4)]) (rest := []) (wr := [(q 0, .inr (8, [.ref (q 1), .ref (q 3), .ref (q 4), .ref (q 9), .ref (q 14), .ref (q 15), .ref (q 16), .ref (q 17), .int (nI nc), .int sr, .int ik]))]) (kcopy_keep l dC dI ca _ q isl br st so se hm sn sp sd kisl kbr kst kso kse khm ksn ksp ksd ) ⟨hx, hb, hml, hown, htl⟩ (cVg (C := RX7) 1 htl wd_511 wd_512 wd_513 wd_3 wd_514 rfl rfl (by decide +kernel) ⟨Nat.le_of_ble_eq_true rfl, Nat.le_of_ble_eq_true rfl⟩) hP hD hS hA hK [6, 7, 8, 9, 10, 1, 2, 3, 4, 5] [0] rfl rfl (by decide) (by decide) (by decide) (va_recv hK hP (ci := 7) (q0 := 6) rfl rfl) rfl hl.1 rfl (Nat.le_of_ble_eq_true rfl) dX8_image_18 ⟨Nat.zero_le _, Nat.zero_le _⟩ (fun u H locs hw_18 hP hD hS => ?_)
    have hP : va_P (dC, dI) vwCl [(q 0, .inr (8, [.ref (q 1), .ref (q 3), .ref (q 4), .ref (q 9), .ref (q 14), .ref (q 15), .ref (q 16), .ref (q 17), .int (nI nc), .int sr, .int ik])), (q 9, .inr (7, [.ref (q 10), .ref (q 11), .ref (q 12), .ref (q 13), .long isl, .int (nI br), .int st, .int so, .int (nI se)])), (q 10, .inl (ca 6, 4, .inl (fun zj => nI (hm zj)))), (q 11, .inl (ca 7, 6, .inl (fun zj => nI (sn zj)))), (q 12, .inl (ca 8, 6, .inl (fun zj => nI (sp zj)))), (q 13, .inl (ca 9, 6, .inl (fun zj => nI (sd zj)))), (q 4, .inr (7, [.ref (q 5), .ref (q 6), .ref (q 7), .ref (q 8), .long isl, .int (nI br), .int st, .int so, .int (nI se)])), (q 5, .inl (ca 2, 4, .inl (fun zj => nI (hm zj)))), (q 6, .inl (ca 3, 6, .inl (fun zj => nI (sn zj)))), (q 7, .inl (ca 4, 6, .inl (fun zj => nI (sp zj)))), (q 8, .inl (ca 5, 6, .inl (fun zj => nI (sd zj))))] H := hP
    have hD : va_D A [(q 0, .inr (8, [.ref (q 1), .ref (q 3), .ref (q 4), .ref (q 9), .ref (q 14), .ref (q 15), .ref (q 16), .ref (q 17), .int (nI nc), .int sr, .int ik])), (q 9, .inr (7, [.ref (q 10), .ref (q 11), .ref (q 12), .ref (q 13), .long isl, .int (nI br), .int st, .int so, .int (nI se)])), (q 10, .inl (ca 6, 4, .inl (fun zj => nI (hm zj)))), (q 11, .inl (ca 7, 6, .inl (fun zj => nI (sn zj)))), (q 12, .inl (ca 8, 6, .inl (fun zj => nI (sp zj)))), (q 13, .inl (ca 9, 6, .inl (fun zj => nI (sd zj)))), (q 4, .inr (7, [.ref (q 5), .ref (q 6), .ref (q 7), .ref (q 8), .long isl, .int (nI br), .int st, .int so, .int (nI se)])), (q 5, .inl (ca 2, 4, .inl (fun zj => nI (hm zj)))), (q 6, .inl (ca 3, 6, .inl (fun zj => nI (sn zj)))), (q 7, .inl (ca 4, 6, .inl (fun zj => nI (sp zj)))), (q 8, .inl (ca 5, 6, .inl (fun zj => nI (sd zj))))] := hD
    refine lv_aload_n hx hb dX8_image_21 rfl (lv_at hl 0 rfl) ?_
    refine lv_iconst (v := nI 1) hx hb dX8_image_22 (by decide) ?_
    refine va_put (D := (dC, dI)) (ci := 8) (v := .int (nI 1)) (ty := .boolean) (C := RX8) (T := TX8) (N := 11) hx hb htl iX8 tyX8 tyX8_ok nmX8 hown hK hP hD hS 0 rfl rfl 10 (by decide) (htl _ wd_121) (fun _ h9 => h9) rfl (by decide +kernel) (by decide +kernel) (by decide +kernel) (Nat.le_of_ble_eq_true rfl) dX8_image_23 (fun H locs hP hD hS => ?_)
    have hP : va_P (dC, dI) vwCl [(q 0, .inr (8, [.ref (q 1), .ref (q 3), .ref (q 4), .ref (q 9), .ref (q 14), .ref (q 15), .ref (q 16), .ref (q 17), .int (nI nc), .int sr, .int (nI 1)])), (q 9, .inr (7, [.ref (q 10), .ref (q 11), .ref (q 12), .ref (q 13), .long isl, .int (nI br), .int st, .int so, .int (nI se)])), (q 10, .inl (ca 6, 4, .inl (fun zj => nI (hm zj)))), (q 11, .inl (ca 7, 6, .inl (fun zj => nI (sn zj)))), (q 12, .inl (ca 8, 6, .inl (fun zj => nI (sp zj)))), (q 13, .inl (ca 9, 6, .inl (fun zj => nI (sd zj)))), (q 4, .inr (7, [.ref (q 5), .ref (q 6), .ref (q 7), .ref (q 8), .long isl, .int (nI br), .int st, .int so, .int (nI se)])), (q 5, .inl (ca 2, 4, .inl (fun zj => nI (hm zj)))), (q 6, .inl (ca 3, 6, .inl (fun zj => nI (sn zj)))), (q 7, .inl (ca 4, 6, .inl (fun zj => nI (sp zj)))), (q 8, .inl (ca 5, 6, .inl (fun zj => nI (sd zj))))] H := hP
    have hD : va_D A [(q 0, .inr (8, [.ref (q 1), .ref (q 3), .ref (q 4), .ref (q 9), .ref (q 14), .ref (q 15), .ref (q 16), .ref (q 17), .int (nI nc), .int sr, .int (nI 1)])), (q 9, .inr (7, [.ref (q 10), .ref (q 11), .ref (q 12), .ref (q 13), .long isl, .int (nI br), .int st, .int so, .int (nI se)])), (q 10, .inl (ca 6, 4, .inl (fun zj => nI (hm zj)))), (q 11, .inl (ca 7, 6, .inl (fun zj => nI (sn zj)))), (q 12, .inl (ca 8, 6, .inl (fun zj => nI (sp zj)))), (q 13, .inl (ca 9, 6, .inl (fun zj => nI (sd zj)))), (q 4, .inr (7, [.ref (q 5), .ref (q 6), .ref (q 7), .ref (q 8), .long isl, .int (nI br), .int st, .int so, .int (nI se)])), (q 5, .inl (ca 2, 4, .inl (fun zj => nI (hm zj)))), (q 6, .inl (ca 3, 6, .inl (fun zj => nI (sn zj)))), (q 7, .inl (ca 4, 6, .inl (fun zj => nI (sp zj)))), (q 8, .inl (ca 5, 6, .inl (fun zj => nI (sd zj))))] := hD
    refine lv_aload_n hx hb dX8_image_26 rfl (lv_at hl 0 rfl) ?_
    refine va_get (D := (dC, dI)) (ci := 8) (v := .ref (q 4)) (C := RX8) (T := TX8) (N := 11) hx hb htl iX8 hown hK hP 0 rfl rfl 2 (by decide) (htl _ wd_113) (fun _ h9 => h9) rfl dX8_image_27 ?_
    refine va_get (D := (dC, dI)) (ci := 7) (v := .int st) (C := RX7) (T := TX7) (N := 9) hx hb htl iX7 hown hK hP 6 rfl rfl 6 (by decide) (htl _ wd_65) (fun _ h9 => h9) rfl dX8_image_30 ?_
    have hP9 := hP.sub (ws' := [(q 0, .inr (8, [.ref (q 1), .ref (q 3), .ref (q 4), .ref (q 9), .ref (q 14), .ref (q 15), .ref (q 16), .ref (q 17), .int (nI nc), .int sr, .int (nI 1)])), (q 4, .inr (7, [.ref (q 5), .ref (q 6), .ref (q 7), .ref (q 8), .long isl, .int (nI br), .int st, .int so, .int (nI se)])), (q 5, .inl (ca 2, 4, .inl (fun zj => nI (hm zj)))), (q 6, .inl (ca 3, 6, .inl (fun zj => nI (sn zj)))), (q 7, .inl (ca 4, 6, .inl (fun zj => nI (sp zj)))), (q 8, .inl (ca 5, 6, .inl (fun zj => nI (sd zj)))), (q 9, .inr (7, [.ref (q 10), .ref (q 11), .ref (q 12), .ref (q 13), .long isl, .int (nI br), .int st, .int so, .int (nI se)])), (q 10, .inl (ca 6, 4, .inl (fun zj => nI (hm zj)))), (q 11, .inl (ca 7, 6, .inl (fun zj => nI (sn zj)))), (q 12, .inl (ca 8, 6, .inl (fun zj => nI (sp zj)))), (q 13, .inl (ca 9, 6, .inl (fun zj => nI (sd zj))))]) [0, 6, 7, 8, 9, 10, 1, 2, 3, 4, 5] rfl
    have hD9 := hD.sub (ws' := [(q 0, .inr (8, [.ref (q 1), .ref (q 3), .ref (q 4), .ref (q 9), .ref (q 14), .ref (q 15), .ref (q 16), .ref (q 17), .int (nI nc), .int sr, .int (nI 1)])), (q 4, .inr (7, [.ref (q 5), .ref (q 6), .ref (q 7), .ref (q 8), .long isl, .int (nI br), .int st, .int so, .int (nI se)])), (q 5, .inl (ca 2, 4, .inl (fun zj => nI (hm zj)))), (q 6, .inl (ca 3, 6, .inl (fun zj => nI (sn zj)))), (q 7, .inl (ca 4, 6, .inl (fun zj => nI (sp zj)))), (q 8, .inl (ca 5, 6, .inl (fun zj => nI (sd zj)))), (q 9, .inr (7, [.ref (q 10), .ref (q 11), .ref (q 12), .ref (q 13), .long isl, .int (nI br), .int st, .int so, .int (nI se)])), (q 10, .inl (ca 6, 4, .inl (fun zj => nI (hm zj)))), (q 11, .inl (ca 7, 6, .inl (fun zj => nI (sn zj)))), (q 12, .inl (ca 8, 6, .inl (fun zj => nI (sp zj)))), (q 13, .inl (ca 9, 6, .inl (fun zj => nI (sd zj))))]) [0, 6, 7, 8, 9, 10, 1, 2, 3, 4, 5] (by decide) rfl
    have hk : ¬ nc = 0 := by simp at c_1; exact c_1
    exact W.iret (v := st) hx hb hr (fun t ht hW => ⟨⟨st, (), rfl, by show _ = _; rw [if_neg hk], by rw [ht]; simp only [hk, ↓reduceIte]; exact hP9, va_K.moved hW.alike hK, (by simp only [hk, ↓reduceIte]; exact hD9)⟩, hS.F ht⟩) hS.2.2 dX8_image_33
  · replace c_1 := bI_f c_1
    refine lv_bipush (v := (-103)) hx hb dX8_image_7 (by decide) ?_
    have hP9 := hP.sub (ws' := [(q 0, .inr (8, [.ref (q 1), .ref (q 3), .ref (q 4), .ref (q 9), .ref (q 14), .ref (q 15), .ref (q 16), .ref (q 17), .int (nI nc), .int sr, .int ik])), (q 4, .inr (7, [.ref (q 5), .ref (q 6), .ref (q 7), .ref (q 8), .long isl, .int (nI br), .int st, .int so, .int (nI se)])), (q 5, .inl (ca 2, 4, .inl (fun zj => nI (hm zj)))), (q 6, .inl (ca 3, 6, .inl (fun zj => nI (sn zj)))), (q 7, .inl (ca 4, 6, .inl (fun zj => nI (sp zj)))), (q 8, .inl (ca 5, 6, .inl (fun zj => nI (sd zj)))), (q 9, .inr (7, [.ref (q 10), .ref (q 11), .ref (q 12), .ref (q 13), .long kisl, .int (nI kbr), .int kst, .int kso, .int (nI kse)])), (q 10, .inl (ca 6, 4, .inl (fun zj => nI (khm zj)))), (q 11, .inl (ca 7, 6, .inl (fun zj => nI (ksn zj)))), (q 12, .inl (ca 8, 6, .inl (fun zj => nI (ksp zj)))), (q 13, .inl (ca 9, 6, .inl (fun zj => nI (ksd zj))))]) [0, 1, 2, 3, 4, 5, 6, 7, 8, 9, 10] rfl
    have hD9 := hD.sub (ws' := [(q 0, .inr (8, [.ref (q 1), .ref (q 3), .ref (q 4), .ref (q 9), .ref (q 14), .ref (q 15), .ref (q 16), .ref (q 17), .int (nI nc), .int sr, .int ik])), (q 4, .inr (7, [.ref (q 5), .ref (q 6), .ref (q 7), .ref (q 8), .long isl, .int (nI br), .int st, .int so, .int (nI se)])), (q 5, .inl (ca 2, 4, .inl (fun zj => nI (hm zj)))), (q 6, .inl (ca 3, 6, .inl (fun zj => nI (sn zj)))), (q 7, .inl (ca 4, 6, .inl (fun zj => nI (sp zj)))), (q 8, .inl (ca 5, 6, .inl (fun zj => nI (sd zj)))), (q 9, .inr (7, [.ref (q 10), .ref (q 11), .ref (q 12), .ref (q 13), .long kisl, .int (nI kbr), .int kst, .int kso, .int (nI kse)])), (q 10, .inl (ca 6, 4, .inl (fun zj => nI (khm zj)))), (q 11, .inl (ca 7, 6, .inl (fun zj => nI (ksn zj)))), (q 12, .inl (ca 8, 6, .inl (fun zj => nI (ksp zj)))), (q 13, .inl (ca 9, 6, .inl (fun zj => nI (ksd zj))))]) [0, 1, 2, 3, 4, 5, 6, 7, 8, 9, 10] (by decide) rfl
    have hk : nc = 0 := by simp at c_1; exact c_1
    exact W.iret (v := (-103)) hx hb hr (fun t ht hW => ⟨⟨(-103), (), rfl, by show _ = _; rw [if_pos hk], by rw [ht]; simp only [if_pos hk]; exact hP9, va_K.moved hW.alike hK, (by simp only [if_pos hk]; exact hD9)⟩, hS.F ht⟩) hS.2.2 dX8_image_9
set_option maxHeartbeats 4000000 in
set_option maxRecDepth 100000 in
theorem kX8_restore (l : Launch) (dC : Nat → ClassId) (dI : Nat → Nat → Nat) (ca : Nat → ClassId) (sz : Nat) (q : Nat → Nat) (nc : Nat) (sr : Int32) (ik : Int32) (isl : Int64) (br : Nat) (st : Int32) (so : Int32) (se : Nat) (hm : Nat → Nat) (sn : Nat → Nat) (sp : Nat → Nat) (sd : Nat → Nat) (kisl : Int64) (kbr : Nat) (kst : Int32) (kso : Int32) (kse : Nat) (khm : Nat → Nat) (ksn : Nat → Nat) (ksp : Nat → Nat) (ksd : Nat → Nat) : Met l yX8_restore (Cond.code yX8_restore cX8_restore 1 (some .int) :: gT) (rk 3) (EFp (dC, dI) [(q 0, .inr (8, [.ref (q 1), .ref (q 3), .ref (q 4), .ref (q 9), .ref (q 14), .ref (q 15), .ref (q 16), .ref (q 17), .int (nI nc), .int sr, .int ik])), (q 4, .inr (7, [.ref (q 5), .ref (q 6), .ref (q 7), .ref (q 8), .long isl, .int (nI br), .int st, .int so, .int (nI se)])), (q 5, .inl (ca 2, 4, .inl (fun zj => nI (hm zj)))), (q 6, .inl (ca 3, 6, .inl (fun zj => nI (sn zj)))), (q 7, .inl (ca 4, 6, .inl (fun zj => nI (sp zj)))), (q 8, .inl (ca 5, 6, .inl (fun zj => nI (sd zj)))), (q 9, .inr (7, [.ref (q 10), .ref (q 11), .ref (q 12), .ref (q 13), .long kisl, .int (nI kbr), .int kst, .int kso, .int (nI kse)])), (q 10, .inl (ca 6, 4, .inl (fun zj => nI (khm zj)))), (q 11, .inl (ca 7, 6, .inl (fun zj => nI (ksn zj)))), (q 12, .inl (ca 8, 6, .inl (fun zj => nI (ksp zj)))), (q 13, .inl (ca 9, 6, .inl (fun zj => nI (ksd zj))))] (TY ca) sz [Value.ref (q 0)]) (va_Qi (fun (r : Int32) (_ : Unit) => r = if ik = 0 then -103 else kst) (EFb (dC, dI) (fun (_ : Unit) => [(q 0, .inr (8, [.ref (q 1), .ref (q 3), .ref (q 4), .ref (q 9), .ref (q 14), .ref (q 15), .ref (q 16), .ref (q 17), .int (nI nc), .int sr, .int ik])), (q 4, .inr (7, [.ref (q 5), .ref (q 6), .ref (q 7), .ref (q 8), .long (if ik = 0 then isl else kisl), .int (nI (if ik = 0 then br else kbr)), .int (if ik = 0 then st else kst), .int (if ik = 0 then so else kso), .int (nI (if ik = 0 then se else kse))])), (q 5, .inl (ca 2, 4, .inl (fun zj => nI ((if ik = 0 then hm else khm) zj)))), (q 6, .inl (ca 3, 6, .inl (fun zj => nI ((if ik = 0 then sn else ksn) zj)))), (q 7, .inl (ca 4, 6, .inl (fun zj => nI ((if ik = 0 then sp else ksp) zj)))), (q 8, .inl (ca 5, 6, .inl (fun zj => nI ((if ik = 0 then sd else ksd) zj)))), (q 9, .inr (7, [.ref (q 10), .ref (q 11), .ref (q 12), .ref (q 13), .long kisl, .int (nI kbr), .int kst, .int kso, .int (nI kse)])), (q 10, .inl (ca 6, 4, .inl (fun zj => nI (khm zj)))), (q 11, .inl (ca 7, 6, .inl (fun zj => nI (ksn zj)))), (q 12, .inl (ca 8, 6, .inl (fun zj => nI (ksp zj)))), (q 13, .inl (ca 9, 6, .inl (fun zj => nI (ksd zj))))]) (TY ca) (va_A [(q 0, .inr (8, [.ref (q 1), .ref (q 3), .ref (q 4), .ref (q 9), .ref (q 14), .ref (q 15), .ref (q 16), .ref (q 17), .int (nI nc), .int sr, .int ik])), (q 4, .inr (7, [.ref (q 5), .ref (q 6), .ref (q 7), .ref (q 8), .long isl, .int (nI br), .int st, .int so, .int (nI se)])), (q 5, .inl (ca 2, 4, .inl (fun zj => nI (hm zj)))), (q 6, .inl (ca 3, 6, .inl (fun zj => nI (sn zj)))), (q 7, .inl (ca 4, 6, .inl (fun zj => nI (sp zj)))), (q 8, .inl (ca 5, 6, .inl (fun zj => nI (sd zj)))), (q 9, .inr (7, [.ref (q 10), .ref (q 11), .ref (q 12), .ref (q 13), .long kisl, .int (nI kbr), .int kst, .int kso, .int (nI kse)])), (q 10, .inl (ca 6, 4, .inl (fun zj => nI (khm zj)))), (q 11, .inl (ca 7, 6, .inl (fun zj => nI (ksn zj)))), (q 12, .inl (ca 8, 6, .inl (fun zj => nI (ksp zj)))), (q 13, .inl (ca 9, 6, .inl (fun zj => nI (ksd zj))))] sz)) (va_A [(q 0, .inr (8, [.ref (q 1), .ref (q 3), .ref (q 4), .ref (q 9), .ref (q 14), .ref (q 15), .ref (q 16), .ref (q 17), .int (nI nc), .int sr, .int ik])), (q 4, .inr (7, [.ref (q 5), .ref (q 6), .ref (q 7), .ref (q 8), .long isl, .int (nI br), .int st, .int so, .int (nI se)])), (q 5, .inl (ca 2, 4, .inl (fun zj => nI (hm zj)))), (q 6, .inl (ca 3, 6, .inl (fun zj => nI (sn zj)))), (q 7, .inl (ca 4, 6, .inl (fun zj => nI (sp zj)))), (q 8, .inl (ca 5, 6, .inl (fun zj => nI (sd zj)))), (q 9, .inr (7, [.ref (q 10), .ref (q 11), .ref (q 12), .ref (q 13), .long kisl, .int (nI kbr), .int kst, .int kso, .int (nI kse)])), (q 10, .inl (ca 6, 4, .inl (fun zj => nI (khm zj)))), (q 11, .inl (ca 7, 6, .inl (fun zj => nI (ksn zj)))), (q 12, .inl (ca 8, 6, .inl (fun zj => nI (ksp zj)))), (q 13, .inl (ca 9, 6, .inl (fun zj => nI (ksd zj))))] sz)) 0 0 (va_A [(q 0, .inr (8, [.ref (q 1), .ref (q 3), .ref (q 4), .ref (q 9), .ref (q 14), .ref (q 15), .ref (q 16), .ref (q 17), .int (nI nc), .int sr, .int ik])), (q 4, .inr (7, [.ref (q 5), .ref (q 6), .ref (q 7), .ref (q 8), .long isl, .int (nI br), .int st, .int so, .int (nI se)])), (q 5, .inl (ca 2, 4, .inl (fun zj => nI (hm zj)))), (q 6, .inl (ca 3, 6, .inl (fun zj => nI (sn zj)))), (q 7, .inl (ca 4, 6, .inl (fun zj => nI (sp zj)))), (q 8, .inl (ca 5, 6, .inl (fun zj => nI (sd zj)))), (q 9, .inr (7, [.ref (q 10), .ref (q 11), .ref (q 12), .ref (q 13), .long kisl, .int (nI kbr), .int kst, .int kso, .int (nI kse)])), (q 10, .inl (ca 6, 4, .inl (fun zj => nI (khm zj)))), (q 11, .inl (ca 7, 6, .inl (fun zj => nI (ksn zj)))), (q 12, .inl (ca 8, 6, .inl (fun zj => nI (ksp zj)))), (q 13, .inl (ca 9, 6, .inl (fun zj => nI (ksd zj))))] sz) := by
  refine Met.ofW (cc := cX8_restore) (maxL := 1) (ret := (some .int)) (by decide) rfl ?_
  intro p e s m args below meth c s₁ B hml hv
  obtain ⟨rfl, hsz, hP, hK, hD0⟩ := hv
  have hx := B.exec
  have hb := B.bytes
  have hr := B.returns
  have hts := atoms_spec (ws := (Cond.code yX8_restore cX8_restore 1 (some .int) :: gT)) B.pre
  have htl : ∀ w ∈ gT, w.before _ s = true := fun w h => hts w (List.mem_cons_of_mem _ h)
  have hown : s.vm.findClass RX8 = some m.cls := findClass_of_methodNamed B.named
  have hlocks := B.notSynchronized
  subst hsz
  have hD := hD0.self (sz := s.heap.size)
  generalize hAe : va_A [(q 0, .inr (8, [.ref (q 1), .ref (q 3), .ref (q 4), .ref (q 9), .ref (q 14), .ref (q 15), .ref (q 16), .ref (q 17), .int (nI nc), .int sr, .int ik])), (q 4, .inr (7, [.ref (q 5), .ref (q 6), .ref (q 7), .ref (q 8), .long isl, .int (nI br), .int st, .int so, .int (nI se)])), (q 5, .inl (ca 2, 4, .inl (fun zj => nI (hm zj)))), (q 6, .inl (ca 3, 6, .inl (fun zj => nI (sn zj)))), (q 7, .inl (ca 4, 6, .inl (fun zj => nI (sp zj)))), (q 8, .inl (ca 5, 6, .inl (fun zj => nI (sd zj)))), (q 9, .inr (7, [.ref (q 10), .ref (q 11), .ref (q 12), .ref (q 13), .long kisl, .int (nI kbr), .int kst, .int kso, .int (nI kse)])), (q 10, .inl (ca 6, 4, .inl (fun zj => nI (khm zj)))), (q 11, .inl (ca 7, 6, .inl (fun zj => nI (ksn zj)))), (q 12, .inl (ca 8, 6, .inl (fun zj => nI (ksp zj)))), (q 13, .inl (ca 9, 6, .inl (fun zj => nI (ksd zj))))] s.heap.size = A at hD ⊢
  have hA : ∀ q : Nat, s.heap.size ≤ q → A q := fun q h => by rw [← hAe]; exact Or.inr h
  have hS : va_S A s.heap s.heap [] := va_S.rf
  have hl := lv_entry ([Value.ref (q 0)]) (n := 1) (Nat.le_of_ble_eq_true rfl)
  rw [lg_entry_eq]
  generalize (lg_sl ([Value.ref (q 0)]) ++ List.replicate (1 - (lg_sl ([Value.ref (q 0)])).length) Slot.unset).toArray = ls at hl ⊢
  have hl : lv_has ls 1 [(0, .ref (q 0))] := hl
  refine lv_aload_n hx hb dX8_restore_0 rfl (lv_at hl 0 rfl) ?_
  refine va_get (D := (dC, dI)) (ci := 8) (v := .int ik) (C := RX8) (T := TX8) (N := 11) hx hb htl iX8 hown hK hP 0 rfl rfl 10 (by decide) (htl _ wd_121) (fun _ h9 => h9) rfl dX8_restore_1 ?_
  refine lv_if_ne (tgt := 10) hx hb dX8_restore_4 (by decide) (fun c_1 => ?_) (fun c_1 => ?_)
  · refine lv_aload_n hx hb dX8_restore_10 rfl (lv_at hl 0 rfl) ?_
    refine va_get (D := (dC, dI)) (ci := 8) (v := .ref (q 4)) (C := RX8) (T := TX8) (N := 11) hx hb htl iX8 hown hK hP 0 rfl rfl 2 (by decide) (htl _ wd_113) (fun _ h9 => h9) rfl dX8_restore_11 ?_
    refine lv_aload_n hx hb dX8_restore_14 rfl (lv_at hl 0 rfl) ?_
    refine va_get (D := (dC, dI)) (ci := 8) (v := .ref (q 9)) (C := RX8) (T := TX8) (N := 11) hx hb htl iX8 hown hK hP 0 rfl rfl 3 (by decide) (htl _ wd_114) (fun _ h9 => h9) rfl dX8_restore_15 ?_
    refine efVv (As := [Value.ref (q 9)]) (rest := []) (wr := [(q 0, .inr (8, [.ref (q 1), .ref (q 3), .ref (q 4), .ref (q 9), .ref (q 14), .ref (q 15), .ref (q 16), .ref (q 17), .int (nI nc), .int sr, .int ik]))]) (kcopy_back l dC dI ca _ q isl br st so se hm sn sp sd kisl kbr kst kso kse khm ksn ksp ksd ) ⟨hx, hb, hml, hown, htl⟩ (cVg (C := RX7) 1 htl wd_511 wd_512 wd_513 wd_3 wd_514 rfl rfl (by decide +kernel) ⟨Nat.le_of_ble_eq_true rfl, Nat.le_of_ble_eq_true rfl⟩) hP hD hS hA hK [6, 7, 8, 9, 10, 1, 2, 3, 4, 5] [0] rfl rfl (by decide) (by decide) (by decide) (va_recv hK hP (ci := 7) (q0 := 1) rfl rfl) rfl hl.1 rfl (Nat.le_of_ble_eq_true rfl) dX8_restore_18 ⟨Nat.zero_le _, Nat.zero_le _⟩ (fun u H locs hw_18 hP hD hS => ?_)
    have hP : va_P (dC, dI) vwCl [(q 0, .inr (8, [.ref (q 1), .ref (q 3), .ref (q 4), .ref (q 9), .ref (q 14), .ref (q 15), .ref (q 16), .ref (q 17), .int (nI nc), .int sr, .int ik])), (q 9, .inr (7, [.ref (q 10), .ref (q 11), .ref (q 12), .ref (q 13), .long kisl, .int (nI kbr), .int kst, .int kso, .int (nI kse)])), (q 10, .inl (ca 6, 4, .inl (fun zj => nI (khm zj)))), (q 11, .inl (ca 7, 6, .inl (fun zj => nI (ksn zj)))), (q 12, .inl (ca 8, 6, .inl (fun zj => nI (ksp zj)))), (q 13, .inl (ca 9, 6, .inl (fun zj => nI (ksd zj)))), (q 4, .inr (7, [.ref (q 5), .ref (q 6), .ref (q 7), .ref (q 8), .long kisl, .int (nI kbr), .int kst, .int kso, .int (nI kse)])), (q 5, .inl (ca 2, 4, .inl (fun zj => nI (khm zj)))), (q 6, .inl (ca 3, 6, .inl (fun zj => nI (ksn zj)))), (q 7, .inl (ca 4, 6, .inl (fun zj => nI (ksp zj)))), (q 8, .inl (ca 5, 6, .inl (fun zj => nI (ksd zj))))] H := hP
    have hD : va_D A [(q 0, .inr (8, [.ref (q 1), .ref (q 3), .ref (q 4), .ref (q 9), .ref (q 14), .ref (q 15), .ref (q 16), .ref (q 17), .int (nI nc), .int sr, .int ik])), (q 9, .inr (7, [.ref (q 10), .ref (q 11), .ref (q 12), .ref (q 13), .long kisl, .int (nI kbr), .int kst, .int kso, .int (nI kse)])), (q 10, .inl (ca 6, 4, .inl (fun zj => nI (khm zj)))), (q 11, .inl (ca 7, 6, .inl (fun zj => nI (ksn zj)))), (q 12, .inl (ca 8, 6, .inl (fun zj => nI (ksp zj)))), (q 13, .inl (ca 9, 6, .inl (fun zj => nI (ksd zj)))), (q 4, .inr (7, [.ref (q 5), .ref (q 6), .ref (q 7), .ref (q 8), .long kisl, .int (nI kbr), .int kst, .int kso, .int (nI kse)])), (q 5, .inl (ca 2, 4, .inl (fun zj => nI (khm zj)))), (q 6, .inl (ca 3, 6, .inl (fun zj => nI (ksn zj)))), (q 7, .inl (ca 4, 6, .inl (fun zj => nI (ksp zj)))), (q 8, .inl (ca 5, 6, .inl (fun zj => nI (ksd zj))))] := hD
    refine lv_aload_n hx hb dX8_restore_21 rfl (lv_at hl 0 rfl) ?_
    refine va_get (D := (dC, dI)) (ci := 8) (v := .ref (q 4)) (C := RX8) (T := TX8) (N := 11) hx hb htl iX8 hown hK hP 0 rfl rfl 2 (by decide) (htl _ wd_113) (fun _ h9 => h9) rfl dX8_restore_22 ?_
    refine va_get (D := (dC, dI)) (ci := 7) (v := .int kst) (C := RX7) (T := TX7) (N := 9) hx hb htl iX7 hown hK hP 6 rfl rfl 6 (by decide) (htl _ wd_65) (fun _ h9 => h9) rfl dX8_restore_25 ?_
    have hP9 := hP.sub (ws' := [(q 0, .inr (8, [.ref (q 1), .ref (q 3), .ref (q 4), .ref (q 9), .ref (q 14), .ref (q 15), .ref (q 16), .ref (q 17), .int (nI nc), .int sr, .int ik])), (q 4, .inr (7, [.ref (q 5), .ref (q 6), .ref (q 7), .ref (q 8), .long kisl, .int (nI kbr), .int kst, .int kso, .int (nI kse)])), (q 5, .inl (ca 2, 4, .inl (fun zj => nI (khm zj)))), (q 6, .inl (ca 3, 6, .inl (fun zj => nI (ksn zj)))), (q 7, .inl (ca 4, 6, .inl (fun zj => nI (ksp zj)))), (q 8, .inl (ca 5, 6, .inl (fun zj => nI (ksd zj)))), (q 9, .inr (7, [.ref (q 10), .ref (q 11), .ref (q 12), .ref (q 13), .long kisl, .int (nI kbr), .int kst, .int kso, .int (nI kse)])), (q 10, .inl (ca 6, 4, .inl (fun zj => nI (khm zj)))), (q 11, .inl (ca 7, 6, .inl (fun zj => nI (ksn zj)))), (q 12, .inl (ca 8, 6, .inl (fun zj => nI (ksp zj)))), (q 13, .inl (ca 9, 6, .inl (fun zj => nI (ksd zj))))]) [0, 6, 7, 8, 9, 10, 1, 2, 3, 4, 5] rfl
    have hD9 := hD.sub (ws' := [(q 0, .inr (8, [.ref (q 1), .ref (q 3), .ref (q 4), .ref (q 9), .ref (q 14), .ref (q 15), .ref (q 16), .ref (q 17), .int (nI nc), .int sr, .int ik])), (q 4, .inr (7, [.ref (q 5), .ref (q 6), .ref (q 7), .ref (q 8), .long kisl, .int (nI kbr), .int kst, .int kso, .int (nI kse)])), (q 5, .inl (ca 2, 4, .inl (fun zj => nI (khm zj)))), (q 6, .inl (ca 3, 6, .inl (fun zj => nI (ksn zj)))), (q 7, .inl (ca 4, 6, .inl (fun zj => nI (ksp zj)))), (q 8, .inl (ca 5, 6, .inl (fun zj => nI (ksd zj)))), (q 9, .inr (7, [.ref (q 10), .ref (q 11), .ref (q 12), .ref (q 13), .long kisl, .int (nI kbr), .int kst, .int kso, .int (nI kse)])), (q 10, .inl (ca 6, 4, .inl (fun zj => nI (khm zj)))), (q 11, .inl (ca 7, 6, .inl (fun zj => nI (ksn zj)))), (q 12, .inl (ca 8, 6, .inl (fun zj => nI (ksp zj)))), (q 13, .inl (ca 9, 6, .inl (fun zj => nI (ksd zj))))]) [0, 6, 7, 8, 9, 10, 1, 2, 3, 4, 5] (by decide) rfl
    exact W.iret (v := kst) hx hb hr (fun t ht hW => ⟨⟨kst, (), rfl, by show _ = _; rw [if_neg c_1], by rw [ht]; simp only [if_neg c_1]; exact hP9, va_K.moved hW.alike hK, (by simp only [if_neg c_1]; exact hD9)⟩, hS.F ht⟩) hS.2.2 dX8_restore_28
  · refine lv_bipush (v := (-103)) hx hb dX8_restore_7 (by decide) ?_
    have hP9 := hP.sub (ws' := [(q 0, .inr (8, [.ref (q 1), .ref (q 3), .ref (q 4), .ref (q 9), .ref (q 14), .ref (q 15), .ref (q 16), .ref (q 17), .int (nI nc), .int sr, .int ik])), (q 4, .inr (7, [.ref (q 5), .ref (q 6), .ref (q 7), .ref (q 8), .long isl, .int (nI br), .int st, .int so, .int (nI se)])), (q 5, .inl (ca 2, 4, .inl (fun zj => nI (hm zj)))), (q 6, .inl (ca 3, 6, .inl (fun zj => nI (sn zj)))), (q 7, .inl (ca 4, 6, .inl (fun zj => nI (sp zj)))), (q 8, .inl (ca 5, 6, .inl (fun zj => nI (sd zj)))), (q 9, .inr (7, [.ref (q 10), .ref (q 11), .ref (q 12), .ref (q 13), .long kisl, .int (nI kbr), .int kst, .int kso, .int (nI kse)])), (q 10, .inl (ca 6, 4, .inl (fun zj => nI (khm zj)))), (q 11, .inl (ca 7, 6, .inl (fun zj => nI (ksn zj)))), (q 12, .inl (ca 8, 6, .inl (fun zj => nI (ksp zj)))), (q 13, .inl (ca 9, 6, .inl (fun zj => nI (ksd zj))))]) [0, 1, 2, 3, 4, 5, 6, 7, 8, 9, 10] rfl
    have hD9 := hD.sub (ws' := [(q 0, .inr (8, [.ref (q 1), .ref (q 3), .ref (q 4), .ref (q 9), .ref (q 14), .ref (q 15), .ref (q 16), .ref (q 17), .int (nI nc), .int sr, .int ik])), (q 4, .inr (7, [.ref (q 5), .ref (q 6), .ref (q 7), .ref (q 8), .long isl, .int (nI br), .int st, .int so, .int (nI se)])), (q 5, .inl (ca 2, 4, .inl (fun zj => nI (hm zj)))), (q 6, .inl (ca 3, 6, .inl (fun zj => nI (sn zj)))), (q 7, .inl (ca 4, 6, .inl (fun zj => nI (sp zj)))), (q 8, .inl (ca 5, 6, .inl (fun zj => nI (sd zj)))), (q 9, .inr (7, [.ref (q 10), .ref (q 11), .ref (q 12), .ref (q 13), .long kisl, .int (nI kbr), .int kst, .int kso, .int (nI kse)])), (q 10, .inl (ca 6, 4, .inl (fun zj => nI (khm zj)))), (q 11, .inl (ca 7, 6, .inl (fun zj => nI (ksn zj)))), (q 12, .inl (ca 8, 6, .inl (fun zj => nI (ksp zj)))), (q 13, .inl (ca 9, 6, .inl (fun zj => nI (ksd zj))))]) [0, 1, 2, 3, 4, 5, 6, 7, 8, 9, 10] (by decide) rfl
    exact W.iret (v := (-103)) hx hb hr (fun t ht hW => ⟨⟨(-103), (), rfl, by show _ = _; rw [if_pos c_1], by rw [ht]; simp only [if_pos c_1]; exact hP9, va_K.moved hW.alike hK, (by simp only [if_pos c_1]; exact hD9)⟩, hS.F ht⟩) hS.2.2 dX8_restore_9
set_option maxHeartbeats 4000000 in
set_option maxRecDepth 100000 in
theorem kX8_count (l : Launch) (dC : Nat → ClassId) (dI : Nat → Nat → Nat) (ca : Nat → ClassId) (x1 : Int32) (q : Nat → Nat) (qn : Nat → Nat) (kd : Nat → Nat) (nc : Nat) (sr : Int32) (ik : Int32) (ps : Nat) (isl : Int64) (br : Nat) (st : Int32) (so : Int32) (se : Nat) (hm : Nat → Nat) (hnc : nc ≤ 4) (hbr : br < 36) (hkd : ∀ j, j < 4 → kd j < 5) (hhm : ∀ j, j < 4 → hm j < 36) : Met l yX8_count (Cond.code yX8_count cX8_count 2 (some .int) :: gT) (rk 5) (ROp (dC, dI) [(q 0, .inr (8, [.ref (q 1), .ref (q 3), .ref (q 4), .ref (q 9), .ref (q 14), .ref (q 15), .ref (q 16), .ref (q 17), .int (nI nc), .int sr, .int ik])), (q 1, .inr (2, [.ref (q 2), .int (nI ps)])), (q 3, .inl (ca 1, 4, .inr (.inr (.inr (.inr (fun zj => some (qn zj))))))), (q 4, .inr (7, [.ref (q 5), .ref (q 6), .ref (q 7), .ref (q 8), .long isl, .int (nI br), .int st, .int so, .int (nI se)])), (q 5, .inl (ca 2, 4, .inl (fun zj => nI (hm zj)))), (qn 0, .inr (kc (kd 0), [])), (qn 1, .inr (kc (kd 1), [])), (qn 2, .inr (kc (kd 2), [])), (qn 3, .inr (kc (kd 3), []))] (TY ca) [Value.ref (q 0), Value.int x1]) (vp_Si (fun r => r = countR nc br (popc isl) st so (nI (downsN (fun i => pointN (kd i) (hm i) br) nc 0 0)) se ps sr x1)) 0 0 (fun _ => False) := by
  refine Met.ofW (cc := cX8_count) (maxL := 2) (ret := (some .int)) (by decide) rfl ?_
  intro p e s m args below meth c s₁ B hml hv
  obtain ⟨rfl, hP, hK⟩ := hv
  have hx := B.exec
  have hb := B.bytes
  have hr := B.returns
  have hts := atoms_spec (ws := (Cond.code yX8_count cX8_count 2 (some .int) :: gT)) B.pre
  have htl : ∀ w ∈ gT, w.before _ s = true := fun w h => hts w (List.mem_cons_of_mem _ h)
  have hown : s.vm.findClass RX8 = some m.cls := findClass_of_methodNamed B.named
  have hlocks := B.notSynchronized
  have hl := lv_entry ([Value.ref (q 0), Value.int x1]) (n := 2) (Nat.le_of_ble_eq_true rfl)
  rw [lg_entry_eq]
  generalize (lg_sl ([Value.ref (q 0), Value.int x1]) ++ List.replicate (2 - (lg_sl ([Value.ref (q 0), Value.int x1])).length) Slot.unset).toArray = ls at hl ⊢
  have hl : lv_has ls 2 [(0, .ref (q 0)), (1, .int x1)] := hl
  refine lv_iload_n hx hb dX8_count_0 rfl (lv_at hl 1 rfl) ?_
  by_cases c_1 : x1 = nI 0
  · refine lv_ri c_1 ?_
    refine lv_tableIn (off := 51) (tgt := 52) hx hb dX8_count_1 (by decide) (by decide) rfl (by decide) ?_
    refine lv_aload_n hx hb dX8_count_52 rfl (lv_at hl 0 rfl) ?_
    refine va_get (D := (dC, dI)) (ci := 8) (v := .int (nI nc)) (C := RX8) (T := TX8) (N := 11) hx hb htl iX8 hown hK hP 0 rfl rfl 8 (by decide) (htl _ wd_119) (fun _ h9 => h9) rfl dX8_count_53 ?_
    exact W.iret (v := nI nc) hx hb hr (fun t ht hW => ⟨nI nc, rfl, by show _ = _; unfold countR; rw [if_pos c_1], ht⟩) (fun q h => by cases h) dX8_count_56
  by_cases c_2 : x1 = nI 1
  · refine lv_ri c_2 ?_
    refine lv_tableIn (off := 56) (tgt := 57) hx hb dX8_count_1 (by decide) (by decide) rfl (by decide) ?_
    refine lv_aload_n hx hb dX8_count_57 rfl (lv_at hl 0 rfl) ?_
    refine va_get (D := (dC, dI)) (ci := 8) (v := .ref (q 4)) (C := RX8) (T := TX8) (N := 11) hx hb htl iX8 hown hK hP 0 rfl rfl 2 (by decide) (htl _ wd_113) (fun _ h9 => h9) rfl dX8_count_58 ?_
    refine va_get (D := (dC, dI)) (ci := 7) (v := .int (nI br)) (C := RX7) (T := TX7) (N := 9) hx hb htl iX7 hown hK hP 3 rfl rfl 5 (by decide) (htl _ wd_63) (fun _ h9 => h9) rfl dX8_count_61 ?_
    exact W.iret (v := nI br) hx hb hr (fun t ht hW => ⟨nI br, rfl, by show _ = _; unfold countR; rw [if_neg c_1, if_pos c_2], ht⟩) (fun q h => by cases h) dX8_count_64
  by_cases c_3 : x1 = nI 2
  · refine lv_ri c_3 ?_
    refine lv_tableIn (off := 64) (tgt := 65) hx hb dX8_count_1 (by decide) (by decide) rfl (by decide) ?_
    refine lv_aload_n hx hb dX8_count_65 rfl (lv_at hl 0 rfl) ?_
    refine va_get (D := (dC, dI)) (ci := 8) (v := .ref (q 4)) (C := RX8) (T := TX8) (N := 11) hx hb htl iX8 hown hK hP 0 rfl rfl 2 (by decide) (htl _ wd_113) (fun _ h9 => h9) rfl dX8_count_66 ?_
    refine va_get (D := (dC, dI)) (ci := 7) (v := .long isl) (C := RX7) (T := TX7) (N := 9) hx hb htl iX7 hown hK hP 3 rfl rfl 4 (by decide) (htl _ wd_61) (fun _ h9 => h9) rfl dX8_count_69 ?_
    refine roS (As := [Value.long isl]) (rest := []) (kJ13_bitCount_95d88 l dC dI ca isl ) ⟨hx, hb, hml, hown, htl⟩ (cSg 1 htl wd_407 wd_408 wd_18 wd_409 rfl rfl (by decide +kernel) ⟨Nat.le_of_ble_eq_true rfl, Nat.le_of_ble_eq_true rfl⟩) (hP.sub [] rfl) hK rfl hl.1 rfl (Nat.le_of_ble_eq_true rfl) dX8_count_72 ⟨Nat.zero_le _, Nat.zero_le _⟩ (fun r hr9 => ?_)
    subst hr9
    exact W.iret (v := popc isl) hx hb hr (fun t ht hW => ⟨popc isl, rfl, by show _ = _; unfold countR; rw [if_neg c_1, if_neg c_2, if_pos c_3], ht⟩) (fun q h => by cases h) dX8_count_75
  by_cases c_4 : x1 = nI 3
  · refine lv_ri c_4 ?_
    refine lv_tableIn (off := 75) (tgt := 76) hx hb dX8_count_1 (by decide) (by decide) rfl (by decide) ?_
    refine lv_aload_n hx hb dX8_count_76 rfl (lv_at hl 0 rfl) ?_
    refine va_get (D := (dC, dI)) (ci := 8) (v := .ref (q 4)) (C := RX8) (T := TX8) (N := 11) hx hb htl iX8 hown hK hP 0 rfl rfl 2 (by decide) (htl _ wd_113) (fun _ h9 => h9) rfl dX8_count_77 ?_
    refine va_get (D := (dC, dI)) (ci := 7) (v := .int st) (C := RX7) (T := TX7) (N := 9) hx hb htl iX7 hown hK hP 3 rfl rfl 6 (by decide) (htl _ wd_65) (fun _ h9 => h9) rfl dX8_count_80 ?_
    exact W.iret (v := st) hx hb hr (fun t ht hW => ⟨st, rfl, by show _ = _; unfold countR; rw [if_neg c_1, if_neg c_2, if_neg c_3, if_pos c_4], ht⟩) (fun q h => by cases h) dX8_count_83
  by_cases c_5 : x1 = nI 4
  · refine lv_ri c_5 ?_
    refine lv_tableIn (off := 83) (tgt := 84) hx hb dX8_count_1 (by decide) (by decide) rfl (by decide) ?_
    refine lv_aload_n hx hb dX8_count_84 rfl (lv_at hl 0 rfl) ?_
    refine va_get (D := (dC, dI)) (ci := 8) (v := .ref (q 4)) (C := RX8) (T := TX8) (N := 11) hx hb htl iX8 hown hK hP 0 rfl rfl 2 (by decide) (htl _ wd_113) (fun _ h9 => h9) rfl dX8_count_85 ?_
    refine va_get (D := (dC, dI)) (ci := 7) (v := .int so) (C := RX7) (T := TX7) (N := 9) hx hb htl iX7 hown hK hP 3 rfl rfl 7 (by decide) (htl _ wd_67) (fun _ h9 => h9) rfl dX8_count_88 ?_
    exact W.iret (v := so) hx hb hr (fun t ht hW => ⟨so, rfl, by show _ = _; unfold countR; rw [if_neg c_1, if_neg c_2, if_neg c_3, if_neg c_4, if_pos c_5], ht⟩) (fun q h => by cases h) dX8_count_91
  by_cases c_6 : x1 = nI 5
  · refine lv_ri c_6 ?_
    refine lv_tableIn (off := 91) (tgt := 92) hx hb dX8_count_1 (by decide) (by decide) rfl (by decide) ?_
    refine lv_aload_n hx hb dX8_count_92 rfl (lv_at hl 0 rfl) ?_
    refine lv_aload_n hx hb dX8_count_93 rfl (lv_at hl 0 rfl) ?_
    refine va_get (D := (dC, dI)) (ci := 8) (v := .ref (q 4)) (C := RX8) (T := TX8) (N := 11) hx hb htl iX8 hown hK hP 0 rfl rfl 2 (by decide) (htl _ wd_113) (fun _ h9 => h9) rfl dX8_count_94 ?_
    refine va_get (D := (dC, dI)) (ci := 7) (v := .int (nI br)) (C := RX7) (T := TX7) (N := 9) hx hb htl iX7 hown hK hP 3 rfl rfl 5 (by decide) (htl _ wd_63) (fun _ h9 => h9) rfl dX8_count_97 ?_
    refine roV (As := [Value.int (nI br)]) (rest := []) (kX8_needlesDownAt l dC dI ca br q qn kd nc sr ik isl br st so se hm hbr hnc hkd hhm) ⟨hx, hb, hml, hown, htl⟩ (cVg (C := RX8) 1 htl wd_503 wd_505 wp_12 wd_1 wd_506 rfl rfl (by decide +kernel) ⟨Nat.le_of_ble_eq_true rfl, Nat.le_of_ble_eq_true rfl⟩) (hP.sub [0, 2, 3, 4, 5, 6, 7, 8] rfl) hK (va_recv hK hP (ci := 8) (q0 := 0) rfl rfl) rfl hl.1 rfl (Nat.le_of_ble_eq_true rfl) dX8_count_100 ⟨Nat.zero_le _, Nat.zero_le _⟩ (fun r hr9 => ?_)
    subst hr9
    exact W.iret (v := nI (downsN (fun i => pointN (kd i) (hm i) br) nc 0 0)) hx hb hr (fun t ht hW => ⟨nI (downsN (fun i => pointN (kd i) (hm i) br) nc 0 0), rfl, by show _ = _; unfold countR; rw [if_neg c_1, if_neg c_2, if_neg c_3, if_neg c_4, if_neg c_5, if_pos c_6], ht⟩) (fun q h => by cases h) dX8_count_103
  by_cases c_7 : x1 = nI 6
  · refine lv_ri c_7 ?_
    refine lv_tableIn (off := 103) (tgt := 104) hx hb dX8_count_1 (by decide) (by decide) rfl (by decide) ?_
    refine lv_aload_n hx hb dX8_count_104 rfl (lv_at hl 0 rfl) ?_
    refine va_get (D := (dC, dI)) (ci := 8) (v := .ref (q 4)) (C := RX8) (T := TX8) (N := 11) hx hb htl iX8 hown hK hP 0 rfl rfl 2 (by decide) (htl _ wd_113) (fun _ h9 => h9) rfl dX8_count_105 ?_
    refine va_get (D := (dC, dI)) (ci := 7) (v := .int (nI se)) (C := RX7) (T := TX7) (N := 9) hx hb htl iX7 hown hK hP 3 rfl rfl 8 (by decide) (htl _ wd_69) (fun _ h9 => h9) rfl dX8_count_108 ?_
    exact W.iret (v := nI se) hx hb hr (fun t ht hW => ⟨nI se, rfl, by show _ = _; unfold countR; rw [if_neg c_1, if_neg c_2, if_neg c_3, if_neg c_4, if_neg c_5, if_neg c_6, if_pos c_7], ht⟩) (fun q h => by cases h) dX8_count_111
  by_cases c_8 : x1 = nI 7
  · refine lv_ri c_8 ?_
    refine lv_tableIn (off := 111) (tgt := 112) hx hb dX8_count_1 (by decide) (by decide) rfl (by decide) ?_
    refine lv_aload_n hx hb dX8_count_112 rfl (lv_at hl 0 rfl) ?_
    refine va_get (D := (dC, dI)) (ci := 8) (v := .ref (q 1)) (C := RX8) (T := TX8) (N := 11) hx hb htl iX8 hown hK hP 0 rfl rfl 0 (by decide) (htl _ wd_111) (fun _ h9 => h9) rfl dX8_count_113 ?_
    refine va_get (D := (dC, dI)) (ci := 2) (v := .int (nI ps)) (C := RX2) (T := TX2) (N := 2) hx hb htl iX2 hown hK hP 1 rfl rfl 1 (by decide) (htl _ wd_37) (fun _ h9 => h9) rfl dX8_count_116 ?_
    exact W.iret (v := nI ps) hx hb hr (fun t ht hW => ⟨nI ps, rfl, by show _ = _; unfold countR; rw [if_neg c_1, if_neg c_2, if_neg c_3, if_neg c_4, if_neg c_5, if_neg c_6, if_neg c_7, if_pos c_8], ht⟩) (fun q h => by cases h) dX8_count_119
  by_cases c_9 : x1 = nI 8
  · refine lv_ri c_9 ?_
    refine lv_tableIn (off := 119) (tgt := 120) hx hb dX8_count_1 (by decide) (by decide) rfl (by decide) ?_
    refine lv_aload_n hx hb dX8_count_120 rfl (lv_at hl 0 rfl) ?_
    refine va_get (D := (dC, dI)) (ci := 8) (v := .int sr) (C := RX8) (T := TX8) (N := 11) hx hb htl iX8 hown hK hP 0 rfl rfl 9 (by decide) (htl _ wd_120) (fun _ h9 => h9) rfl dX8_count_121 ?_
    exact W.iret (v := sr) hx hb hr (fun t ht hW => ⟨sr, rfl, by show _ = _; unfold countR; rw [if_neg c_1, if_neg c_2, if_neg c_3, if_neg c_4, if_neg c_5, if_neg c_6, if_neg c_7, if_neg c_8, if_pos c_9], ht⟩) (fun q h => by cases h) dX8_count_124
  have ho_1 : x1.toInt < 0 ∨ 8 < x1.toInt := by
    have q0 := lv_neT (k := nI 0) (a := 0) c_1 (by decide)
    have q1 := lv_neT (k := nI 1) (a := 1) c_2 (by decide)
    have q2 := lv_neT (k := nI 2) (a := 2) c_3 (by decide)
    have q3 := lv_neT (k := nI 3) (a := 3) c_4 (by decide)
    have q4 := lv_neT (k := nI 4) (a := 4) c_5 (by decide)
    have q5 := lv_neT (k := nI 5) (a := 5) c_6 (by decide)
    have q6 := lv_neT (k := nI 6) (a := 6) c_7 (by decide)
    have q7 := lv_neT (k := nI 7) (a := 7) c_8 (by decide)
    have q8 := lv_neT (k := nI 8) (a := 8) c_9 (by decide)
    omega
  refine lv_tableOut (tgt := 125) hx hb dX8_count_1 ho_1 (by decide) ?_
  refine lv_bipush (v := (-102)) hx hb dX8_count_125 (by decide) ?_
  exact W.iret (v := (-102)) hx hb hr (fun t ht hW => ⟨(-102), rfl, by show _ = _; unfold countR; rw [if_neg c_1, if_neg c_2, if_neg c_3, if_neg c_4, if_neg c_5, if_neg c_6, if_neg c_7, if_neg c_8, if_neg c_9], ht⟩) (fun q h => by cases h) dX8_count_127
