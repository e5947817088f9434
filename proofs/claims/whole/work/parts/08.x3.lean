/-- may a home be there, by what is seen -/
def chL (k num ho : Nat) (sn sp sd : Nat → Nat) : Nat → Nat → Bool
  | 0, _ => true
  | n + 1, j => if sn j = num ∧ ¬ pointN k ho (sp j) = sd j then false else chL k num ho sn sp sd n (j + 1)
def chN (k num se : Nat) (sn sp sd : Nat → Nat) (ho : Nat) : Bool := chL k num ho sn sp sd se 0
/-- those that may, as bits -/
def phL (f : Nat → Bool) : Nat → Nat → Int64 → Int64
  | 0, _, mm => mm
  | n + 1, j, mm => phL f n (j + 1) (if f j = true then mm ||| (1 <<< ((nI j).toInt64 &&& 63)) else mm)
def lpL (mk : Int64) : Nat → Nat → Int32
  | 0, _ => -1
  | n + 1, j => if mk >>> ((nI j).toInt64 &&& 63) &&& 1 = 1 then nI j else lpL mk n (j + 1)
def mbit (mk : Int64) (j : Nat) : Bool := decide (mk >>> ((nI j).toInt64 &&& 63) &&& 1 = 1)
def pcA (x : Int64) : Int64 := x - ((x.toUInt64 >>> ((nI 1).toInt64.toUInt64 &&& Int64.toUInt64 63)).toInt64 &&& 6148914691236517205)
def pcB (x : Int64) : Int64 := (x &&& 3689348814741910323) + ((x.toUInt64 >>> ((nI 2).toInt64.toUInt64 &&& Int64.toUInt64 63)).toInt64 &&& 3689348814741910323)
def pcC (x : Int64) : Int64 := (x + (x.toUInt64 >>> ((nI 4).toInt64.toUInt64 &&& Int64.toUInt64 63)).toInt64) &&& 1085102592571150095
def pcD (x : Int64) (k : Nat) : Int64 := x + (x.toUInt64 >>> ((nI k).toInt64.toUInt64 &&& Int64.toUInt64 63)).toInt64
def pcZ (x : Int64) : Int32 := x.toInt32 &&& nI 127
def popc (x : Int64) : Int32 := pcZ (pcD (pcD (pcD (pcC (pcB (pcA x))) 8) 16) 32)
def fillF (f : Nat → Int32) (v : Int32) (n : Nat) : Nat → Int32 := fun j => if j < n then v else f j
theorem fillF_up (f : Nat → Int32) (v : Int32) (i : Nat) : upd (fillF f v i) i v = fillF f v (i + 1) := by
  funext j
  unfold upd fillF
  by_cases h : j = i
  · rw [if_pos h, if_pos (by omega)]
  · rw [if_neg h]
    by_cases h2 : j < i
    · rw [if_pos h2, if_pos (by omega)]
    · rw [if_neg h2, if_neg (by omega)]
theorem fillF_0 (f : Nat → Int32) (v : Int32) : fillF f v 0 = f := by
  funext j
  unfold fillF
  rw [if_neg (by omega)]
/-- a needle followed: at which place he is, how many steps led on -/
def trailN (ib : Nat → Bool) (k ho : Nat) : Nat → Nat → Nat → Nat × Nat
  | 0, pl, st => (pl, st)
  | n + 1, pl, st => if stepN ib pl (pointN k ho pl) = pl then (pl, st) else trailN ib k ho n (stepN ib pl (pointN k ho pl)) (st + 1)
def homL (f : Nat → Bool) : Nat → Nat → Int32 → Int32
  | 0, _, b => b
  | n + 1, i, b => homL f n (i + 1) (if f i = true then b ||| (nI 1 <<< (nI i &&& 31)) else b)
/-- the most homes that one direction leaves -/
def lwL (f : Nat → Nat) (b : Nat → Bool) : Nat → Nat → (Nat → Nat) → Nat → Nat
  | 0, _, _, w => w
  | n + 1, j, lq, w => if b j = true then lwL f b n (j + 1) (va_up lq (f j) (lq (f j) + 1)) (if w < lq (f j) + 1 then lq (f j) + 1 else w) else lwL f b n (j + 1) lq w
def blL (g : Nat → Nat) : Nat → Nat → Int32 → Nat → Int32
  | 0, _, b, _ => b
  | n + 1, j, b, w => if g j < w then blL g n (j + 1) (nI j) (g j) else blL g n (j + 1) b w
set_option maxHeartbeats 4000000 in
set_option maxRecDepth 100000 in
theorem kX8_canBeHome (l : Launch) (dC : Nat → ClassId) (dI : Nat → Nat → Nat) (ca : Nat → ClassId) (i : Nat) (ho : Nat) (q : Nat → Nat) (qn : Nat → Nat) (kd : Nat → Nat) (nc : Nat) (sr : Int32) (ik : Int32) (isl : Int64) (br : Nat) (st : Int32) (so : Int32) (se : Nat) (sn : Nat → Nat) (sp : Nat → Nat) (sd : Nat → Nat) (hi : i < 4) (hho : ho < 36) (hse : se ≤ 6) (hsn : ∀ j, j < 6 → sn j < 4) (hsp : ∀ j, j < 6 → sp j < 36) (hsd : ∀ j, j < 6 → sd j < 9) (hkd : ∀ j, j < 4 → kd j < 5) : Met l yX8_canBeHome (Cond.code yX8_canBeHome cX8_canBeHome 4 (some .boolean) :: gT) (rk 3) (ROp (dC, dI) [(q 0, .inr (8, [.ref (q 1), .ref (q 3), .ref (q 4), .ref (q 9), .ref (q 14), .ref (q 15), .ref (q 16), .ref (q 17), .int (nI nc), .int sr, .int ik])), (q 3, .inl (ca 1, 4, .inr (.inr (.inr (.inr (fun zj => some (qn zj))))))), (q 4, .inr (7, [.ref (q 5), .ref (q 6), .ref (q 7), .ref (q 8), .long isl, .int (nI br), .int st, .int so, .int (nI se)])), (q 6, .inl (ca 3, 6, .inl (fun zj => nI (sn zj)))), (q 7, .inl (ca 4, 6, .inl (fun zj => nI (sp zj)))), (q 8, .inl (ca 5, 6, .inl (fun zj => nI (sd zj)))), (qn i, .inr (kc (kd i), []))] (TY ca) [Value.ref (q 0), Value.int (nI i), Value.int (nI ho)]) (vp_Si (fun r => r = bI (chN (kd i) i se sn sp sd ho))) 0 0 (fun _ => False) := by
  refine Met.ofW (cc := cX8_canBeHome) (maxL := 4) (ret := (some .boolean)) (by decide) rfl ?_
  intro p e s m args below meth c s₁ B hml hv
  obtain ⟨rfl, hP, hK⟩ := hv
  have hx := B.exec
  have hb := B.bytes
  have hr := B.returns
  have hts := atoms_spec (ws := (Cond.code yX8_canBeHome cX8_canBeHome 4 (some .boolean) :: gT)) B.pre
  have htl : ∀ w ∈ gT, w.before _ s = true := fun w h => hts w (List.mem_cons_of_mem _ h)
  have hown : s.vm.findClass RX8 = some m.cls := findClass_of_methodNamed B.named
  have hlocks := B.notSynchronized
  have hl := lv_entry ([Value.ref (q 0), Value.int (nI i), Value.int (nI ho)]) (n := 4) (Nat.le_of_ble_eq_true rfl)
  rw [lg_entry_eq]
  generalize (lg_sl ([Value.ref (q 0), Value.int (nI i), Value.int (nI ho)]) ++ List.replicate (4 - (lg_sl ([Value.ref (q 0), Value.int (nI i), Value.int (nI ho)])).length) Slot.unset).toArray = ls at hl ⊢
  have hl : lv_has ls 4 [(0, .ref (q 0)), (1, .int (nI i)), (2, .int (nI ho))] := hl
  refine lv_iconst (v := nI 0) hx hb dX8_canBeHome_0 (by decide) ?_
  refine lv_istore_n (lv' := [(3, .int (nI 0)), (0, .ref (q 0)), (1, .int (nI i)), (2, .int (nI ho))]) hx hb dX8_canBeHome_1 rfl hl (by decide) rfl (fun ls hl => ?_)
  have lp2 : ∀ (n : Nat) (j : Nat), (j + n = se) → (chL (kd i) i ho sn sp sd n j = chL (kd i) i ho sn sp sd se 0) → ∀ (ls : Array Slot), lv_has ls 4 [(3, .int (nI j)), (0, .ref (q 0)), (1, .int (nI i)), (2, .int (nI ho))] → W p l e (headSpec (Cond.code yX8_canBeHome cX8_canBeHome 4 (some .boolean) :: gT) (rk 3)).room s m ([Value.ref (q 0), Value.int (nI i), Value.int (nI ho)] : List Value).toArray below meth c s.heap [] 0 0 (MQ below (vp_Si (fun r => r = bI (chN (kd i) i se sn sp sd ho))) ([Value.ref (q 0), Value.int (nI i), Value.int (nI ho)] : List Value).toArray s 0 0 (fun _ => False)) (F0 m 2 ls []) := by
    clear hl
    intro n
    induction n with
    | zero =>
      intro j hj hR ls hl
      refine lv_iload_n hx hb dX8_canBeHome_2 rfl (lv_at hl 0 rfl) ?_
      refine lv_aload_n hx hb dX8_canBeHome_3 rfl (lv_at hl 1 rfl) ?_
      refine va_get (D := (dC, dI)) (ci := 8) (v := .ref (q 4)) (C := RX8) (T := TX8) (N := 11) hx hb htl iX8 hown hK hP 0 rfl rfl 2 (by decide) (htl _ wd_113) (fun _ h9 => h9) rfl dX8_canBeHome_4 ?_
      refine va_get (D := (dC, dI)) (ci := 7) (v := .int (nI se)) (C := RX7) (T := TX7) (N := 9) hx hb htl iX7 hown hK hP 2 rfl rfl 8 (by decide) (htl _ wd_69) (fun _ h9 => h9) rfl dX8_canBeHome_7 ?_
      refine lv_icmp_ge (tgt := 65) hx hb dX8_canBeHome_10 (by decide) (fun c_1 => ?_) (fun c_1 => ?_)
      · refine lv_iconst (v := nI 1) hx hb dX8_canBeHome_65 (by decide) ?_
        exact W.zret (v := nI 1) hx hb hr (by decide +kernel) (fun t ht hW => ⟨nI 1, rfl, by show _ = _; unfold chN; rw [← hR]; rfl, ht⟩) (fun q h => by cases h) dX8_canBeHome_66
      · exact absurd (nI_le (by omega) (by omega)) c_1
    | succ n ih2 =>
      intro j hj hR ls hl
      refine lv_iload_n hx hb dX8_canBeHome_2 rfl (lv_at hl 0 rfl) ?_
      refine lv_aload_n hx hb dX8_canBeHome_3 rfl (lv_at hl 1 rfl) ?_
      refine va_get (D := (dC, dI)) (ci := 8) (v := .ref (q 4)) (C := RX8) (T := TX8) (N := 11) hx hb htl iX8 hown hK hP 0 rfl rfl 2 (by decide) (htl _ wd_113) (fun _ h9 => h9) rfl dX8_canBeHome_4 ?_
      refine va_get (D := (dC, dI)) (ci := 7) (v := .int (nI se)) (C := RX7) (T := TX7) (N := 9) hx hb htl iX7 hown hK hP 2 rfl rfl 8 (by decide) (htl _ wd_69) (fun _ h9 => h9) rfl dX8_canBeHome_7 ?_
      refine lv_icmp_ge (tgt := 65) hx hb dX8_canBeHome_10 (by decide) (fun c_2 => ?_) (fun c_2 => ?_)
      · exact absurd c_2 (nI_ge (by omega) (by omega))
      · refine lv_aload_n hx hb dX8_canBeHome_13 rfl (lv_at hl 1 rfl) ?_
        refine va_get (D := (dC, dI)) (ci := 8) (v := .ref (q 4)) (C := RX8) (T := TX8) (N := 11) hx hb htl iX8 hown hK hP 0 rfl rfl 2 (by decide) (htl _ wd_113) (fun _ h9 => h9) rfl dX8_canBeHome_14 ?_
        refine va_get (D := (dC, dI)) (ci := 7) (v := .ref (q 6)) (C := RX7) (T := TX7) (N := 9) hx hb htl iX7 hown hK hP 2 rfl rfl 1 (by decide) (htl _ wd_55) (fun _ h9 => h9) rfl dX8_canBeHome_17 ?_
        refine lv_iload_n hx hb dX8_canBeHome_20 rfl (lv_at hl 0 rfl) ?_
        refine va_iald hx hb hK hP 3 3 rfl rfl (vp_in_nI (by omega) (by decide)) dX8_canBeHome_21 ?_
        refine lv_ri (y := nI (sn j)) (congrArg (fun zj => nI (sn zj)) (nI_clamp (by omega))) ?_
        refine lv_iload_n hx hb dX8_canBeHome_22 rfl (lv_at hl 2 rfl) ?_
        refine lv_icmp_ne (tgt := 59) hx hb dX8_canBeHome_23 (by decide) (fun c_3 => ?_) (fun c_3 => ?_)
        · rw [nI_eq (Nat.lt_trans (hsn j (by omega)) (by decide)) (by omega)] at c_3
          refine lv_iinc (v := nI (j + 1)) (lv' := [(3, .int (nI (j + 1))), (0, .ref (q 0)), (1, .int (nI i)), (2, .int (nI ho))]) hx hb dX8_canBeHome_59 hl (k := 0) rfl (nI_add j 1) (by decide) rfl (fun ls hl => ?_)
          refine lv_goto (tgt := 2) hx hb dX8_canBeHome_62 (by decide) ?_
          exact ih2 (j + 1) (by omega) (by simp only [chL, c_3, false_and, ↓reduceIte] at hR; exact hR) ls (lv_sub hl [0, 1, 2, 3] rfl)
        · rw [nI_eq (Nat.lt_trans (hsn j (by omega)) (by decide)) (by omega)] at c_3
          refine lv_aload_n hx hb dX8_canBeHome_26 rfl (lv_at hl 1 rfl) ?_
          refine va_get (D := (dC, dI)) (ci := 8) (v := .ref (q 3)) (C := RX8) (T := TX8) (N := 11) hx hb htl iX8 hown hK hP 0 rfl rfl 1 (by decide) (htl _ wd_112) (fun _ h9 => h9) rfl dX8_canBeHome_27 ?_
          refine lv_iload_n hx hb dX8_canBeHome_30 rfl (lv_at hl 2 rfl) ?_
          refine va_aldq hx hb hK hP 1 1 rfl rfl (vp_in_nI (by omega) (by decide)) dX8_canBeHome_31 ?_
          refine lv_rv (y := .ref (qn i)) (congrArg (fun zj => va_rf (some (qn zj))) (nI_clamp (by omega))) ?_
          refine lv_iload_n hx hb dX8_canBeHome_32 rfl (lv_at hl 3 rfl) ?_
          refine lv_aload_n hx hb dX8_canBeHome_33 rfl (lv_at hl 1 rfl) ?_
          refine va_get (D := (dC, dI)) (ci := 8) (v := .ref (q 4)) (C := RX8) (T := TX8) (N := 11) hx hb htl iX8 hown hK hP 0 rfl rfl 2 (by decide) (htl _ wd_113) (fun _ h9 => h9) rfl dX8_canBeHome_34 ?_
          refine va_get (D := (dC, dI)) (ci := 7) (v := .ref (q 7)) (C := RX7) (T := TX7) (N := 9) hx hb htl iX7 hown hK hP 2 rfl rfl 2 (by decide) (htl _ wd_57) (fun _ h9 => h9) rfl dX8_canBeHome_37 ?_
          refine lv_iload_n hx hb dX8_canBeHome_40 rfl (lv_at hl 0 rfl) ?_
          refine va_iald hx hb hK hP 4 4 rfl rfl (vp_in_nI (by omega) (by decide)) dX8_canBeHome_41 ?_
          refine lv_ri (y := nI (sp j)) (congrArg (fun zj => nI (sp zj)) (nI_clamp (by omega))) ?_
          refine roS (As := [Value.ref (qn i), Value.int (nI ho), Value.int (nI (sp j))]) (rest := []) (kX8_pointingHome l dC dI ca (qn i) (kd i) ho (sp j) (hkd i hi) hho (hsp j (by omega))) ⟨hx, hb, hml, hown, htl⟩ (cSg 3 htl wd_357 wd_358 wd_1 wd_359 rfl rfl (by decide +kernel) ⟨Nat.le_of_ble_eq_true rfl, Nat.le_of_ble_eq_true rfl⟩) (hP.sub [6] rfl) hK rfl hl.1 rfl (Nat.le_of_ble_eq_true rfl) dX8_canBeHome_42 ⟨Nat.zero_le _, Nat.zero_le _⟩ (fun r hr9 => ?_)
          subst hr9
          refine lv_aload_n hx hb dX8_canBeHome_45 rfl (lv_at hl 1 rfl) ?_
          refine va_get (D := (dC, dI)) (ci := 8) (v := .ref (q 4)) (C := RX8) (T := TX8) (N := 11) hx hb htl iX8 hown hK hP 0 rfl rfl 2 (by decide) (htl _ wd_113) (fun _ h9 => h9) rfl dX8_canBeHome_46 ?_
          refine va_get (D := (dC, dI)) (ci := 7) (v := .ref (q 8)) (C := RX7) (T := TX7) (N := 9) hx hb htl iX7 hown hK hP 2 rfl rfl 3 (by decide) (htl _ wd_59) (fun _ h9 => h9) rfl dX8_canBeHome_49 ?_
          refine lv_iload_n hx hb dX8_canBeHome_52 rfl (lv_at hl 0 rfl) ?_
          refine va_iald hx hb hK hP 5 5 rfl rfl (vp_in_nI (by omega) (by decide)) dX8_canBeHome_53 ?_
          refine lv_ri (y := nI (sd j)) (congrArg (fun zj => nI (sd zj)) (nI_clamp (by omega))) ?_
          refine lv_icmp_eq (tgt := 59) hx hb dX8_canBeHome_54 (by decide) (fun c_4 => ?_) (fun c_4 => ?_)
          · rw [nI_eq (Nat.lt_trans (pointN_lt _ _ _) (by decide)) (Nat.lt_trans (hsd j (by omega)) (by decide))] at c_4
            refine lv_iinc (v := nI (j + 1)) (lv' := [(3, .int (nI (j + 1))), (0, .ref (q 0)), (1, .int (nI i)), (2, .int (nI ho))]) hx hb dX8_canBeHome_59 hl (k := 0) rfl (nI_add j 1) (by decide) rfl (fun ls hl => ?_)
            refine lv_goto (tgt := 2) hx hb dX8_canBeHome_62 (by decide) ?_
            exact ih2 (j + 1) (by omega) (by simp only [chL, c_4, not_true_eq_false, and_false, ↓reduceIte] at hR; exact hR) ls (lv_sub hl [0, 1, 2, 3] rfl)
          · rw [nI_eq (Nat.lt_trans (pointN_lt _ _ _) (by decide)) (Nat.lt_trans (hsd j (by omega)) (by decide))] at c_4
            refine lv_iconst (v := nI 0) hx hb dX8_canBeHome_57 (by decide) ?_
            exact W.zret (v := nI 0) hx hb hr (by decide +kernel) (fun t ht hW => ⟨nI 0, rfl, by show _ = _; unfold chN; rw [← hR]; simp only [chL, c_3, c_4, not_false_eq_true, and_self, ↓reduceIte]; rfl, ht⟩) (fun q h => by cases h) dX8_canBeHome_58
  exact lp2 se 0 (by omega) rfl ls (lv_sub hl [0, 1, 2, 3] rfl)
set_option maxHeartbeats 4000000 in
set_option maxRecDepth 100000 in
theorem kX8_possibleHomes (l : Launch) (dC : Nat → ClassId) (dI : Nat → Nat → Nat) (ca : Nat → ClassId) (i : Nat) (q : Nat → Nat) (qn : Nat → Nat) (kd : Nat → Nat) (nc : Nat) (sr : Int32) (ik : Int32) (isl : Int64) (br : Nat) (st : Int32) (so : Int32) (se : Nat) (sn : Nat → Nat) (sp : Nat → Nat) (sd : Nat → Nat) (hi : i < 4) (hse : se ≤ 6) (hsn : ∀ j, j < 6 → sn j < 4) (hsp : ∀ j, j < 6 → sp j < 36) (hsd : ∀ j, j < 6 → sd j < 9) (hkd : ∀ j, j < 4 → kd j < 5) : Met l yX8_possibleHomes (Cond.code yX8_possibleHomes cX8_possibleHomes 5 (some .long) :: gT) (rk 4) (ROp (dC, dI) [(q 0, .inr (8, [.ref (q 1), .ref (q 3), .ref (q 4), .ref (q 9), .ref (q 14), .ref (q 15), .ref (q 16), .ref (q 17), .int (nI nc), .int sr, .int ik])), (q 3, .inl (ca 1, 4, .inr (.inr (.inr (.inr (fun zj => some (qn zj))))))), (q 4, .inr (7, [.ref (q 5), .ref (q 6), .ref (q 7), .ref (q 8), .long isl, .int (nI br), .int st, .int so, .int (nI se)])), (q 6, .inl (ca 3, 6, .inl (fun zj => nI (sn zj)))), (q 7, .inl (ca 4, 6, .inl (fun zj => nI (sp zj)))), (q 8, .inl (ca 5, 6, .inl (fun zj => nI (sd zj)))), (qn i, .inr (kc (kd i), []))] (TY ca) [Value.ref (q 0), Value.int (nI i)]) (vp_Sl (fun r => r = phL (chN (kd i) i se sn sp sd) 36 0 0)) 0 0 (fun _ => False) := by
  refine Met.ofW (cc := cX8_possibleHomes) (maxL := 5) (ret := (some .long)) (by decide) rfl ?_
  intro p e s m args below meth c s₁ B hml hv
  obtain ⟨rfl, hP, hK⟩ := hv
  have hx := B.exec
  have hb := B.bytes
  have hr := B.returns
  have hts := atoms_spec (ws := (Cond.code yX8_possibleHomes cX8_possibleHomes 5 (some .long) :: gT)) B.pre
  have htl : ∀ w ∈ gT, w.before _ s = true := fun w h => hts w (List.mem_cons_of_mem _ h)
  have hown : s.vm.findClass RX8 = some m.cls := findClass_of_methodNamed B.named
  have hlocks := B.notSynchronized
  have hl := lv_entry ([Value.ref (q 0), Value.int (nI i)]) (n := 5) (Nat.le_of_ble_eq_true rfl)
  rw [lg_entry_eq]
  generalize (lg_sl ([Value.ref (q 0), Value.int (nI i)]) ++ List.replicate (5 - (lg_sl ([Value.ref (q 0), Value.int (nI i)])).length) Slot.unset).toArray = ls at hl ⊢
  have hl : lv_has ls 5 [(0, .ref (q 0)), (1, .int (nI i))] := hl
  refine lv_lconst (v := 0) hx hb dX8_possibleHomes_0 (by decide) ?_
  refine lv_lstore_n (lv' := [(2, .long 0), (0, .ref (q 0)), (1, .int (nI i))]) hx hb dX8_possibleHomes_1 rfl hl (by decide) rfl (fun ls hl => ?_)
  refine lv_iconst (v := nI 0) hx hb dX8_possibleHomes_2 (by decide) ?_
  refine lv_istore (lv' := [(4, .int (nI 0)), (2, .long 0), (0, .ref (q 0)), (1, .int (nI i))]) hx hb dX8_possibleHomes_3 hl (by decide) rfl (fun ls hl => ?_)
  have lp5 : ∀ (n : Nat) (j : Nat) (mk : Int64), (j + n = 36) → (phL (chN (kd i) i se sn sp sd) n j mk = phL (chN (kd i) i se sn sp sd) 36 0 0) → ∀ (ls : Array Slot), lv_has ls 5 [(4, .int (nI j)), (2, .long mk), (0, .ref (q 0)), (1, .int (nI i))] → W p l e (headSpec (Cond.code yX8_possibleHomes cX8_possibleHomes 5 (some .long) :: gT) (rk 4)).room s m ([Value.ref (q 0), Value.int (nI i)] : List Value).toArray below meth c s.heap [] 0 0 (MQ below (vp_Sl (fun r => r = phL (chN (kd i) i se sn sp sd) 36 0 0)) ([Value.ref (q 0), Value.int (nI i)] : List Value).toArray s 0 0 (fun _ => False)) (F0 m 5 ls []) := by
    clear hl
    intro n
    induction n with
    | zero =>
      intro j mk hj hR ls hl
      refine lv_iload hx hb dX8_possibleHomes_5 (lv_at hl 0 rfl) ?_
      refine lv_bipush (v := nI 36) hx hb dX8_possibleHomes_7 (by decide) ?_
      refine lv_icmp_ge (tgt := 35) hx hb dX8_possibleHomes_9 (by decide) (fun c_1 => ?_) (fun c_1 => ?_)
      · refine lv_lload_n hx hb dX8_possibleHomes_35 rfl (lv_at hl 1 rfl) ?_
        exact W.lret (v := mk) hx hb hr (fun t ht hW => ⟨mk, rfl, by show _ = _; rw [← hR]; rfl, ht⟩) (fun q h => by cases h) dX8_possibleHomes_36
      · exact absurd (nI_le (by omega) (by omega)) c_1
    | succ n ih5 =>
      intro j mk hj hR ls hl
      refine lv_iload hx hb dX8_possibleHomes_5 (lv_at hl 0 rfl) ?_
      refine lv_bipush (v := nI 36) hx hb dX8_possibleHomes_7 (by decide) ?_
      refine lv_icmp_ge (tgt := 35) hx hb dX8_possibleHomes_9 (by decide) (fun c_2 => ?_) (fun c_2 => ?_)
      · exact absurd c_2 (nI_ge (by omega) (by omega))
      · refine lv_aload_n hx hb dX8_possibleHomes_12 rfl (lv_at hl 2 rfl) ?_
        refine lv_iload_n hx hb dX8_possibleHomes_13 rfl (lv_at hl 3 rfl) ?_
        refine lv_iload hx hb dX8_possibleHomes_14 (lv_at hl 0 rfl) ?_
        refine roV (As := [Value.int (nI i), Value.int (nI j)]) (rest := []) (kX8_canBeHome l dC dI ca i j q qn kd nc sr ik isl br st so se sn sp sd hi (by omega) hse hsn hsp hsd hkd) ⟨hx, hb, hml, hown, htl⟩ (cVg (C := RX8) 2 htl wd_403 wd_405 wp_7 wd_1 wd_406 rfl rfl (by decide +kernel) ⟨Nat.le_of_ble_eq_true rfl, Nat.le_of_ble_eq_true rfl⟩) (hP.sub [0, 1, 2, 3, 4, 5, 6] rfl) hK (va_recv hK hP (ci := 8) (q0 := 0) rfl rfl) rfl hl.1 rfl (Nat.le_of_ble_eq_true rfl) dX8_possibleHomes_16 ⟨Nat.zero_le _, Nat.zero_le _⟩ (fun r hr9 => ?_)
        subst hr9
        refine lv_if_eq (tgt := 29) hx hb dX8_possibleHomes_19 (by decide) (fun c_3 => ?_) (fun c_3 => ?_)
        · replace c_3 := bI_f c_3
          refine lv_iinc (v := nI (j + 1)) (lv' := [(4, .int (nI (j + 1))), (2, .long mk), (0, .ref (q 0)), (1, .int (nI i))]) hx hb dX8_possibleHomes_29 hl (k := 0) rfl (nI_add j 1) (by decide) rfl (fun ls hl => ?_)
          refine lv_goto (tgt := 5) hx hb dX8_possibleHomes_32 (by decide) ?_
          exact ih5 (j + 1) mk (by omega) (by rw [← hR]; simp only [phL, c_3, ↓reduceIte, Bool.false_eq_true]) ls (lv_sub hl [0, 1, 2, 3] rfl)
        · replace c_3 := bI_t c_3
          refine lv_lload_n hx hb dX8_possibleHomes_22 rfl (lv_at hl 1 rfl) ?_
          refine lv_lconst (v := 1) hx hb dX8_possibleHomes_23 (by decide) ?_
          refine lv_iload hx hb dX8_possibleHomes_24 (lv_at hl 0 rfl) ?_
          refine lv_lshl (v := 1 <<< ((nI j).toInt64 &&& 63)) hx hb dX8_possibleHomes_26 rfl ?_
          refine lv_lor hx hb dX8_possibleHomes_27 ?_
          refine lv_lstore_n (lv' := [(2, .long (mk ||| (1 <<< ((nI j).toInt64 &&& 63)))), (4, .int (nI j)), (0, .ref (q 0)), (1, .int (nI i))]) hx hb dX8_possibleHomes_28 rfl hl (by decide) rfl (fun ls hl => ?_)
          refine lv_iinc (v := nI (j + 1)) (lv' := [(4, .int (nI (j + 1))), (2, .long (mk ||| (1 <<< ((nI j).toInt64 &&& 63)))), (0, .ref (q 0)), (1, .int (nI i))]) hx hb dX8_possibleHomes_29 hl (k := 1) rfl (nI_add j 1) (by decide) rfl (fun ls hl => ?_)
          refine lv_goto (tgt := 5) hx hb dX8_possibleHomes_32 (by decide) ?_
          exact ih5 (j + 1) (mk ||| (1 <<< ((nI j).toInt64 &&& 63))) (by omega) (by rw [← hR]; simp only [phL, c_3, ↓reduceIte, Bool.false_eq_true]) ls (lv_sub hl [0, 1, 2, 3] rfl)
  exact lp5 36 0 0 (by omega) rfl ls (lv_sub hl [0, 1, 2, 3] rfl)
set_option maxHeartbeats 4000000 in
set_option maxRecDepth 100000 in
theorem kX8_leastPlace (l : Launch) (dC : Nat → ClassId) (dI : Nat → Nat → Nat) (ca : Nat → ClassId) (mk : Int64) : Met l yX8_leastPlace (Cond.code yX8_leastPlace cX8_leastPlace 3 (some .int) :: gT) (rk 1) (ROp (dC, dI) [] (TY ca) [Value.long mk]) (vp_Si (fun r => r = lpL mk 36 0)) 0 0 (fun _ => False) := by
  refine Met.ofW (cc := cX8_leastPlace) (maxL := 3) (ret := (some .int)) (by decide) rfl ?_
  intro p e s m args below meth c s₁ B hml hv
  obtain ⟨rfl, hP, hK⟩ := hv
  have hx := B.exec
  have hb := B.bytes
  have hr := B.returns
  have hts := atoms_spec (ws := (Cond.code yX8_leastPlace cX8_leastPlace 3 (some .int) :: gT)) B.pre
  have htl : ∀ w ∈ gT, w.before _ s = true := fun w h => hts w (List.mem_cons_of_mem _ h)
  have hown : s.vm.findClass RX8 = some m.cls := findClass_of_methodNamed B.named
  have hlocks := B.notSynchronized
  have hl := lv_entry ([Value.long mk]) (n := 3) (Nat.le_of_ble_eq_true rfl)
  rw [lg_entry_eq]
  generalize (lg_sl ([Value.long mk]) ++ List.replicate (3 - (lg_sl ([Value.long mk])).length) Slot.unset).toArray = ls at hl ⊢
  have hl : lv_has ls 3 [(0, .long mk)] := hl
  refine lv_iconst (v := nI 0) hx hb dX8_leastPlace_0 (by decide) ?_
  refine lv_istore_n (lv' := [(2, .int (nI 0)), (0, .long mk)]) hx hb dX8_leastPlace_1 rfl hl (by decide) rfl (fun ls hl => ?_)
  have lp2 : ∀ (n : Nat) (j : Nat), (j + n = 36) → (lpL mk n j = lpL mk 36 0) → ∀ (ls : Array Slot), lv_has ls 3 [(2, .int (nI j)), (0, .long mk)] → W p l e (headSpec (Cond.code yX8_leastPlace cX8_leastPlace 3 (some .int) :: gT) (rk 1)).room s m ([Value.long mk] : List Value).toArray below meth c s.heap [] 0 0 (MQ below (vp_Si (fun r => r = lpL mk 36 0)) ([Value.long mk] : List Value).toArray s 0 0 (fun _ => False)) (F0 m 2 ls []) := by
    clear hl
    intro n
    induction n with
    | zero =>
      intro j hj hR ls hl
      refine lv_iload_n hx hb dX8_leastPlace_2 rfl (lv_at hl 0 rfl) ?_
      refine lv_bipush (v := nI 36) hx hb dX8_leastPlace_3 (by decide) ?_
      refine lv_icmp_ge (tgt := 26) hx hb dX8_leastPlace_5 (by decide) (fun c_1 => ?_) (fun c_1 => ?_)
      · refine lv_iconst (v := (-1)) hx hb dX8_leastPlace_26 (by decide) ?_
        exact W.iret (v := (-1)) hx hb hr (fun t ht hW => ⟨(-1), rfl, by show _ = _; rw [← hR]; rfl, ht⟩) (fun q h => by cases h) dX8_leastPlace_27
      · exact absurd (nI_le (by omega) (by omega)) c_1
    | succ n ih2 =>
      intro j hj hR ls hl
      refine lv_iload_n hx hb dX8_leastPlace_2 rfl (lv_at hl 0 rfl) ?_
      refine lv_bipush (v := nI 36) hx hb dX8_leastPlace_3 (by decide) ?_
      refine lv_icmp_ge (tgt := 26) hx hb dX8_leastPlace_5 (by decide) (fun c_2 => ?_) (fun c_2 => ?_)
      · exact absurd c_2 (nI_ge (by omega) (by omega))
      · refine lv_lload_n hx hb dX8_leastPlace_8 rfl (lv_at hl 1 rfl) ?_
        refine lv_iload_n hx hb dX8_leastPlace_9 rfl (lv_at hl 0 rfl) ?_
        refine lv_lshr (v := mk >>> ((nI j).toInt64 &&& 63)) hx hb dX8_leastPlace_10 rfl ?_
        refine lv_lconst (v := 1) hx hb dX8_leastPlace_11 (by decide) ?_
        refine lv_land hx hb dX8_leastPlace_12 ?_
        refine lv_lconst (v := 1) hx hb dX8_leastPlace_13 (by decide) ?_
        refine W.lcmp hx hb dX8_leastPlace_14 ?_
        refine lv_if_ne (tgt := 20) hx hb dX8_leastPlace_15 (by decide) (fun c_3 => ?_) (fun c_3 => ?_)
        · rw [lgE] at c_3
          refine lv_iinc (v := nI (j + 1)) (lv' := [(2, .int (nI (j + 1))), (0, .long mk)]) hx hb dX8_leastPlace_20 hl (k := 0) rfl (nI_add j 1) (by decide) rfl (fun ls hl => ?_)
          refine lv_goto (tgt := 2) hx hb dX8_leastPlace_23 (by decide) ?_
          exact ih2 (j + 1) (by omega) (by rw [← hR]; simp only [lpL, c_3, ↓reduceIte]) ls (lv_sub hl [0, 1] rfl)
        · rw [lgE] at c_3
          refine lv_iload_n hx hb dX8_leastPlace_18 rfl (lv_at hl 0 rfl) ?_
          exact W.iret (v := nI j) hx hb hr (fun t ht hW => ⟨nI j, rfl, by show _ = _; rw [← hR]; simp only [lpL, c_3, ↓reduceIte], ht⟩) (fun q h => by cases h) dX8_leastPlace_19
  exact lp2 36 0 (by omega) rfl ls (lv_sub hl [0, 1] rfl)
def s_X8_seedBehind (x1 : Int32) : Int32 := (((1103515245 * x1.toInt64) + 12345) - ((1103515245 * x1.toInt64) + 12345) / 2147483648 * 2147483648).toInt32
set_option maxHeartbeats 4000000 in
set_option maxRecDepth 100000 in
theorem kX8_seedBehind (l : Launch) (dC : Nat → ClassId) (dI : Nat → Nat → Nat) (ca : Nat → ClassId) (x1 : Int32) : Met l yX8_seedBehind (Cond.code yX8_seedBehind cX8_seedBehind 1 (some .int) :: gT) (rk 1) (ROp (dC, dI) [] (TY ca) [Value.int x1]) (vp_Si (fun r => r = s_X8_seedBehind x1)) 0 0 (fun _ => False) := by
  refine Met.ofW (cc := cX8_seedBehind) (maxL := 1) (ret := (some .int)) (by decide) rfl ?_
  intro p e s m args below meth c s₁ B hml hv
  obtain ⟨rfl, hP, hK⟩ := hv
  have hx := B.exec
  have hb := B.bytes
  have hr := B.returns
  have hts := atoms_spec (ws := (Cond.code yX8_seedBehind cX8_seedBehind 1 (some .int) :: gT)) B.pre
  have htl : ∀ w ∈ gT, w.before _ s = true := fun w h => hts w (List.mem_cons_of_mem _ h)
  have hown : s.vm.findClass RX8 = some m.cls := findClass_of_methodNamed B.named
  have hlocks := B.notSynchronized
  have hl := lv_entry ([Value.int x1]) (n := 1) (Nat.le_of_ble_eq_true rfl)
  rw [lg_entry_eq]
  generalize (lg_sl ([Value.int x1]) ++ List.replicate (1 - (lg_sl ([Value.int x1])).length) Slot.unset).toArray = ls at hl ⊢
  have hl : lv_has ls 1 [(0, .int x1)] := hl
  refine lv_ldc2 (v := 1103515245) hx hb hown (htl _ wd_499) dX8_seedBehind_0 ?_
  refine lv_iload_n hx hb dX8_seedBehind_3 rfl (lv_at hl 0 rfl) ?_
  refine lv_i2l (v := x1.toInt64) hx hb dX8_seedBehind_4 rfl ?_
  refine lv_lmul hx hb dX8_seedBehind_5 ?_
  refine lv_ldc2 (v := 12345) hx hb hown (htl _ wd_500) dX8_seedBehind_6 ?_
  refine lv_ladd hx hb dX8_seedBehind_9 ?_
  refine lv_ldc2 (v := 2147483648) hx hb hown (htl _ wd_501) dX8_seedBehind_10 ?_
  refine lv_lrem hx hb dX8_seedBehind_13 (by decide) ?_
  refine lv_l2i (v := (((1103515245 * x1.toInt64) + 12345) - ((1103515245 * x1.toInt64) + 12345) / 2147483648 * 2147483648).toInt32) hx hb dX8_seedBehind_14 rfl ?_
  exact W.iret (v := (((1103515245 * x1.toInt64) + 12345) - ((1103515245 * x1.toInt64) + 12345) / 2147483648 * 2147483648).toInt32) hx hb hr (fun t ht hW => ⟨(((1103515245 * x1.toInt64) + 12345) - ((1103515245 * x1.toInt64) + 12345) / 2147483648 * 2147483648).toInt32, rfl, by show _ = _; unfold s_X8_seedBehind; rfl, ht⟩) (fun q h => by cases h) dX8_seedBehind_15
set_option maxHeartbeats 4000000 in
set_option maxRecDepth 100000 in
theorem kJ13_bitCount_95d88 (l : Launch) (dC : Nat → ClassId) (dI : Nat → Nat → Nat) (ca : Nat → ClassId) (mk : Int64) : Met l yJ13_bitCount_95d88 (Cond.code yJ13_bitCount_95d88 cJ13_bitCount_95d88 2 (some .int) :: gT) (rk 1) (ROp (dC, dI) [] (TY ca) [Value.long mk]) (vp_Si (fun r => r = popc mk)) 0 0 (fun _ => False) := by
  refine Met.ofW (cc := cJ13_bitCount_95d88) (maxL := 2) (ret := (some .int)) (by decide) rfl ?_
  intro p e s m args below meth c s₁ B hml hv
  obtain ⟨rfl, hP, hK⟩ := hv
  have hx := B.exec
  have hb := B.bytes
  have hr := B.returns
  have hts := atoms_spec (ws := (Cond.code yJ13_bitCount_95d88 cJ13_bitCount_95d88 2 (some .int) :: gT)) B.pre
  have htl : ∀ w ∈ gT, w.before _ s = true := fun w h => hts w (List.mem_cons_of_mem _ h)
  have hown : s.vm.findClass RJ13 = some m.cls := findClass_of_methodNamed B.named
  have hlocks := B.notSynchronized
  have hl := lv_entry ([Value.long mk]) (n := 2) (Nat.le_of_ble_eq_true rfl)
  rw [lg_entry_eq]
  generalize (lg_sl ([Value.long mk]) ++ List.replicate (2 - (lg_sl ([Value.long mk])).length) Slot.unset).toArray = ls at hl ⊢
  have hl : lv_has ls 2 [(0, .long mk)] := hl
  refine lv_lload_n hx hb dJ13_bitCount_95d88_0 rfl (lv_at hl 0 rfl) ?_
  refine lv_lload_n hx hb dJ13_bitCount_95d88_1 rfl (lv_at hl 0 rfl) ?_
  refine lv_iconst (v := nI 1) hx hb dJ13_bitCount_95d88_2 (by decide) ?_
  refine lv_lushr (v := (mk.toUInt64 >>> ((nI 1).toInt64.toUInt64 &&& Int64.toUInt64 63)).toInt64) hx hb dJ13_bitCount_95d88_3 rfl ?_
  refine lv_ldc2 (v := 6148914691236517205) hx hb hown (htl _ wd_410) dJ13_bitCount_95d88_4 ?_
  refine lv_land hx hb dJ13_bitCount_95d88_7 ?_
  refine lv_lsub hx hb dJ13_bitCount_95d88_8 ?_
  refine lv_rl (y := pcA mk) (rfl) ?_
  refine lv_lstore_n (lv' := [(0, .long (pcA mk))]) hx hb dJ13_bitCount_95d88_9 rfl hl (by decide) rfl (fun ls hl => ?_)
  refine lv_lload_n hx hb dJ13_bitCount_95d88_10 rfl (lv_at hl 0 rfl) ?_
  refine lv_ldc2 (v := 3689348814741910323) hx hb hown (htl _ wd_411) dJ13_bitCount_95d88_11 ?_
  refine lv_land hx hb dJ13_bitCount_95d88_14 ?_
  refine lv_lload_n hx hb dJ13_bitCount_95d88_15 rfl (lv_at hl 0 rfl) ?_
  refine lv_iconst (v := nI 2) hx hb dJ13_bitCount_95d88_16 (by decide) ?_
  refine lv_lushr (v := ((pcA mk).toUInt64 >>> ((nI 2).toInt64.toUInt64 &&& Int64.toUInt64 63)).toInt64) hx hb dJ13_bitCount_95d88_17 rfl ?_
  refine lv_ldc2 (v := 3689348814741910323) hx hb hown (htl _ wd_411) dJ13_bitCount_95d88_18 ?_
  refine lv_land hx hb dJ13_bitCount_95d88_21 ?_
  refine lv_ladd hx hb dJ13_bitCount_95d88_22 ?_
  refine lv_rl (y := pcB (pcA mk)) (rfl) ?_
  refine lv_lstore_n (lv' := [(0, .long (pcB (pcA mk)))]) hx hb dJ13_bitCount_95d88_23 rfl hl (by decide) rfl (fun ls hl => ?_)
  refine lv_lload_n hx hb dJ13_bitCount_95d88_24 rfl (lv_at hl 0 rfl) ?_
  refine lv_lload_n hx hb dJ13_bitCount_95d88_25 rfl (lv_at hl 0 rfl) ?_
  refine lv_iconst (v := nI 4) hx hb dJ13_bitCount_95d88_26 (by decide) ?_
  refine lv_lushr (v := ((pcB (pcA mk)).toUInt64 >>> ((nI 4).toInt64.toUInt64 &&& Int64.toUInt64 63)).toInt64) hx hb dJ13_bitCount_95d88_27 rfl ?_
  refine lv_ladd hx hb dJ13_bitCount_95d88_28 ?_
  refine lv_ldc2 (v := 1085102592571150095) hx hb hown (htl _ wd_412) dJ13_bitCount_95d88_29 ?_
  refine lv_land hx hb dJ13_bitCount_95d88_32 ?_
  refine lv_rl (y := pcC (pcB (pcA mk))) (rfl) ?_
  refine lv_lstore_n (lv' := [(0, .long (pcC (pcB (pcA mk))))]) hx hb dJ13_bitCount_95d88_33 rfl hl (by decide) rfl (fun ls hl => ?_)
  refine lv_lload_n hx hb dJ13_bitCount_95d88_34 rfl (lv_at hl 0 rfl) ?_
  refine lv_lload_n hx hb dJ13_bitCount_95d88_35 rfl (lv_at hl 0 rfl) ?_
  refine lv_bipush (v := nI 8) hx hb dJ13_bitCount_95d88_36 (by decide) ?_
  refine lv_lushr (v := ((pcC (pcB (pcA mk))).toUInt64 >>> ((nI 8).toInt64.toUInt64 &&& Int64.toUInt64 63)).toInt64) hx hb dJ13_bitCount_95d88_38 rfl ?_
  refine lv_ladd hx hb dJ13_bitCount_95d88_39 ?_
  refine lv_rl (y := pcD (pcC (pcB (pcA mk))) 8) (rfl) ?_
  refine lv_lstore_n (lv' := [(0, .long (pcD (pcC (pcB (pcA mk))) 8))]) hx hb dJ13_bitCount_95d88_40 rfl hl (by decide) rfl (fun ls hl => ?_)
  refine lv_lload_n hx hb dJ13_bitCount_95d88_41 rfl (lv_at hl 0 rfl) ?_
  refine lv_lload_n hx hb dJ13_bitCount_95d88_42 rfl (lv_at hl 0 rfl) ?_
  refine lv_bipush (v := nI 16) hx hb dJ13_bitCount_95d88_43 (by decide) ?_
  refine lv_lushr (v := ((pcD (pcC (pcB (pcA mk))) 8).toUInt64 >>> ((nI 16).toInt64.toUInt64 &&& Int64.toUInt64 63)).toInt64) hx hb dJ13_bitCount_95d88_45 rfl ?_
  refine lv_ladd hx hb dJ13_bitCount_95d88_46 ?_
  refine lv_rl (y := pcD (pcD (pcC (pcB (pcA mk))) 8) 16) (rfl) ?_
  refine lv_lstore_n (lv' := [(0, .long (pcD (pcD (pcC (pcB (pcA mk))) 8) 16))]) hx hb dJ13_bitCount_95d88_47 rfl hl (by decide) rfl (fun ls hl => ?_)
  refine lv_lload_n hx hb dJ13_bitCount_95d88_48 rfl (lv_at hl 0 rfl) ?_
  refine lv_lload_n hx hb dJ13_bitCount_95d88_49 rfl (lv_at hl 0 rfl) ?_
  refine lv_bipush (v := nI 32) hx hb dJ13_bitCount_95d88_50 (by decide) ?_
  refine lv_lushr (v := ((pcD (pcD (pcC (pcB (pcA mk))) 8) 16).toUInt64 >>> ((nI 32).toInt64.toUInt64 &&& Int64.toUInt64 63)).toInt64) hx hb dJ13_bitCount_95d88_52 rfl ?_
  refine lv_ladd hx hb dJ13_bitCount_95d88_53 ?_
  refine lv_rl (y := pcD (pcD (pcD (pcC (pcB (pcA mk))) 8) 16) 32) (rfl) ?_
  refine lv_lstore_n (lv' := [(0, .long (pcD (pcD (pcD (pcC (pcB (pcA mk))) 8) 16) 32))]) hx hb dJ13_bitCount_95d88_54 rfl hl (by decide) rfl (fun ls hl => ?_)
  refine lv_lload_n hx hb dJ13_bitCount_95d88_55 rfl (lv_at hl 0 rfl) ?_
  refine lv_l2i (v := (pcD (pcD (pcD (pcC (pcB (pcA mk))) 8) 16) 32).toInt32) hx hb dJ13_bitCount_95d88_56 rfl ?_
  refine lv_bipush (v := nI 127) hx hb dJ13_bitCount_95d88_57 (by decide) ?_
  refine lv_iand hx hb dJ13_bitCount_95d88_59 ?_
  exact W.iret (v := ((pcD (pcD (pcD (pcC (pcB (pcA mk))) 8) 16) 32).toInt32) &&& (nI 127)) hx hb hr (fun t ht hW => ⟨((pcD (pcD (pcD (pcC (pcB (pcA mk))) 8) 16) 32).toInt32) &&& (nI 127), rfl, rfl, ht⟩) (fun q h => by cases h) dJ13_bitCount_95d88_60
set_option maxHeartbeats 4000000 in
set_option maxRecDepth 100000 in
theorem kfill_sa (l : Launch) (dC : Nat → ClassId) (dI : Nat → Nat → Nat) (ca : Nat → ClassId) (sz : Nat) (v : Int32) (q : Nat → Nat) (sa : Nat → Int32) : Met l yJ7_fill_53178 (Cond.code yJ7_fill_53178 cJ7_fill_53178 4 none :: gT) (rk 1) (EFp (dC, dI) [(q 15, .inl (ca 10, 36, .inl (sa)))] (TY ca) sz [Value.ref (q 15), Value.int v]) (va_Qv (fun (_ : Unit) => True) (EFb (dC, dI) (fun (_ : Unit) => [(q 15, .inl (ca 10, 36, .inl (fun _ => v)))]) (TY ca) (va_A [(q 15, .inl (ca 10, 36, .inl (sa)))] sz)) (va_A [(q 15, .inl (ca 10, 36, .inl (sa)))] sz)) 0 0 (va_A [(q 15, .inl (ca 10, 36, .inl (sa)))] sz) := by
  refine Met.ofW (cc := cJ7_fill_53178) (maxL := 4) (ret := none) (by decide) rfl ?_
  intro p e s m args below meth c s₁ B hml hv
  obtain ⟨rfl, hsz, hP, hK, hD0⟩ := hv
  have hx := B.exec
  have hb := B.bytes
  have hr := B.returns
  have hts := atoms_spec (ws := (Cond.code yJ7_fill_53178 cJ7_fill_53178 4 none :: gT)) B.pre
  have htl : ∀ w ∈ gT, w.before _ s = true := fun w h => hts w (List.mem_cons_of_mem _ h)
  have hown : s.vm.findClass RJ7 = some m.cls := findClass_of_methodNamed B.named
  have hlocks := B.notSynchronized
  subst hsz
  have hD := hD0.self (sz := s.heap.size)
  generalize hAe : va_A [(q 15, .inl (ca 10, 36, .inl (sa)))] s.heap.size = A at hD ⊢
  have hA : ∀ q : Nat, s.heap.size ≤ q → A q := fun q h => by rw [← hAe]; exact Or.inr h
  have hS : va_S A s.heap s.heap [] := va_S.rf
  have hl := lv_entry ([Value.ref (q 15), Value.int v]) (n := 4) (Nat.le_of_ble_eq_true rfl)
  rw [lg_entry_eq]
  generalize (lg_sl ([Value.ref (q 15), Value.int v]) ++ List.replicate (4 - (lg_sl ([Value.ref (q 15), Value.int v])).length) Slot.unset).toArray = ls at hl ⊢
  have hl : lv_has ls 4 [(0, .ref (q 15)), (1, .int v)] := hl
  refine lv_iconst (v := nI 0) hx hb dJ7_fill_53178_0 (by decide) ?_
  refine lv_istore_n (lv' := [(2, .int (nI 0)), (0, .ref (q 15)), (1, .int v)]) hx hb dJ7_fill_53178_1 rfl hl (by decide) rfl (fun ls hl => ?_)
  refine lv_aload_n hx hb dJ7_fill_53178_2 rfl (lv_at hl 1 rfl) ?_
  refine va_alen (v := nI 36) hx hb hK hP 0 10 rfl rfl rfl dJ7_fill_53178_3 ?_
  refine lv_istore_n (lv' := [(3, .int (nI 36)), (2, .int (nI 0)), (0, .ref (q 15)), (1, .int v)]) hx hb dJ7_fill_53178_4 rfl hl (by decide) rfl (fun ls hl => ?_)
  have lp5 : ∀ (n : Nat) (i : Nat), (i + n = 36) → ∀ (H : Heap) (locs : List Loc), va_P (dC, dI) vwCl [(q 15, .inl (ca 10, 36, .inl (fillF sa v i)))] H → va_D A [(q 15, .inl (ca 10, 36, .inl (fillF sa v i)))] → va_S A s.heap H locs → ∀ (ls : Array Slot), lv_has ls 4 [(3, .int (nI 36)), (2, .int (nI i)), (0, .ref (q 15)), (1, .int v)] → W p l e (headSpec (Cond.code yJ7_fill_53178 cJ7_fill_53178 4 none :: gT) (rk 1)).room s m ([Value.ref (q 15), Value.int v] : List Value).toArray below meth c H locs 0 0 (MQ below (va_Qv (fun (_ : Unit) => True) (EFb (dC, dI) (fun (_ : Unit) => [(q 15, .inl (ca 10, 36, .inl (fun _ => v)))]) (TY ca) A) A) ([Value.ref (q 15), Value.int v] : List Value).toArray s 0 0 A) (F0 m 5 ls []) := by
    clear hS hP hD
    clear hl
    intro n
    induction n with
    | zero =>
      intro i hi H locs hP hD hS ls hl
      refine lv_iload_n hx hb dJ7_fill_53178_5 rfl (lv_at hl 1 rfl) ?_
      refine lv_iload_n hx hb dJ7_fill_53178_6 rfl (lv_at hl 0 rfl) ?_
      refine lv_icmp_ge (tgt := 20) hx hb dJ7_fill_53178_7 (by decide) (fun c_1 => ?_) (fun c_1 => ?_)
      · have hP9 := hP.sub (ws' := [(q 15, .inl (ca 10, 36, .inl (fillF sa v i)))]) [0] rfl
        have hD9 := hD.sub (ws' := [(q 15, .inl (ca 10, 36, .inl (fillF sa v i)))]) [0] (by decide) rfl
        have hP9 := va_P_fn hP9 0 (g := fun _ => v) rfl (fun j hj => by unfold fillF; rw [if_pos (by omega)])
        have hD9 := va_D.set (e := .inl (ca 10, 36, .inl (fun _ => v))) hD9 (p := 0) rfl
        exact W.vret hx hb hr (fun t ht hW => ⟨⟨(), rfl, trivial, by rw [ht]; exact hP9, va_K.moved hW.alike hK, hD9⟩, hS.F ht⟩) hS.2.2 dJ7_fill_53178_20
      · exact absurd (nI_le (by omega) (by omega)) c_1
    | succ n ih5 =>
      intro i hi H locs hP hD hS ls hl
      refine lv_iload_n hx hb dJ7_fill_53178_5 rfl (lv_at hl 1 rfl) ?_
      refine lv_iload_n hx hb dJ7_fill_53178_6 rfl (lv_at hl 0 rfl) ?_
      refine lv_icmp_ge (tgt := 20) hx hb dJ7_fill_53178_7 (by decide) (fun c_2 => ?_) (fun c_2 => ?_)
      · exact absurd c_2 (nI_ge (by omega) (by omega))
      · refine lv_aload_n hx hb dJ7_fill_53178_10 rfl (lv_at hl 2 rfl) ?_
        refine lv_iload_n hx hb dJ7_fill_53178_11 rfl (lv_at hl 1 rfl) ?_
        refine lv_iload_n hx hb dJ7_fill_53178_12 rfl (lv_at hl 3 rfl) ?_
        refine va_iast hx hb hK hP hD hS 0 10 rfl rfl (vp_in_nI (by omega) (by decide)) dJ7_fill_53178_13 (fun H locs hP hD hS => ?_)
        rw [nI_clamp (show i < 2 ^ 31 by omega)] at hP hD
        have hP : va_P (dC, dI) vwCl [(q 15, .inl (ca 10, 36, .inl (upd (fillF sa v i) i v)))] H := hP
        have hD : va_D A [(q 15, .inl (ca 10, 36, .inl (upd (fillF sa v i) i v)))] := hD
        refine lv_iinc (v := nI (i + 1)) (lv' := [(2, .int (nI (i + 1))), (3, .int (nI 36)), (0, .ref (q 15)), (1, .int v)]) hx hb dJ7_fill_53178_14 hl (k := 1) rfl (nI_add i 1) (by decide) rfl (fun ls hl => ?_)
        refine lv_goto (tgt := 5) hx hb dJ7_fill_53178_17 (by decide) ?_
        rw [fillF_up] at hP hD
        exact ih5 (i + 1) (by omega) _ _ (hP.sub [0] rfl) (hD.sub [0] (by decide) rfl) hS ls (lv_sub hl [1, 0, 2, 3] rfl)
  exact lp5 36 0 (by omega) _ _ (by rw [fillF_0]; exact hP) (by rw [fillF_0]; exact hD) hS ls (lv_sub hl [0, 1, 2, 3] rfl)
set_option maxHeartbeats 4000000 in
set_option maxRecDepth 100000 in
theorem kfill_lb (l : Launch) (dC : Nat → ClassId) (dI : Nat → Nat → Nat) (ca : Nat → ClassId) (sz : Nat) (v : Int32) (q : Nat → Nat) (lb : Nat → Int32) : Met l yJ7_fill_53178 (Cond.code yJ7_fill_53178 cJ7_fill_53178 4 none :: gT) (rk 1) (EFp (dC, dI) [(q 17, .inl (ca 12, 9, .inl (lb)))] (TY ca) sz [Value.ref (q 17), Value.int v]) (va_Qv (fun (_ : Unit) => True) (EFb (dC, dI) (fun (_ : Unit) => [(q 17, .inl (ca 12, 9, .inl (fun _ => v)))]) (TY ca) (va_A [(q 17, .inl (ca 12, 9, .inl (lb)))] sz)) (va_A [(q 17, .inl (ca 12, 9, .inl (lb)))] sz)) 0 0 (va_A [(q 17, .inl (ca 12, 9, .inl (lb)))] sz) := by
  refine Met.ofW (cc := cJ7_fill_53178) (maxL := 4) (ret := none) (by decide) rfl ?_
  intro p e s m args below meth c s₁ B hml hv
  obtain ⟨rfl, hsz, hP, hK, hD0⟩ := hv
  have hx := B.exec
  have hb := B.bytes
  have hr := B.returns
  have hts := atoms_spec (ws := (Cond.code yJ7_fill_53178 cJ7_fill_53178 4 none :: gT)) B.pre
  have htl : ∀ w ∈ gT, w.before _ s = true := fun w h => hts w (List.mem_cons_of_mem _ h)
  have hown : s.vm.findClass RJ7 = some m.cls := findClass_of_methodNamed B.named
  have hlocks := B.notSynchronized
  subst hsz
  have hD := hD0.self (sz := s.heap.size)
  generalize hAe : va_A [(q 17, .inl (ca 12, 9, .inl (lb)))] s.heap.size = A at hD ⊢
  have hA : ∀ q : Nat, s.heap.size ≤ q → A q := fun q h => by rw [← hAe]; exact Or.inr h
  have hS : va_S A s.heap s.heap [] := va_S.rf
  have hl := lv_entry ([Value.ref (q 17), Value.int v]) (n := 4) (Nat.le_of_ble_eq_true rfl)
  rw [lg_entry_eq]
  generalize (lg_sl ([Value.ref (q 17), Value.int v]) ++ List.replicate (4 - (lg_sl ([Value.ref (q 17), Value.int v])).length) Slot.unset).toArray = ls at hl ⊢
  have hl : lv_has ls 4 [(0, .ref (q 17)), (1, .int v)] := hl
  refine lv_iconst (v := nI 0) hx hb dJ7_fill_53178_0 (by decide) ?_
  refine lv_istore_n (lv' := [(2, .int (nI 0)), (0, .ref (q 17)), (1, .int v)]) hx hb dJ7_fill_53178_1 rfl hl (by decide) rfl (fun ls hl => ?_)
  refine lv_aload_n hx hb dJ7_fill_53178_2 rfl (lv_at hl 1 rfl) ?_
  refine va_alen (v := nI 9) hx hb hK hP 0 12 rfl rfl rfl dJ7_fill_53178_3 ?_
  refine lv_istore_n (lv' := [(3, .int (nI 9)), (2, .int (nI 0)), (0, .ref (q 17)), (1, .int v)]) hx hb dJ7_fill_53178_4 rfl hl (by decide) rfl (fun ls hl => ?_)
  have lp5 : ∀ (n : Nat) (i : Nat), (i + n = 9) → ∀ (H : Heap) (locs : List Loc), va_P (dC, dI) vwCl [(q 17, .inl (ca 12, 9, .inl (fillF lb v i)))] H → va_D A [(q 17, .inl (ca 12, 9, .inl (fillF lb v i)))] → va_S A s.heap H locs → ∀ (ls : Array Slot), lv_has ls 4 [(3, .int (nI 9)), (2, .int (nI i)), (0, .ref (q 17)), (1, .int v)] → W p l e (headSpec (Cond.code yJ7_fill_53178 cJ7_fill_53178 4 none :: gT) (rk 1)).room s m ([Value.ref (q 17), Value.int v] : List Value).toArray below meth c H locs 0 0 (MQ below (va_Qv (fun (_ : Unit) => True) (EFb (dC, dI) (fun (_ : Unit) => [(q 17, .inl (ca 12, 9, .inl (fun _ => v)))]) (TY ca) A) A) ([Value.ref (q 17), Value.int v] : List Value).toArray s 0 0 A) (F0 m 5 ls []) := by
    clear hS hP hD
    clear hl
    intro n
    induction n with
    | zero =>
      intro i hi H locs hP hD hS ls hl
      refine lv_iload_n hx hb dJ7_fill_53178_5 rfl (lv_at hl 1 rfl) ?_
      refine lv_iload_n hx hb dJ7_fill_53178_6 rfl (lv_at hl 0 rfl) ?_
      refine lv_icmp_ge (tgt := 20) hx hb dJ7_fill_53178_7 (by decide) (fun c_1 => ?_) (fun c_1 => ?_)
      · have hP9 := hP.sub (ws' := [(q 17, .inl (ca 12, 9, .inl (fillF lb v i)))]) [0] rfl
        have hD9 := hD.sub (ws' := [(q 17, .inl (ca 12, 9, .inl (fillF lb v i)))]) [0] (by decide) rfl
        have hP9 := va_P_fn hP9 0 (g := fun _ => v) rfl (fun j hj => by unfold fillF; rw [if_pos (by omega)])
        have hD9 := va_D.set (e := .inl (ca 12, 9, .inl (fun _ => v))) hD9 (p := 0) rfl
        exact W.vret hx hb hr (fun t ht hW => ⟨⟨(), rfl, trivial, by rw [ht]; exact hP9, va_K.moved hW.alike hK, hD9⟩, hS.F ht⟩) hS.2.2 dJ7_fill_53178_20
      · exact absurd (nI_le (by omega) (by omega)) c_1
    | succ n ih5 =>
      intro i hi H locs hP hD hS ls hl
      refine lv_iload_n hx hb dJ7_fill_53178_5 rfl (lv_at hl 1 rfl) ?_
      refine lv_iload_n hx hb dJ7_fill_53178_6 rfl (lv_at hl 0 rfl) ?_
      refine lv_icmp_ge (tgt := 20) hx hb dJ7_fill_53178_7 (by decide) (fun c_2 => ?_) (fun c_2 => ?_)
      · exact absurd c_2 (nI_ge (by omega) (by omega))
      · refine lv_aload_n hx hb dJ7_fill_53178_10 rfl (lv_at hl 2 rfl) ?_
        refine lv_iload_n hx hb dJ7_fill_53178_11 rfl (lv_at hl 1 rfl) ?_
        refine lv_iload_n hx hb dJ7_fill_53178_12 rfl (lv_at hl 3 rfl) ?_
        refine va_iast hx hb hK hP hD hS 0 12 rfl rfl (vp_in_nI (by omega) (by decide)) dJ7_fill_53178_13 (fun H locs hP hD hS => ?_)
        rw [nI_clamp (show i < 2 ^ 31 by omega)] at hP hD
        have hP : va_P (dC, dI) vwCl [(q 17, .inl (ca 12, 9, .inl (upd (fillF lb v i) i v)))] H := hP
        have hD : va_D A [(q 17, .inl (ca 12, 9, .inl (upd (fillF lb v i) i v)))] := hD
        refine lv_iinc (v := nI (i + 1)) (lv' := [(2, .int (nI (i + 1))), (3, .int (nI 9)), (0, .ref (q 17)), (1, .int v)]) hx hb dJ7_fill_53178_14 hl (k := 1) rfl (nI_add i 1) (by decide) rfl (fun ls hl => ?_)
        refine lv_goto (tgt := 5) hx hb dJ7_fill_53178_17 (by decide) ?_
        rw [fillF_up] at hP hD
        exact ih5 (i + 1) (by omega) _ _ (hP.sub [0] rfl) (hD.sub [0] (by decide) rfl) hS ls (lv_sub hl [1, 0, 2, 3] rfl)
  exact lp5 9 0 (by omega) _ _ (by rw [fillF_0]; exact hP) (by rw [fillF_0]; exact hD) hS ls (lv_sub hl [0, 1, 2, 3] rfl)
