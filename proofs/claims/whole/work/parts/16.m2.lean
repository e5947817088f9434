def s_X9_signOf (x1 : Int32) : Int32 := if x1 ≤ 0 then (if 0 ≤ x1 then (nI 0) else ((-1))) else (nI 1)
set_option maxHeartbeats 4000000 in
set_option maxRecDepth 100000 in
theorem kX9_signOf (l : Launch) (dC : Nat → ClassId) (dI : Nat → Nat → Nat) (ca : Nat → ClassId) (x1 : Int32) : Met l yX9_signOf (Cond.code yX9_signOf cX9_signOf 1 (some .int) :: gT) (rk 1) (ROp (dC, dI) [] (TY ca) [Value.int x1]) (vp_Si (fun r => r = s_X9_signOf x1)) 0 0 (fun _ => False) := by
  refine Met.ofW (cc := cX9_signOf) (maxL := 1) (ret := (some .int)) (by decide) rfl ?_
  intro p e s m args below meth c s₁ B hml hv
  obtain ⟨rfl, hP, hK⟩ := hv
  have hx := B.exec
  have hb := B.bytes
  have hr := B.returns
  have hts := atoms_spec (ws := (Cond.code yX9_signOf cX9_signOf 1 (some .int) :: gT)) B.pre
  have htl : ∀ w ∈ gT, w.before _ s = true := fun w h => hts w (List.mem_cons_of_mem _ h)
  have hown : s.vm.findClass RX9 = some m.cls := findClass_of_methodNamed B.named
  have hlocks := B.notSynchronized
  have hl := lv_entry ([Value.int x1]) (n := 1) (Nat.le_of_ble_eq_true rfl)
  rw [lg_entry_eq]
  generalize (lg_sl ([Value.int x1]) ++ List.replicate (1 - (lg_sl ([Value.int x1])).length) Slot.unset).toArray = ls at hl ⊢
  have hl : lv_has ls 1 [(0, .int x1)] := hl
  refine lv_iload_n hx hb dX9_signOf_0 rfl (lv_at hl 0 rfl) ?_
  refine lv_if_le (tgt := 8) hx hb dX9_signOf_1 (by decide) (fun c_1 => ?_) (fun c_1 => ?_)
  · refine lv_iload_n hx hb dX9_signOf_8 rfl (lv_at hl 0 rfl) ?_
    refine lv_if_ge (tgt := 16) hx hb dX9_signOf_9 (by decide) (fun c_2 => ?_) (fun c_2 => ?_)
    · refine lv_iconst (v := nI 0) hx hb dX9_signOf_16 (by decide) ?_
      exact W.iret (v := nI 0) hx hb hr (fun t ht hW => ⟨nI 0, rfl, by show _ = _; unfold s_X9_signOf; (first | rw [if_pos c_1] | rw [if_neg c_1] | rw [if_neg (by rw [c_1]; decide)]); (first | rw [if_pos c_2] | rw [if_neg c_2] | rw [if_neg (by rw [c_2]; decide)]); (first | done | rfl), ht⟩) (fun q h => by cases h) dX9_signOf_17
    · refine lv_iconst (v := (-1)) hx hb dX9_signOf_12 (by decide) ?_
      refine lv_goto (tgt := 17) hx hb dX9_signOf_13 (by decide) ?_
      exact W.iret (v := (-1)) hx hb hr (fun t ht hW => ⟨(-1), rfl, by show _ = _; unfold s_X9_signOf; (first | rw [if_pos c_1] | rw [if_neg c_1] | rw [if_neg (by rw [c_1]; decide)]); (first | rw [if_pos c_2] | rw [if_neg c_2] | rw [if_neg (by rw [c_2]; decide)]); (first | done | rfl), ht⟩) (fun q h => by cases h) dX9_signOf_17
  · refine lv_iconst (v := nI 1) hx hb dX9_signOf_4 (by decide) ?_
    refine lv_goto (tgt := 17) hx hb dX9_signOf_5 (by decide) ?_
    exact W.iret (v := nI 1) hx hb hr (fun t ht hW => ⟨nI 1, rfl, by show _ = _; unfold s_X9_signOf; (first | rw [if_pos c_1] | rw [if_neg c_1] | rw [if_neg (by rw [c_1]; decide)]); (first | done | rfl), ht⟩) (fun q h => by cases h) dX9_signOf_17
def s_X9_directionBy (x1 : Int32) (x2 : Int32) : Int32 := (((nI 3) * ((nI 1) + x1)) + (nI 1)) + x2
set_option maxHeartbeats 4000000 in
set_option maxRecDepth 100000 in
theorem kX9_directionBy (l : Launch) (dC : Nat → ClassId) (dI : Nat → Nat → Nat) (ca : Nat → ClassId) (x1 : Int32) (x2 : Int32) : Met l yX9_directionBy (Cond.code yX9_directionBy cX9_directionBy 2 (some .int) :: gT) (rk 1) (ROp (dC, dI) [] (TY ca) [Value.int x1, Value.int x2]) (vp_Si (fun r => r = s_X9_directionBy x1 x2)) 0 0 (fun _ => False) := by
  refine Met.ofW (cc := cX9_directionBy) (maxL := 2) (ret := (some .int)) (by decide) rfl ?_
  intro p e s m args below meth c s₁ B hml hv
  obtain ⟨rfl, hP, hK⟩ := hv
  have hx := B.exec
  have hb := B.bytes
  have hr := B.returns
  have hts := atoms_spec (ws := (Cond.code yX9_directionBy cX9_directionBy 2 (some .int) :: gT)) B.pre
  have htl : ∀ w ∈ gT, w.before _ s = true := fun w h => hts w (List.mem_cons_of_mem _ h)
  have hown : s.vm.findClass RX9 = some m.cls := findClass_of_methodNamed B.named
  have hlocks := B.notSynchronized
  have hl := lv_entry ([Value.int x1, Value.int x2]) (n := 2) (Nat.le_of_ble_eq_true rfl)
  rw [lg_entry_eq]
  generalize (lg_sl ([Value.int x1, Value.int x2]) ++ List.replicate (2 - (lg_sl ([Value.int x1, Value.int x2])).length) Slot.unset).toArray = ls at hl ⊢
  have hl : lv_has ls 2 [(0, .int x1), (1, .int x2)] := hl
  refine lv_iconst (v := nI 3) hx hb dX9_directionBy_0 (by decide) ?_
  refine lv_iconst (v := nI 1) hx hb dX9_directionBy_1 (by decide) ?_
  refine lv_iload_n hx hb dX9_directionBy_2 rfl (lv_at hl 0 rfl) ?_
  refine lv_iadd hx hb dX9_directionBy_3 ?_
  refine lv_imul hx hb dX9_directionBy_4 ?_
  refine lv_iconst (v := nI 1) hx hb dX9_directionBy_5 (by decide) ?_
  refine lv_iadd hx hb dX9_directionBy_6 ?_
  refine lv_iload_n hx hb dX9_directionBy_7 rfl (lv_at hl 1 rfl) ?_
  refine lv_iadd hx hb dX9_directionBy_8 ?_
  exact W.iret (v := (((nI 3) * ((nI 1) + x1)) + (nI 1)) + x2) hx hb hr (fun t ht hW => ⟨(((nI 3) * ((nI 1) + x1)) + (nI 1)) + x2, rfl, by show _ = _; unfold s_X9_directionBy; rfl, ht⟩) (fun q h => by cases h) dX9_directionBy_9
set_option maxRecDepth 100000 in
theorem pm_0_0 : ∀ ho, ho < 36 → ∀ pp, pp < 36 → s_X9_directionBy (s_X9_signOf ((nI (ho / 6)) - (nI (pp / 6)))) (s_X9_signOf ((nI (ho % 6)) - (nI (pp % 6)))) = nI (pointN 0 ho pp) := by decide +kernel
set_option maxHeartbeats 4000000 in
set_option maxRecDepth 100000 in
theorem kX9_pointsBy_0 (l : Launch) (dC : Nat → ClassId) (dI : Nat → Nat → Nat) (ca : Nat → ClassId) (ho : Nat) (pp : Nat) (hho : ho < 36) (hp : pp < 36) : Met l yX9_pointsBy (Cond.code yX9_pointsBy cX9_pointsBy 5 (some .int) :: gT) (rk 2) (ROp (dC, dI) [] (TY ca) [Value.int (nI 0), Value.int (nI ho), Value.int (nI pp)]) (vp_Si (fun r => r = nI (pointN 0 ho pp))) 0 0 (fun _ => False) := by
  refine Met.ofW (cc := cX9_pointsBy) (maxL := 5) (ret := (some .int)) (by decide) rfl ?_
  intro p e s m args below meth c s₁ B hml hv
  obtain ⟨rfl, hP, hK⟩ := hv
  have hx := B.exec
  have hb := B.bytes
  have hr := B.returns
  have hts := atoms_spec (ws := (Cond.code yX9_pointsBy cX9_pointsBy 5 (some .int) :: gT)) B.pre
  have htl : ∀ w ∈ gT, w.before _ s = true := fun w h => hts w (List.mem_cons_of_mem _ h)
  have hown : s.vm.findClass RX9 = some m.cls := findClass_of_methodNamed B.named
  have hlocks := B.notSynchronized
  have hl := lv_entry ([Value.int (nI 0), Value.int (nI ho), Value.int (nI pp)]) (n := 5) (Nat.le_of_ble_eq_true rfl)
  rw [lg_entry_eq]
  generalize (lg_sl ([Value.int (nI 0), Value.int (nI ho), Value.int (nI pp)]) ++ List.replicate (5 - (lg_sl ([Value.int (nI 0), Value.int (nI ho), Value.int (nI pp)])).length) Slot.unset).toArray = ls at hl ⊢
  have hl : lv_has ls 5 [(0, .int (nI 0)), (1, .int (nI ho)), (2, .int (nI pp))] := hl
  refine lv_iload_n hx hb dX9_pointsBy_0 rfl (lv_at hl 1 rfl) ?_
  refine lv_bipush (v := nI 6) hx hb dX9_pointsBy_1 (by decide) ?_
  refine lv_idiv hx hb dX9_pointsBy_3 (by decide) ?_
  refine lv_ri (y := nI (ho / 6)) (pk_div (by omega) (by decide) (by decide)) ?_
  refine lv_iload_n hx hb dX9_pointsBy_4 rfl (lv_at hl 2 rfl) ?_
  refine lv_bipush (v := nI 6) hx hb dX9_pointsBy_5 (by decide) ?_
  refine lv_idiv hx hb dX9_pointsBy_7 (by decide) ?_
  refine lv_ri (y := nI (pp / 6)) (pk_div (by omega) (by decide) (by decide)) ?_
  refine lv_isub hx hb dX9_pointsBy_8 ?_
  refine roS (As := [Value.int ((nI (ho / 6)) - (nI (pp / 6)))]) (rest := []) (kX9_signOf l dC dI ca ((nI (ho / 6)) - (nI (pp / 6))) ) ⟨hx, hb, hml, hown, htl⟩ (cSg 1 htl wd_689 wd_690 wd_6 wd_691 rfl rfl (by decide +kernel) ⟨Nat.le_of_ble_eq_true rfl, Nat.le_of_ble_eq_true rfl⟩) (hP.sub [] rfl) hK rfl hl.1 rfl (Nat.le_of_ble_eq_true rfl) dX9_pointsBy_9 ⟨Nat.zero_le _, Nat.zero_le _⟩ (fun r hr9 => ?_)
  subst hr9
  refine lv_istore_n (lv' := [(3, .int (s_X9_signOf ((nI (ho / 6)) - (nI (pp / 6))))), (0, .int (nI 0)), (1, .int (nI ho)), (2, .int (nI pp))]) hx hb dX9_pointsBy_12 rfl hl (by decide) rfl (fun ls hl => ?_)
  refine lv_iload_n hx hb dX9_pointsBy_13 rfl (lv_at hl 2 rfl) ?_
  refine lv_bipush (v := nI 6) hx hb dX9_pointsBy_14 (by decide) ?_
  refine lv_irem hx hb dX9_pointsBy_16 (by decide) ?_
  refine lv_ri (y := nI (ho % 6)) (pk_rem (by omega) (by decide) (by decide)) ?_
  refine lv_iload_n hx hb dX9_pointsBy_17 rfl (lv_at hl 3 rfl) ?_
  refine lv_bipush (v := nI 6) hx hb dX9_pointsBy_18 (by decide) ?_
  refine lv_irem hx hb dX9_pointsBy_20 (by decide) ?_
  refine lv_ri (y := nI (pp % 6)) (pk_rem (by omega) (by decide) (by decide)) ?_
  refine lv_isub hx hb dX9_pointsBy_21 ?_
  refine roS (As := [Value.int ((nI (ho % 6)) - (nI (pp % 6)))]) (rest := []) (kX9_signOf l dC dI ca ((nI (ho % 6)) - (nI (pp % 6))) ) ⟨hx, hb, hml, hown, htl⟩ (cSg 1 htl wd_689 wd_690 wd_6 wd_691 rfl rfl (by decide +kernel) ⟨Nat.le_of_ble_eq_true rfl, Nat.le_of_ble_eq_true rfl⟩) (hP.sub [] rfl) hK rfl hl.1 rfl (Nat.le_of_ble_eq_true rfl) dX9_pointsBy_22 ⟨Nat.zero_le _, Nat.zero_le _⟩ (fun r hr9 => ?_)
  subst hr9
  refine lv_istore (lv' := [(4, .int (s_X9_signOf ((nI (ho % 6)) - (nI (pp % 6))))), (3, .int (s_X9_signOf ((nI (ho / 6)) - (nI (pp / 6))))), (0, .int (nI 0)), (1, .int (nI ho)), (2, .int (nI pp))]) hx hb dX9_pointsBy_25 hl (by decide) rfl (fun ls hl => ?_)
  refine lv_iload_n hx hb dX9_pointsBy_27 rfl (lv_at hl 2 rfl) ?_
  refine lv_tableOut (tgt := 116) hx hb dX9_pointsBy_28 (by decide) (by decide) ?_
  refine lv_iload_n hx hb dX9_pointsBy_116 rfl (lv_at hl 1 rfl) ?_
  refine lv_iload hx hb dX9_pointsBy_117 (lv_at hl 0 rfl) ?_
  refine roS (As := [Value.int (s_X9_signOf ((nI (ho / 6)) - (nI (pp / 6)))), Value.int (s_X9_signOf ((nI (ho % 6)) - (nI (pp % 6))))]) (rest := []) (kX9_directionBy l dC dI ca (s_X9_signOf ((nI (ho / 6)) - (nI (pp / 6)))) (s_X9_signOf ((nI (ho % 6)) - (nI (pp % 6)))) ) ⟨hx, hb, hml, hown, htl⟩ (cSg 2 htl wd_692 wd_693 wd_6 wd_694 rfl rfl (by decide +kernel) ⟨Nat.le_of_ble_eq_true rfl, Nat.le_of_ble_eq_true rfl⟩) (hP.sub [] rfl) hK rfl hl.1 rfl (Nat.le_of_ble_eq_true rfl) dX9_pointsBy_119 ⟨Nat.zero_le _, Nat.zero_le _⟩ (fun r hr9 => ?_)
  subst hr9
  exact W.iret (v := s_X9_directionBy (s_X9_signOf ((nI (ho / 6)) - (nI (pp / 6)))) (s_X9_signOf ((nI (ho % 6)) - (nI (pp % 6))))) hx hb hr (fun t ht hW => ⟨s_X9_directionBy (s_X9_signOf ((nI (ho / 6)) - (nI (pp / 6)))) (s_X9_signOf ((nI (ho % 6)) - (nI (pp % 6)))), rfl, pm_0_0 ho hho pp hp , ht⟩) (fun q h => by cases h) dX9_pointsBy_122
set_option maxRecDepth 100000 in
theorem pm_1_0 : ∀ ho, ho < 36 → ∀ pp, pp < 36 → s_X9_directionBy (-(s_X9_signOf ((nI (ho / 6)) - (nI (pp / 6))))) (-(s_X9_signOf ((nI (ho % 6)) - (nI (pp % 6))))) = nI (pointN 1 ho pp) := by decide +kernel
set_option maxHeartbeats 4000000 in
set_option maxRecDepth 100000 in
theorem kX9_pointsBy_1 (l : Launch) (dC : Nat → ClassId) (dI : Nat → Nat → Nat) (ca : Nat → ClassId) (ho : Nat) (pp : Nat) (hho : ho < 36) (hp : pp < 36) : Met l yX9_pointsBy (Cond.code yX9_pointsBy cX9_pointsBy 5 (some .int) :: gT) (rk 2) (ROp (dC, dI) [] (TY ca) [Value.int (nI 1), Value.int (nI ho), Value.int (nI pp)]) (vp_Si (fun r => r = nI (pointN 1 ho pp))) 0 0 (fun _ => False) := by
  refine Met.ofW (cc := cX9_pointsBy) (maxL := 5) (ret := (some .int)) (by decide) rfl ?_
  intro p e s m args below meth c s₁ B hml hv
  obtain ⟨rfl, hP, hK⟩ := hv
  have hx := B.exec
  have hb := B.bytes
  have hr := B.returns
  have hts := atoms_spec (ws := (Cond.code yX9_pointsBy cX9_pointsBy 5 (some .int) :: gT)) B.pre
  have htl : ∀ w ∈ gT, w.before _ s = true := fun w h => hts w (List.mem_cons_of_mem _ h)
  have hown : s.vm.findClass RX9 = some m.cls := findClass_of_methodNamed B.named
  have hlocks := B.notSynchronized
  have hl := lv_entry ([Value.int (nI 1), Value.int (nI ho), Value.int (nI pp)]) (n := 5) (Nat.le_of_ble_eq_true rfl)
  rw [lg_entry_eq]
  generalize (lg_sl ([Value.int (nI 1), Value.int (nI ho), Value.int (nI pp)]) ++ List.replicate (5 - (lg_sl ([Value.int (nI 1), Value.int (nI ho), Value.int (nI pp)])).length) Slot.unset).toArray = ls at hl ⊢
  have hl : lv_has ls 5 [(0, .int (nI 1)), (1, .int (nI ho)), (2, .int (nI pp))] := hl
  refine lv_iload_n hx hb dX9_pointsBy_0 rfl (lv_at hl 1 rfl) ?_
  refine lv_bipush (v := nI 6) hx hb dX9_pointsBy_1 (by decide) ?_
  refine lv_idiv hx hb dX9_pointsBy_3 (by decide) ?_
  refine lv_ri (y := nI (ho / 6)) (pk_div (by omega) (by decide) (by decide)) ?_
  refine lv_iload_n hx hb dX9_pointsBy_4 rfl (lv_at hl 2 rfl) ?_
  refine lv_bipush (v := nI 6) hx hb dX9_pointsBy_5 (by decide) ?_
  refine lv_idiv hx hb dX9_pointsBy_7 (by decide) ?_
  refine lv_ri (y := nI (pp / 6)) (pk_div (by omega) (by decide) (by decide)) ?_
  refine lv_isub hx hb dX9_pointsBy_8 ?_
  refine roS (As := [Value.int ((nI (ho / 6)) - (nI (pp / 6)))]) (rest := []) (kX9_signOf l dC dI ca ((nI (ho / 6)) - (nI (pp / 6))) ) ⟨hx, hb, hml, hown, htl⟩ (cSg 1 htl wd_689 wd_690 wd_6 wd_691 rfl rfl (by decide +kernel) ⟨Nat.le_of_ble_eq_true rfl, Nat.le_of_ble_eq_true rfl⟩) (hP.sub [] rfl) hK rfl hl.1 rfl (Nat.le_of_ble_eq_true rfl) dX9_pointsBy_9 ⟨Nat.zero_le _, Nat.zero_le _⟩ (fun r hr9 => ?_)
  subst hr9
  refine lv_istore_n (lv' := [(3, .int (s_X9_signOf ((nI (ho / 6)) - (nI (pp / 6))))), (0, .int (nI 1)), (1, .int (nI ho)), (2, .int (nI pp))]) hx hb dX9_pointsBy_12 rfl hl (by decide) rfl (fun ls hl => ?_)
  refine lv_iload_n hx hb dX9_pointsBy_13 rfl (lv_at hl 2 rfl) ?_
  refine lv_bipush (v := nI 6) hx hb dX9_pointsBy_14 (by decide) ?_
  refine lv_irem hx hb dX9_pointsBy_16 (by decide) ?_
  refine lv_ri (y := nI (ho % 6)) (pk_rem (by omega) (by decide) (by decide)) ?_
  refine lv_iload_n hx hb dX9_pointsBy_17 rfl (lv_at hl 3 rfl) ?_
  refine lv_bipush (v := nI 6) hx hb dX9_pointsBy_18 (by decide) ?_
  refine lv_irem hx hb dX9_pointsBy_20 (by decide) ?_
  refine lv_ri (y := nI (pp % 6)) (pk_rem (by omega) (by decide) (by decide)) ?_
  refine lv_isub hx hb dX9_pointsBy_21 ?_
  refine roS (As := [Value.int ((nI (ho % 6)) - (nI (pp % 6)))]) (rest := []) (kX9_signOf l dC dI ca ((nI (ho % 6)) - (nI (pp % 6))) ) ⟨hx, hb, hml, hown, htl⟩ (cSg 1 htl wd_689 wd_690 wd_6 wd_691 rfl rfl (by decide +kernel) ⟨Nat.le_of_ble_eq_true rfl, Nat.le_of_ble_eq_true rfl⟩) (hP.sub [] rfl) hK rfl hl.1 rfl (Nat.le_of_ble_eq_true rfl) dX9_pointsBy_22 ⟨Nat.zero_le _, Nat.zero_le _⟩ (fun r hr9 => ?_)
  subst hr9
  refine lv_istore (lv' := [(4, .int (s_X9_signOf ((nI (ho % 6)) - (nI (pp % 6))))), (3, .int (s_X9_signOf ((nI (ho / 6)) - (nI (pp / 6))))), (0, .int (nI 1)), (1, .int (nI ho)), (2, .int (nI pp))]) hx hb dX9_pointsBy_25 hl (by decide) rfl (fun ls hl => ?_)
  refine lv_iload_n hx hb dX9_pointsBy_27 rfl (lv_at hl 2 rfl) ?_
  refine lv_tableIn (off := 32) (tgt := 60) hx hb dX9_pointsBy_28 (by decide) (by decide) rfl (by decide) ?_
  refine lv_iload_n hx hb dX9_pointsBy_60 rfl (lv_at hl 1 rfl) ?_
  refine lv_ineg hx hb dX9_pointsBy_61 ?_
  refine lv_iload hx hb dX9_pointsBy_62 (lv_at hl 0 rfl) ?_
  refine lv_ineg hx hb dX9_pointsBy_64 ?_
  refine roS (As := [Value.int (-(s_X9_signOf ((nI (ho / 6)) - (nI (pp / 6))))), Value.int (-(s_X9_signOf ((nI (ho % 6)) - (nI (pp % 6)))))]) (rest := []) (kX9_directionBy l dC dI ca (-(s_X9_signOf ((nI (ho / 6)) - (nI (pp / 6))))) (-(s_X9_signOf ((nI (ho % 6)) - (nI (pp % 6))))) ) ⟨hx, hb, hml, hown, htl⟩ (cSg 2 htl wd_692 wd_693 wd_6 wd_694 rfl rfl (by decide +kernel) ⟨Nat.le_of_ble_eq_true rfl, Nat.le_of_ble_eq_true rfl⟩) (hP.sub [] rfl) hK rfl hl.1 rfl (Nat.le_of_ble_eq_true rfl) dX9_pointsBy_65 ⟨Nat.zero_le _, Nat.zero_le _⟩ (fun r hr9 => ?_)
  subst hr9
  exact W.iret (v := s_X9_directionBy (-(s_X9_signOf ((nI (ho / 6)) - (nI (pp / 6))))) (-(s_X9_signOf ((nI (ho % 6)) - (nI (pp % 6)))))) hx hb hr (fun t ht hW => ⟨s_X9_directionBy (-(s_X9_signOf ((nI (ho / 6)) - (nI (pp / 6))))) (-(s_X9_signOf ((nI (ho % 6)) - (nI (pp % 6))))), rfl, pm_1_0 ho hho pp hp , ht⟩) (fun q h => by cases h) dX9_pointsBy_68
set_option maxRecDepth 100000 in
theorem pm_2_0 : ∀ ho, ho < 36 → ∀ pp, pp < 36 → ((s_X9_signOf ((nI (ho % 6)) - (nI (pp % 6)))) = 0) → s_X9_directionBy (s_X9_signOf ((nI (ho / 6)) - (nI (pp / 6)))) (nI 0) = nI (pointN 2 ho pp) := by decide +kernel
set_option maxRecDepth 100000 in
theorem pm_2_1 : ∀ ho, ho < 36 → ∀ pp, pp < 36 → ¬ ((s_X9_signOf ((nI (ho % 6)) - (nI (pp % 6)))) = 0) → s_X9_directionBy (nI 0) (s_X9_signOf ((nI (ho % 6)) - (nI (pp % 6)))) = nI (pointN 2 ho pp) := by decide +kernel
set_option maxHeartbeats 4000000 in
set_option maxRecDepth 100000 in
theorem kX9_pointsBy_2 (l : Launch) (dC : Nat → ClassId) (dI : Nat → Nat → Nat) (ca : Nat → ClassId) (ho : Nat) (pp : Nat) (hho : ho < 36) (hp : pp < 36) : Met l yX9_pointsBy (Cond.code yX9_pointsBy cX9_pointsBy 5 (some .int) :: gT) (rk 2) (ROp (dC, dI) [] (TY ca) [Value.int (nI 2), Value.int (nI ho), Value.int (nI pp)]) (vp_Si (fun r => r = nI (pointN 2 ho pp))) 0 0 (fun _ => False) := by
  refine Met.ofW (cc := cX9_pointsBy) (maxL := 5) (ret := (some .int)) (by decide) rfl ?_
  intro p e s m args below meth c s₁ B hml hv
  obtain ⟨rfl, hP, hK⟩ := hv
  have hx := B.exec
  have hb := B.bytes
  have hr := B.returns
  have hts := atoms_spec (ws := (Cond.code yX9_pointsBy cX9_pointsBy 5 (some .int) :: gT)) B.pre
  have htl : ∀ w ∈ gT, w.before _ s = true := fun w h => hts w (List.mem_cons_of_mem _ h)
  have hown : s.vm.findClass RX9 = some m.cls := findClass_of_methodNamed B.named
  have hlocks := B.notSynchronized
  have hl := lv_entry ([Value.int (nI 2), Value.int (nI ho), Value.int (nI pp)]) (n := 5) (Nat.le_of_ble_eq_true rfl)
  rw [lg_entry_eq]
  generalize (lg_sl ([Value.int (nI 2), Value.int (nI ho), Value.int (nI pp)]) ++ List.replicate (5 - (lg_sl ([Value.int (nI 2), Value.int (nI ho), Value.int (nI pp)])).length) Slot.unset).toArray = ls at hl ⊢
  have hl : lv_has ls 5 [(0, .int (nI 2)), (1, .int (nI ho)), (2, .int (nI pp))] := hl
  refine lv_iload_n hx hb dX9_pointsBy_0 rfl (lv_at hl 1 rfl) ?_
  refine lv_bipush (v := nI 6) hx hb dX9_pointsBy_1 (by decide) ?_
  refine lv_idiv hx hb dX9_pointsBy_3 (by decide) ?_
  refine lv_ri (y := nI (ho / 6)) (pk_div (by omega) (by decide) (by decide)) ?_
  refine lv_iload_n hx hb dX9_pointsBy_4 rfl (lv_at hl 2 rfl) ?_
  refine lv_bipush (v := nI 6) hx hb dX9_pointsBy_5 (by decide) ?_
  refine lv_idiv hx hb dX9_pointsBy_7 (by decide) ?_
  refine lv_ri (y := nI (pp / 6)) (pk_div (by omega) (by decide) (by decide)) ?_
  refine lv_isub hx hb dX9_pointsBy_8 ?_
  refine roS (As := [Value.int ((nI (ho / 6)) - (nI (pp / 6)))]) (rest := []) (kX9_signOf l dC dI ca ((nI (ho / 6)) - (nI (pp / 6))) ) ⟨hx, hb, hml, hown, htl⟩ (cSg 1 htl wd_689 wd_690 wd_6 wd_691 rfl rfl (by decide +kernel) ⟨Nat.le_of_ble_eq_true rfl, Nat.le_of_ble_eq_true rfl⟩) (hP.sub [] rfl) hK rfl hl.1 rfl (Nat.le_of_ble_eq_true rfl) dX9_pointsBy_9 ⟨Nat.zero_le _, Nat.zero_le _⟩ (fun r hr9 => ?_)
  subst hr9
  refine lv_istore_n (lv' := [(3, .int (s_X9_signOf ((nI (ho / 6)) - (nI (pp / 6))))), (0, .int (nI 2)), (1, .int (nI ho)), (2, .int (nI pp))]) hx hb dX9_pointsBy_12 rfl hl (by decide) rfl (fun ls hl => ?_)
  refine lv_iload_n hx hb dX9_pointsBy_13 rfl (lv_at hl 2 rfl) ?_
  refine lv_bipush (v := nI 6) hx hb dX9_pointsBy_14 (by decide) ?_
  refine lv_irem hx hb dX9_pointsBy_16 (by decide) ?_
  refine lv_ri (y := nI (ho % 6)) (pk_rem (by omega) (by decide) (by decide)) ?_
  refine lv_iload_n hx hb dX9_pointsBy_17 rfl (lv_at hl 3 rfl) ?_
  refine lv_bipush (v := nI 6) hx hb dX9_pointsBy_18 (by decide) ?_
  refine lv_irem hx hb dX9_pointsBy_20 (by decide) ?_
  refine lv_ri (y := nI (pp % 6)) (pk_rem (by omega) (by decide) (by decide)) ?_
  refine lv_isub hx hb dX9_pointsBy_21 ?_
  refine roS (As := [Value.int ((nI (ho % 6)) - (nI (pp % 6)))]) (rest := []) (kX9_signOf l dC dI ca ((nI (ho % 6)) - (nI (pp % 6))) ) ⟨hx, hb, hml, hown, htl⟩ (cSg 1 htl wd_689 wd_690 wd_6 wd_691 rfl rfl (by decide +kernel) ⟨Nat.le_of_ble_eq_true rfl, Nat.le_of_ble_eq_true rfl⟩) (hP.sub [] rfl) hK rfl hl.1 rfl (Nat.le_of_ble_eq_true rfl) dX9_pointsBy_22 ⟨Nat.zero_le _, Nat.zero_le _⟩ (fun r hr9 => ?_)
  subst hr9
  refine lv_istore (lv' := [(4, .int (s_X9_signOf ((nI (ho % 6)) - (nI (pp % 6))))), (3, .int (s_X9_signOf ((nI (ho / 6)) - (nI (pp / 6))))), (0, .int (nI 2)), (1, .int (nI ho)), (2, .int (nI pp))]) hx hb dX9_pointsBy_25 hl (by decide) rfl (fun ls hl => ?_)
  refine lv_iload_n hx hb dX9_pointsBy_27 rfl (lv_at hl 2 rfl) ?_
  refine lv_tableIn (off := 41) (tgt := 69) hx hb dX9_pointsBy_28 (by decide) (by decide) rfl (by decide) ?_
  refine lv_iload hx hb dX9_pointsBy_69 (lv_at hl 0 rfl) ?_
  refine lv_if_eq (tgt := 83) hx hb dX9_pointsBy_71 (by decide) (fun c_1 => ?_) (fun c_1 => ?_)
  · refine lv_iload_n hx hb dX9_pointsBy_83 rfl (lv_at hl 1 rfl) ?_
    refine lv_iconst (v := nI 0) hx hb dX9_pointsBy_84 (by decide) ?_
    refine roS (As := [Value.int (s_X9_signOf ((nI (ho / 6)) - (nI (pp / 6)))), Value.int (nI 0)]) (rest := []) (kX9_directionBy l dC dI ca (s_X9_signOf ((nI (ho / 6)) - (nI (pp / 6)))) (nI 0) ) ⟨hx, hb, hml, hown, htl⟩ (cSg 2 htl wd_692 wd_693 wd_6 wd_694 rfl rfl (by decide +kernel) ⟨Nat.le_of_ble_eq_true rfl, Nat.le_of_ble_eq_true rfl⟩) (hP.sub [] rfl) hK rfl hl.1 rfl (Nat.le_of_ble_eq_true rfl) dX9_pointsBy_85 ⟨Nat.zero_le _, Nat.zero_le _⟩ (fun r hr9 => ?_)
    subst hr9
    exact W.iret (v := s_X9_directionBy (s_X9_signOf ((nI (ho / 6)) - (nI (pp / 6)))) (nI 0)) hx hb hr (fun t ht hW => ⟨s_X9_directionBy (s_X9_signOf ((nI (ho / 6)) - (nI (pp / 6)))) (nI 0), rfl, pm_2_0 ho hho pp hp c_1, ht⟩) (fun q h => by cases h) dX9_pointsBy_88
  · refine lv_iconst (v := nI 0) hx hb dX9_pointsBy_74 (by decide) ?_
    refine lv_iload hx hb dX9_pointsBy_75 (lv_at hl 0 rfl) ?_
    refine roS (As := [Value.int (nI 0), Value.int (s_X9_signOf ((nI (ho % 6)) - (nI (pp % 6))))]) (rest := []) (kX9_directionBy l dC dI ca (nI 0) (s_X9_signOf ((nI (ho % 6)) - (nI (pp % 6)))) ) ⟨hx, hb, hml, hown, htl⟩ (cSg 2 htl wd_692 wd_693 wd_6 wd_694 rfl rfl (by decide +kernel) ⟨Nat.le_of_ble_eq_true rfl, Nat.le_of_ble_eq_true rfl⟩) (hP.sub [] rfl) hK rfl hl.1 rfl (Nat.le_of_ble_eq_true rfl) dX9_pointsBy_77 ⟨Nat.zero_le _, Nat.zero_le _⟩ (fun r hr9 => ?_)
    subst hr9
    refine lv_goto (tgt := 88) hx hb dX9_pointsBy_80 (by decide) ?_
    exact W.iret (v := s_X9_directionBy (nI 0) (s_X9_signOf ((nI (ho % 6)) - (nI (pp % 6))))) hx hb hr (fun t ht hW => ⟨s_X9_directionBy (nI 0) (s_X9_signOf ((nI (ho % 6)) - (nI (pp % 6)))), rfl, pm_2_1 ho hho pp hp c_1, ht⟩) (fun q h => by cases h) dX9_pointsBy_88
set_option maxRecDepth 100000 in
theorem pm_3_0 : ∀ ho, ho < 36 → ∀ pp, pp < 36 → s_X9_directionBy (s_X9_signOf ((nI (ho % 6)) - (nI (pp % 6)))) (-(s_X9_signOf ((nI (ho / 6)) - (nI (pp / 6))))) = nI (pointN 3 ho pp) := by decide +kernel
set_option maxHeartbeats 4000000 in
set_option maxRecDepth 100000 in
theorem kX9_pointsBy_3 (l : Launch) (dC : Nat → ClassId) (dI : Nat → Nat → Nat) (ca : Nat → ClassId) (ho : Nat) (pp : Nat) (hho : ho < 36) (hp : pp < 36) : Met l yX9_pointsBy (Cond.code yX9_pointsBy cX9_pointsBy 5 (some .int) :: gT) (rk 2) (ROp (dC, dI) [] (TY ca) [Value.int (nI 3), Value.int (nI ho), Value.int (nI pp)]) (vp_Si (fun r => r = nI (pointN 3 ho pp))) 0 0 (fun _ => False) := by
  refine Met.ofW (cc := cX9_pointsBy) (maxL := 5) (ret := (some .int)) (by decide) rfl ?_
  intro p e s m args below meth c s₁ B hml hv
  obtain ⟨rfl, hP, hK⟩ := hv
  have hx := B.exec
  have hb := B.bytes
  have hr := B.returns
  have hts := atoms_spec (ws := (Cond.code yX9_pointsBy cX9_pointsBy 5 (some .int) :: gT)) B.pre
  have htl : ∀ w ∈ gT, w.before _ s = true := fun w h => hts w (List.mem_cons_of_mem _ h)
  have hown : s.vm.findClass RX9 = some m.cls := findClass_of_methodNamed B.named
  have hlocks := B.notSynchronized
  have hl := lv_entry ([Value.int (nI 3), Value.int (nI ho), Value.int (nI pp)]) (n := 5) (Nat.le_of_ble_eq_true rfl)
  rw [lg_entry_eq]
  generalize (lg_sl ([Value.int (nI 3), Value.int (nI ho), Value.int (nI pp)]) ++ List.replicate (5 - (lg_sl ([Value.int (nI 3), Value.int (nI ho), Value.int (nI pp)])).length) Slot.unset).toArray = ls at hl ⊢
  have hl : lv_has ls 5 [(0, .int (nI 3)), (1, .int (nI ho)), (2, .int (nI pp))] := hl
  refine lv_iload_n hx hb dX9_pointsBy_0 rfl (lv_at hl 1 rfl) ?_
  refine lv_bipush (v := nI 6) hx hb dX9_pointsBy_1 (by decide) ?_
  refine lv_idiv hx hb dX9_pointsBy_3 (by decide) ?_
  refine lv_ri (y := nI (ho / 6)) (pk_div (by omega) (by decide) (by decide)) ?_
  refine lv_iload_n hx hb dX9_pointsBy_4 rfl (lv_at hl 2 rfl) ?_
  refine lv_bipush (v := nI 6) hx hb dX9_pointsBy_5 (by decide) ?_
  refine lv_idiv hx hb dX9_pointsBy_7 (by decide) ?_
  refine lv_ri (y := nI (pp / 6)) (pk_div (by omega) (by decide) (by decide)) ?_
  refine lv_isub hx hb dX9_pointsBy_8 ?_
  refine roS (As := [Value.int ((nI (ho / 6)) - (nI (pp / 6)))]) (rest := []) (kX9_signOf l dC dI ca ((nI (ho / 6)) - (nI (pp / 6))) ) ⟨hx, hb, hml, hown, htl⟩ (cSg 1 htl wd_689 wd_690 wd_6 wd_691 rfl rfl (by decide +kernel) ⟨Nat.le_of_ble_eq_true rfl, Nat.le_of_ble_eq_true rfl⟩) (hP.sub [] rfl) hK rfl hl.1 rfl (Nat.le_of_ble_eq_true rfl) dX9_pointsBy_9 ⟨Nat.zero_le _, Nat.zero_le _⟩ (fun r hr9 => ?_)
  subst hr9
  refine lv_istore_n (lv' := [(3, .int (s_X9_signOf ((nI (ho / 6)) - (nI (pp / 6))))), (0, .int (nI 3)), (1, .int (nI ho)), (2, .int (nI pp))]) hx hb dX9_pointsBy_12 rfl hl (by decide) rfl (fun ls hl => ?_)
  refine lv_iload_n hx hb dX9_pointsBy_13 rfl (lv_at hl 2 rfl) ?_
  refine lv_bipush (v := nI 6) hx hb dX9_pointsBy_14 (by decide) ?_
  refine lv_irem hx hb dX9_pointsBy_16 (by decide) ?_
  refine lv_ri (y := nI (ho % 6)) (pk_rem (by omega) (by decide) (by decide)) ?_
  refine lv_iload_n hx hb dX9_pointsBy_17 rfl (lv_at hl 3 rfl) ?_
  refine lv_bipush (v := nI 6) hx hb dX9_pointsBy_18 (by decide) ?_
  refine lv_irem hx hb dX9_pointsBy_20 (by decide) ?_
  refine lv_ri (y := nI (pp % 6)) (pk_rem (by omega) (by decide) (by decide)) ?_
  refine lv_isub hx hb dX9_pointsBy_21 ?_
  refine roS (As := [Value.int ((nI (ho % 6)) - (nI (pp % 6)))]) (rest := []) (kX9_signOf l dC dI ca ((nI (ho % 6)) - (nI (pp % 6))) ) ⟨hx, hb, hml, hown, htl⟩ (cSg 1 htl wd_689 wd_690 wd_6 wd_691 rfl rfl (by decide +kernel) ⟨Nat.le_of_ble_eq_true rfl, Nat.le_of_ble_eq_true rfl⟩) (hP.sub [] rfl) hK rfl hl.1 rfl (Nat.le_of_ble_eq_true rfl) dX9_pointsBy_22 ⟨Nat.zero_le _, Nat.zero_le _⟩ (fun r hr9 => ?_)
  subst hr9
  refine lv_istore (lv' := [(4, .int (s_X9_signOf ((nI (ho % 6)) - (nI (pp % 6))))), (3, .int (s_X9_signOf ((nI (ho / 6)) - (nI (pp / 6))))), (0, .int (nI 3)), (1, .int (nI ho)), (2, .int (nI pp))]) hx hb dX9_pointsBy_25 hl (by decide) rfl (fun ls hl => ?_)
  refine lv_iload_n hx hb dX9_pointsBy_27 rfl (lv_at hl 2 rfl) ?_
  refine lv_tableIn (off := 80) (tgt := 108) hx hb dX9_pointsBy_28 (by decide) (by decide) rfl (by decide) ?_
  refine lv_iload hx hb dX9_pointsBy_108 (lv_at hl 0 rfl) ?_
  refine lv_iload_n hx hb dX9_pointsBy_110 rfl (lv_at hl 1 rfl) ?_
  refine lv_ineg hx hb dX9_pointsBy_111 ?_
  refine roS (As := [Value.int (s_X9_signOf ((nI (ho % 6)) - (nI (pp % 6)))), Value.int (-(s_X9_signOf ((nI (ho / 6)) - (nI (pp / 6)))))]) (rest := []) (kX9_directionBy l dC dI ca (s_X9_signOf ((nI (ho % 6)) - (nI (pp % 6)))) (-(s_X9_signOf ((nI (ho / 6)) - (nI (pp / 6))))) ) ⟨hx, hb, hml, hown, htl⟩ (cSg 2 htl wd_692 wd_693 wd_6 wd_694 rfl rfl (by decide +kernel) ⟨Nat.le_of_ble_eq_true rfl, Nat.le_of_ble_eq_true rfl⟩) (hP.sub [] rfl) hK rfl hl.1 rfl (Nat.le_of_ble_eq_true rfl) dX9_pointsBy_112 ⟨Nat.zero_le _, Nat.zero_le _⟩ (fun r hr9 => ?_)
  subst hr9
  exact W.iret (v := s_X9_directionBy (s_X9_signOf ((nI (ho % 6)) - (nI (pp % 6)))) (-(s_X9_signOf ((nI (ho / 6)) - (nI (pp / 6)))))) hx hb hr (fun t ht hW => ⟨s_X9_directionBy (s_X9_signOf ((nI (ho % 6)) - (nI (pp % 6)))) (-(s_X9_signOf ((nI (ho / 6)) - (nI (pp / 6))))), rfl, pm_3_0 ho hho pp hp , ht⟩) (fun q h => by cases h) dX9_pointsBy_115
set_option maxRecDepth 100000 in
theorem pm_4_0 : ∀ ho, ho < 36 → ∀ pp, pp < 36 → ((s_X9_signOf ((nI (ho / 6)) - (nI (pp / 6)))) = 0) → s_X9_directionBy (nI 0) (s_X9_signOf ((nI (ho % 6)) - (nI (pp % 6)))) = nI (pointN 4 ho pp) := by decide +kernel
set_option maxRecDepth 100000 in
theorem pm_4_1 : ∀ ho, ho < 36 → ∀ pp, pp < 36 → ¬ ((s_X9_signOf ((nI (ho / 6)) - (nI (pp / 6)))) = 0) → s_X9_directionBy (s_X9_signOf ((nI (ho / 6)) - (nI (pp / 6)))) (nI 0) = nI (pointN 4 ho pp) := by decide +kernel
set_option maxHeartbeats 4000000 in
set_option maxRecDepth 100000 in
theorem kX9_pointsBy_4 (l : Launch) (dC : Nat → ClassId) (dI : Nat → Nat → Nat) (ca : Nat → ClassId) (ho : Nat) (pp : Nat) (hho : ho < 36) (hp : pp < 36) : Met l yX9_pointsBy (Cond.code yX9_pointsBy cX9_pointsBy 5 (some .int) :: gT) (rk 2) (ROp (dC, dI) [] (TY ca) [Value.int (nI 4), Value.int (nI ho), Value.int (nI pp)]) (vp_Si (fun r => r = nI (pointN 4 ho pp))) 0 0 (fun _ => False) := by
  refine Met.ofW (cc := cX9_pointsBy) (maxL := 5) (ret := (some .int)) (by decide) rfl ?_
  intro p e s m args below meth c s₁ B hml hv
  obtain ⟨rfl, hP, hK⟩ := hv
  have hx := B.exec
  have hb := B.bytes
  have hr := B.returns
  have hts := atoms_spec (ws := (Cond.code yX9_pointsBy cX9_pointsBy 5 (some .int) :: gT)) B.pre
  have htl : ∀ w ∈ gT, w.before _ s = true := fun w h => hts w (List.mem_cons_of_mem _ h)
  have hown : s.vm.findClass RX9 = some m.cls := findClass_of_methodNamed B.named
  have hlocks := B.notSynchronized
  have hl := lv_entry ([Value.int (nI 4), Value.int (nI ho), Value.int (nI pp)]) (n := 5) (Nat.le_of_ble_eq_true rfl)
  rw [lg_entry_eq]
  generalize (lg_sl ([Value.int (nI 4), Value.int (nI ho), Value.int (nI pp)]) ++ List.replicate (5 - (lg_sl ([Value.int (nI 4), Value.int (nI ho), Value.int (nI pp)])).length) Slot.unset).toArray = ls at hl ⊢
  have hl : lv_has ls 5 [(0, .int (nI 4)), (1, .int (nI ho)), (2, .int (nI pp))] := hl
  refine lv_iload_n hx hb dX9_pointsBy_0 rfl (lv_at hl 1 rfl) ?_
  refine lv_bipush (v := nI 6) hx hb dX9_pointsBy_1 (by decide) ?_
  refine lv_idiv hx hb dX9_pointsBy_3 (by decide) ?_
  refine lv_ri (y := nI (ho / 6)) (pk_div (by omega) (by decide) (by decide)) ?_
  refine lv_iload_n hx hb dX9_pointsBy_4 rfl (lv_at hl 2 rfl) ?_
  refine lv_bipush (v := nI 6) hx hb dX9_pointsBy_5 (by decide) ?_
  refine lv_idiv hx hb dX9_pointsBy_7 (by decide) ?_
  refine lv_ri (y := nI (pp / 6)) (pk_div (by omega) (by decide) (by decide)) ?_
  refine lv_isub hx hb dX9_pointsBy_8 ?_
  refine roS (As := [Value.int ((nI (ho / 6)) - (nI (pp / 6)))]) (rest := []) (kX9_signOf l dC dI ca ((nI (ho / 6)) - (nI (pp / 6))) ) ⟨hx, hb, hml, hown, htl⟩ (cSg 1 htl wd_689 wd_690 wd_6 wd_691 rfl rfl (by decide +kernel) ⟨Nat.le_of_ble_eq_true rfl, Nat.le_of_ble_eq_true rfl⟩) (hP.sub [] rfl) hK rfl hl.1 rfl (Nat.le_of_ble_eq_true rfl) dX9_pointsBy_9 ⟨Nat.zero_le _, Nat.zero_le _⟩ (fun r hr9 => ?_)
  subst hr9
  refine lv_istore_n (lv' := [(3, .int (s_X9_signOf ((nI (ho / 6)) - (nI (pp / 6))))), (0, .int (nI 4)), (1, .int (nI ho)), (2, .int (nI pp))]) hx hb dX9_pointsBy_12 rfl hl (by decide) rfl (fun ls hl => ?_)
  refine lv_iload_n hx hb dX9_pointsBy_13 rfl (lv_at hl 2 rfl) ?_
  refine lv_bipush (v := nI 6) hx hb dX9_pointsBy_14 (by decide) ?_
  refine lv_irem hx hb dX9_pointsBy_16 (by decide) ?_
  refine lv_ri (y := nI (ho % 6)) (pk_rem (by omega) (by decide) (by decide)) ?_
  refine lv_iload_n hx hb dX9_pointsBy_17 rfl (lv_at hl 3 rfl) ?_
  refine lv_bipush (v := nI 6) hx hb dX9_pointsBy_18 (by decide) ?_
  refine lv_irem hx hb dX9_pointsBy_20 (by decide) ?_
  refine lv_ri (y := nI (pp % 6)) (pk_rem (by omega) (by decide) (by decide)) ?_
  refine lv_isub hx hb dX9_pointsBy_21 ?_
  refine roS (As := [Value.int ((nI (ho % 6)) - (nI (pp % 6)))]) (rest := []) (kX9_signOf l dC dI ca ((nI (ho % 6)) - (nI (pp % 6))) ) ⟨hx, hb, hml, hown, htl⟩ (cSg 1 htl wd_689 wd_690 wd_6 wd_691 rfl rfl (by decide +kernel) ⟨Nat.le_of_ble_eq_true rfl, Nat.le_of_ble_eq_true rfl⟩) (hP.sub [] rfl) hK rfl hl.1 rfl (Nat.le_of_ble_eq_true rfl) dX9_pointsBy_22 ⟨Nat.zero_le _, Nat.zero_le _⟩ (fun r hr9 => ?_)
  subst hr9
  refine lv_istore (lv' := [(4, .int (s_X9_signOf ((nI (ho % 6)) - (nI (pp % 6))))), (3, .int (s_X9_signOf ((nI (ho / 6)) - (nI (pp / 6))))), (0, .int (nI 4)), (1, .int (nI ho)), (2, .int (nI pp))]) hx hb dX9_pointsBy_25 hl (by decide) rfl (fun ls hl => ?_)
  refine lv_iload_n hx hb dX9_pointsBy_27 rfl (lv_at hl 2 rfl) ?_
  refine lv_tableIn (off := 61) (tgt := 89) hx hb dX9_pointsBy_28 (by decide) (by decide) rfl (by decide) ?_
  refine lv_iload_n hx hb dX9_pointsBy_89 rfl (lv_at hl 1 rfl) ?_
  refine lv_if_eq (tgt := 101) hx hb dX9_pointsBy_90 (by decide) (fun c_1 => ?_) (fun c_1 => ?_)
  · refine lv_iconst (v := nI 0) hx hb dX9_pointsBy_101 (by decide) ?_
    refine lv_iload hx hb dX9_pointsBy_102 (lv_at hl 0 rfl) ?_
    refine roS (As := [Value.int (nI 0), Value.int (s_X9_signOf ((nI (ho % 6)) - (nI (pp % 6))))]) (rest := []) (kX9_directionBy l dC dI ca (nI 0) (s_X9_signOf ((nI (ho % 6)) - (nI (pp % 6)))) ) ⟨hx, hb, hml, hown, htl⟩ (cSg 2 htl wd_692 wd_693 wd_6 wd_694 rfl rfl (by decide +kernel) ⟨Nat.le_of_ble_eq_true rfl, Nat.le_of_ble_eq_true rfl⟩) (hP.sub [] rfl) hK rfl hl.1 rfl (Nat.le_of_ble_eq_true rfl) dX9_pointsBy_104 ⟨Nat.zero_le _, Nat.zero_le _⟩ (fun r hr9 => ?_)
    subst hr9
    exact W.iret (v := s_X9_directionBy (nI 0) (s_X9_signOf ((nI (ho % 6)) - (nI (pp % 6))))) hx hb hr (fun t ht hW => ⟨s_X9_directionBy (nI 0) (s_X9_signOf ((nI (ho % 6)) - (nI (pp % 6)))), rfl, pm_4_0 ho hho pp hp c_1, ht⟩) (fun q h => by cases h) dX9_pointsBy_107
  · refine lv_iload_n hx hb dX9_pointsBy_93 rfl (lv_at hl 1 rfl) ?_
    refine lv_iconst (v := nI 0) hx hb dX9_pointsBy_94 (by decide) ?_
    refine roS (As := [Value.int (s_X9_signOf ((nI (ho / 6)) - (nI (pp / 6)))), Value.int (nI 0)]) (rest := []) (kX9_directionBy l dC dI ca (s_X9_signOf ((nI (ho / 6)) - (nI (pp / 6)))) (nI 0) ) ⟨hx, hb, hml, hown, htl⟩ (cSg 2 htl wd_692 wd_693 wd_6 wd_694 rfl rfl (by decide +kernel) ⟨Nat.le_of_ble_eq_true rfl, Nat.le_of_ble_eq_true rfl⟩) (hP.sub [] rfl) hK rfl hl.1 rfl (Nat.le_of_ble_eq_true rfl) dX9_pointsBy_95 ⟨Nat.zero_le _, Nat.zero_le _⟩ (fun r hr9 => ?_)
    subst hr9
    refine lv_goto (tgt := 107) hx hb dX9_pointsBy_98 (by decide) ?_
    exact W.iret (v := s_X9_directionBy (s_X9_signOf ((nI (ho / 6)) - (nI (pp / 6)))) (nI 0)) hx hb hr (fun t ht hW => ⟨s_X9_directionBy (s_X9_signOf ((nI (ho / 6)) - (nI (pp / 6)))) (nI 0), rfl, pm_4_1 ho hho pp hp c_1, ht⟩) (fun q h => by cases h) dX9_pointsBy_107
theorem kX9_pointsBy (l : Launch) (dC : Nat → ClassId) (dI : Nat → Nat → Nat) (ca : Nat → ClassId) (k : Nat) (ho : Nat) (pp : Nat) (hk : k < 5) (hho : ho < 36) (hp : pp < 36) : Met l yX9_pointsBy (Cond.code yX9_pointsBy cX9_pointsBy 5 (some .int) :: gT) (rk 2) (ROp (dC, dI) [] (TY ca) [Value.int (nI k), Value.int (nI ho), Value.int (nI pp)]) (vp_Si (fun r => r = nI (pointN k ho pp))) 0 0 (fun _ => False) := by
  match k, hk with
  | 0, _ => exact kX9_pointsBy_0 l dC dI ca ho pp hho hp
  | 1, _ => exact kX9_pointsBy_1 l dC dI ca ho pp hho hp
  | 2, _ => exact kX9_pointsBy_2 l dC dI ca ho pp hho hp
  | 3, _ => exact kX9_pointsBy_3 l dC dI ca ho pp hho hp
  | 4, _ => exact kX9_pointsBy_4 l dC dI ca ho pp hho hp
  | n + 5, hk => exact absurd hk (by omega)
set_option maxHeartbeats 4000000 in
set_option maxRecDepth 100000 in
theorem kX9_pointsOf (l : Launch) (dC : Nat → ClassId) (dI : Nat → Nat → Nat) (ca : Nat → ClassId) (i : Nat) (pp : Nat) (kd : Nat → Nat) (nc : Nat) (sr : Int32) (ps : Nat) (br : Nat) (st : Int32) (so : Int32) (se : Nat) (hm : Nat → Nat) (kbr : Nat) (kst : Int32) (kso : Int32) (kse : Nat) (mq : Nat → Nat) (ea : Int32) (fe : Int32) (fs : Int32) (sw : Int32) (ks : Int32) (hs : Int64) (hi : i < 4) (hp : pp < 36) (hkd : ∀ j, j < 4 → kd j < 5) (hhm : ∀ j, j < 4 → hm j < 36) : Met l yX9_pointsOf (Cond.code yX9_pointsOf cX9_pointsOf 3 (some .int) :: gT) (rk 3) (ROp (dC, dI) [(mq 0, .inr (9, [.ref (mq 1), .int (nI ps), .int ea, .int (nI nc), .int (nI br), .int st, .int so, .int sr, .ref (mq 2), .ref (mq 3), .int fe, .int fs, .ref (mq 4), .int (nI se), .ref (mq 5), .ref (mq 6), .int sw, .int ks, .int (nI kbr), .int kst, .int kso, .int (nI kse), .ref (mq 7), .ref (mq 8), .ref (mq 9), .long hs])), (mq 2, .inl (ca 14, 8, .inl (fun zj => nI (rwN kd hm zj))))] (TY ca) [Value.ref (mq 0), Value.int (nI i), Value.int (nI pp)]) (vp_Si (fun r => r = nI (pointN (kd i) (hm i) pp))) 0 0 (fun _ => False) := by
  refine Met.ofW (cc := cX9_pointsOf) (maxL := 3) (ret := (some .int)) (by decide) rfl ?_
  intro p e s m args below meth c s₁ B hml hv
  obtain ⟨rfl, hP, hK⟩ := hv
  have hx := B.exec
  have hb := B.bytes
  have hr := B.returns
  have hts := atoms_spec (ws := (Cond.code yX9_pointsOf cX9_pointsOf 3 (some .int) :: gT)) B.pre
  have htl : ∀ w ∈ gT, w.before _ s = true := fun w h => hts w (List.mem_cons_of_mem _ h)
  have hown : s.vm.findClass RX9 = some m.cls := findClass_of_methodNamed B.named
  have hlocks := B.notSynchronized
  have hl := lv_entry ([Value.ref (mq 0), Value.int (nI i), Value.int (nI pp)]) (n := 3) (Nat.le_of_ble_eq_true rfl)
  rw [lg_entry_eq]
  generalize (lg_sl ([Value.ref (mq 0), Value.int (nI i), Value.int (nI pp)]) ++ List.replicate (3 - (lg_sl ([Value.ref (mq 0), Value.int (nI i), Value.int (nI pp)])).length) Slot.unset).toArray = ls at hl ⊢
  have hl : lv_has ls 3 [(0, .ref (mq 0)), (1, .int (nI i)), (2, .int (nI pp))] := hl
  refine lv_aload_n hx hb dX9_pointsOf_0 rfl (lv_at hl 0 rfl) ?_
  refine va_get (D := (dC, dI)) (ci := 9) (v := .ref (mq 2)) (C := RX9) (T := TX9) (N := 26) hx hb htl iX9 hown hK hP 0 rfl rfl 8 (by decide) (htl _ wd_559) (fun _ h9 => h9) rfl dX9_pointsOf_1 ?_
  refine lv_iconst (v := nI 2) hx hb dX9_pointsOf_4 (by decide) ?_
  refine lv_iload_n hx hb dX9_pointsOf_5 rfl (lv_at hl 1 rfl) ?_
  refine lv_imul hx hb dX9_pointsOf_6 ?_
  refine lv_ri (y := nI (2 * i)) (pk_mul 2 i) ?_
  refine va_iald hx hb hK hP 1 14 rfl rfl (vp_in_nI (by omega) (by decide)) dX9_pointsOf_7 ?_
  refine lv_ri (y := nI ((rwN kd hm) (2 * i))) (congrArg (fun zj => nI (rwN kd hm zj)) (nI_clamp (by omega))) ?_
  refine lv_ri (y := nI (kd i)) (congrArg nI (rwN_e kd hm i)) ?_
  refine lv_aload_n hx hb dX9_pointsOf_8 rfl (lv_at hl 0 rfl) ?_
  refine va_get (D := (dC, dI)) (ci := 9) (v := .ref (mq 2)) (C := RX9) (T := TX9) (N := 26) hx hb htl iX9 hown hK hP 0 rfl rfl 8 (by decide) (htl _ wd_559) (fun _ h9 => h9) rfl dX9_pointsOf_9 ?_
  refine lv_iconst (v := nI 2) hx hb dX9_pointsOf_12 (by decide) ?_
  refine lv_iload_n hx hb dX9_pointsOf_13 rfl (lv_at hl 1 rfl) ?_
  refine lv_imul hx hb dX9_pointsOf_14 ?_
  refine lv_ri (y := nI (2 * i)) (pk_mul 2 i) ?_
  refine lv_iconst (v := nI 1) hx hb dX9_pointsOf_15 (by decide) ?_
  refine lv_iadd hx hb dX9_pointsOf_16 ?_
  refine lv_ri (y := nI ((2 * i) + 1)) (nI_add (2 * i) 1) ?_
  refine va_iald hx hb hK hP 1 14 rfl rfl (vp_in_nI (by omega) (by decide)) dX9_pointsOf_17 ?_
  refine lv_ri (y := nI ((rwN kd hm) ((2 * i) + 1))) (congrArg (fun zj => nI (rwN kd hm zj)) (nI_clamp (by omega))) ?_
  refine lv_ri (y := nI (hm i)) (congrArg nI (rwN_o kd hm i)) ?_
  refine lv_iload_n hx hb dX9_pointsOf_18 rfl (lv_at hl 2 rfl) ?_
  refine roS (As := [Value.int (nI (kd i)), Value.int (nI (hm i)), Value.int (nI pp)]) (rest := []) (kX9_pointsBy l dC dI ca (kd i) (hm i) pp (hkd i hi) (hhm i hi) hp) ⟨hx, hb, hml, hown, htl⟩ (cSg 3 htl wd_686 wd_687 wd_6 wd_688 rfl rfl (by decide +kernel) ⟨Nat.le_of_ble_eq_true rfl, Nat.le_of_ble_eq_true rfl⟩) (hP.sub [] rfl) hK rfl hl.1 rfl (Nat.le_of_ble_eq_true rfl) dX9_pointsOf_19 ⟨Nat.zero_le _, Nat.zero_le _⟩ (fun r hr9 => ?_)
  subst hr9
  exact W.iret (v := nI (pointN (kd i) (hm i) pp)) hx hb hr (fun t ht hW => ⟨nI (pointN (kd i) (hm i) pp), rfl, rfl, ht⟩) (fun q h => by cases h) dX9_pointsOf_22
theorem in_row : ∀ a, a < 14 → inB (nI a - nI 1).toInt64 0 5 = decide (1 ≤ a ∧ a ≤ 6) := by decide +kernel
theorem bI_is1 {b : Bool} : bI b = nI 1 ↔ b = true := by cases b <;> decide
theorem bI_ne1 {b : Bool} (h : ¬ bI b = nI 1) : b = false := by cases b <;> first | rfl | (exact absurd rfl h)
set_option maxHeartbeats 4000000 in
set_option maxRecDepth 100000 in
theorem kX9_stepped (l : Launch) (dC : Nat → ClassId) (dI : Nat → Nat → Nat) (ca : Nat → ClassId) (pp : Nat) (d : Nat) (nc : Nat) (sr : Int32) (ps : Nat) (br : Nat) (st : Int32) (so : Int32) (se : Nat) (kbr : Nat) (kst : Int32) (kso : Int32) (kse : Nat) (mq : Nat → Nat) (ea : Int32) (fe : Int32) (fs : Int32) (sw : Int32) (ks : Int32) (ib : Nat → Bool) (hs : Int64) (hp : pp < 36) (hd : d < 9) : Met l yX9_stepped (Cond.code yX9_stepped cX9_stepped 6 (some .int) :: gT) (rk 2) (ROp (dC, dI) [(mq 0, .inr (9, [.ref (mq 1), .int (nI ps), .int ea, .int (nI nc), .int (nI br), .int st, .int so, .int sr, .ref (mq 2), .ref (mq 3), .int fe, .int fs, .ref (mq 4), .int (nI se), .ref (mq 5), .ref (mq 6), .int sw, .int ks, .int (nI kbr), .int kst, .int kso, .int (nI kse), .ref (mq 7), .ref (mq 8), .ref (mq 9), .long hs])), (mq 3, .inl (ca 15, 36, .inl (fun zj => bI (ib zj))))] (TY ca) [Value.ref (mq 0), Value.int (nI pp), Value.int (nI d)]) (vp_Si (fun r => r = nI (stepN ib pp d))) 0 0 (fun _ => False) := by
  refine Met.ofW (cc := cX9_stepped) (maxL := 6) (ret := (some .int)) (by decide) rfl ?_
  intro p e s m args below meth c s₁ B hml hv
  obtain ⟨rfl, hP, hK⟩ := hv
  have hx := B.exec
  have hb := B.bytes
  have hr := B.returns
  have hts := atoms_spec (ws := (Cond.code yX9_stepped cX9_stepped 6 (some .int) :: gT)) B.pre
  have htl : ∀ w ∈ gT, w.before _ s = true := fun w h => hts w (List.mem_cons_of_mem _ h)
  have hown : s.vm.findClass RX9 = some m.cls := findClass_of_methodNamed B.named
  have hlocks := B.notSynchronized
  have hl := lv_entry ([Value.ref (mq 0), Value.int (nI pp), Value.int (nI d)]) (n := 6) (Nat.le_of_ble_eq_true rfl)
  rw [lg_entry_eq]
  generalize (lg_sl ([Value.ref (mq 0), Value.int (nI pp), Value.int (nI d)]) ++ List.replicate (6 - (lg_sl ([Value.ref (mq 0), Value.int (nI pp), Value.int (nI d)])).length) Slot.unset).toArray = ls at hl ⊢
  have hl : lv_has ls 6 [(0, .ref (mq 0)), (1, .int (nI pp)), (2, .int (nI d))] := hl
  refine lv_iload_n hx hb dX9_stepped_0 rfl (lv_at hl 1 rfl) ?_
  refine lv_bipush (v := nI 6) hx hb dX9_stepped_1 (by decide) ?_
  refine lv_idiv hx hb dX9_stepped_3 (by decide) ?_
  refine lv_ri (y := nI (pp / 6)) (pk_div (by omega) (by decide) (by decide)) ?_
  refine lv_iload_n hx hb dX9_stepped_4 rfl (lv_at hl 2 rfl) ?_
  refine lv_iconst (v := nI 3) hx hb dX9_stepped_5 (by decide) ?_
  refine lv_idiv hx hb dX9_stepped_6 (by decide) ?_
  refine lv_ri (y := nI (d / 3)) (pk_div (by omega) (by decide) (by decide)) ?_
  refine lv_iadd hx hb dX9_stepped_7 ?_
  refine lv_ri (y := nI ((pp / 6) + (d / 3))) (nI_add (pp / 6) (d / 3)) ?_
  refine lv_iconst (v := nI 1) hx hb dX9_stepped_8 (by decide) ?_
  refine lv_isub hx hb dX9_stepped_9 ?_
  refine lv_istore_n (lv' := [(3, .int ((nI ((pp / 6) + (d / 3))) - (nI 1))), (0, .ref (mq 0)), (1, .int (nI pp)), (2, .int (nI d))]) hx hb dX9_stepped_10 rfl hl (by decide) rfl (fun ls hl => ?_)
  refine lv_iload_n hx hb dX9_stepped_11 rfl (lv_at hl 2 rfl) ?_
  refine lv_bipush (v := nI 6) hx hb dX9_stepped_12 (by decide) ?_
  refine lv_irem hx hb dX9_stepped_14 (by decide) ?_
  refine lv_ri (y := nI (pp % 6)) (pk_rem (by omega) (by decide) (by decide)) ?_
  refine lv_iload_n hx hb dX9_stepped_15 rfl (lv_at hl 3 rfl) ?_
  refine lv_iconst (v := nI 3) hx hb dX9_stepped_16 (by decide) ?_
  refine lv_irem hx hb dX9_stepped_17 (by decide) ?_
  refine lv_ri (y := nI (d % 3)) (pk_rem (by omega) (by decide) (by decide)) ?_
  refine lv_iadd hx hb dX9_stepped_18 ?_
  refine lv_ri (y := nI ((pp % 6) + (d % 3))) (nI_add (pp % 6) (d % 3)) ?_
  refine lv_iconst (v := nI 1) hx hb dX9_stepped_19 (by decide) ?_
  refine lv_isub hx hb dX9_stepped_20 ?_
  refine lv_istore (lv' := [(4, .int ((nI ((pp % 6) + (d % 3))) - (nI 1))), (3, .int ((nI ((pp / 6) + (d / 3))) - (nI 1))), (0, .ref (mq 0)), (1, .int (nI pp)), (2, .int (nI d))]) hx hb dX9_stepped_21 hl (by decide) rfl (fun ls hl => ?_)
  refine lv_iload_n hx hb dX9_stepped_23 rfl (lv_at hl 1 rfl) ?_
  refine lv_i2l (v := ((nI ((pp / 6) + (d / 3))) - (nI 1)).toInt64) hx hb dX9_stepped_24 rfl ?_
  refine lv_lconst (v := 0) hx hb dX9_stepped_25 (by decide) ?_
  refine lv_ldc2 (v := 5) hx hb hown (htl _ wd_707) dX9_stepped_26 ?_
  refine roS (As := [Value.long (((nI ((pp / 6) + (d / 3))) - (nI 1)).toInt64), Value.long 0, Value.long 5]) (rest := []) (kX9_in l dC dI ca (((nI ((pp / 6) + (d / 3))) - (nI 1)).toInt64) 0 5 ) ⟨hx, hb, hml, hown, htl⟩ (cSg 3 htl wd_635 wd_636 wd_6 wd_637 rfl rfl (by decide +kernel) ⟨Nat.le_of_ble_eq_true rfl, Nat.le_of_ble_eq_true rfl⟩) (hP.sub [] rfl) hK rfl hl.1 rfl (Nat.le_of_ble_eq_true rfl) dX9_stepped_29 ⟨Nat.zero_le _, Nat.zero_le _⟩ (fun r hr9 => ?_)
  subst hr9
  refine lv_if_eq (tgt := 48) hx hb dX9_stepped_32 (by decide) (fun c_1 => ?_) (fun c_1 => ?_)
  · rw [in_row _ (by omega)] at c_1
    replace c_1 := bI_f c_1
    simp only [decide_eq_true_eq, decide_eq_false_iff_not] at c_1
    refine lv_iload_n hx hb dX9_stepped_48 rfl (lv_at hl 3 rfl) ?_
    exact W.iret (v := nI pp) hx hb hr (fun t ht hW => ⟨nI pp, rfl, by show _ = _; rw [stepN_off (by omega)], ht⟩) (fun q h => by cases h) dX9_stepped_49
  · rw [in_row _ (by omega)] at c_1
    replace c_1 := bI_t c_1
    simp only [decide_eq_true_eq, decide_eq_false_iff_not] at c_1
    refine lv_iload hx hb dX9_stepped_35 (lv_at hl 0 rfl) ?_
    refine lv_i2l (v := ((nI ((pp % 6) + (d % 3))) - (nI 1)).toInt64) hx hb dX9_stepped_37 rfl ?_
    refine lv_lconst (v := 0) hx hb dX9_stepped_38 (by decide) ?_
    refine lv_ldc2 (v := 5) hx hb hown (htl _ wd_707) dX9_stepped_39 ?_
    refine roS (As := [Value.long (((nI ((pp % 6) + (d % 3))) - (nI 1)).toInt64), Value.long 0, Value.long 5]) (rest := []) (kX9_in l dC dI ca (((nI ((pp % 6) + (d % 3))) - (nI 1)).toInt64) 0 5 ) ⟨hx, hb, hml, hown, htl⟩ (cSg 3 htl wd_635 wd_636 wd_6 wd_637 rfl rfl (by decide +kernel) ⟨Nat.le_of_ble_eq_true rfl, Nat.le_of_ble_eq_true rfl⟩) (hP.sub [] rfl) hK rfl hl.1 rfl (Nat.le_of_ble_eq_true rfl) dX9_stepped_42 ⟨Nat.zero_le _, Nat.zero_le _⟩ (fun r hr9 => ?_)
    subst hr9
    refine lv_if_ne (tgt := 50) hx hb dX9_stepped_45 (by decide) (fun c_2 => ?_) (fun c_2 => ?_)
    · rw [in_row _ (by omega)] at c_2
      replace c_2 := bI_t c_2
      simp only [decide_eq_true_eq, decide_eq_false_iff_not] at c_2
      refine lv_bipush (v := nI 6) hx hb dX9_stepped_50 (by decide) ?_
      refine lv_iload_n hx hb dX9_stepped_52 rfl (lv_at hl 1 rfl) ?_
      refine lv_imul hx hb dX9_stepped_53 ?_
      refine lv_ri (y := nI (6 * (pp / 6 + d / 3 - 1))) (by rw [pk_sub (by omega), pk_mul]) ?_
      refine lv_iload hx hb dX9_stepped_54 (lv_at hl 0 rfl) ?_
      refine lv_iadd hx hb dX9_stepped_56 ?_
      refine lv_ri (y := nI (6 * (pp / 6 + d / 3 - 1) + (pp % 6 + d % 3 - 1))) (by rw [pk_sub (by omega), nI_add]) ?_
      refine lv_istore (lv' := [(5, .int (nI (6 * (pp / 6 + d / 3 - 1) + (pp % 6 + d % 3 - 1)))), (4, .int ((nI ((pp % 6) + (d % 3))) - (nI 1))), (3, .int ((nI ((pp / 6) + (d / 3))) - (nI 1))), (0, .ref (mq 0)), (1, .int (nI pp)), (2, .int (nI d))]) hx hb dX9_stepped_57 hl (by decide) rfl (fun ls hl => ?_)
      refine lv_aload_n hx hb dX9_stepped_59 rfl (lv_at hl 3 rfl) ?_
      refine va_get (D := (dC, dI)) (ci := 9) (v := .ref (mq 3)) (C := RX9) (T := TX9) (N := 26) hx hb htl iX9 hown hK hP 0 rfl rfl 9 (by decide) (htl _ wd_560) (fun _ h9 => h9) rfl dX9_stepped_60 ?_
      refine lv_iload hx hb dX9_stepped_63 (lv_at hl 0 rfl) ?_
      refine va_iald hx hb hK hP 1 15 rfl rfl (vp_in_nI (by omega) (by decide)) dX9_stepped_65 ?_
      refine lv_ri (y := bI (ib (6 * (pp / 6 + d / 3 - 1) + (pp % 6 + d % 3 - 1)))) (congrArg (fun zj => bI (ib zj)) (nI_clamp (by omega))) ?_
      refine lv_iconst (v := nI 1) hx hb dX9_stepped_66 (by decide) ?_
      refine lv_icmp_ne (tgt := 74) hx hb dX9_stepped_67 (by decide) (fun c_3 => ?_) (fun c_3 => ?_)
      · rw [bI_is1] at c_3
        try (replace c_3 := Bool.eq_false_iff.mpr c_3)
        refine lv_iload hx hb dX9_stepped_74 (lv_at hl 0 rfl) ?_
        exact W.iret (v := nI (6 * (pp / 6 + d / 3 - 1) + (pp % 6 + d % 3 - 1))) hx hb hr (fun t ht hW => ⟨nI (6 * (pp / 6 + d / 3 - 1) + (pp % 6 + d % 3 - 1)), rfl, by show _ = _; rw [stepN_on (by omega) c_3], ht⟩) (fun q h => by cases h) dX9_stepped_76
      · rw [bI_is1] at c_3
        try (replace c_3 := Bool.eq_false_iff.mpr c_3)
        refine lv_iload_n hx hb dX9_stepped_70 rfl (lv_at hl 4 rfl) ?_
        refine lv_goto (tgt := 76) hx hb dX9_stepped_71 (by decide) ?_
        exact W.iret (v := nI pp) hx hb hr (fun t ht hW => ⟨nI pp, rfl, by show _ = _; rw [stepN_isl c_3], ht⟩) (fun q h => by cases h) dX9_stepped_76
    · rw [in_row _ (by omega)] at c_2
      replace c_2 := bI_f c_2
      simp only [decide_eq_true_eq, decide_eq_false_iff_not] at c_2
      refine lv_iload_n hx hb dX9_stepped_48 rfl (lv_at hl 3 rfl) ?_
      exact W.iret (v := nI pp) hx hb hr (fun t ht hW => ⟨nI pp, rfl, by show _ = _; rw [stepN_off (by omega)], ht⟩) (fun q h => by cases h) dX9_stepped_49
set_option maxHeartbeats 4000000 in
set_option maxRecDepth 100000 in
theorem kX9_layFollow (l : Launch) (dC : Nat → ClassId) (dI : Nat → Nat → Nat) (ca : Nat → ClassId) (sz : Nat) (i : Nat) (kd : Nat → Nat) (nc : Nat) (sr : Int32) (ps : Nat) (br : Nat) (st : Int32) (so : Int32) (se : Nat) (hm : Nat → Nat) (kbr : Nat) (kst : Int32) (kso : Int32) (kse : Nat) (mq : Nat → Nat) (ea : Int32) (fe : Int32) (fs : Int32) (sw : Int32) (ks : Int32) (ib : Nat → Bool) (hs : Int64) (hi : i < 4) (hbr : br < 36) (hkd : ∀ j, j < 4 → kd j < 5) (hhm : ∀ j, j < 4 → hm j < 36) : Met l yX9_layFollow (Cond.code yX9_layFollow cX9_layFollow 4 none :: gT) (rk 4) (EFp (dC, dI) [(mq 0, .inr (9, [.ref (mq 1), .int (nI ps), .int ea, .int (nI nc), .int (nI br), .int st, .int so, .int sr, .ref (mq 2), .ref (mq 3), .int fe, .int fs, .ref (mq 4), .int (nI se), .ref (mq 5), .ref (mq 6), .int sw, .int ks, .int (nI kbr), .int kst, .int kso, .int (nI kse), .ref (mq 7), .ref (mq 8), .ref (mq 9), .long hs])), (mq 2, .inl (ca 14, 8, .inl (fun zj => nI (rwN kd hm zj)))), (mq 3, .inl (ca 15, 36, .inl (fun zj => bI (ib zj))))] (TY ca) sz [Value.ref (mq 0), Value.int (nI i)]) (va_Qv (fun (_ : Unit) => True) (EFb (dC, dI) (fun (_ : Unit) => [(mq 0, .inr (9, [.ref (mq 1), .int (nI ps), .int ea, .int (nI nc), .int (nI br), .int st, .int so, .int sr, .ref (mq 2), .ref (mq 3), .int (nI ((trailN ib (kd i) (hm i) 40 br 0).1)), .int (nI ((trailN ib (kd i) (hm i) 40 br 0).2)), .ref (mq 4), .int (nI se), .ref (mq 5), .ref (mq 6), .int sw, .int ks, .int (nI kbr), .int kst, .int kso, .int (nI kse), .ref (mq 7), .ref (mq 8), .ref (mq 9), .long hs])), (mq 2, .inl (ca 14, 8, .inl (fun zj => nI (rwN kd hm zj)))), (mq 3, .inl (ca 15, 36, .inl (fun zj => bI (ib zj))))]) (TY ca) (va_A [(mq 0, .inr (9, [.ref (mq 1), .int (nI ps), .int ea, .int (nI nc), .int (nI br), .int st, .int so, .int sr, .ref (mq 2), .ref (mq 3), .int fe, .int fs, .ref (mq 4), .int (nI se), .ref (mq 5), .ref (mq 6), .int sw, .int ks, .int (nI kbr), .int kst, .int kso, .int (nI kse), .ref (mq 7), .ref (mq 8), .ref (mq 9), .long hs])), (mq 2, .inl (ca 14, 8, .inl (fun zj => nI (rwN kd hm zj)))), (mq 3, .inl (ca 15, 36, .inl (fun zj => bI (ib zj))))] sz)) (va_A [(mq 0, .inr (9, [.ref (mq 1), .int (nI ps), .int ea, .int (nI nc), .int (nI br), .int st, .int so, .int sr, .ref (mq 2), .ref (mq 3), .int fe, .int fs, .ref (mq 4), .int (nI se), .ref (mq 5), .ref (mq 6), .int sw, .int ks, .int (nI kbr), .int kst, .int kso, .int (nI kse), .ref (mq 7), .ref (mq 8), .ref (mq 9), .long hs])), (mq 2, .inl (ca 14, 8, .inl (fun zj => nI (rwN kd hm zj)))), (mq 3, .inl (ca 15, 36, .inl (fun zj => bI (ib zj))))] sz)) 0 0 (va_A [(mq 0, .inr (9, [.ref (mq 1), .int (nI ps), .int ea, .int (nI nc), .int (nI br), .int st, .int so, .int sr, .ref (mq 2), .ref (mq 3), .int fe, .int fs, .ref (mq 4), .int (nI se), .ref (mq 5), .ref (mq 6), .int sw, .int ks, .int (nI kbr), .int kst, .int kso, .int (nI kse), .ref (mq 7), .ref (mq 8), .ref (mq 9), .long hs])), (mq 2, .inl (ca 14, 8, .inl (fun zj => nI (rwN kd hm zj)))), (mq 3, .inl (ca 15, 36, .inl (fun zj => bI (ib zj))))] sz) := by
  refine Met.ofW (cc := cX9_layFollow) (maxL := 4) (ret := none) (by decide) rfl ?_
  intro p e s m args below meth c s₁ B hml hv
  obtain ⟨rfl, hsz, hP, hK, hD0⟩ := hv
  have hx := B.exec
  have hb := B.bytes
  have hr := B.returns
  have hts := atoms_spec (ws := (Cond.code yX9_layFollow cX9_layFollow 4 none :: gT)) B.pre
  have htl : ∀ w ∈ gT, w.before _ s = true := fun w h => hts w (List.mem_cons_of_mem _ h)
  have hown : s.vm.findClass RX9 = some m.cls := findClass_of_methodNamed B.named
  have hlocks := B.notSynchronized
  subst hsz
  have hD := hD0.self (sz := s.heap.size)
  generalize hAe : va_A [(mq 0, .inr (9, [.ref (mq 1), .int (nI ps), .int ea, .int (nI nc), .int (nI br), .int st, .int so, .int sr, .ref (mq 2), .ref (mq 3), .int fe, .int fs, .ref (mq 4), .int (nI se), .ref (mq 5), .ref (mq 6), .int sw, .int ks, .int (nI kbr), .int kst, .int kso, .int (nI kse), .ref (mq 7), .ref (mq 8), .ref (mq 9), .long hs])), (mq 2, .inl (ca 14, 8, .inl (fun zj => nI (rwN kd hm zj)))), (mq 3, .inl (ca 15, 36, .inl (fun zj => bI (ib zj))))] s.heap.size = A at hD ⊢
  have hA : ∀ q : Nat, s.heap.size ≤ q → A q := fun q h => by rw [← hAe]; exact Or.inr h
  have hS : va_S A s.heap s.heap [] := va_S.rf
  have hl := lv_entry ([Value.ref (mq 0), Value.int (nI i)]) (n := 4) (Nat.le_of_ble_eq_true rfl)
  rw [lg_entry_eq]
  generalize (lg_sl ([Value.ref (mq 0), Value.int (nI i)]) ++ List.replicate (4 - (lg_sl ([Value.ref (mq 0), Value.int (nI i)])).length) Slot.unset).toArray = ls at hl ⊢
  have hl : lv_has ls 4 [(0, .ref (mq 0)), (1, .int (nI i))] := hl
  refine lv_aload_n hx hb dX9_layFollow_0 rfl (lv_at hl 0 rfl) ?_
  refine lv_aload_n hx hb dX9_layFollow_1 rfl (lv_at hl 0 rfl) ?_
  refine va_get (D := (dC, dI)) (ci := 9) (v := .int (nI br)) (C := RX9) (T := TX9) (N := 26) hx hb htl iX9 hown hK hP 0 rfl rfl 4 (by decide) (htl _ wd_555) (fun _ h9 => h9) rfl dX9_layFollow_2 ?_
  refine va_put (D := (dC, dI)) (ci := 9) (v := .int (nI br)) (ty := .int) (C := RX9) (T := TX9) (N := 26) hx hb htl iX9 tyX9 tyX9_ok nmX9 hown hK hP hD hS 0 rfl rfl 10 (by decide) (htl _ wd_561) (fun _ h9 => h9) rfl (by decide +kernel) rfl rfl (Nat.le_of_ble_eq_true rfl) dX9_layFollow_5 (fun H locs hP hD hS => ?_)
  have hP : va_P (dC, dI) vwCl [(mq 0, .inr (9, [.ref (mq 1), .int (nI ps), .int ea, .int (nI nc), .int (nI br), .int st, .int so, .int sr, .ref (mq 2), .ref (mq 3), .int (nI br), .int fs, .ref (mq 4), .int (nI se), .ref (mq 5), .ref (mq 6), .int sw, .int ks, .int (nI kbr), .int kst, .int kso, .int (nI kse), .ref (mq 7), .ref (mq 8), .ref (mq 9), .long hs])), (mq 2, .inl (ca 14, 8, .inl (fun zj => nI (rwN kd hm zj)))), (mq 3, .inl (ca 15, 36, .inl (fun zj => bI (ib zj))))] H := hP
  have hD : va_D A [(mq 0, .inr (9, [.ref (mq 1), .int (nI ps), .int ea, .int (nI nc), .int (nI br), .int st, .int so, .int sr, .ref (mq 2), .ref (mq 3), .int (nI br), .int fs, .ref (mq 4), .int (nI se), .ref (mq 5), .ref (mq 6), .int sw, .int ks, .int (nI kbr), .int kst, .int kso, .int (nI kse), .ref (mq 7), .ref (mq 8), .ref (mq 9), .long hs])), (mq 2, .inl (ca 14, 8, .inl (fun zj => nI (rwN kd hm zj)))), (mq 3, .inl (ca 15, 36, .inl (fun zj => bI (ib zj))))] := hD
  refine lv_aload_n hx hb dX9_layFollow_8 rfl (lv_at hl 0 rfl) ?_
  refine lv_iconst (v := nI 0) hx hb dX9_layFollow_9 (by decide) ?_
  refine va_put (D := (dC, dI)) (ci := 9) (v := .int (nI 0)) (ty := .int) (C := RX9) (T := TX9) (N := 26) hx hb htl iX9 tyX9 tyX9_ok nmX9 hown hK hP hD hS 0 rfl rfl 11 (by decide) (htl _ wd_562) (fun _ h9 => h9) rfl (by decide +kernel) rfl rfl (Nat.le_of_ble_eq_true rfl) dX9_layFollow_10 (fun H locs hP hD hS => ?_)
  have hP : va_P (dC, dI) vwCl [(mq 0, .inr (9, [.ref (mq 1), .int (nI ps), .int ea, .int (nI nc), .int (nI br), .int st, .int so, .int sr, .ref (mq 2), .ref (mq 3), .int (nI br), .int (nI 0), .ref (mq 4), .int (nI se), .ref (mq 5), .ref (mq 6), .int sw, .int ks, .int (nI kbr), .int kst, .int kso, .int (nI kse), .ref (mq 7), .ref (mq 8), .ref (mq 9), .long hs])), (mq 2, .inl (ca 14, 8, .inl (fun zj => nI (rwN kd hm zj)))), (mq 3, .inl (ca 15, 36, .inl (fun zj => bI (ib zj))))] H := hP
  have hD : va_D A [(mq 0, .inr (9, [.ref (mq 1), .int (nI ps), .int ea, .int (nI nc), .int (nI br), .int st, .int so, .int sr, .ref (mq 2), .ref (mq 3), .int (nI br), .int (nI 0), .ref (mq 4), .int (nI se), .ref (mq 5), .ref (mq 6), .int sw, .int ks, .int (nI kbr), .int kst, .int kso, .int (nI kse), .ref (mq 7), .ref (mq 8), .ref (mq 9), .long hs])), (mq 2, .inl (ca 14, 8, .inl (fun zj => nI (rwN kd hm zj)))), (mq 3, .inl (ca 15, 36, .inl (fun zj => bI (ib zj))))] := hD
  refine lv_iconst (v := nI 1) hx hb dX9_layFollow_13 (by decide) ?_
  refine lv_istore_n (lv' := [(2, .int (nI 1)), (0, .ref (mq 0)), (1, .int (nI i))]) hx hb dX9_layFollow_14 rfl hl (by decide) rfl (fun ls hl => ?_)
  have lp15 : ∀ (n : Nat) (pP : Nat) (sS : Nat), (sS + n = 40) → (pP < 36) → (trailN ib (kd i) (hm i) n pP sS = trailN ib (kd i) (hm i) 40 br 0) → ∀ (H : Heap) (locs : List Loc), va_P (dC, dI) vwCl [(mq 0, .inr (9, [.ref (mq 1), .int (nI ps), .int ea, .int (nI nc), .int (nI br), .int st, .int so, .int sr, .ref (mq 2), .ref (mq 3), .int (nI pP), .int (nI sS), .ref (mq 4), .int (nI se), .ref (mq 5), .ref (mq 6), .int sw, .int ks, .int (nI kbr), .int kst, .int kso, .int (nI kse), .ref (mq 7), .ref (mq 8), .ref (mq 9), .long hs])), (mq 2, .inl (ca 14, 8, .inl (fun zj => nI (rwN kd hm zj)))), (mq 3, .inl (ca 15, 36, .inl (fun zj => bI (ib zj))))] H → va_D A [(mq 0, .inr (9, [.ref (mq 1), .int (nI ps), .int ea, .int (nI nc), .int (nI br), .int st, .int so, .int sr, .ref (mq 2), .ref (mq 3), .int (nI pP), .int (nI sS), .ref (mq 4), .int (nI se), .ref (mq 5), .ref (mq 6), .int sw, .int ks, .int (nI kbr), .int kst, .int kso, .int (nI kse), .ref (mq 7), .ref (mq 8), .ref (mq 9), .long hs])), (mq 2, .inl (ca 14, 8, .inl (fun zj => nI (rwN kd hm zj)))), (mq 3, .inl (ca 15, 36, .inl (fun zj => bI (ib zj))))] → va_S A s.heap H locs → ∀ (ls : Array Slot), lv_has ls 4 [(2, .int (nI 1)), (0, .ref (mq 0)), (1, .int (nI i))] → W p l e (headSpec (Cond.code yX9_layFollow cX9_layFollow 4 none :: gT) (rk 4)).room s m ([Value.ref (mq 0), Value.int (nI i)] : List Value).toArray below meth c H locs 0 0 (MQ below (va_Qv (fun (_ : Unit) => True) (EFb (dC, dI) (fun (_ : Unit) => [(mq 0, .inr (9, [.ref (mq 1), .int (nI ps), .int ea, .int (nI nc), .int (nI br), .int st, .int so, .int sr, .ref (mq 2), .ref (mq 3), .int (nI ((trailN ib (kd i) (hm i) 40 br 0).1)), .int (nI ((trailN ib (kd i) (hm i) 40 br 0).2)), .ref (mq 4), .int (nI se), .ref (mq 5), .ref (mq 6), .int sw, .int ks, .int (nI kbr), .int kst, .int kso, .int (nI kse), .ref (mq 7), .ref (mq 8), .ref (mq 9), .long hs])), (mq 2, .inl (ca 14, 8, .inl (fun zj => nI (rwN kd hm zj)))), (mq 3, .inl (ca 15, 36, .inl (fun zj => bI (ib zj))))]) (TY ca) A) A) ([Value.ref (mq 0), Value.int (nI i)] : List Value).toArray s 0 0 A) (F0 m 15 ls []) := by
    clear hS hP hD
    clear hl
    intro n
    induction n with
    | zero =>
      intro pP sS hmd hpP hR H locs hP hD hS ls hl
      refine lv_iload_n hx hb dX9_layFollow_15 rfl (lv_at hl 0 rfl) ?_
      refine lv_if_eq (tgt := 86) hx hb dX9_layFollow_16 (by decide) (fun c_1 => ?_) (fun c_1 => ?_)
      · exact absurd c_1 (by decide)
      · refine lv_aload_n hx hb dX9_layFollow_19 rfl (lv_at hl 1 rfl) ?_
        refine va_get (D := (dC, dI)) (ci := 9) (v := .int (nI sS)) (C := RX9) (T := TX9) (N := 26) hx hb htl iX9 hown hK hP 0 rfl rfl 11 (by decide) (htl _ wd_562) (fun _ h9 => h9) rfl dX9_layFollow_20 ?_
        refine lv_bipush (v := nI 40) hx hb dX9_layFollow_23 (by decide) ?_
        refine lv_icmp_ge (tgt := 86) hx hb dX9_layFollow_25 (by decide) (fun c_2 => ?_) (fun c_2 => ?_)
        · have hP9 := hP.sub (ws' := [(mq 0, .inr (9, [.ref (mq 1), .int (nI ps), .int ea, .int (nI nc), .int (nI br), .int st, .int so, .int sr, .ref (mq 2), .ref (mq 3), .int (nI pP), .int (nI sS), .ref (mq 4), .int (nI se), .ref (mq 5), .ref (mq 6), .int sw, .int ks, .int (nI kbr), .int kst, .int kso, .int (nI kse), .ref (mq 7), .ref (mq 8), .ref (mq 9), .long hs])), (mq 2, .inl (ca 14, 8, .inl (fun zj => nI (rwN kd hm zj)))), (mq 3, .inl (ca 15, 36, .inl (fun zj => bI (ib zj))))]) [0, 1, 2] rfl
          have hD9 := hD.sub (ws' := [(mq 0, .inr (9, [.ref (mq 1), .int (nI ps), .int ea, .int (nI nc), .int (nI br), .int st, .int so, .int sr, .ref (mq 2), .ref (mq 3), .int (nI pP), .int (nI sS), .ref (mq 4), .int (nI se), .ref (mq 5), .ref (mq 6), .int sw, .int ks, .int (nI kbr), .int kst, .int kso, .int (nI kse), .ref (mq 7), .ref (mq 8), .ref (mq 9), .long hs])), (mq 2, .inl (ca 14, 8, .inl (fun zj => nI (rwN kd hm zj)))), (mq 3, .inl (ca 15, 36, .inl (fun zj => bI (ib zj))))]) [0, 1, 2] (by decide) rfl
          exact W.vret hx hb hr (fun t ht hW => ⟨⟨(), rfl, trivial, by rw [ht]; rw [← hR]; exact hP9, va_K.moved hW.alike hK, (by rw [← hR]; exact hD9)⟩, hS.F ht⟩) hS.2.2 dX9_layFollow_86
        · exact absurd (nI_le (by omega) (by omega)) c_2
    | succ n ih15 =>
      intro pP sS hmd hpP hR H locs hP hD hS ls hl
      refine lv_iload_n hx hb dX9_layFollow_15 rfl (lv_at hl 0 rfl) ?_
      refine lv_if_eq (tgt := 86) hx hb dX9_layFollow_16 (by decide) (fun c_3 => ?_) (fun c_3 => ?_)
      · exact absurd c_3 (by decide)
      · refine lv_aload_n hx hb dX9_layFollow_19 rfl (lv_at hl 1 rfl) ?_
        refine va_get (D := (dC, dI)) (ci := 9) (v := .int (nI sS)) (C := RX9) (T := TX9) (N := 26) hx hb htl iX9 hown hK hP 0 rfl rfl 11 (by decide) (htl _ wd_562) (fun _ h9 => h9) rfl dX9_layFollow_20 ?_
        refine lv_bipush (v := nI 40) hx hb dX9_layFollow_23 (by decide) ?_
        refine lv_icmp_ge (tgt := 86) hx hb dX9_layFollow_25 (by decide) (fun c_4 => ?_) (fun c_4 => ?_)
        · exact absurd c_4 (nI_ge (by omega) (by omega))
        · refine lv_aload_n hx hb dX9_layFollow_28 rfl (lv_at hl 1 rfl) ?_
          refine lv_aload_n hx hb dX9_layFollow_29 rfl (lv_at hl 1 rfl) ?_
          refine va_get (D := (dC, dI)) (ci := 9) (v := .int (nI pP)) (C := RX9) (T := TX9) (N := 26) hx hb htl iX9 hown hK hP 0 rfl rfl 10 (by decide) (htl _ wd_561) (fun _ h9 => h9) rfl dX9_layFollow_30 ?_
          refine lv_aload_n hx hb dX9_layFollow_33 rfl (lv_at hl 1 rfl) ?_
          refine lv_iload_n hx hb dX9_layFollow_34 rfl (lv_at hl 2 rfl) ?_
          refine lv_aload_n hx hb dX9_layFollow_35 rfl (lv_at hl 1 rfl) ?_
          refine va_get (D := (dC, dI)) (ci := 9) (v := .int (nI pP)) (C := RX9) (T := TX9) (N := 26) hx hb htl iX9 hown hK hP 0 rfl rfl 10 (by decide) (htl _ wd_561) (fun _ h9 => h9) rfl dX9_layFollow_36 ?_
          refine roV (As := [Value.int (nI i), Value.int (nI pP)]) (rest := [.int (nI pP), .ref (mq 0)]) (kX9_pointsOf l dC dI ca i pP kd nc sr ps br st so se hm kbr kst kso kse mq ea (nI pP) (nI sS) sw ks hs hi hpP hkd hhm) ⟨hx, hb, hml, hown, htl⟩ (cVg (C := RX9) 2 htl wd_682 wd_684 wp_20 wd_6 wd_685 rfl rfl (by decide +kernel) ⟨Nat.le_of_ble_eq_true rfl, Nat.le_of_ble_eq_true rfl⟩) (hP.sub [0, 1] rfl) hK (va_recv hK hP (ci := 9) (q0 := 0) rfl rfl) rfl hl.1 rfl (Nat.le_of_ble_eq_true rfl) dX9_layFollow_39 ⟨Nat.zero_le _, Nat.zero_le _⟩ (fun r hr9 => ?_)
          subst hr9
          refine roV (As := [Value.int (nI pP), Value.int (nI (pointN (kd i) (hm i) pP))]) (rest := []) (kX9_stepped l dC dI ca pP (pointN (kd i) (hm i) pP) nc sr ps br st so se kbr kst kso kse mq ea (nI pP) (nI sS) sw ks ib hs hpP (pointN_lt _ _ _)) ⟨hx, hb, hml, hown, htl⟩ (cVg (C := RX9) 2 htl wd_703 wd_705 wp_23 wd_6 wd_706 rfl rfl (by decide +kernel) ⟨Nat.le_of_ble_eq_true rfl, Nat.le_of_ble_eq_true rfl⟩) (hP.sub [0, 2] rfl) hK (va_recv hK hP (ci := 9) (q0 := 0) rfl rfl) rfl hl.1 rfl (Nat.le_of_ble_eq_true rfl) dX9_layFollow_42 ⟨Nat.zero_le _, Nat.zero_le _⟩ (fun r hr9 => ?_)
          subst hr9
          refine lv_istore_n (lv' := [(3, .int (nI (stepN ib pP (pointN (kd i) (hm i) pP)))), (2, .int (nI 1)), (0, .ref (mq 0)), (1, .int (nI i))]) hx hb dX9_layFollow_45 rfl hl (by decide) rfl (fun ls hl => ?_)
          refine lv_iload_n hx hb dX9_layFollow_46 rfl (lv_at hl 0 rfl) ?_
          refine lv_aload_n hx hb dX9_layFollow_47 rfl (lv_at hl 2 rfl) ?_
          refine va_get (D := (dC, dI)) (ci := 9) (v := .int (nI pP)) (C := RX9) (T := TX9) (N := 26) hx hb htl iX9 hown hK hP 0 rfl rfl 10 (by decide) (htl _ wd_561) (fun _ h9 => h9) rfl dX9_layFollow_48 ?_
          refine lv_icmp_eq (tgt := 58) hx hb dX9_layFollow_51 (by decide) (fun c_5 => ?_) (fun c_5 => ?_)
          · rw [nI_eq (Nat.lt_trans (stepN_lt hpP) (by decide)) (by omega)] at c_5
            refine lv_iconst (v := nI 0) hx hb dX9_layFollow_58 (by decide) ?_
            refine lv_istore_n (lv' := [(2, .int (nI 0)), (3, .int (nI (stepN ib pP (pointN (kd i) (hm i) pP)))), (0, .ref (mq 0)), (1, .int (nI i))]) hx hb dX9_layFollow_59 rfl hl (by decide) rfl (fun ls hl => ?_)
            refine lv_aload_n hx hb dX9_layFollow_60 rfl (lv_at hl 2 rfl) ?_
            refine lv_dup hx hb dX9_layFollow_61 rfl ?_
            refine va_get (D := (dC, dI)) (ci := 9) (v := .int (nI sS)) (C := RX9) (T := TX9) (N := 26) hx hb htl iX9 hown hK hP 0 rfl rfl 11 (by decide) (htl _ wd_562) (fun _ h9 => h9) rfl dX9_layFollow_62 ?_
            refine lv_iload_n hx hb dX9_layFollow_65 rfl (lv_at hl 0 rfl) ?_
            refine lv_if_eq (tgt := 73) hx hb dX9_layFollow_66 (by decide) (fun c_6 => ?_) (fun c_6 => ?_)
            · refine lv_iconst (v := nI 0) hx hb dX9_layFollow_73 (by decide) ?_
              refine lv_iadd hx hb dX9_layFollow_74 ?_
              refine lv_ri (y := nI (sS + 0)) (nI_add sS 0) ?_
              refine va_put (D := (dC, dI)) (ci := 9) (v := .int (nI (sS + 0))) (ty := .int) (C := RX9) (T := TX9) (N := 26) hx hb htl iX9 tyX9 tyX9_ok nmX9 hown hK hP hD hS 0 rfl rfl 11 (by decide) (htl _ wd_562) (fun _ h9 => h9) rfl (by decide +kernel) rfl rfl (Nat.le_of_ble_eq_true rfl) dX9_layFollow_75 (fun H locs hP hD hS => ?_)
              have hP : va_P (dC, dI) vwCl [(mq 0, .inr (9, [.ref (mq 1), .int (nI ps), .int ea, .int (nI nc), .int (nI br), .int st, .int so, .int sr, .ref (mq 2), .ref (mq 3), .int (nI pP), .int (nI (sS + 0)), .ref (mq 4), .int (nI se), .ref (mq 5), .ref (mq 6), .int sw, .int ks, .int (nI kbr), .int kst, .int kso, .int (nI kse), .ref (mq 7), .ref (mq 8), .ref (mq 9), .long hs])), (mq 2, .inl (ca 14, 8, .inl (fun zj => nI (rwN kd hm zj)))), (mq 3, .inl (ca 15, 36, .inl (fun zj => bI (ib zj))))] H := hP
              have hD : va_D A [(mq 0, .inr (9, [.ref (mq 1), .int (nI ps), .int ea, .int (nI nc), .int (nI br), .int st, .int so, .int sr, .ref (mq 2), .ref (mq 3), .int (nI pP), .int (nI (sS + 0)), .ref (mq 4), .int (nI se), .ref (mq 5), .ref (mq 6), .int sw, .int ks, .int (nI kbr), .int kst, .int kso, .int (nI kse), .ref (mq 7), .ref (mq 8), .ref (mq 9), .long hs])), (mq 2, .inl (ca 14, 8, .inl (fun zj => nI (rwN kd hm zj)))), (mq 3, .inl (ca 15, 36, .inl (fun zj => bI (ib zj))))] := hD
              refine lv_aload_n hx hb dX9_layFollow_78 rfl (lv_at hl 2 rfl) ?_
              refine lv_iload_n hx hb dX9_layFollow_79 rfl (lv_at hl 1 rfl) ?_
              refine va_put (D := (dC, dI)) (ci := 9) (v := .int (nI (stepN ib pP (pointN (kd i) (hm i) pP)))) (ty := .int) (C := RX9) (T := TX9) (N := 26) hx hb htl iX9 tyX9 tyX9_ok nmX9 hown hK hP hD hS 0 rfl rfl 10 (by decide) (htl _ wd_561) (fun _ h9 => h9) rfl (by decide +kernel) rfl rfl (Nat.le_of_ble_eq_true rfl) dX9_layFollow_80 (fun H locs hP hD hS => ?_)
              have hP : va_P (dC, dI) vwCl [(mq 0, .inr (9, [.ref (mq 1), .int (nI ps), .int ea, .int (nI nc), .int (nI br), .int st, .int so, .int sr, .ref (mq 2), .ref (mq 3), .int (nI (stepN ib pP (pointN (kd i) (hm i) pP))), .int (nI (sS + 0)), .ref (mq 4), .int (nI se), .ref (mq 5), .ref (mq 6), .int sw, .int ks, .int (nI kbr), .int kst, .int kso, .int (nI kse), .ref (mq 7), .ref (mq 8), .ref (mq 9), .long hs])), (mq 2, .inl (ca 14, 8, .inl (fun zj => nI (rwN kd hm zj)))), (mq 3, .inl (ca 15, 36, .inl (fun zj => bI (ib zj))))] H := hP
              have hD : va_D A [(mq 0, .inr (9, [.ref (mq 1), .int (nI ps), .int ea, .int (nI nc), .int (nI br), .int st, .int so, .int sr, .ref (mq 2), .ref (mq 3), .int (nI (stepN ib pP (pointN (kd i) (hm i) pP))), .int (nI (sS + 0)), .ref (mq 4), .int (nI se), .ref (mq 5), .ref (mq 6), .int sw, .int ks, .int (nI kbr), .int kst, .int kso, .int (nI kse), .ref (mq 7), .ref (mq 8), .ref (mq 9), .long hs])), (mq 2, .inl (ca 14, 8, .inl (fun zj => nI (rwN kd hm zj)))), (mq 3, .inl (ca 15, 36, .inl (fun zj => bI (ib zj))))] := hD
              refine lv_goto (tgt := 15) hx hb dX9_layFollow_83 (by decide) ?_
              refine lv_iload_n hx hb dX9_layFollow_15 rfl (lv_at hl 0 rfl) ?_
              refine lv_if_eq (tgt := 86) hx hb dX9_layFollow_16 (by decide) (fun c_7 => ?_) (fun c_7 => ?_)
              · have hP9 := hP.sub (ws' := [(mq 0, .inr (9, [.ref (mq 1), .int (nI ps), .int ea, .int (nI nc), .int (nI br), .int st, .int so, .int sr, .ref (mq 2), .ref (mq 3), .int (nI (stepN ib pP (pointN (kd i) (hm i) pP))), .int (nI (sS + 0)), .ref (mq 4), .int (nI se), .ref (mq 5), .ref (mq 6), .int sw, .int ks, .int (nI kbr), .int kst, .int kso, .int (nI kse), .ref (mq 7), .ref (mq 8), .ref (mq 9), .long hs])), (mq 2, .inl (ca 14, 8, .inl (fun zj => nI (rwN kd hm zj)))), (mq 3, .inl (ca 15, 36, .inl (fun zj => bI (ib zj))))]) [0, 1, 2] rfl
                have hD9 := hD.sub (ws' := [(mq 0, .inr (9, [.ref (mq 1), .int (nI ps), .int ea, .int (nI nc), .int (nI br), .int st, .int so, .int sr, .ref (mq 2), .ref (mq 3), .int (nI (stepN ib pP (pointN (kd i) (hm i) pP))), .int (nI (sS + 0)), .ref (mq 4), .int (nI se), .ref (mq 5), .ref (mq 6), .int sw, .int ks, .int (nI kbr), .int kst, .int kso, .int (nI kse), .ref (mq 7), .ref (mq 8), .ref (mq 9), .long hs])), (mq 2, .inl (ca 14, 8, .inl (fun zj => nI (rwN kd hm zj)))), (mq 3, .inl (ca 15, 36, .inl (fun zj => bI (ib zj))))]) [0, 1, 2] (by decide) rfl
                have hR9 : (stepN ib pP (pointN (kd i) (hm i) pP), sS + 0) = trailN ib (kd i) (hm i) 40 br 0 := by rw [← hR]; simp only [trailN, c_5, ↓reduceIte, Nat.add_zero]
                exact W.vret hx hb hr (fun t ht hW => ⟨⟨(), rfl, trivial, by rw [ht]; rw [← hR9]; exact hP9, va_K.moved hW.alike hK, (by rw [← hR9]; exact hD9)⟩, hS.F ht⟩) hS.2.2 dX9_layFollow_86
              · exact absurd c_6 c_7
            · exact absurd c_6 (by decide)
          · rw [nI_eq (Nat.lt_trans (stepN_lt hpP) (by decide)) (by omega)] at c_5
            refine lv_iconst (v := nI 1) hx hb dX9_layFollow_54 (by decide) ?_
            refine lv_goto (tgt := 59) hx hb dX9_layFollow_55 (by decide) ?_
            refine lv_istore_n (lv' := [(2, .int (nI 1)), (3, .int (nI (stepN ib pP (pointN (kd i) (hm i) pP)))), (0, .ref (mq 0)), (1, .int (nI i))]) hx hb dX9_layFollow_59 rfl hl (by decide) rfl (fun ls hl => ?_)
            refine lv_aload_n hx hb dX9_layFollow_60 rfl (lv_at hl 2 rfl) ?_
            refine lv_dup hx hb dX9_layFollow_61 rfl ?_
            refine va_get (D := (dC, dI)) (ci := 9) (v := .int (nI sS)) (C := RX9) (T := TX9) (N := 26) hx hb htl iX9 hown hK hP 0 rfl rfl 11 (by decide) (htl _ wd_562) (fun _ h9 => h9) rfl dX9_layFollow_62 ?_
            refine lv_iload_n hx hb dX9_layFollow_65 rfl (lv_at hl 0 rfl) ?_
            refine lv_if_eq (tgt := 73) hx hb dX9_layFollow_66 (by decide) (fun c_8 => ?_) (fun c_8 => ?_)
            · exact absurd c_8 c_3
            · refine lv_iconst (v := nI 1) hx hb dX9_layFollow_69 (by decide) ?_
              refine lv_goto (tgt := 74) hx hb dX9_layFollow_70 (by decide) ?_
              refine lv_iadd hx hb dX9_layFollow_74 ?_
              refine lv_ri (y := nI (sS + 1)) (nI_add sS 1) ?_
              refine va_put (D := (dC, dI)) (ci := 9) (v := .int (nI (sS + 1))) (ty := .int) (C := RX9) (T := TX9) (N := 26) hx hb htl iX9 tyX9 tyX9_ok nmX9 hown hK hP hD hS 0 rfl rfl 11 (by decide) (htl _ wd_562) (fun _ h9 => h9) rfl (by decide +kernel) rfl rfl (Nat.le_of_ble_eq_true rfl) dX9_layFollow_75 (fun H locs hP hD hS => ?_)
              have hP : va_P (dC, dI) vwCl [(mq 0, .inr (9, [.ref (mq 1), .int (nI ps), .int ea, .int (nI nc), .int (nI br), .int st, .int so, .int sr, .ref (mq 2), .ref (mq 3), .int (nI pP), .int (nI (sS + 1)), .ref (mq 4), .int (nI se), .ref (mq 5), .ref (mq 6), .int sw, .int ks, .int (nI kbr), .int kst, .int kso, .int (nI kse), .ref (mq 7), .ref (mq 8), .ref (mq 9), .long hs])), (mq 2, .inl (ca 14, 8, .inl (fun zj => nI (rwN kd hm zj)))), (mq 3, .inl (ca 15, 36, .inl (fun zj => bI (ib zj))))] H := hP
              have hD : va_D A [(mq 0, .inr (9, [.ref (mq 1), .int (nI ps), .int ea, .int (nI nc), .int (nI br), .int st, .int so, .int sr, .ref (mq 2), .ref (mq 3), .int (nI pP), .int (nI (sS + 1)), .ref (mq 4), .int (nI se), .ref (mq 5), .ref (mq 6), .int sw, .int ks, .int (nI kbr), .int kst, .int kso, .int (nI kse), .ref (mq 7), .ref (mq 8), .ref (mq 9), .long hs])), (mq 2, .inl (ca 14, 8, .inl (fun zj => nI (rwN kd hm zj)))), (mq 3, .inl (ca 15, 36, .inl (fun zj => bI (ib zj))))] := hD
              refine lv_aload_n hx hb dX9_layFollow_78 rfl (lv_at hl 2 rfl) ?_
              refine lv_iload_n hx hb dX9_layFollow_79 rfl (lv_at hl 1 rfl) ?_
              refine va_put (D := (dC, dI)) (ci := 9) (v := .int (nI (stepN ib pP (pointN (kd i) (hm i) pP)))) (ty := .int) (C := RX9) (T := TX9) (N := 26) hx hb htl iX9 tyX9 tyX9_ok nmX9 hown hK hP hD hS 0 rfl rfl 10 (by decide) (htl _ wd_561) (fun _ h9 => h9) rfl (by decide +kernel) rfl rfl (Nat.le_of_ble_eq_true rfl) dX9_layFollow_80 (fun H locs hP hD hS => ?_)
              have hP : va_P (dC, dI) vwCl [(mq 0, .inr (9, [.ref (mq 1), .int (nI ps), .int ea, .int (nI nc), .int (nI br), .int st, .int so, .int sr, .ref (mq 2), .ref (mq 3), .int (nI (stepN ib pP (pointN (kd i) (hm i) pP))), .int (nI (sS + 1)), .ref (mq 4), .int (nI se), .ref (mq 5), .ref (mq 6), .int sw, .int ks, .int (nI kbr), .int kst, .int kso, .int (nI kse), .ref (mq 7), .ref (mq 8), .ref (mq 9), .long hs])), (mq 2, .inl (ca 14, 8, .inl (fun zj => nI (rwN kd hm zj)))), (mq 3, .inl (ca 15, 36, .inl (fun zj => bI (ib zj))))] H := hP
              have hD : va_D A [(mq 0, .inr (9, [.ref (mq 1), .int (nI ps), .int ea, .int (nI nc), .int (nI br), .int st, .int so, .int sr, .ref (mq 2), .ref (mq 3), .int (nI (stepN ib pP (pointN (kd i) (hm i) pP))), .int (nI (sS + 1)), .ref (mq 4), .int (nI se), .ref (mq 5), .ref (mq 6), .int sw, .int ks, .int (nI kbr), .int kst, .int kso, .int (nI kse), .ref (mq 7), .ref (mq 8), .ref (mq 9), .long hs])), (mq 2, .inl (ca 14, 8, .inl (fun zj => nI (rwN kd hm zj)))), (mq 3, .inl (ca 15, 36, .inl (fun zj => bI (ib zj))))] := hD
              refine lv_goto (tgt := 15) hx hb dX9_layFollow_83 (by decide) ?_
              exact ih15 (stepN ib pP (pointN (kd i) (hm i) pP)) (sS + 1) (by omega) (stepN_lt hpP) (by rw [← hR]; simp only [trailN, c_5, ↓reduceIte]) _ _ (hP.sub [0, 1, 2] rfl) (hD.sub [0, 1, 2] (by decide) rfl) hS ls (lv_sub hl [0, 2, 3] rfl)
  exact lp15 40 br 0 (by omega) hbr rfl _ _ hP hD hS ls (lv_sub hl [0, 1, 2] rfl)
set_option maxHeartbeats 4000000 in
set_option maxRecDepth 100000 in
theorem kX9_followOf (l : Launch) (dC : Nat → ClassId) (dI : Nat → Nat → Nat) (ca : Nat → ClassId) (sz : Nat) (i : Nat) (x2 : Int32) (kd : Nat → Nat) (nc : Nat) (sr : Int32) (ps : Nat) (br : Nat) (st : Int32) (so : Int32) (se : Nat) (hm : Nat → Nat) (kbr : Nat) (kst : Int32) (kso : Int32) (kse : Nat) (mq : Nat → Nat) (ea : Int32) (fe : Int32) (fs : Int32) (sw : Int32) (ks : Int32) (ib : Nat → Bool) (hs : Int64) (hi : i < 4) (hbr : br < 36) (hkd : ∀ j, j < 4 → kd j < 5) (hhm : ∀ j, j < 4 → hm j < 36) : Met l yX9_followOf (Cond.code yX9_followOf cX9_followOf 3 (some .int) :: gT) (rk 5) (EFp (dC, dI) [(mq 0, .inr (9, [.ref (mq 1), .int (nI ps), .int ea, .int (nI nc), .int (nI br), .int st, .int so, .int sr, .ref (mq 2), .ref (mq 3), .int fe, .int fs, .ref (mq 4), .int (nI se), .ref (mq 5), .ref (mq 6), .int sw, .int ks, .int (nI kbr), .int kst, .int kso, .int (nI kse), .ref (mq 7), .ref (mq 8), .ref (mq 9), .long hs])), (mq 2, .inl (ca 14, 8, .inl (fun zj => nI (rwN kd hm zj)))), (mq 3, .inl (ca 15, 36, .inl (fun zj => bI (ib zj))))] (TY ca) sz [Value.ref (mq 0), Value.int (nI i), Value.int x2]) (va_Qi (fun (r : Int32) (_ : Unit) => r = if x2 = nI 3 then nI (trailN ib (kd i) (hm i) 40 br 0).2 else nI (trailN ib (kd i) (hm i) 40 br 0).1) (EFb (dC, dI) (fun (_ : Unit) => [(mq 0, .inr (9, [.ref (mq 1), .int (nI ps), .int ea, .int (nI nc), .int (nI br), .int st, .int so, .int sr, .ref (mq 2), .ref (mq 3), .int (nI ((trailN ib (kd i) (hm i) 40 br 0).1)), .int (nI ((trailN ib (kd i) (hm i) 40 br 0).2)), .ref (mq 4), .int (nI se), .ref (mq 5), .ref (mq 6), .int sw, .int ks, .int (nI kbr), .int kst, .int kso, .int (nI kse), .ref (mq 7), .ref (mq 8), .ref (mq 9), .long hs])), (mq 2, .inl (ca 14, 8, .inl (fun zj => nI (rwN kd hm zj)))), (mq 3, .inl (ca 15, 36, .inl (fun zj => bI (ib zj))))]) (TY ca) (va_A [(mq 0, .inr (9, [.ref (mq 1), .int (nI ps), .int ea, .int (nI nc), .int (nI br), .int st, .int so, .int sr, .ref (mq 2), .ref (mq 3), .int fe, .int fs, .ref (mq 4), .int (nI se), .ref (mq 5), .ref (mq 6), .int sw, .int ks, .int (nI kbr), .int kst, .int kso, .int (nI kse), .ref (mq 7), .ref (mq 8), .ref (mq 9), .long hs])), (mq 2, .inl (ca 14, 8, .inl (fun zj => nI (rwN kd hm zj)))), (mq 3, .inl (ca 15, 36, .inl (fun zj => bI (ib zj))))] sz)) (va_A [(mq 0, .inr (9, [.ref (mq 1), .int (nI ps), .int ea, .int (nI nc), .int (nI br), .int st, .int so, .int sr, .ref (mq 2), .ref (mq 3), .int fe, .int fs, .ref (mq 4), .int (nI se), .ref (mq 5), .ref (mq 6), .int sw, .int ks, .int (nI kbr), .int kst, .int kso, .int (nI kse), .ref (mq 7), .ref (mq 8), .ref (mq 9), .long hs])), (mq 2, .inl (ca 14, 8, .inl (fun zj => nI (rwN kd hm zj)))), (mq 3, .inl (ca 15, 36, .inl (fun zj => bI (ib zj))))] sz)) 0 0 (va_A [(mq 0, .inr (9, [.ref (mq 1), .int (nI ps), .int ea, .int (nI nc), .int (nI br), .int st, .int so, .int sr, .ref (mq 2), .ref (mq 3), .int fe, .int fs, .ref (mq 4), .int (nI se), .ref (mq 5), .ref (mq 6), .int sw, .int ks, .int (nI kbr), .int kst, .int kso, .int (nI kse), .ref (mq 7), .ref (mq 8), .ref (mq 9), .long hs])), (mq 2, .inl (ca 14, 8, .inl (fun zj => nI (rwN kd hm zj)))), (mq 3, .inl (ca 15, 36, .inl (fun zj => bI (ib zj))))] sz) := by
  refine Met.ofW (cc := cX9_followOf) (maxL := 3) (ret := (some .int)) (by decide) rfl ?_
  intro p e s m args below meth c s₁ B hml hv
  obtain ⟨rfl, hsz, hP, hK, hD0⟩ := hv
  have hx := B.exec
  have hb := B.bytes
  have hr := B.returns
  have hts := atoms_spec (ws := (Cond.code yX9_followOf cX9_followOf 3 (some .int) :: gT)) B.pre
  have htl : ∀ w ∈ gT, w.before _ s = true := fun w h => hts w (List.mem_cons_of_mem _ h)
  have hown : s.vm.findClass RX9 = some m.cls := findClass_of_methodNamed B.named
  have hlocks := B.notSynchronized
  subst hsz
  have hD := hD0.self (sz := s.heap.size)
  generalize hAe : va_A [(mq 0, .inr (9, [.ref (mq 1), .int (nI ps), .int ea, .int (nI nc), .int (nI br), .int st, .int so, .int sr, .ref (mq 2), .ref (mq 3), .int fe, .int fs, .ref (mq 4), .int (nI se), .ref (mq 5), .ref (mq 6), .int sw, .int ks, .int (nI kbr), .int kst, .int kso, .int (nI kse), .ref (mq 7), .ref (mq 8), .ref (mq 9), .long hs])), (mq 2, .inl (ca 14, 8, .inl (fun zj => nI (rwN kd hm zj)))), (mq 3, .inl (ca 15, 36, .inl (fun zj => bI (ib zj))))] s.heap.size = A at hD ⊢
  have hA : ∀ q : Nat, s.heap.size ≤ q → A q := fun q h => by rw [← hAe]; exact Or.inr h
  have hS : va_S A s.heap s.heap [] := va_S.rf
  have hl := lv_entry ([Value.ref (mq 0), Value.int (nI i), Value.int x2]) (n := 3) (Nat.le_of_ble_eq_true rfl)
  rw [lg_entry_eq]
  generalize (lg_sl ([Value.ref (mq 0), Value.int (nI i), Value.int x2]) ++ List.replicate (3 - (lg_sl ([Value.ref (mq 0), Value.int (nI i), Value.int x2])).length) Slot.unset).toArray = ls at hl ⊢
  have hl : lv_has ls 3 [(0, .ref (mq 0)), (1, .int (nI i)), (2, .int x2)] := hl
  refine lv_aload_n hx hb dX9_followOf_0 rfl (lv_at hl 0 rfl) ?_
  refine lv_iload_n hx hb dX9_followOf_1 rfl (lv_at hl 1 rfl) ?_
  refine efVv (As := [Value.int (nI i)]) (rest := []) (wr := []) (kX9_layFollow l dC dI ca _ i kd nc sr ps br st so se hm kbr kst kso kse mq ea fe fs sw ks ib hs hi hbr hkd hhm) ⟨hx, hb, hml, hown, htl⟩ (cVg (C := RX9) 1 htl wd_699 wd_701 wp_22 wd_6 wd_702 rfl rfl (by decide +kernel) ⟨Nat.le_of_ble_eq_true rfl, Nat.le_of_ble_eq_true rfl⟩) hP hD hS hA hK [0, 1, 2] [] rfl rfl (by decide) (by decide) (by decide) (va_recv hK hP (ci := 9) (q0 := 0) rfl rfl) rfl hl.1 rfl (Nat.le_of_ble_eq_true rfl) dX9_followOf_2 ⟨Nat.zero_le _, Nat.zero_le _⟩ (fun u H locs hw_2 hP hD hS => ?_)
  have hP : va_P (dC, dI) vwCl [(mq 0, .inr (9, [.ref (mq 1), .int (nI ps), .int ea, .int (nI nc), .int (nI br), .int st, .int so, .int sr, .ref (mq 2), .ref (mq 3), .int (nI ((trailN ib (kd i) (hm i) 40 br 0).1)), .int (nI ((trailN ib (kd i) (hm i) 40 br 0).2)), .ref (mq 4), .int (nI se), .ref (mq 5), .ref (mq 6), .int sw, .int ks, .int (nI kbr), .int kst, .int kso, .int (nI kse), .ref (mq 7), .ref (mq 8), .ref (mq 9), .long hs])), (mq 2, .inl (ca 14, 8, .inl (fun zj => nI (rwN kd hm zj)))), (mq 3, .inl (ca 15, 36, .inl (fun zj => bI (ib zj))))] H := hP
  have hD : va_D A [(mq 0, .inr (9, [.ref (mq 1), .int (nI ps), .int ea, .int (nI nc), .int (nI br), .int st, .int so, .int sr, .ref (mq 2), .ref (mq 3), .int (nI ((trailN ib (kd i) (hm i) 40 br 0).1)), .int (nI ((trailN ib (kd i) (hm i) 40 br 0).2)), .ref (mq 4), .int (nI se), .ref (mq 5), .ref (mq 6), .int sw, .int ks, .int (nI kbr), .int kst, .int kso, .int (nI kse), .ref (mq 7), .ref (mq 8), .ref (mq 9), .long hs])), (mq 2, .inl (ca 14, 8, .inl (fun zj => nI (rwN kd hm zj)))), (mq 3, .inl (ca 15, 36, .inl (fun zj => bI (ib zj))))] := hD
  refine lv_iload_n hx hb dX9_followOf_5 rfl (lv_at hl 2 rfl) ?_
  refine lv_iconst (v := nI 3) hx hb dX9_followOf_6 (by decide) ?_
  refine lv_icmp_ne (tgt := 17) hx hb dX9_followOf_7 (by decide) (fun c_2 => ?_) (fun c_2 => ?_)
  · refine lv_aload_n hx hb dX9_followOf_17 rfl (lv_at hl 0 rfl) ?_
    refine va_get (D := (dC, dI)) (ci := 9) (v := .int (nI ((trailN ib (kd i) (hm i) 40 br 0).1))) (C := RX9) (T := TX9) (N := 26) hx hb htl iX9 hown hK hP 0 rfl rfl 10 (by decide) (htl _ wd_561) (fun _ h9 => h9) rfl dX9_followOf_18 ?_
    have hP9 := hP.sub (ws' := [(mq 0, .inr (9, [.ref (mq 1), .int (nI ps), .int ea, .int (nI nc), .int (nI br), .int st, .int so, .int sr, .ref (mq 2), .ref (mq 3), .int (nI ((trailN ib (kd i) (hm i) 40 br 0).1)), .int (nI ((trailN ib (kd i) (hm i) 40 br 0).2)), .ref (mq 4), .int (nI se), .ref (mq 5), .ref (mq 6), .int sw, .int ks, .int (nI kbr), .int kst, .int kso, .int (nI kse), .ref (mq 7), .ref (mq 8), .ref (mq 9), .long hs])), (mq 2, .inl (ca 14, 8, .inl (fun zj => nI (rwN kd hm zj)))), (mq 3, .inl (ca 15, 36, .inl (fun zj => bI (ib zj))))]) [0, 1, 2] rfl
    have hD9 := hD.sub (ws' := [(mq 0, .inr (9, [.ref (mq 1), .int (nI ps), .int ea, .int (nI nc), .int (nI br), .int st, .int so, .int sr, .ref (mq 2), .ref (mq 3), .int (nI ((trailN ib (kd i) (hm i) 40 br 0).1)), .int (nI ((trailN ib (kd i) (hm i) 40 br 0).2)), .ref (mq 4), .int (nI se), .ref (mq 5), .ref (mq 6), .int sw, .int ks, .int (nI kbr), .int kst, .int kso, .int (nI kse), .ref (mq 7), .ref (mq 8), .ref (mq 9), .long hs])), (mq 2, .inl (ca 14, 8, .inl (fun zj => nI (rwN kd hm zj)))), (mq 3, .inl (ca 15, 36, .inl (fun zj => bI (ib zj))))]) [0, 1, 2] (by decide) rfl
    exact W.iret (v := nI ((trailN ib (kd i) (hm i) 40 br 0).1)) hx hb hr (fun t ht hW => ⟨⟨nI ((trailN ib (kd i) (hm i) 40 br 0).1), (), rfl, by show _ = _; rw [if_neg c_2], by rw [ht]; exact hP9, va_K.moved hW.alike hK, hD9⟩, hS.F ht⟩) hS.2.2 dX9_followOf_21
  · refine lv_aload_n hx hb dX9_followOf_10 rfl (lv_at hl 0 rfl) ?_
    refine va_get (D := (dC, dI)) (ci := 9) (v := .int (nI ((trailN ib (kd i) (hm i) 40 br 0).2))) (C := RX9) (T := TX9) (N := 26) hx hb htl iX9 hown hK hP 0 rfl rfl 11 (by decide) (htl _ wd_562) (fun _ h9 => h9) rfl dX9_followOf_11 ?_
    refine lv_goto (tgt := 21) hx hb dX9_followOf_14 (by decide) ?_
    have hP9 := hP.sub (ws' := [(mq 0, .inr (9, [.ref (mq 1), .int (nI ps), .int ea, .int (nI nc), .int (nI br), .int st, .int so, .int sr, .ref (mq 2), .ref (mq 3), .int (nI ((trailN ib (kd i) (hm i) 40 br 0).1)), .int (nI ((trailN ib (kd i) (hm i) 40 br 0).2)), .ref (mq 4), .int (nI se), .ref (mq 5), .ref (mq 6), .int sw, .int ks, .int (nI kbr), .int kst, .int kso, .int (nI kse), .ref (mq 7), .ref (mq 8), .ref (mq 9), .long hs])), (mq 2, .inl (ca 14, 8, .inl (fun zj => nI (rwN kd hm zj)))), (mq 3, .inl (ca 15, 36, .inl (fun zj => bI (ib zj))))]) [0, 1, 2] rfl
    have hD9 := hD.sub (ws' := [(mq 0, .inr (9, [.ref (mq 1), .int (nI ps), .int ea, .int (nI nc), .int (nI br), .int st, .int so, .int sr, .ref (mq 2), .ref (mq 3), .int (nI ((trailN ib (kd i) (hm i) 40 br 0).1)), .int (nI ((trailN ib (kd i) (hm i) 40 br 0).2)), .ref (mq 4), .int (nI se), .ref (mq 5), .ref (mq 6), .int sw, .int ks, .int (nI kbr), .int kst, .int kso, .int (nI kse), .ref (mq 7), .ref (mq 8), .ref (mq 9), .long hs])), (mq 2, .inl (ca 14, 8, .inl (fun zj => nI (rwN kd hm zj)))), (mq 3, .inl (ca 15, 36, .inl (fun zj => bI (ib zj))))]) [0, 1, 2] (by decide) rfl
    exact W.iret (v := nI ((trailN ib (kd i) (hm i) 40 br 0).2)) hx hb hr (fun t ht hW => ⟨⟨nI ((trailN ib (kd i) (hm i) 40 br 0).2), (), rfl, by show _ = _; rw [if_pos c_2], by rw [ht]; exact hP9, va_K.moved hW.alike hK, hD9⟩, hS.F ht⟩) hS.2.2 dX9_followOf_21
def fmD (ib : Nat → Bool) (pp nn : Nat) : Nat → Nat → (Nat → Int32) → Nat → Int32
  | 0, _, fa => fa
  | n + 1, d, fa => if fa pp = nI nn then fmD ib pp nn n (d + 1) (upd fa (stepN ib pp d) (if fa (stepN ib pp d) = -1 then nI (nn + 1) else fa (stepN ib pp d))) else fa
def fmP (ib : Nat → Bool) (nn : Nat) : Nat → Nat → (Nat → Int32) → Nat → Int32
  | 0, _, fa => fa
  | n + 1, pp, fa => fmP ib nn n (pp + 1) (fmD ib pp nn 9 0 fa)
def fmN (ib : Nat → Bool) : Nat → Nat → (Nat → Int32) → Nat → Int32
  | 0, _, fa => fa
  | n + 1, nn, fa => fmN ib n (nn + 1) (fmP ib nn 36 0 fa)
def fewM (ib : Nat → Bool) (br ho : Nat) : Int32 := fmN ib 36 0 (upd (fun _ => (-1)) br (nI 0)) ho
def iniF (fa : Nat → Int32) (br n : Nat) : Nat → Int32 := fun j => if j < n then (if j = br then nI 0 else -1) else fa j
theorem iniF_up (fa : Nat → Int32) (br i : Nat) : upd (iniF fa br i) i (if i = br then nI 0 else -1) = iniF fa br (i + 1) := by
  funext j
  unfold upd iniF
  by_cases h : j = i
  · rw [if_pos h, if_pos (show j < i + 1 by omega), h]
  · rw [if_neg h]
    by_cases h2 : j < i
    · rw [if_pos h2, if_pos (show j < i + 1 by omega)]
    · rw [if_neg h2, if_neg (by omega)]
theorem iniF_0 (fa : Nat → Int32) (br : Nat) : iniF fa br 0 = fa := by
  funext j
  unfold iniF
  rw [if_neg (by omega)]
set_option maxHeartbeats 4000000 in
set_option maxRecDepth 100000 in
theorem kX9_fewOf (l : Launch) (dC : Nat → ClassId) (dI : Nat → Nat → Nat) (ca : Nat → ClassId) (sz : Nat) (ho : Nat) (nc : Nat) (sr : Int32) (ps : Nat) (br : Nat) (st : Int32) (so : Int32) (se : Nat) (kbr : Nat) (kst : Int32) (kso : Int32) (kse : Nat) (mq : Nat → Nat) (ea : Int32) (fe : Int32) (fs : Int32) (sw : Int32) (ks : Int32) (ib : Nat → Bool) (fa : Nat → Int32) (hs : Int64) (hho : ho < 36) (hbr : br < 36) : Met l yX9_fewOf (Cond.code yX9_fewOf cX9_fewOf 6 (some .int) :: gT) (rk 3) (EFp (dC, dI) [(mq 0, .inr (9, [.ref (mq 1), .int (nI ps), .int ea, .int (nI nc), .int (nI br), .int st, .int so, .int sr, .ref (mq 2), .ref (mq 3), .int fe, .int fs, .ref (mq 4), .int (nI se), .ref (mq 5), .ref (mq 6), .int sw, .int ks, .int (nI kbr), .int kst, .int kso, .int (nI kse), .ref (mq 7), .ref (mq 8), .ref (mq 9), .long hs])), (mq 3, .inl (ca 15, 36, .inl (fun zj => bI (ib zj)))), (mq 4, .inl (ca 16, 36, .inl (fa)))] (TY ca) sz [Value.ref (mq 0), Value.int (nI ho)]) (va_Qi (fun (r : Int32) (u : (Nat → Int32)) => match u with | (fa1) => r = fewM ib br ho) (EFb (dC, dI) (fun (u : (Nat → Int32)) => match u with | (fa1) => [(mq 0, .inr (9, [.ref (mq 1), .int (nI ps), .int ea, .int (nI nc), .int (nI br), .int st, .int so, .int sr, .ref (mq 2), .ref (mq 3), .int fe, .int fs, .ref (mq 4), .int (nI se), .ref (mq 5), .ref (mq 6), .int sw, .int ks, .int (nI kbr), .int kst, .int kso, .int (nI kse), .ref (mq 7), .ref (mq 8), .ref (mq 9), .long hs])), (mq 3, .inl (ca 15, 36, .inl (fun zj => bI (ib zj)))), (mq 4, .inl (ca 16, 36, .inl (fa1)))]) (TY ca) (va_A [(mq 0, .inr (9, [.ref (mq 1), .int (nI ps), .int ea, .int (nI nc), .int (nI br), .int st, .int so, .int sr, .ref (mq 2), .ref (mq 3), .int fe, .int fs, .ref (mq 4), .int (nI se), .ref (mq 5), .ref (mq 6), .int sw, .int ks, .int (nI kbr), .int kst, .int kso, .int (nI kse), .ref (mq 7), .ref (mq 8), .ref (mq 9), .long hs])), (mq 3, .inl (ca 15, 36, .inl (fun zj => bI (ib zj)))), (mq 4, .inl (ca 16, 36, .inl (fa)))] sz)) (va_A [(mq 0, .inr (9, [.ref (mq 1), .int (nI ps), .int ea, .int (nI nc), .int (nI br), .int st, .int so, .int sr, .ref (mq 2), .ref (mq 3), .int fe, .int fs, .ref (mq 4), .int (nI se), .ref (mq 5), .ref (mq 6), .int sw, .int ks, .int (nI kbr), .int kst, .int kso, .int (nI kse), .ref (mq 7), .ref (mq 8), .ref (mq 9), .long hs])), (mq 3, .inl (ca 15, 36, .inl (fun zj => bI (ib zj)))), (mq 4, .inl (ca 16, 36, .inl (fa)))] sz)) 0 0 (va_A [(mq 0, .inr (9, [.ref (mq 1), .int (nI ps), .int ea, .int (nI nc), .int (nI br), .int st, .int so, .int sr, .ref (mq 2), .ref (mq 3), .int fe, .int fs, .ref (mq 4), .int (nI se), .ref (mq 5), .ref (mq 6), .int sw, .int ks, .int (nI kbr), .int kst, .int kso, .int (nI kse), .ref (mq 7), .ref (mq 8), .ref (mq 9), .long hs])), (mq 3, .inl (ca 15, 36, .inl (fun zj => bI (ib zj)))), (mq 4, .inl (ca 16, 36, .inl (fa)))] sz) := by
  refine Met.ofW (cc := cX9_fewOf) (maxL := 6) (ret := (some .int)) (by decide) rfl ?_
  intro p e s m args below meth c s₁ B hml hv
  obtain ⟨rfl, hsz, hP, hK, hD0⟩ := hv
  have hx := B.exec
  have hb := B.bytes
  have hr := B.returns
  have hts := atoms_spec (ws := (Cond.code yX9_fewOf cX9_fewOf 6 (some .int) :: gT)) B.pre
  have htl : ∀ w ∈ gT, w.before _ s = true := fun w h => hts w (List.mem_cons_of_mem _ h)
  have hown : s.vm.findClass RX9 = some m.cls := findClass_of_methodNamed B.named
  have hlocks := B.notSynchronized
  subst hsz
  have hD := hD0.self (sz := s.heap.size)
  generalize hAe : va_A [(mq 0, .inr (9, [.ref (mq 1), .int (nI ps), .int ea, .int (nI nc), .int (nI br), .int st, .int so, .int sr, .ref (mq 2), .ref (mq 3), .int fe, .int fs, .ref (mq 4), .int (nI se), .ref (mq 5), .ref (mq 6), .int sw, .int ks, .int (nI kbr), .int kst, .int kso, .int (nI kse), .ref (mq 7), .ref (mq 8), .ref (mq 9), .long hs])), (mq 3, .inl (ca 15, 36, .inl (fun zj => bI (ib zj)))), (mq 4, .inl (ca 16, 36, .inl (fa)))] s.heap.size = A at hD ⊢
  have hA : ∀ q : Nat, s.heap.size ≤ q → A q := fun q h => by rw [← hAe]; exact Or.inr h
  have hS : va_S A s.heap s.heap [] := va_S.rf
  have hl := lv_entry ([Value.ref (mq 0), Value.int (nI ho)]) (n := 6) (Nat.le_of_ble_eq_true rfl)
  rw [lg_entry_eq]
  generalize (lg_sl ([Value.ref (mq 0), Value.int (nI ho)]) ++ List.replicate (6 - (lg_sl ([Value.ref (mq 0), Value.int (nI ho)])).length) Slot.unset).toArray = ls at hl ⊢
  have hl : lv_has ls 6 [(0, .ref (mq 0)), (1, .int (nI ho))] := hl
  refine lv_iconst (v := nI 0) hx hb dX9_fewOf_0 (by decide) ?_
  refine lv_istore_n (lv' := [(2, .int (nI 0)), (0, .ref (mq 0)), (1, .int (nI ho))]) hx hb dX9_fewOf_1 rfl hl (by decide) rfl (fun ls hl => ?_)
  have lp2 : ∀ (n : Nat) (i : Nat), (i + n = 36) → ∀ (H : Heap) (locs : List Loc), va_P (dC, dI) vwCl [(mq 0, .inr (9, [.ref (mq 1), .int (nI ps), .int ea, .int (nI nc), .int (nI br), .int st, .int so, .int sr, .ref (mq 2), .ref (mq 3), .int fe, .int fs, .ref (mq 4), .int (nI se), .ref (mq 5), .ref (mq 6), .int sw, .int ks, .int (nI kbr), .int kst, .int kso, .int (nI kse), .ref (mq 7), .ref (mq 8), .ref (mq 9), .long hs])), (mq 3, .inl (ca 15, 36, .inl (fun zj => bI (ib zj)))), (mq 4, .inl (ca 16, 36, .inl (iniF fa br i)))] H → va_D A [(mq 0, .inr (9, [.ref (mq 1), .int (nI ps), .int ea, .int (nI nc), .int (nI br), .int st, .int so, .int sr, .ref (mq 2), .ref (mq 3), .int fe, .int fs, .ref (mq 4), .int (nI se), .ref (mq 5), .ref (mq 6), .int sw, .int ks, .int (nI kbr), .int kst, .int kso, .int (nI kse), .ref (mq 7), .ref (mq 8), .ref (mq 9), .long hs])), (mq 3, .inl (ca 15, 36, .inl (fun zj => bI (ib zj)))), (mq 4, .inl (ca 16, 36, .inl (iniF fa br i)))] → va_S A s.heap H locs → ∀ (ls : Array Slot), lv_has ls 6 [(2, .int (nI i)), (0, .ref (mq 0)), (1, .int (nI ho))] → W p l e (headSpec (Cond.code yX9_fewOf cX9_fewOf 6 (some .int) :: gT) (rk 3)).room s m ([Value.ref (mq 0), Value.int (nI ho)] : List Value).toArray below meth c H locs 0 0 (MQ below (va_Qi (fun (r : Int32) (u : (Nat → Int32)) => match u with | (fa1) => r = fewM ib br ho) (EFb (dC, dI) (fun (u : (Nat → Int32)) => match u with | (fa1) => [(mq 0, .inr (9, [.ref (mq 1), .int (nI ps), .int ea, .int (nI nc), .int (nI br), .int st, .int so, .int sr, .ref (mq 2), .ref (mq 3), .int fe, .int fs, .ref (mq 4), .int (nI se), .ref (mq 5), .ref (mq 6), .int sw, .int ks, .int (nI kbr), .int kst, .int kso, .int (nI kse), .ref (mq 7), .ref (mq 8), .ref (mq 9), .long hs])), (mq 3, .inl (ca 15, 36, .inl (fun zj => bI (ib zj)))), (mq 4, .inl (ca 16, 36, .inl (fa1)))]) (TY ca) A) A) ([Value.ref (mq 0), Value.int (nI ho)] : List Value).toArray s 0 0 A) (F0 m 2 ls []) := by
    clear hS hP hD
    clear hl
    intro n
    induction n with
    | zero =>
      intro i hi H locs hP hD hS ls hl
      refine lv_iload_n hx hb dX9_fewOf_2 rfl (lv_at hl 0 rfl) ?_
      refine lv_bipush (v := nI 36) hx hb dX9_fewOf_3 (by decide) ?_
      refine lv_icmp_ge (tgt := 33) hx hb dX9_fewOf_5 (by decide) (fun c_1 => ?_) (fun c_1 => ?_)
      · have hP := va_P_fn hP 2 (g := (upd (fun _ => (-1)) br (nI 0))) rfl (fun j hj => by unfold iniF upd; rw [if_pos (by omega)])
        have hD := va_D.set (e := .inl (ca 16, 36, .inl (upd (fun _ => (-1)) br (nI 0)))) hD (p := 2) rfl
        have hP : va_P (dC, dI) vwCl [(mq 0, .inr (9, [.ref (mq 1), .int (nI ps), .int ea, .int (nI nc), .int (nI br), .int st, .int so, .int sr, .ref (mq 2), .ref (mq 3), .int fe, .int fs, .ref (mq 4), .int (nI se), .ref (mq 5), .ref (mq 6), .int sw, .int ks, .int (nI kbr), .int kst, .int kso, .int (nI kse), .ref (mq 7), .ref (mq 8), .ref (mq 9), .long hs])), (mq 3, .inl (ca 15, 36, .inl (fun zj => bI (ib zj)))), (mq 4, .inl (ca 16, 36, .inl ((upd (fun _ => (-1)) br (nI 0)))))] H := hP
        have hD : va_D A [(mq 0, .inr (9, [.ref (mq 1), .int (nI ps), .int ea, .int (nI nc), .int (nI br), .int st, .int so, .int sr, .ref (mq 2), .ref (mq 3), .int fe, .int fs, .ref (mq 4), .int (nI se), .ref (mq 5), .ref (mq 6), .int sw, .int ks, .int (nI kbr), .int kst, .int kso, .int (nI kse), .ref (mq 7), .ref (mq 8), .ref (mq 9), .long hs])), (mq 3, .inl (ca 15, 36, .inl (fun zj => bI (ib zj)))), (mq 4, .inl (ca 16, 36, .inl ((upd (fun _ => (-1)) br (nI 0)))))] := hD
        refine lv_iconst (v := nI 0) hx hb dX9_fewOf_33 (by decide) ?_
        refine lv_istore_n (lv' := [(2, .int (nI 0)), (0, .ref (mq 0)), (1, .int (nI ho))]) hx hb dX9_fewOf_34 rfl hl (by decide) rfl (fun ls hl => ?_)
        have lp35 : ∀ (n2 : Nat) (nn : Nat) (fN : Nat → Int32), (nn + n2 = 36) → (fmN ib n2 nn fN = fmN ib 36 0 (upd (fun _ => (-1)) br (nI 0))) → ∀ (H : Heap) (locs : List Loc), va_P (dC, dI) vwCl [(mq 0, .inr (9, [.ref (mq 1), .int (nI ps), .int ea, .int (nI nc), .int (nI br), .int st, .int so, .int sr, .ref (mq 2), .ref (mq 3), .int fe, .int fs, .ref (mq 4), .int (nI se), .ref (mq 5), .ref (mq 6), .int sw, .int ks, .int (nI kbr), .int kst, .int kso, .int (nI kse), .ref (mq 7), .ref (mq 8), .ref (mq 9), .long hs])), (mq 3, .inl (ca 15, 36, .inl (fun zj => bI (ib zj)))), (mq 4, .inl (ca 16, 36, .inl (fN)))] H → va_D A [(mq 0, .inr (9, [.ref (mq 1), .int (nI ps), .int ea, .int (nI nc), .int (nI br), .int st, .int so, .int sr, .ref (mq 2), .ref (mq 3), .int fe, .int fs, .ref (mq 4), .int (nI se), .ref (mq 5), .ref (mq 6), .int sw, .int ks, .int (nI kbr), .int kst, .int kso, .int (nI kse), .ref (mq 7), .ref (mq 8), .ref (mq 9), .long hs])), (mq 3, .inl (ca 15, 36, .inl (fun zj => bI (ib zj)))), (mq 4, .inl (ca 16, 36, .inl (fN)))] → va_S A s.heap H locs → ∀ (ls : Array Slot), lv_has ls 6 [(2, .int (nI nn)), (0, .ref (mq 0)), (1, .int (nI ho))] → W p l e (headSpec (Cond.code yX9_fewOf cX9_fewOf 6 (some .int) :: gT) (rk 3)).room s m ([Value.ref (mq 0), Value.int (nI ho)] : List Value).toArray below meth c H locs 0 0 (MQ below (va_Qi (fun (r : Int32) (u : (Nat → Int32)) => match u with | (fa1) => r = fewM ib br ho) (EFb (dC, dI) (fun (u : (Nat → Int32)) => match u with | (fa1) => [(mq 0, .inr (9, [.ref (mq 1), .int (nI ps), .int ea, .int (nI nc), .int (nI br), .int st, .int so, .int sr, .ref (mq 2), .ref (mq 3), .int fe, .int fs, .ref (mq 4), .int (nI se), .ref (mq 5), .ref (mq 6), .int sw, .int ks, .int (nI kbr), .int kst, .int kso, .int (nI kse), .ref (mq 7), .ref (mq 8), .ref (mq 9), .long hs])), (mq 3, .inl (ca 15, 36, .inl (fun zj => bI (ib zj)))), (mq 4, .inl (ca 16, 36, .inl (fa1)))]) (TY ca) A) A) ([Value.ref (mq 0), Value.int (nI ho)] : List Value).toArray s 0 0 A) (F0 m 35 ls []) := by
          clear hS hP hD
          clear hl
          intro n2
          induction n2 with
          | zero =>
            intro nn fN hn hRn H locs hP hD hS ls hl
            refine lv_iload_n hx hb dX9_fewOf_35 rfl (lv_at hl 0 rfl) ?_
            refine lv_bipush (v := nI 36) hx hb dX9_fewOf_36 (by decide) ?_
            refine lv_icmp_ge (tgt := 127) hx hb dX9_fewOf_38 (by decide) (fun c_2 => ?_) (fun c_2 => ?_)
            · refine lv_aload_n hx hb dX9_fewOf_127 rfl (lv_at hl 1 rfl) ?_
              refine va_get (D := (dC, dI)) (ci := 9) (v := .ref (mq 4)) (C := RX9) (T := TX9) (N := 26) hx hb htl iX9 hown hK hP 0 rfl rfl 12 (by decide) (htl _ wd_563) (fun _ h9 => h9) rfl dX9_fewOf_128 ?_
              refine lv_iload_n hx hb dX9_fewOf_131 rfl (lv_at hl 2 rfl) ?_
              refine va_iald hx hb hK hP 2 16 rfl rfl (vp_in_nI (by omega) (by decide)) dX9_fewOf_132 ?_
              refine lv_ri (y := fN ho) (congrArg (fN) (nI_clamp (by omega))) ?_
              have hP9 := hP.sub (ws' := [(mq 0, .inr (9, [.ref (mq 1), .int (nI ps), .int ea, .int (nI nc), .int (nI br), .int st, .int so, .int sr, .ref (mq 2), .ref (mq 3), .int fe, .int fs, .ref (mq 4), .int (nI se), .ref (mq 5), .ref (mq 6), .int sw, .int ks, .int (nI kbr), .int kst, .int kso, .int (nI kse), .ref (mq 7), .ref (mq 8), .ref (mq 9), .long hs])), (mq 3, .inl (ca 15, 36, .inl (fun zj => bI (ib zj)))), (mq 4, .inl (ca 16, 36, .inl (fN)))]) [0, 1, 2] rfl
              have hD9 := hD.sub (ws' := [(mq 0, .inr (9, [.ref (mq 1), .int (nI ps), .int ea, .int (nI nc), .int (nI br), .int st, .int so, .int sr, .ref (mq 2), .ref (mq 3), .int fe, .int fs, .ref (mq 4), .int (nI se), .ref (mq 5), .ref (mq 6), .int sw, .int ks, .int (nI kbr), .int kst, .int kso, .int (nI kse), .ref (mq 7), .ref (mq 8), .ref (mq 9), .long hs])), (mq 3, .inl (ca 15, 36, .inl (fun zj => bI (ib zj)))), (mq 4, .inl (ca 16, 36, .inl (fN)))]) [0, 1, 2] (by decide) rfl
              exact W.iret (v := fN ho) hx hb hr (fun t ht hW => ⟨⟨fN ho, fN, rfl, by show _ = _; unfold fewM; rw [← hRn]; rfl, by rw [ht]; exact hP9, va_K.moved hW.alike hK, hD9⟩, hS.F ht⟩) hS.2.2 dX9_fewOf_133
            · exact absurd (nI_le (by omega) (by omega)) c_2
          | succ n2 ih35 =>
            intro nn fN hn hRn H locs hP hD hS ls hl
            refine lv_iload_n hx hb dX9_fewOf_35 rfl (lv_at hl 0 rfl) ?_
            refine lv_bipush (v := nI 36) hx hb dX9_fewOf_36 (by decide) ?_
            refine lv_icmp_ge (tgt := 127) hx hb dX9_fewOf_38 (by decide) (fun c_3 => ?_) (fun c_3 => ?_)
            · exact absurd c_3 (nI_ge (by omega) (by omega))
            · refine lv_iconst (v := nI 0) hx hb dX9_fewOf_41 (by decide) ?_
              refine lv_istore_n (lv' := [(3, .int (nI 0)), (2, .int (nI nn)), (0, .ref (mq 0)), (1, .int (nI ho))]) hx hb dX9_fewOf_42 rfl hl (by decide) rfl (fun ls hl => ?_)
              have lp43 : ∀ (n3 : Nat) (pp : Nat) (fP : Nat → Int32), (pp + n3 = 36) → (fmP ib nn n3 pp fP = fmP ib nn 36 0 fN) → ∀ (H : Heap) (locs : List Loc), va_P (dC, dI) vwCl [(mq 0, .inr (9, [.ref (mq 1), .int (nI ps), .int ea, .int (nI nc), .int (nI br), .int st, .int so, .int sr, .ref (mq 2), .ref (mq 3), .int fe, .int fs, .ref (mq 4), .int (nI se), .ref (mq 5), .ref (mq 6), .int sw, .int ks, .int (nI kbr), .int kst, .int kso, .int (nI kse), .ref (mq 7), .ref (mq 8), .ref (mq 9), .long hs])), (mq 3, .inl (ca 15, 36, .inl (fun zj => bI (ib zj)))), (mq 4, .inl (ca 16, 36, .inl (fP)))] H → va_D A [(mq 0, .inr (9, [.ref (mq 1), .int (nI ps), .int ea, .int (nI nc), .int (nI br), .int st, .int so, .int sr, .ref (mq 2), .ref (mq 3), .int fe, .int fs, .ref (mq 4), .int (nI se), .ref (mq 5), .ref (mq 6), .int sw, .int ks, .int (nI kbr), .int kst, .int kso, .int (nI kse), .ref (mq 7), .ref (mq 8), .ref (mq 9), .long hs])), (mq 3, .inl (ca 15, 36, .inl (fun zj => bI (ib zj)))), (mq 4, .inl (ca 16, 36, .inl (fP)))] → va_S A s.heap H locs → ∀ (ls : Array Slot), lv_has ls 6 [(3, .int (nI pp)), (2, .int (nI nn)), (0, .ref (mq 0)), (1, .int (nI ho))] → W p l e (headSpec (Cond.code yX9_fewOf cX9_fewOf 6 (some .int) :: gT) (rk 3)).room s m ([Value.ref (mq 0), Value.int (nI ho)] : List Value).toArray below meth c H locs 0 0 (MQ below (va_Qi (fun (r : Int32) (u : (Nat → Int32)) => match u with | (fa1) => r = fewM ib br ho) (EFb (dC, dI) (fun (u : (Nat → Int32)) => match u with | (fa1) => [(mq 0, .inr (9, [.ref (mq 1), .int (nI ps), .int ea, .int (nI nc), .int (nI br), .int st, .int so, .int sr, .ref (mq 2), .ref (mq 3), .int fe, .int fs, .ref (mq 4), .int (nI se), .ref (mq 5), .ref (mq 6), .int sw, .int ks, .int (nI kbr), .int kst, .int kso, .int (nI kse), .ref (mq 7), .ref (mq 8), .ref (mq 9), .long hs])), (mq 3, .inl (ca 15, 36, .inl (fun zj => bI (ib zj)))), (mq 4, .inl (ca 16, 36, .inl (fa1)))]) (TY ca) A) A) ([Value.ref (mq 0), Value.int (nI ho)] : List Value).toArray s 0 0 A) (F0 m 43 ls []) := by
                clear hS hP hD
                clear hl
                intro n3
                induction n3 with
                | zero =>
                  intro pp fP hp9 hRp H locs hP hD hS ls hl
                  refine lv_iload_n hx hb dX9_fewOf_43 rfl (lv_at hl 0 rfl) ?_
                  refine lv_bipush (v := nI 36) hx hb dX9_fewOf_44 (by decide) ?_
                  refine lv_icmp_ge (tgt := 121) hx hb dX9_fewOf_46 (by decide) (fun c_4 => ?_) (fun c_4 => ?_)
                  · refine lv_iinc (v := nI (nn + 1)) (lv' := [(2, .int (nI (nn + 1))), (3, .int (nI pp)), (0, .ref (mq 0)), (1, .int (nI ho))]) hx hb dX9_fewOf_121 hl (k := 1) rfl (nI_add nn 1) (by decide) rfl (fun ls hl => ?_)
                    refine lv_goto (tgt := 35) hx hb dX9_fewOf_124 (by decide) ?_
                    exact ih35 (nn + 1) fP (by omega) (by rw [← hRn]; simp only [fmN]; rw [← hRp]; rfl) _ _ (hP.sub [0, 1, 2] rfl) (hD.sub [0, 1, 2] (by decide) rfl) hS ls (lv_sub hl [0, 2, 3] rfl)
                  · exact absurd (nI_le (by omega) (by omega)) c_4
                | succ n3 ih43 =>
                  intro pp fP hp9 hRp H locs hP hD hS ls hl
                  refine lv_iload_n hx hb dX9_fewOf_43 rfl (lv_at hl 0 rfl) ?_
                  refine lv_bipush (v := nI 36) hx hb dX9_fewOf_44 (by decide) ?_
                  refine lv_icmp_ge (tgt := 121) hx hb dX9_fewOf_46 (by decide) (fun c_5 => ?_) (fun c_5 => ?_)
                  · exact absurd c_5 (nI_ge (by omega) (by omega))
                  · refine lv_iconst (v := nI 0) hx hb dX9_fewOf_49 (by decide) ?_
                    refine lv_istore (lv' := [(4, .int (nI 0)), (3, .int (nI pp)), (2, .int (nI nn)), (0, .ref (mq 0)), (1, .int (nI ho))]) hx hb dX9_fewOf_50 hl (by decide) rfl (fun ls hl => ?_)
                    have lp52 : ∀ (n4 : Nat) (d : Nat) (fD : Nat → Int32), (d + n4 = 9) → (fmD ib pp nn n4 d fD = fmD ib pp nn 9 0 fP) → ∀ (H : Heap) (locs : List Loc), va_P (dC, dI) vwCl [(mq 0, .inr (9, [.ref (mq 1), .int (nI ps), .int ea, .int (nI nc), .int (nI br), .int st, .int so, .int sr, .ref (mq 2), .ref (mq 3), .int fe, .int fs, .ref (mq 4), .int (nI se), .ref (mq 5), .ref (mq 6), .int sw, .int ks, .int (nI kbr), .int kst, .int kso, .int (nI kse), .ref (mq 7), .ref (mq 8), .ref (mq 9), .long hs])), (mq 3, .inl (ca 15, 36, .inl (fun zj => bI (ib zj)))), (mq 4, .inl (ca 16, 36, .inl (fD)))] H → va_D A [(mq 0, .inr (9, [.ref (mq 1), .int (nI ps), .int ea, .int (nI nc), .int (nI br), .int st, .int so, .int sr, .ref (mq 2), .ref (mq 3), .int fe, .int fs, .ref (mq 4), .int (nI se), .ref (mq 5), .ref (mq 6), .int sw, .int ks, .int (nI kbr), .int kst, .int kso, .int (nI kse), .ref (mq 7), .ref (mq 8), .ref (mq 9), .long hs])), (mq 3, .inl (ca 15, 36, .inl (fun zj => bI (ib zj)))), (mq 4, .inl (ca 16, 36, .inl (fD)))] → va_S A s.heap H locs → ∀ (ls : Array Slot), lv_has ls 6 [(4, .int (nI d)), (3, .int (nI pp)), (2, .int (nI nn)), (0, .ref (mq 0)), (1, .int (nI ho))] → W p l e (headSpec (Cond.code yX9_fewOf cX9_fewOf 6 (some .int) :: gT) (rk 3)).room s m ([Value.ref (mq 0), Value.int (nI ho)] : List Value).toArray below meth c H locs 0 0 (MQ below (va_Qi (fun (r : Int32) (u : (Nat → Int32)) => match u with | (fa1) => r = fewM ib br ho) (EFb (dC, dI) (fun (u : (Nat → Int32)) => match u with | (fa1) => [(mq 0, .inr (9, [.ref (mq 1), .int (nI ps), .int ea, .int (nI nc), .int (nI br), .int st, .int so, .int sr, .ref (mq 2), .ref (mq 3), .int fe, .int fs, .ref (mq 4), .int (nI se), .ref (mq 5), .ref (mq 6), .int sw, .int ks, .int (nI kbr), .int kst, .int kso, .int (nI kse), .ref (mq 7), .ref (mq 8), .ref (mq 9), .long hs])), (mq 3, .inl (ca 15, 36, .inl (fun zj => bI (ib zj)))), (mq 4, .inl (ca 16, 36, .inl (fa1)))]) (TY ca) A) A) ([Value.ref (mq 0), Value.int (nI ho)] : List Value).toArray s 0 0 A) (F0 m 52 ls []) := by
                      clear hS hP hD
                      clear hl
                      intro n4
                      induction n4 with
                      | zero =>
                        intro d fD hd9 hRd H locs hP hD hS ls hl
                        refine lv_iload hx hb dX9_fewOf_52 (lv_at hl 0 rfl) ?_
                        refine lv_bipush (v := nI 9) hx hb dX9_fewOf_54 (by decide) ?_
                        refine lv_icmp_ge (tgt := 115) hx hb dX9_fewOf_56 (by decide) (fun c_6 => ?_) (fun c_6 => ?_)
                        · refine lv_iinc (v := nI (pp + 1)) (lv' := [(3, .int (nI (pp + 1))), (4, .int (nI d)), (2, .int (nI nn)), (0, .ref (mq 0)), (1, .int (nI ho))]) hx hb dX9_fewOf_115 hl (k := 1) rfl (nI_add pp 1) (by decide) rfl (fun ls hl => ?_)
                          refine lv_goto (tgt := 43) hx hb dX9_fewOf_118 (by decide) ?_
                          exact ih43 (pp + 1) fD (by omega) (by rw [← hRp]; simp only [fmP]; rw [← hRd]; rfl) _ _ (hP.sub [0, 1, 2] rfl) (hD.sub [0, 1, 2] (by decide) rfl) hS ls (lv_sub hl [0, 2, 3, 4] rfl)
                        · exact absurd (nI_le (by omega) (by omega)) c_6
                      | succ n4 ih52 =>
                        intro d fD hd9 hRd H locs hP hD hS ls hl
                        refine lv_iload hx hb dX9_fewOf_52 (lv_at hl 0 rfl) ?_
                        refine lv_bipush (v := nI 9) hx hb dX9_fewOf_54 (by decide) ?_
                        refine lv_icmp_ge (tgt := 115) hx hb dX9_fewOf_56 (by decide) (fun c_7 => ?_) (fun c_7 => ?_)
                        · exact absurd c_7 (nI_ge (by omega) (by omega))
                        · refine lv_aload_n hx hb dX9_fewOf_59 rfl (lv_at hl 3 rfl) ?_
                          refine va_get (D := (dC, dI)) (ci := 9) (v := .ref (mq 4)) (C := RX9) (T := TX9) (N := 26) hx hb htl iX9 hown hK hP 0 rfl rfl 12 (by decide) (htl _ wd_563) (fun _ h9 => h9) rfl dX9_fewOf_60 ?_
                          refine lv_iload_n hx hb dX9_fewOf_63 rfl (lv_at hl 1 rfl) ?_
                          refine va_iald hx hb hK hP 2 16 rfl rfl (vp_in_nI (by omega) (by decide)) dX9_fewOf_64 ?_
                          refine lv_ri (y := fD pp) (congrArg (fD) (nI_clamp (by omega))) ?_
                          refine lv_iload_n hx hb dX9_fewOf_65 rfl (lv_at hl 2 rfl) ?_
                          refine lv_icmp_ne (tgt := 115) hx hb dX9_fewOf_66 (by decide) (fun c_8 => ?_) (fun c_8 => ?_)
                          · refine lv_iinc (v := nI (pp + 1)) (lv' := [(3, .int (nI (pp + 1))), (4, .int (nI d)), (2, .int (nI nn)), (0, .ref (mq 0)), (1, .int (nI ho))]) hx hb dX9_fewOf_115 hl (k := 1) rfl (nI_add pp 1) (by decide) rfl (fun ls hl => ?_)
                            refine lv_goto (tgt := 43) hx hb dX9_fewOf_118 (by decide) ?_
                            exact ih43 (pp + 1) fD (by omega) (by rw [← hRp]; simp only [fmP]; rw [← hRd]; simp only [fmD]; rw [if_neg c_8]) _ _ (hP.sub [0, 1, 2] rfl) (hD.sub [0, 1, 2] (by decide) rfl) hS ls (lv_sub hl [0, 2, 3, 4] rfl)
                          · refine lv_aload_n hx hb dX9_fewOf_69 rfl (lv_at hl 3 rfl) ?_
                            refine lv_iload_n hx hb dX9_fewOf_70 rfl (lv_at hl 1 rfl) ?_
                            refine lv_iload hx hb dX9_fewOf_71 (lv_at hl 0 rfl) ?_
                            refine roV (As := [Value.int (nI pp), Value.int (nI d)]) (rest := []) (kX9_stepped l dC dI ca pp d nc sr ps br st so se kbr kst kso kse mq ea fe fs sw ks ib hs (by omega) (by omega)) ⟨hx, hb, hml, hown, htl⟩ (cVg (C := RX9) 2 htl wd_703 wd_705 wp_23 wd_6 wd_706 rfl rfl (by decide +kernel) ⟨Nat.le_of_ble_eq_true rfl, Nat.le_of_ble_eq_true rfl⟩) (hP.sub [0, 1] rfl) hK (va_recv hK hP (ci := 9) (q0 := 0) rfl rfl) rfl hl.1 rfl (Nat.le_of_ble_eq_true rfl) dX9_fewOf_73 ⟨Nat.zero_le _, Nat.zero_le _⟩ (fun r hr9 => ?_)
                            subst hr9
                            have hnx : stepN ib pp d < 36 := stepN_lt (by omega)
                            refine lv_istore (lv' := [(5, .int (nI (stepN ib pp d))), (4, .int (nI d)), (3, .int (nI pp)), (2, .int (nI nn)), (0, .ref (mq 0)), (1, .int (nI ho))]) hx hb dX9_fewOf_76 hl (by decide) rfl (fun ls hl => ?_)
                            refine lv_aload_n hx hb dX9_fewOf_78 rfl (lv_at hl 4 rfl) ?_
                            refine va_get (D := (dC, dI)) (ci := 9) (v := .ref (mq 4)) (C := RX9) (T := TX9) (N := 26) hx hb htl iX9 hown hK hP 0 rfl rfl 12 (by decide) (htl _ wd_563) (fun _ h9 => h9) rfl dX9_fewOf_79 ?_
                            refine lv_iload hx hb dX9_fewOf_82 (lv_at hl 0 rfl) ?_
                            refine lv_aload_n hx hb dX9_fewOf_84 rfl (lv_at hl 4 rfl) ?_
                            refine va_get (D := (dC, dI)) (ci := 9) (v := .ref (mq 4)) (C := RX9) (T := TX9) (N := 26) hx hb htl iX9 hown hK hP 0 rfl rfl 12 (by decide) (htl _ wd_563) (fun _ h9 => h9) rfl dX9_fewOf_85 ?_
                            refine lv_iload hx hb dX9_fewOf_88 (lv_at hl 0 rfl) ?_
                            refine va_iald hx hb hK hP 2 16 rfl rfl (vp_in_nI (by omega) (by decide)) dX9_fewOf_90 ?_
                            refine lv_ri (y := fD (stepN ib pp d)) (congrArg (fD) (nI_clamp (by omega))) ?_
                            refine lv_iconst (v := (-1)) hx hb dX9_fewOf_91 (by decide) ?_
                            refine lv_icmp_ne (tgt := 101) hx hb dX9_fewOf_92 (by decide) (fun c_9 => ?_) (fun c_9 => ?_)
                            · refine lv_aload_n hx hb dX9_fewOf_101 rfl (lv_at hl 4 rfl) ?_
                              refine va_get (D := (dC, dI)) (ci := 9) (v := .ref (mq 4)) (C := RX9) (T := TX9) (N := 26) hx hb htl iX9 hown hK hP 0 rfl rfl 12 (by decide) (htl _ wd_563) (fun _ h9 => h9) rfl dX9_fewOf_102 ?_
                              refine lv_iload hx hb dX9_fewOf_105 (lv_at hl 0 rfl) ?_
                              refine va_iald hx hb hK hP 2 16 rfl rfl (vp_in_nI (by omega) (by decide)) dX9_fewOf_107 ?_
                              refine lv_ri (y := fD (stepN ib pp d)) (congrArg (fD) (nI_clamp (by omega))) ?_
                              refine va_iast hx hb hK hP hD hS 2 16 rfl rfl (vp_in_nI (by omega) (by decide)) dX9_fewOf_108 (fun H locs hP hD hS => ?_)
                              rw [nI_clamp (show stepN ib pp d < 2 ^ 31 by omega)] at hP hD
                              have hP : va_P (dC, dI) vwCl [(mq 0, .inr (9, [.ref (mq 1), .int (nI ps), .int ea, .int (nI nc), .int (nI br), .int st, .int so, .int sr, .ref (mq 2), .ref (mq 3), .int fe, .int fs, .ref (mq 4), .int (nI se), .ref (mq 5), .ref (mq 6), .int sw, .int ks, .int (nI kbr), .int kst, .int kso, .int (nI kse), .ref (mq 7), .ref (mq 8), .ref (mq 9), .long hs])), (mq 3, .inl (ca 15, 36, .inl (fun zj => bI (ib zj)))), (mq 4, .inl (ca 16, 36, .inl (upd (fD) (stepN ib pp d) (fD (stepN ib pp d)))))] H := hP
                              have hD : va_D A [(mq 0, .inr (9, [.ref (mq 1), .int (nI ps), .int ea, .int (nI nc), .int (nI br), .int st, .int so, .int sr, .ref (mq 2), .ref (mq 3), .int fe, .int fs, .ref (mq 4), .int (nI se), .ref (mq 5), .ref (mq 6), .int sw, .int ks, .int (nI kbr), .int kst, .int kso, .int (nI kse), .ref (mq 7), .ref (mq 8), .ref (mq 9), .long hs])), (mq 3, .inl (ca 15, 36, .inl (fun zj => bI (ib zj)))), (mq 4, .inl (ca 16, 36, .inl (upd (fD) (stepN ib pp d) (fD (stepN ib pp d)))))] := hD
                              refine lv_iinc (v := nI (d + 1)) (lv' := [(4, .int (nI (d + 1))), (5, .int (nI (stepN ib pp d))), (3, .int (nI pp)), (2, .int (nI nn)), (0, .ref (mq 0)), (1, .int (nI ho))]) hx hb dX9_fewOf_109 hl (k := 1) rfl (nI_add d 1) (by decide) rfl (fun ls hl => ?_)
                              refine lv_goto (tgt := 52) hx hb dX9_fewOf_112 (by decide) ?_
                              exact ih52 (d + 1) (upd fD (stepN ib pp d) (fD (stepN ib pp d))) (by omega) (by rw [← hRd]; simp only [fmD]; rw [if_pos c_8, if_neg c_9]) _ _ (hP.sub [0, 1, 2] rfl) (hD.sub [0, 1, 2] (by decide) rfl) hS ls (lv_sub hl [0, 2, 3, 4, 5] rfl)
                            · refine lv_iload_n hx hb dX9_fewOf_95 rfl (lv_at hl 3 rfl) ?_
                              refine lv_iconst (v := nI 1) hx hb dX9_fewOf_96 (by decide) ?_
                              refine lv_iadd hx hb dX9_fewOf_97 ?_
                              refine lv_ri (y := nI (nn + 1)) (nI_add nn 1) ?_
                              refine lv_goto (tgt := 108) hx hb dX9_fewOf_98 (by decide) ?_
                              refine va_iast hx hb hK hP hD hS 2 16 rfl rfl (vp_in_nI (by omega) (by decide)) dX9_fewOf_108 (fun H locs hP hD hS => ?_)
                              rw [nI_clamp (show stepN ib pp d < 2 ^ 31 by omega)] at hP hD
                              have hP : va_P (dC, dI) vwCl [(mq 0, .inr (9, [.ref (mq 1), .int (nI ps), .int ea, .int (nI nc), .int (nI br), .int st, .int so, .int sr, .ref (mq 2), .ref (mq 3), .int fe, .int fs, .ref (mq 4), .int (nI se), .ref (mq 5), .ref (mq 6), .int sw, .int ks, .int (nI kbr), .int kst, .int kso, .int (nI kse), .ref (mq 7), .ref (mq 8), .ref (mq 9), .long hs])), (mq 3, .inl (ca 15, 36, .inl (fun zj => bI (ib zj)))), (mq 4, .inl (ca 16, 36, .inl (upd (fD) (stepN ib pp d) (nI (nn + 1)))))] H := hP
                              have hD : va_D A [(mq 0, .inr (9, [.ref (mq 1), .int (nI ps), .int ea, .int (nI nc), .int (nI br), .int st, .int so, .int sr, .ref (mq 2), .ref (mq 3), .int fe, .int fs, .ref (mq 4), .int (nI se), .ref (mq 5), .ref (mq 6), .int sw, .int ks, .int (nI kbr), .int kst, .int kso, .int (nI kse), .ref (mq 7), .ref (mq 8), .ref (mq 9), .long hs])), (mq 3, .inl (ca 15, 36, .inl (fun zj => bI (ib zj)))), (mq 4, .inl (ca 16, 36, .inl (upd (fD) (stepN ib pp d) (nI (nn + 1)))))] := hD
                              refine lv_iinc (v := nI (d + 1)) (lv' := [(4, .int (nI (d + 1))), (5, .int (nI (stepN ib pp d))), (3, .int (nI pp)), (2, .int (nI nn)), (0, .ref (mq 0)), (1, .int (nI ho))]) hx hb dX9_fewOf_109 hl (k := 1) rfl (nI_add d 1) (by decide) rfl (fun ls hl => ?_)
                              refine lv_goto (tgt := 52) hx hb dX9_fewOf_112 (by decide) ?_
                              exact ih52 (d + 1) (upd fD (stepN ib pp d) (nI (nn + 1))) (by omega) (by rw [← hRd]; simp only [fmD]; rw [if_pos c_8, if_pos c_9]) _ _ (hP.sub [0, 1, 2] rfl) (hD.sub [0, 1, 2] (by decide) rfl) hS ls (lv_sub hl [0, 2, 3, 4, 5] rfl)
                    exact lp52 9 0 fP (by omega) rfl _ _ hP hD hS ls (lv_sub hl [0, 1, 2, 3, 4] rfl)
              exact lp43 36 0 fN (by omega) rfl _ _ hP hD hS ls (lv_sub hl [0, 1, 2, 3] rfl)
        exact lp35 36 0 (upd (fun _ => (-1)) br (nI 0)) (by omega) rfl _ _ hP hD hS ls (lv_sub hl [0, 1, 2] rfl)
      · exact absurd (nI_le (by omega) (by omega)) c_1
    | succ n ih2 =>
      intro i hi H locs hP hD hS ls hl
      refine lv_iload_n hx hb dX9_fewOf_2 rfl (lv_at hl 0 rfl) ?_
      refine lv_bipush (v := nI 36) hx hb dX9_fewOf_3 (by decide) ?_
      refine lv_icmp_ge (tgt := 33) hx hb dX9_fewOf_5 (by decide) (fun c_10 => ?_) (fun c_10 => ?_)
      · exact absurd c_10 (nI_ge (by omega) (by omega))
      · refine lv_aload_n hx hb dX9_fewOf_8 rfl (lv_at hl 1 rfl) ?_
        refine va_get (D := (dC, dI)) (ci := 9) (v := .ref (mq 4)) (C := RX9) (T := TX9) (N := 26) hx hb htl iX9 hown hK hP 0 rfl rfl 12 (by decide) (htl _ wd_563) (fun _ h9 => h9) rfl dX9_fewOf_9 ?_
        refine lv_iload_n hx hb dX9_fewOf_12 rfl (lv_at hl 0 rfl) ?_
        refine lv_iload_n hx hb dX9_fewOf_13 rfl (lv_at hl 0 rfl) ?_
        refine lv_aload_n hx hb dX9_fewOf_14 rfl (lv_at hl 1 rfl) ?_
        refine va_get (D := (dC, dI)) (ci := 9) (v := .int (nI br)) (C := RX9) (T := TX9) (N := 26) hx hb htl iX9 hown hK hP 0 rfl rfl 4 (by decide) (htl _ wd_555) (fun _ h9 => h9) rfl dX9_fewOf_15 ?_
        refine lv_icmp_ne (tgt := 25) hx hb dX9_fewOf_18 (by decide) (fun c_11 => ?_) (fun c_11 => ?_)
        · rw [nI_eq (by omega) (by omega)] at c_11
          refine lv_iconst (v := (-1)) hx hb dX9_fewOf_25 (by decide) ?_
          refine va_iast hx hb hK hP hD hS 2 16 rfl rfl (vp_in_nI (by omega) (by decide)) dX9_fewOf_26 (fun H locs hP hD hS => ?_)
          rw [nI_clamp (show i < 2 ^ 31 by omega)] at hP hD
          have hP : va_P (dC, dI) vwCl [(mq 0, .inr (9, [.ref (mq 1), .int (nI ps), .int ea, .int (nI nc), .int (nI br), .int st, .int so, .int sr, .ref (mq 2), .ref (mq 3), .int fe, .int fs, .ref (mq 4), .int (nI se), .ref (mq 5), .ref (mq 6), .int sw, .int ks, .int (nI kbr), .int kst, .int kso, .int (nI kse), .ref (mq 7), .ref (mq 8), .ref (mq 9), .long hs])), (mq 3, .inl (ca 15, 36, .inl (fun zj => bI (ib zj)))), (mq 4, .inl (ca 16, 36, .inl (upd (iniF fa br i) i (-1))))] H := hP
          have hD : va_D A [(mq 0, .inr (9, [.ref (mq 1), .int (nI ps), .int ea, .int (nI nc), .int (nI br), .int st, .int so, .int sr, .ref (mq 2), .ref (mq 3), .int fe, .int fs, .ref (mq 4), .int (nI se), .ref (mq 5), .ref (mq 6), .int sw, .int ks, .int (nI kbr), .int kst, .int kso, .int (nI kse), .ref (mq 7), .ref (mq 8), .ref (mq 9), .long hs])), (mq 3, .inl (ca 15, 36, .inl (fun zj => bI (ib zj)))), (mq 4, .inl (ca 16, 36, .inl (upd (iniF fa br i) i (-1))))] := hD
          refine lv_iinc (v := nI (i + 1)) (lv' := [(2, .int (nI (i + 1))), (0, .ref (mq 0)), (1, .int (nI ho))]) hx hb dX9_fewOf_27 hl (k := 0) rfl (nI_add i 1) (by decide) rfl (fun ls hl => ?_)
          refine lv_goto (tgt := 2) hx hb dX9_fewOf_30 (by decide) ?_
          rw [show upd (iniF fa br i) i (-1) = iniF fa br (i + 1) by rw [← iniF_up, if_neg c_11]] at hP hD
          exact ih2 (i + 1) (by omega) _ _ (hP.sub [0, 1, 2] rfl) (hD.sub [0, 1, 2] (by decide) rfl) hS ls (lv_sub hl [0, 1, 2] rfl)
        · rw [nI_eq (by omega) (by omega)] at c_11
          refine lv_iconst (v := nI 0) hx hb dX9_fewOf_21 (by decide) ?_
          refine lv_goto (tgt := 26) hx hb dX9_fewOf_22 (by decide) ?_
          refine va_iast hx hb hK hP hD hS 2 16 rfl rfl (vp_in_nI (by omega) (by decide)) dX9_fewOf_26 (fun H locs hP hD hS => ?_)
          rw [nI_clamp (show i < 2 ^ 31 by omega)] at hP hD
          have hP : va_P (dC, dI) vwCl [(mq 0, .inr (9, [.ref (mq 1), .int (nI ps), .int ea, .int (nI nc), .int (nI br), .int st, .int so, .int sr, .ref (mq 2), .ref (mq 3), .int fe, .int fs, .ref (mq 4), .int (nI se), .ref (mq 5), .ref (mq 6), .int sw, .int ks, .int (nI kbr), .int kst, .int kso, .int (nI kse), .ref (mq 7), .ref (mq 8), .ref (mq 9), .long hs])), (mq 3, .inl (ca 15, 36, .inl (fun zj => bI (ib zj)))), (mq 4, .inl (ca 16, 36, .inl (upd (iniF fa br i) i (nI 0))))] H := hP
          have hD : va_D A [(mq 0, .inr (9, [.ref (mq 1), .int (nI ps), .int ea, .int (nI nc), .int (nI br), .int st, .int so, .int sr, .ref (mq 2), .ref (mq 3), .int fe, .int fs, .ref (mq 4), .int (nI se), .ref (mq 5), .ref (mq 6), .int sw, .int ks, .int (nI kbr), .int kst, .int kso, .int (nI kse), .ref (mq 7), .ref (mq 8), .ref (mq 9), .long hs])), (mq 3, .inl (ca 15, 36, .inl (fun zj => bI (ib zj)))), (mq 4, .inl (ca 16, 36, .inl (upd (iniF fa br i) i (nI 0))))] := hD
          refine lv_iinc (v := nI (i + 1)) (lv' := [(2, .int (nI (i + 1))), (0, .ref (mq 0)), (1, .int (nI ho))]) hx hb dX9_fewOf_27 hl (k := 0) rfl (nI_add i 1) (by decide) rfl (fun ls hl => ?_)
          refine lv_goto (tgt := 2) hx hb dX9_fewOf_30 (by decide) ?_
          rw [show upd (iniF fa br i) i (nI 0) = iniF fa br (i + 1) by rw [← iniF_up, if_pos c_11]] at hP hD
          exact ih2 (i + 1) (by omega) _ _ (hP.sub [0, 1, 2] rfl) (hD.sub [0, 1, 2] (by decide) rfl) hS ls (lv_sub hl [0, 1, 2] rfl)
  exact lp2 36 0 (by omega) _ _ (by rw [iniF_0]; exact hP) (by rw [iniF_0]; exact hD) hS ls (lv_sub hl [0, 1, 2] rfl)
