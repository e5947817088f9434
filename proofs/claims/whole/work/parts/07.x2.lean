theorem nd4 {D : va_G} {ws : va_W} {H : Heap} {qn kd : Nat → Nat} (hP : va_P D vwCl ws H) (i : Nat) (hi : i < 4) (k0 k1 k2 k3 : Nat) (h0 : ws[k0]? = some (qn 0, .inr (kc (kd 0), []))) (h1 : ws[k1]? = some (qn 1, .inr (kc (kd 1), []))) (h2 : ws[k2]? = some (qn 2, .inr (kc (kd 2), []))) (h3 : ws[k3]? = some (qn 3, .inr (kc (kd 3), []))) : va_P D vwCl [(qn i, .inr (kc (kd i), []))] H := by
  intro k q hk
  have hz : k < 1 := (List.getElem?_eq_some_iff.mp hk).1
  rw [show k = 0 by omega] at hk
  cases hk
  match i, hi with
  | 0, _ => exact hP k0 _ h0
  | 1, _ => exact hP k1 _ h1
  | 2, _ => exact hP k2 _ h2
  | 3, _ => exact hP k3 _ h3
  | n + 4, h => exact absurd h (by omega)
set_option maxHeartbeats 4000000 in
set_option maxRecDepth 100000 in
theorem kX7_placeBehind (l : Launch) (dC : Nat → ClassId) (dI : Nat → Nat → Nat) (ca : Nat → ClassId) (pp : Nat) (d : Nat) (q : Nat → Nat) (isl : Int64) (br : Nat) (st : Int32) (so : Int32) (se : Nat) (hp : pp < 36) (hd : d < 9) : Met l yX7_placeBehind (Cond.code yX7_placeBehind cX7_placeBehind 6 (some .int) :: gT) (rk 2) (ROp (dC, dI) [(q 4, .inr (7, [.ref (q 5), .ref (q 6), .ref (q 7), .ref (q 8), .long isl, .int (nI br), .int st, .int so, .int (nI se)]))] (TY ca) [Value.ref (q 4), Value.int (nI pp), Value.int (nI d)]) (vp_Si (fun r => r = nI (stepN (xb isl) pp d))) 0 0 (fun _ => False) := by
  refine Met.ofW (cc := cX7_placeBehind) (maxL := 6) (ret := (some .int)) (by decide) rfl ?_
  intro p e s m args below meth c s₁ B hml hv
  obtain ⟨rfl, hP, hK⟩ := hv
  have hx := B.exec
  have hb := B.bytes
  have hr := B.returns
  have hts := atoms_spec (ws := (Cond.code yX7_placeBehind cX7_placeBehind 6 (some .int) :: gT)) B.pre
  have htl : ∀ w ∈ gT, w.before _ s = true := fun w h => hts w (List.mem_cons_of_mem _ h)
  have hown : s.vm.findClass RX7 = some m.cls := findClass_of_methodNamed B.named
  have hlocks := B.notSynchronized
  have hl := lv_entry ([Value.ref (q 4), Value.int (nI pp), Value.int (nI d)]) (n := 6) (Nat.le_of_ble_eq_true rfl)
  rw [lg_entry_eq]
  generalize (lg_sl ([Value.ref (q 4), Value.int (nI pp), Value.int (nI d)]) ++ List.replicate (6 - (lg_sl ([Value.ref (q 4), Value.int (nI pp), Value.int (nI d)])).length) Slot.unset).toArray = ls at hl ⊢
  have hl : lv_has ls 6 [(0, .ref (q 4)), (1, .int (nI pp)), (2, .int (nI d))] := hl
  refine lv_iload_n hx hb dX7_placeBehind_0 rfl (lv_at hl 1 rfl) ?_
  refine lv_bipush (v := nI 6) hx hb dX7_placeBehind_1 (by decide) ?_
  refine lv_idiv hx hb dX7_placeBehind_3 (by decide) ?_
  refine lv_ri (y := nI (pp / 6)) (pk_div (by omega) (by decide) (by decide)) ?_
  refine lv_iload_n hx hb dX7_placeBehind_4 rfl (lv_at hl 2 rfl) ?_
  refine lv_iconst (v := nI 3) hx hb dX7_placeBehind_5 (by decide) ?_
  refine lv_idiv hx hb dX7_placeBehind_6 (by decide) ?_
  refine lv_ri (y := nI (d / 3)) (pk_div (by omega) (by decide) (by decide)) ?_
  refine lv_iadd hx hb dX7_placeBehind_7 ?_
  refine lv_ri (y := nI ((pp / 6) + (d / 3))) (nI_add (pp / 6) (d / 3)) ?_
  refine lv_iconst (v := nI 1) hx hb dX7_placeBehind_8 (by decide) ?_
  refine lv_isub hx hb dX7_placeBehind_9 ?_
  refine lv_istore_n (lv' := [(3, .int ((nI ((pp / 6) + (d / 3))) - (nI 1))), (0, .ref (q 4)), (1, .int (nI pp)), (2, .int (nI d))]) hx hb dX7_placeBehind_10 rfl hl (by decide) rfl (fun ls hl => ?_)
  refine lv_iload_n hx hb dX7_placeBehind_11 rfl (lv_at hl 2 rfl) ?_
  refine lv_bipush (v := nI 6) hx hb dX7_placeBehind_12 (by decide) ?_
  refine lv_irem hx hb dX7_placeBehind_14 (by decide) ?_
  refine lv_ri (y := nI (pp % 6)) (pk_rem (by omega) (by decide) (by decide)) ?_
  refine lv_iload_n hx hb dX7_placeBehind_15 rfl (lv_at hl 3 rfl) ?_
  refine lv_iconst (v := nI 3) hx hb dX7_placeBehind_16 (by decide) ?_
  refine lv_irem hx hb dX7_placeBehind_17 (by decide) ?_
  refine lv_ri (y := nI (d % 3)) (pk_rem (by omega) (by decide) (by decide)) ?_
  refine lv_iadd hx hb dX7_placeBehind_18 ?_
  refine lv_ri (y := nI ((pp % 6) + (d % 3))) (nI_add (pp % 6) (d % 3)) ?_
  refine lv_iconst (v := nI 1) hx hb dX7_placeBehind_19 (by decide) ?_
  refine lv_isub hx hb dX7_placeBehind_20 ?_
  refine lv_istore (lv' := [(4, .int ((nI ((pp % 6) + (d % 3))) - (nI 1))), (3, .int ((nI ((pp / 6) + (d / 3))) - (nI 1))), (0, .ref (q 4)), (1, .int (nI pp)), (2, .int (nI d))]) hx hb dX7_placeBehind_21 hl (by decide) rfl (fun ls hl => ?_)
  refine lv_iload_n hx hb dX7_placeBehind_23 rfl (lv_at hl 1 rfl) ?_
  refine lv_if_lt (tgt := 45) hx hb dX7_placeBehind_24 (by decide) (fun c_1 => ?_) (fun c_1 => ?_)
  · rw [sub1_neg (by omega)] at c_1
    refine lv_iload_n hx hb dX7_placeBehind_45 rfl (lv_at hl 3 rfl) ?_
    exact W.iret (v := nI pp) hx hb hr (fun t ht hW => ⟨nI pp, rfl, by show _ = _; rw [stepN_off (by omega)], ht⟩) (fun q h => by cases h) dX7_placeBehind_46
  · rw [sub1_neg (by omega)] at c_1
    refine lv_iload_n hx hb dX7_placeBehind_27 rfl (lv_at hl 1 rfl) ?_
    refine lv_bipush (v := nI 6) hx hb dX7_placeBehind_28 (by decide) ?_
    refine lv_icmp_ge (tgt := 45) hx hb dX7_placeBehind_30 (by decide) (fun c_2 => ?_) (fun c_2 => ?_)
    · rw [sub1_ge (by omega) (by decide)] at c_2
      refine lv_iload_n hx hb dX7_placeBehind_45 rfl (lv_at hl 3 rfl) ?_
      exact W.iret (v := nI pp) hx hb hr (fun t ht hW => ⟨nI pp, rfl, by show _ = _; rw [stepN_off (by omega)], ht⟩) (fun q h => by cases h) dX7_placeBehind_46
    · rw [sub1_ge (by omega) (by decide)] at c_2
      refine lv_iload hx hb dX7_placeBehind_33 (lv_at hl 0 rfl) ?_
      refine lv_if_lt (tgt := 45) hx hb dX7_placeBehind_35 (by decide) (fun c_3 => ?_) (fun c_3 => ?_)
      · rw [sub1_neg (by omega)] at c_3
        refine lv_iload_n hx hb dX7_placeBehind_45 rfl (lv_at hl 3 rfl) ?_
        exact W.iret (v := nI pp) hx hb hr (fun t ht hW => ⟨nI pp, rfl, by show _ = _; rw [stepN_off (by omega)], ht⟩) (fun q h => by cases h) dX7_placeBehind_46
      · rw [sub1_neg (by omega)] at c_3
        refine lv_iload hx hb dX7_placeBehind_38 (lv_at hl 0 rfl) ?_
        refine lv_bipush (v := nI 6) hx hb dX7_placeBehind_40 (by decide) ?_
        refine lv_icmp_lt (tgt := 47) hx hb dX7_placeBehind_42 (by decide) (fun c_4 => ?_) (fun c_4 => ?_)
        · rw [sub1_lt (by omega) (by decide)] at c_4
          refine lv_bipush (v := nI 6) hx hb dX7_placeBehind_47 (by decide) ?_
          refine lv_iload_n hx hb dX7_placeBehind_49 rfl (lv_at hl 1 rfl) ?_
          refine lv_imul hx hb dX7_placeBehind_50 ?_
          refine lv_ri (y := nI (6 * (pp / 6 + d / 3 - 1))) (by rw [pk_sub (by omega), pk_mul]) ?_
          refine lv_iload hx hb dX7_placeBehind_51 (lv_at hl 0 rfl) ?_
          refine lv_iadd hx hb dX7_placeBehind_53 ?_
          refine lv_ri (y := nI (6 * (pp / 6 + d / 3 - 1) + (pp % 6 + d % 3 - 1))) (by rw [pk_sub (by omega), nI_add]) ?_
          refine lv_istore (lv' := [(5, .int (nI (6 * (pp / 6 + d / 3 - 1) + (pp % 6 + d % 3 - 1)))), (4, .int ((nI ((pp % 6) + (d % 3))) - (nI 1))), (3, .int ((nI ((pp / 6) + (d / 3))) - (nI 1))), (0, .ref (q 4)), (1, .int (nI pp)), (2, .int (nI d))]) hx hb dX7_placeBehind_54 hl (by decide) rfl (fun ls hl => ?_)
          refine lv_aload_n hx hb dX7_placeBehind_56 rfl (lv_at hl 3 rfl) ?_
          refine lv_iload hx hb dX7_placeBehind_57 (lv_at hl 0 rfl) ?_
          refine roV (As := [Value.int (nI (6 * (pp / 6 + d / 3 - 1) + (pp % 6 + d % 3 - 1)))]) (rest := []) (kX7_isIsland l dC dI ca (6 * (pp / 6 + d / 3 - 1) + (pp % 6 + d % 3 - 1)) q isl br st so se (by omega)) ⟨hx, hb, hml, hown, htl⟩ (cVg (C := RX7) 1 htl wd_388 wd_389 wd_390 wd_3 wd_391 rfl rfl (by decide +kernel) ⟨Nat.le_of_ble_eq_true rfl, Nat.le_of_ble_eq_true rfl⟩) (hP.sub [0] rfl) hK (va_recv hK hP (ci := 7) (q0 := 0) rfl rfl) rfl hl.1 rfl (Nat.le_of_ble_eq_true rfl) dX7_placeBehind_59 ⟨Nat.zero_le _, Nat.zero_le _⟩ (fun r hr9 => ?_)
          subst hr9
          refine lv_if_eq (tgt := 69) hx hb dX7_placeBehind_62 (by decide) (fun c_5 => ?_) (fun c_5 => ?_)
          · replace c_5 := bI_f c_5
            refine lv_iload hx hb dX7_placeBehind_69 (lv_at hl 0 rfl) ?_
            exact W.iret (v := nI (6 * (pp / 6 + d / 3 - 1) + (pp % 6 + d % 3 - 1))) hx hb hr (fun t ht hW => ⟨nI (6 * (pp / 6 + d / 3 - 1) + (pp % 6 + d % 3 - 1)), rfl, by show _ = _; rw [stepN_on (by omega) c_5], ht⟩) (fun q h => by cases h) dX7_placeBehind_71
          · replace c_5 := bI_t c_5
            refine lv_iload_n hx hb dX7_placeBehind_65 rfl (lv_at hl 4 rfl) ?_
            refine lv_goto (tgt := 71) hx hb dX7_placeBehind_66 (by decide) ?_
            exact W.iret (v := nI pp) hx hb hr (fun t ht hW => ⟨nI pp, rfl, by show _ = _; rw [stepN_isl c_5], ht⟩) (fun q h => by cases h) dX7_placeBehind_71
        · rw [sub1_lt (by omega) (by decide)] at c_4
          refine lv_iload_n hx hb dX7_placeBehind_45 rfl (lv_at hl 3 rfl) ?_
          exact W.iret (v := nI pp) hx hb hr (fun t ht hW => ⟨nI pp, rfl, by show _ = _; rw [stepN_off (by omega)], ht⟩) (fun q h => by cases h) dX7_placeBehind_46
set_option maxRecDepth 100000 in
theorem pt_0 : ∀ ho, ho < 36 → ∀ pp, pp < 36 → s_X1_turn (s_X8_nearer (nI (pp / 6)) (nI (ho / 6))) (s_X8_nearer (nI (pp % 6)) (nI (ho % 6))) = nI (pointN 0 ho pp) := by decide +kernel
set_option maxHeartbeats 4000000 in
set_option maxRecDepth 100000 in
theorem kX8_pointingHome_0 (l : Launch) (dC : Nat → ClassId) (dI : Nat → Nat → Nat) (ca : Nat → ClassId) (h : Nat) (ho : Nat) (pp : Nat) (hho : ho < 36) (hp : pp < 36) : Met l yX8_pointingHome (Cond.code yX8_pointingHome cX8_pointingHome 5 (some .int) :: gT) (rk 2) (ROp (dC, dI) [(h, .inr (1, []))] (TY ca) [Value.ref h, Value.int (nI ho), Value.int (nI pp)]) (vp_Si (fun r => r = nI (pointN 0 ho pp))) 0 0 (fun _ => False) := by
  refine Met.ofW (cc := cX8_pointingHome) (maxL := 5) (ret := (some .int)) (by decide) rfl ?_
  intro p e s m args below meth c s₁ B hml hv
  obtain ⟨rfl, hP, hK⟩ := hv
  have hx := B.exec
  have hb := B.bytes
  have hr := B.returns
  have hts := atoms_spec (ws := (Cond.code yX8_pointingHome cX8_pointingHome 5 (some .int) :: gT)) B.pre
  have htl : ∀ w ∈ gT, w.before _ s = true := fun w h => hts w (List.mem_cons_of_mem _ h)
  have hown : s.vm.findClass RX8 = some m.cls := findClass_of_methodNamed B.named
  have hlocks := B.notSynchronized
  have hl := lv_entry ([Value.ref h, Value.int (nI ho), Value.int (nI pp)]) (n := 5) (Nat.le_of_ble_eq_true rfl)
  rw [lg_entry_eq]
  generalize (lg_sl ([Value.ref h, Value.int (nI ho), Value.int (nI pp)]) ++ List.replicate (5 - (lg_sl ([Value.ref h, Value.int (nI ho), Value.int (nI pp)])).length) Slot.unset).toArray = ls at hl ⊢
  have hl : lv_has ls 5 [(0, .ref h), (1, .int (nI ho)), (2, .int (nI pp))] := hl
  refine lv_iload_n hx hb dX8_pointingHome_0 rfl (lv_at hl 2 rfl) ?_
  refine lv_bipush (v := nI 6) hx hb dX8_pointingHome_1 (by decide) ?_
  refine lv_idiv hx hb dX8_pointingHome_3 (by decide) ?_
  refine lv_ri (y := nI (pp / 6)) (pk_div (by omega) (by decide) (by decide)) ?_
  refine lv_iload_n hx hb dX8_pointingHome_4 rfl (lv_at hl 1 rfl) ?_
  refine lv_bipush (v := nI 6) hx hb dX8_pointingHome_5 (by decide) ?_
  refine lv_idiv hx hb dX8_pointingHome_7 (by decide) ?_
  refine lv_ri (y := nI (ho / 6)) (pk_div (by omega) (by decide) (by decide)) ?_
  refine roS (As := [Value.int (nI (pp / 6)), Value.int (nI (ho / 6))]) (rest := []) (kX8_nearer l dC dI ca (nI (pp / 6)) (nI (ho / 6)) ) ⟨hx, hb, hml, hown, htl⟩ (cSg 2 htl wd_360 wd_361 wd_1 wd_362 rfl rfl (by decide +kernel) ⟨Nat.le_of_ble_eq_true rfl, Nat.le_of_ble_eq_true rfl⟩) (hP.sub [] rfl) hK rfl hl.1 rfl (Nat.le_of_ble_eq_true rfl) dX8_pointingHome_8 ⟨Nat.zero_le _, Nat.zero_le _⟩ (fun r hr9 => ?_)
  subst hr9
  refine lv_istore_n (lv' := [(3, .int (s_X8_nearer (nI (pp / 6)) (nI (ho / 6)))), (0, .ref h), (1, .int (nI ho)), (2, .int (nI pp))]) hx hb dX8_pointingHome_11 rfl hl (by decide) rfl (fun ls hl => ?_)
  refine lv_iload_n hx hb dX8_pointingHome_12 rfl (lv_at hl 3 rfl) ?_
  refine lv_bipush (v := nI 6) hx hb dX8_pointingHome_13 (by decide) ?_
  refine lv_irem hx hb dX8_pointingHome_15 (by decide) ?_
  refine lv_ri (y := nI (pp % 6)) (pk_rem (by omega) (by decide) (by decide)) ?_
  refine lv_iload_n hx hb dX8_pointingHome_16 rfl (lv_at hl 2 rfl) ?_
  refine lv_bipush (v := nI 6) hx hb dX8_pointingHome_17 (by decide) ?_
  refine lv_irem hx hb dX8_pointingHome_19 (by decide) ?_
  refine lv_ri (y := nI (ho % 6)) (pk_rem (by omega) (by decide) (by decide)) ?_
  refine roS (As := [Value.int (nI (pp % 6)), Value.int (nI (ho % 6))]) (rest := []) (kX8_nearer l dC dI ca (nI (pp % 6)) (nI (ho % 6)) ) ⟨hx, hb, hml, hown, htl⟩ (cSg 2 htl wd_360 wd_361 wd_1 wd_362 rfl rfl (by decide +kernel) ⟨Nat.le_of_ble_eq_true rfl, Nat.le_of_ble_eq_true rfl⟩) (hP.sub [] rfl) hK rfl hl.1 rfl (Nat.le_of_ble_eq_true rfl) dX8_pointingHome_20 ⟨Nat.zero_le _, Nat.zero_le _⟩ (fun r hr9 => ?_)
  subst hr9
  refine lv_istore (lv' := [(4, .int (s_X8_nearer (nI (pp % 6)) (nI (ho % 6)))), (3, .int (s_X8_nearer (nI (pp / 6)) (nI (ho / 6)))), (0, .ref h), (1, .int (nI ho)), (2, .int (nI pp))]) hx hb dX8_pointingHome_23 hl (by decide) rfl (fun ls hl => ?_)
  refine lv_aload_n hx hb dX8_pointingHome_25 rfl (lv_at hl 2 rfl) ?_
  refine lv_iload_n hx hb dX8_pointingHome_26 rfl (lv_at hl 1 rfl) ?_
  refine lv_iload hx hb dX8_pointingHome_27 (lv_at hl 0 rfl) ?_
  refine roV (As := [Value.int (s_X8_nearer (nI (pp / 6)) (nI (ho / 6))), Value.int (s_X8_nearer (nI (pp % 6)) (nI (ho % 6)))]) (rest := []) (kX1_turn l dC dI ca h (s_X8_nearer (nI (pp / 6)) (nI (ho / 6))) (s_X8_nearer (nI (pp % 6)) (nI (ho % 6))) ) ⟨hx, hb, hml, hown, htl⟩ (cVg (C := RX1) 2 htl wd_363 wd_364 wd_365 wd_5 wd_379 rfl rfl (by decide +kernel) ⟨Nat.le_of_ble_eq_true rfl, Nat.le_of_ble_eq_true rfl⟩) (hP.sub [0] rfl) hK (va_recv hK hP (ci := 1) (q0 := 0) rfl rfl) rfl hl.1 rfl (Nat.le_of_ble_eq_true rfl) dX8_pointingHome_29 ⟨Nat.zero_le _, Nat.zero_le _⟩ (fun r hr9 => ?_)
  subst hr9
  exact W.iret (v := s_X1_turn (s_X8_nearer (nI (pp / 6)) (nI (ho / 6))) (s_X8_nearer (nI (pp % 6)) (nI (ho % 6)))) hx hb hr (fun t ht hW => ⟨s_X1_turn (s_X8_nearer (nI (pp / 6)) (nI (ho / 6))) (s_X8_nearer (nI (pp % 6)) (nI (ho % 6))), rfl, pt_0 ho hho pp hp, ht⟩) (fun q h => by cases h) dX8_pointingHome_32
set_option maxRecDepth 100000 in
theorem pt_1 : ∀ ho, ho < 36 → ∀ pp, pp < 36 → s_X3_turn (s_X8_nearer (nI (pp / 6)) (nI (ho / 6))) (s_X8_nearer (nI (pp % 6)) (nI (ho % 6))) = nI (pointN 1 ho pp) := by decide +kernel
set_option maxHeartbeats 4000000 in
set_option maxRecDepth 100000 in
theorem kX8_pointingHome_1 (l : Launch) (dC : Nat → ClassId) (dI : Nat → Nat → Nat) (ca : Nat → ClassId) (h : Nat) (ho : Nat) (pp : Nat) (hho : ho < 36) (hp : pp < 36) : Met l yX8_pointingHome (Cond.code yX8_pointingHome cX8_pointingHome 5 (some .int) :: gT) (rk 2) (ROp (dC, dI) [(h, .inr (3, []))] (TY ca) [Value.ref h, Value.int (nI ho), Value.int (nI pp)]) (vp_Si (fun r => r = nI (pointN 1 ho pp))) 0 0 (fun _ => False) := by
  refine Met.ofW (cc := cX8_pointingHome) (maxL := 5) (ret := (some .int)) (by decide) rfl ?_
  intro p e s m args below meth c s₁ B hml hv
  obtain ⟨rfl, hP, hK⟩ := hv
  have hx := B.exec
  have hb := B.bytes
  have hr := B.returns
  have hts := atoms_spec (ws := (Cond.code yX8_pointingHome cX8_pointingHome 5 (some .int) :: gT)) B.pre
  have htl : ∀ w ∈ gT, w.before _ s = true := fun w h => hts w (List.mem_cons_of_mem _ h)
  have hown : s.vm.findClass RX8 = some m.cls := findClass_of_methodNamed B.named
  have hlocks := B.notSynchronized
  have hl := lv_entry ([Value.ref h, Value.int (nI ho), Value.int (nI pp)]) (n := 5) (Nat.le_of_ble_eq_true rfl)
  rw [lg_entry_eq]
  generalize (lg_sl ([Value.ref h, Value.int (nI ho), Value.int (nI pp)]) ++ List.replicate (5 - (lg_sl ([Value.ref h, Value.int (nI ho), Value.int (nI pp)])).length) Slot.unset).toArray = ls at hl ⊢
  have hl : lv_has ls 5 [(0, .ref h), (1, .int (nI ho)), (2, .int (nI pp))] := hl
  refine lv_iload_n hx hb dX8_pointingHome_0 rfl (lv_at hl 2 rfl) ?_
  refine lv_bipush (v := nI 6) hx hb dX8_pointingHome_1 (by decide) ?_
  refine lv_idiv hx hb dX8_pointingHome_3 (by decide) ?_
  refine lv_ri (y := nI (pp / 6)) (pk_div (by omega) (by decide) (by decide)) ?_
  refine lv_iload_n hx hb dX8_pointingHome_4 rfl (lv_at hl 1 rfl) ?_
  refine lv_bipush (v := nI 6) hx hb dX8_pointingHome_5 (by decide) ?_
  refine lv_idiv hx hb dX8_pointingHome_7 (by decide) ?_
  refine lv_ri (y := nI (ho / 6)) (pk_div (by omega) (by decide) (by decide)) ?_
  refine roS (As := [Value.int (nI (pp / 6)), Value.int (nI (ho / 6))]) (rest := []) (kX8_nearer l dC dI ca (nI (pp / 6)) (nI (ho / 6)) ) ⟨hx, hb, hml, hown, htl⟩ (cSg 2 htl wd_360 wd_361 wd_1 wd_362 rfl rfl (by decide +kernel) ⟨Nat.le_of_ble_eq_true rfl, Nat.le_of_ble_eq_true rfl⟩) (hP.sub [] rfl) hK rfl hl.1 rfl (Nat.le_of_ble_eq_true rfl) dX8_pointingHome_8 ⟨Nat.zero_le _, Nat.zero_le _⟩ (fun r hr9 => ?_)
  subst hr9
  refine lv_istore_n (lv' := [(3, .int (s_X8_nearer (nI (pp / 6)) (nI (ho / 6)))), (0, .ref h), (1, .int (nI ho)), (2, .int (nI pp))]) hx hb dX8_pointingHome_11 rfl hl (by decide) rfl (fun ls hl => ?_)
  refine lv_iload_n hx hb dX8_pointingHome_12 rfl (lv_at hl 3 rfl) ?_
  refine lv_bipush (v := nI 6) hx hb dX8_pointingHome_13 (by decide) ?_
  refine lv_irem hx hb dX8_pointingHome_15 (by decide) ?_
  refine lv_ri (y := nI (pp % 6)) (pk_rem (by omega) (by decide) (by decide)) ?_
  refine lv_iload_n hx hb dX8_pointingHome_16 rfl (lv_at hl 2 rfl) ?_
  refine lv_bipush (v := nI 6) hx hb dX8_pointingHome_17 (by decide) ?_
  refine lv_irem hx hb dX8_pointingHome_19 (by decide) ?_
  refine lv_ri (y := nI (ho % 6)) (pk_rem (by omega) (by decide) (by decide)) ?_
  refine roS (As := [Value.int (nI (pp % 6)), Value.int (nI (ho % 6))]) (rest := []) (kX8_nearer l dC dI ca (nI (pp % 6)) (nI (ho % 6)) ) ⟨hx, hb, hml, hown, htl⟩ (cSg 2 htl wd_360 wd_361 wd_1 wd_362 rfl rfl (by decide +kernel) ⟨Nat.le_of_ble_eq_true rfl, Nat.le_of_ble_eq_true rfl⟩) (hP.sub [] rfl) hK rfl hl.1 rfl (Nat.le_of_ble_eq_true rfl) dX8_pointingHome_20 ⟨Nat.zero_le _, Nat.zero_le _⟩ (fun r hr9 => ?_)
  subst hr9
  refine lv_istore (lv' := [(4, .int (s_X8_nearer (nI (pp % 6)) (nI (ho % 6)))), (3, .int (s_X8_nearer (nI (pp / 6)) (nI (ho / 6)))), (0, .ref h), (1, .int (nI ho)), (2, .int (nI pp))]) hx hb dX8_pointingHome_23 hl (by decide) rfl (fun ls hl => ?_)
  refine lv_aload_n hx hb dX8_pointingHome_25 rfl (lv_at hl 2 rfl) ?_
  refine lv_iload_n hx hb dX8_pointingHome_26 rfl (lv_at hl 1 rfl) ?_
  refine lv_iload hx hb dX8_pointingHome_27 (lv_at hl 0 rfl) ?_
  refine roU (As := [Value.int (s_X8_nearer (nI (pp / 6)) (nI (ho / 6))), Value.int (s_X8_nearer (nI (pp % 6)) (nI (ho % 6)))]) (rest := []) (kX3_turn l dC dI ca h (s_X8_nearer (nI (pp / 6)) (nI (ho / 6))) (s_X8_nearer (nI (pp % 6)) (nI (ho % 6))) ) ⟨hx, hb, hml, hown, htl⟩ (cOg (C := RX3) (owner := RX1) (x := yX1_turn) 2 htl wd_363 wd_366 wd_364 wd_370 wd_371 wd_13 wd_372 wd_379 rfl rfl (by decide +kernel) ⟨Nat.le_of_ble_eq_true rfl, Nat.le_of_ble_eq_true rfl⟩) (hP.sub [0] rfl) hK (va_recv hK hP (ci := 3) (q0 := 0) rfl rfl) rfl hl.1 rfl (Nat.le_of_ble_eq_true rfl) dX8_pointingHome_29 ⟨Nat.zero_le _, Nat.zero_le _⟩ (fun r hr9 => ?_)
  subst hr9
  exact W.iret (v := s_X3_turn (s_X8_nearer (nI (pp / 6)) (nI (ho / 6))) (s_X8_nearer (nI (pp % 6)) (nI (ho % 6)))) hx hb hr (fun t ht hW => ⟨s_X3_turn (s_X8_nearer (nI (pp / 6)) (nI (ho / 6))) (s_X8_nearer (nI (pp % 6)) (nI (ho % 6))), rfl, pt_1 ho hho pp hp, ht⟩) (fun q h => by cases h) dX8_pointingHome_32
set_option maxRecDepth 100000 in
theorem pt_2 : ∀ ho, ho < 36 → ∀ pp, pp < 36 → s_X0_turn (s_X8_nearer (nI (pp / 6)) (nI (ho / 6))) (s_X8_nearer (nI (pp % 6)) (nI (ho % 6))) = nI (pointN 2 ho pp) := by decide +kernel
set_option maxHeartbeats 4000000 in
set_option maxRecDepth 100000 in
theorem kX8_pointingHome_2 (l : Launch) (dC : Nat → ClassId) (dI : Nat → Nat → Nat) (ca : Nat → ClassId) (h : Nat) (ho : Nat) (pp : Nat) (hho : ho < 36) (hp : pp < 36) : Met l yX8_pointingHome (Cond.code yX8_pointingHome cX8_pointingHome 5 (some .int) :: gT) (rk 2) (ROp (dC, dI) [(h, .inr (0, []))] (TY ca) [Value.ref h, Value.int (nI ho), Value.int (nI pp)]) (vp_Si (fun r => r = nI (pointN 2 ho pp))) 0 0 (fun _ => False) := by
  refine Met.ofW (cc := cX8_pointingHome) (maxL := 5) (ret := (some .int)) (by decide) rfl ?_
  intro p e s m args below meth c s₁ B hml hv
  obtain ⟨rfl, hP, hK⟩ := hv
  have hx := B.exec
  have hb := B.bytes
  have hr := B.returns
  have hts := atoms_spec (ws := (Cond.code yX8_pointingHome cX8_pointingHome 5 (some .int) :: gT)) B.pre
  have htl : ∀ w ∈ gT, w.before _ s = true := fun w h => hts w (List.mem_cons_of_mem _ h)
  have hown : s.vm.findClass RX8 = some m.cls := findClass_of_methodNamed B.named
  have hlocks := B.notSynchronized
  have hl := lv_entry ([Value.ref h, Value.int (nI ho), Value.int (nI pp)]) (n := 5) (Nat.le_of_ble_eq_true rfl)
  rw [lg_entry_eq]
  generalize (lg_sl ([Value.ref h, Value.int (nI ho), Value.int (nI pp)]) ++ List.replicate (5 - (lg_sl ([Value.ref h, Value.int (nI ho), Value.int (nI pp)])).length) Slot.unset).toArray = ls at hl ⊢
  have hl : lv_has ls 5 [(0, .ref h), (1, .int (nI ho)), (2, .int (nI pp))] := hl
  refine lv_iload_n hx hb dX8_pointingHome_0 rfl (lv_at hl 2 rfl) ?_
  refine lv_bipush (v := nI 6) hx hb dX8_pointingHome_1 (by decide) ?_
  refine lv_idiv hx hb dX8_pointingHome_3 (by decide) ?_
  refine lv_ri (y := nI (pp / 6)) (pk_div (by omega) (by decide) (by decide)) ?_
  refine lv_iload_n hx hb dX8_pointingHome_4 rfl (lv_at hl 1 rfl) ?_
  refine lv_bipush (v := nI 6) hx hb dX8_pointingHome_5 (by decide) ?_
  refine lv_idiv hx hb dX8_pointingHome_7 (by decide) ?_
  refine lv_ri (y := nI (ho / 6)) (pk_div (by omega) (by decide) (by decide)) ?_
  refine roS (As := [Value.int (nI (pp / 6)), Value.int (nI (ho / 6))]) (rest := []) (kX8_nearer l dC dI ca (nI (pp / 6)) (nI (ho / 6)) ) ⟨hx, hb, hml, hown, htl⟩ (cSg 2 htl wd_360 wd_361 wd_1 wd_362 rfl rfl (by decide +kernel) ⟨Nat.le_of_ble_eq_true rfl, Nat.le_of_ble_eq_true rfl⟩) (hP.sub [] rfl) hK rfl hl.1 rfl (Nat.le_of_ble_eq_true rfl) dX8_pointingHome_8 ⟨Nat.zero_le _, Nat.zero_le _⟩ (fun r hr9 => ?_)
  subst hr9
  refine lv_istore_n (lv' := [(3, .int (s_X8_nearer (nI (pp / 6)) (nI (ho / 6)))), (0, .ref h), (1, .int (nI ho)), (2, .int (nI pp))]) hx hb dX8_pointingHome_11 rfl hl (by decide) rfl (fun ls hl => ?_)
  refine lv_iload_n hx hb dX8_pointingHome_12 rfl (lv_at hl 3 rfl) ?_
  refine lv_bipush (v := nI 6) hx hb dX8_pointingHome_13 (by decide) ?_
  refine lv_irem hx hb dX8_pointingHome_15 (by decide) ?_
  refine lv_ri (y := nI (pp % 6)) (pk_rem (by omega) (by decide) (by decide)) ?_
  refine lv_iload_n hx hb dX8_pointingHome_16 rfl (lv_at hl 2 rfl) ?_
  refine lv_bipush (v := nI 6) hx hb dX8_pointingHome_17 (by decide) ?_
  refine lv_irem hx hb dX8_pointingHome_19 (by decide) ?_
  refine lv_ri (y := nI (ho % 6)) (pk_rem (by omega) (by decide) (by decide)) ?_
  refine roS (As := [Value.int (nI (pp % 6)), Value.int (nI (ho % 6))]) (rest := []) (kX8_nearer l dC dI ca (nI (pp % 6)) (nI (ho % 6)) ) ⟨hx, hb, hml, hown, htl⟩ (cSg 2 htl wd_360 wd_361 wd_1 wd_362 rfl rfl (by decide +kernel) ⟨Nat.le_of_ble_eq_true rfl, Nat.le_of_ble_eq_true rfl⟩) (hP.sub [] rfl) hK rfl hl.1 rfl (Nat.le_of_ble_eq_true rfl) dX8_pointingHome_20 ⟨Nat.zero_le _, Nat.zero_le _⟩ (fun r hr9 => ?_)
  subst hr9
  refine lv_istore (lv' := [(4, .int (s_X8_nearer (nI (pp % 6)) (nI (ho % 6)))), (3, .int (s_X8_nearer (nI (pp / 6)) (nI (ho / 6)))), (0, .ref h), (1, .int (nI ho)), (2, .int (nI pp))]) hx hb dX8_pointingHome_23 hl (by decide) rfl (fun ls hl => ?_)
  refine lv_aload_n hx hb dX8_pointingHome_25 rfl (lv_at hl 2 rfl) ?_
  refine lv_iload_n hx hb dX8_pointingHome_26 rfl (lv_at hl 1 rfl) ?_
  refine lv_iload hx hb dX8_pointingHome_27 (lv_at hl 0 rfl) ?_
  refine roU (As := [Value.int (s_X8_nearer (nI (pp / 6)) (nI (ho / 6))), Value.int (s_X8_nearer (nI (pp % 6)) (nI (ho % 6)))]) (rest := []) (kX0_turn l dC dI ca h (s_X8_nearer (nI (pp / 6)) (nI (ho / 6))) (s_X8_nearer (nI (pp % 6)) (nI (ho % 6))) ) ⟨hx, hb, hml, hown, htl⟩ (cOg (C := RX0) (owner := RX1) (x := yX1_turn) 2 htl wd_363 wd_366 wd_364 wd_367 wd_368 wd_14 wd_369 wd_379 rfl rfl (by decide +kernel) ⟨Nat.le_of_ble_eq_true rfl, Nat.le_of_ble_eq_true rfl⟩) (hP.sub [0] rfl) hK (va_recv hK hP (ci := 0) (q0 := 0) rfl rfl) rfl hl.1 rfl (Nat.le_of_ble_eq_true rfl) dX8_pointingHome_29 ⟨Nat.zero_le _, Nat.zero_le _⟩ (fun r hr9 => ?_)
  subst hr9
  exact W.iret (v := s_X0_turn (s_X8_nearer (nI (pp / 6)) (nI (ho / 6))) (s_X8_nearer (nI (pp % 6)) (nI (ho % 6)))) hx hb hr (fun t ht hW => ⟨s_X0_turn (s_X8_nearer (nI (pp / 6)) (nI (ho / 6))) (s_X8_nearer (nI (pp % 6)) (nI (ho % 6))), rfl, pt_2 ho hho pp hp, ht⟩) (fun q h => by cases h) dX8_pointingHome_32
set_option maxRecDepth 100000 in
theorem pt_3 : ∀ ho, ho < 36 → ∀ pp, pp < 36 → s_X6_turn (s_X8_nearer (nI (pp / 6)) (nI (ho / 6))) (s_X8_nearer (nI (pp % 6)) (nI (ho % 6))) = nI (pointN 3 ho pp) := by decide +kernel
set_option maxHeartbeats 4000000 in
set_option maxRecDepth 100000 in
theorem kX8_pointingHome_3 (l : Launch) (dC : Nat → ClassId) (dI : Nat → Nat → Nat) (ca : Nat → ClassId) (h : Nat) (ho : Nat) (pp : Nat) (hho : ho < 36) (hp : pp < 36) : Met l yX8_pointingHome (Cond.code yX8_pointingHome cX8_pointingHome 5 (some .int) :: gT) (rk 2) (ROp (dC, dI) [(h, .inr (6, []))] (TY ca) [Value.ref h, Value.int (nI ho), Value.int (nI pp)]) (vp_Si (fun r => r = nI (pointN 3 ho pp))) 0 0 (fun _ => False) := by
  refine Met.ofW (cc := cX8_pointingHome) (maxL := 5) (ret := (some .int)) (by decide) rfl ?_
  intro p e s m args below meth c s₁ B hml hv
  obtain ⟨rfl, hP, hK⟩ := hv
  have hx := B.exec
  have hb := B.bytes
  have hr := B.returns
  have hts := atoms_spec (ws := (Cond.code yX8_pointingHome cX8_pointingHome 5 (some .int) :: gT)) B.pre
  have htl : ∀ w ∈ gT, w.before _ s = true := fun w h => hts w (List.mem_cons_of_mem _ h)
  have hown : s.vm.findClass RX8 = some m.cls := findClass_of_methodNamed B.named
  have hlocks := B.notSynchronized
  have hl := lv_entry ([Value.ref h, Value.int (nI ho), Value.int (nI pp)]) (n := 5) (Nat.le_of_ble_eq_true rfl)
  rw [lg_entry_eq]
  generalize (lg_sl ([Value.ref h, Value.int (nI ho), Value.int (nI pp)]) ++ List.replicate (5 - (lg_sl ([Value.ref h, Value.int (nI ho), Value.int (nI pp)])).length) Slot.unset).toArray = ls at hl ⊢
  have hl : lv_has ls 5 [(0, .ref h), (1, .int (nI ho)), (2, .int (nI pp))] := hl
  refine lv_iload_n hx hb dX8_pointingHome_0 rfl (lv_at hl 2 rfl) ?_
  refine lv_bipush (v := nI 6) hx hb dX8_pointingHome_1 (by decide) ?_
  refine lv_idiv hx hb dX8_pointingHome_3 (by decide) ?_
  refine lv_ri (y := nI (pp / 6)) (pk_div (by omega) (by decide) (by decide)) ?_
  refine lv_iload_n hx hb dX8_pointingHome_4 rfl (lv_at hl 1 rfl) ?_
  refine lv_bipush (v := nI 6) hx hb dX8_pointingHome_5 (by decide) ?_
  refine lv_idiv hx hb dX8_pointingHome_7 (by decide) ?_
  refine lv_ri (y := nI (ho / 6)) (pk_div (by omega) (by decide) (by decide)) ?_
  refine roS (As := [Value.int (nI (pp / 6)), Value.int (nI (ho / 6))]) (rest := []) (kX8_nearer l dC dI ca (nI (pp / 6)) (nI (ho / 6)) ) ⟨hx, hb, hml, hown, htl⟩ (cSg 2 htl wd_360 wd_361 wd_1 wd_362 rfl rfl (by decide +kernel) ⟨Nat.le_of_ble_eq_true rfl, Nat.le_of_ble_eq_true rfl⟩) (hP.sub [] rfl) hK rfl hl.1 rfl (Nat.le_of_ble_eq_true rfl) dX8_pointingHome_8 ⟨Nat.zero_le _, Nat.zero_le _⟩ (fun r hr9 => ?_)
  subst hr9
  refine lv_istore_n (lv' := [(3, .int (s_X8_nearer (nI (pp / 6)) (nI (ho / 6)))), (0, .ref h), (1, .int (nI ho)), (2, .int (nI pp))]) hx hb dX8_pointingHome_11 rfl hl (by decide) rfl (fun ls hl => ?_)
  refine lv_iload_n hx hb dX8_pointingHome_12 rfl (lv_at hl 3 rfl) ?_
  refine lv_bipush (v := nI 6) hx hb dX8_pointingHome_13 (by decide) ?_
  refine lv_irem hx hb dX8_pointingHome_15 (by decide) ?_
  refine lv_ri (y := nI (pp % 6)) (pk_rem (by omega) (by decide) (by decide)) ?_
  refine lv_iload_n hx hb dX8_pointingHome_16 rfl (lv_at hl 2 rfl) ?_
  refine lv_bipush (v := nI 6) hx hb dX8_pointingHome_17 (by decide) ?_
  refine lv_irem hx hb dX8_pointingHome_19 (by decide) ?_
  refine lv_ri (y := nI (ho % 6)) (pk_rem (by omega) (by decide) (by decide)) ?_
  refine roS (As := [Value.int (nI (pp % 6)), Value.int (nI (ho % 6))]) (rest := []) (kX8_nearer l dC dI ca (nI (pp % 6)) (nI (ho % 6)) ) ⟨hx, hb, hml, hown, htl⟩ (cSg 2 htl wd_360 wd_361 wd_1 wd_362 rfl rfl (by decide +kernel) ⟨Nat.le_of_ble_eq_true rfl, Nat.le_of_ble_eq_true rfl⟩) (hP.sub [] rfl) hK rfl hl.1 rfl (Nat.le_of_ble_eq_true rfl) dX8_pointingHome_20 ⟨Nat.zero_le _, Nat.zero_le _⟩ (fun r hr9 => ?_)
  subst hr9
  refine lv_istore (lv' := [(4, .int (s_X8_nearer (nI (pp % 6)) (nI (ho % 6)))), (3, .int (s_X8_nearer (nI (pp / 6)) (nI (ho / 6)))), (0, .ref h), (1, .int (nI ho)), (2, .int (nI pp))]) hx hb dX8_pointingHome_23 hl (by decide) rfl (fun ls hl => ?_)
  refine lv_aload_n hx hb dX8_pointingHome_25 rfl (lv_at hl 2 rfl) ?_
  refine lv_iload_n hx hb dX8_pointingHome_26 rfl (lv_at hl 1 rfl) ?_
  refine lv_iload hx hb dX8_pointingHome_27 (lv_at hl 0 rfl) ?_
  refine roU (As := [Value.int (s_X8_nearer (nI (pp / 6)) (nI (ho / 6))), Value.int (s_X8_nearer (nI (pp % 6)) (nI (ho % 6)))]) (rest := []) (kX6_turn l dC dI ca h (s_X8_nearer (nI (pp / 6)) (nI (ho / 6))) (s_X8_nearer (nI (pp % 6)) (nI (ho % 6))) ) ⟨hx, hb, hml, hown, htl⟩ (cOg (C := RX6) (owner := RX1) (x := yX1_turn) 2 htl wd_363 wd_366 wd_364 wd_376 wd_377 wd_15 wd_378 wd_379 rfl rfl (by decide +kernel) ⟨Nat.le_of_ble_eq_true rfl, Nat.le_of_ble_eq_true rfl⟩) (hP.sub [0] rfl) hK (va_recv hK hP (ci := 6) (q0 := 0) rfl rfl) rfl hl.1 rfl (Nat.le_of_ble_eq_true rfl) dX8_pointingHome_29 ⟨Nat.zero_le _, Nat.zero_le _⟩ (fun r hr9 => ?_)
  subst hr9
  exact W.iret (v := s_X6_turn (s_X8_nearer (nI (pp / 6)) (nI (ho / 6))) (s_X8_nearer (nI (pp % 6)) (nI (ho % 6)))) hx hb hr (fun t ht hW => ⟨s_X6_turn (s_X8_nearer (nI (pp / 6)) (nI (ho / 6))) (s_X8_nearer (nI (pp % 6)) (nI (ho % 6))), rfl, pt_3 ho hho pp hp, ht⟩) (fun q h => by cases h) dX8_pointingHome_32
set_option maxRecDepth 100000 in
theorem pt_4 : ∀ ho, ho < 36 → ∀ pp, pp < 36 → s_X4_turn (s_X8_nearer (nI (pp / 6)) (nI (ho / 6))) (s_X8_nearer (nI (pp % 6)) (nI (ho % 6))) = nI (pointN 4 ho pp) := by decide +kernel
set_option maxHeartbeats 4000000 in
set_option maxRecDepth 100000 in
theorem kX8_pointingHome_4 (l : Launch) (dC : Nat → ClassId) (dI : Nat → Nat → Nat) (ca : Nat → ClassId) (h : Nat) (ho : Nat) (pp : Nat) (hho : ho < 36) (hp : pp < 36) : Met l yX8_pointingHome (Cond.code yX8_pointingHome cX8_pointingHome 5 (some .int) :: gT) (rk 2) (ROp (dC, dI) [(h, .inr (4, []))] (TY ca) [Value.ref h, Value.int (nI ho), Value.int (nI pp)]) (vp_Si (fun r => r = nI (pointN 4 ho pp))) 0 0 (fun _ => False) := by
  refine Met.ofW (cc := cX8_pointingHome) (maxL := 5) (ret := (some .int)) (by decide) rfl ?_
  intro p e s m args below meth c s₁ B hml hv
  obtain ⟨rfl, hP, hK⟩ := hv
  have hx := B.exec
  have hb := B.bytes
  have hr := B.returns
  have hts := atoms_spec (ws := (Cond.code yX8_pointingHome cX8_pointingHome 5 (some .int) :: gT)) B.pre
  have htl : ∀ w ∈ gT, w.before _ s = true := fun w h => hts w (List.mem_cons_of_mem _ h)
  have hown : s.vm.findClass RX8 = some m.cls := findClass_of_methodNamed B.named
  have hlocks := B.notSynchronized
  have hl := lv_entry ([Value.ref h, Value.int (nI ho), Value.int (nI pp)]) (n := 5) (Nat.le_of_ble_eq_true rfl)
  rw [lg_entry_eq]
  generalize (lg_sl ([Value.ref h, Value.int (nI ho), Value.int (nI pp)]) ++ List.replicate (5 - (lg_sl ([Value.ref h, Value.int (nI ho), Value.int (nI pp)])).length) Slot.unset).toArray = ls at hl ⊢
  have hl : lv_has ls 5 [(0, .ref h), (1, .int (nI ho)), (2, .int (nI pp))] := hl
  refine lv_iload_n hx hb dX8_pointingHome_0 rfl (lv_at hl 2 rfl) ?_
  refine lv_bipush (v := nI 6) hx hb dX8_pointingHome_1 (by decide) ?_
  refine lv_idiv hx hb dX8_pointingHome_3 (by decide) ?_
  refine lv_ri (y := nI (pp / 6)) (pk_div (by omega) (by decide) (by decide)) ?_
  refine lv_iload_n hx hb dX8_pointingHome_4 rfl (lv_at hl 1 rfl) ?_
  refine lv_bipush (v := nI 6) hx hb dX8_pointingHome_5 (by decide) ?_
  refine lv_idiv hx hb dX8_pointingHome_7 (by decide) ?_
  refine lv_ri (y := nI (ho / 6)) (pk_div (by omega) (by decide) (by decide)) ?_
  refine roS (As := [Value.int (nI (pp / 6)), Value.int (nI (ho / 6))]) (rest := []) (kX8_nearer l dC dI ca (nI (pp / 6)) (nI (ho / 6)) ) ⟨hx, hb, hml, hown, htl⟩ (cSg 2 htl wd_360 wd_361 wd_1 wd_362 rfl rfl (by decide +kernel) ⟨Nat.le_of_ble_eq_true rfl, Nat.le_of_ble_eq_true rfl⟩) (hP.sub [] rfl) hK rfl hl.1 rfl (Nat.le_of_ble_eq_true rfl) dX8_pointingHome_8 ⟨Nat.zero_le _, Nat.zero_le _⟩ (fun r hr9 => ?_)
  subst hr9
  refine lv_istore_n (lv' := [(3, .int (s_X8_nearer (nI (pp / 6)) (nI (ho / 6)))), (0, .ref h), (1, .int (nI ho)), (2, .int (nI pp))]) hx hb dX8_pointingHome_11 rfl hl (by decide) rfl (fun ls hl => ?_)
  refine lv_iload_n hx hb dX8_pointingHome_12 rfl (lv_at hl 3 rfl) ?_
  refine lv_bipush (v := nI 6) hx hb dX8_pointingHome_13 (by decide) ?_
  refine lv_irem hx hb dX8_pointingHome_15 (by decide) ?_
  refine lv_ri (y := nI (pp % 6)) (pk_rem (by omega) (by decide) (by decide)) ?_
  refine lv_iload_n hx hb dX8_pointingHome_16 rfl (lv_at hl 2 rfl) ?_
  refine lv_bipush (v := nI 6) hx hb dX8_pointingHome_17 (by decide) ?_
  refine lv_irem hx hb dX8_pointingHome_19 (by decide) ?_
  refine lv_ri (y := nI (ho % 6)) (pk_rem (by omega) (by decide) (by decide)) ?_
  refine roS (As := [Value.int (nI (pp % 6)), Value.int (nI (ho % 6))]) (rest := []) (kX8_nearer l dC dI ca (nI (pp % 6)) (nI (ho % 6)) ) ⟨hx, hb, hml, hown, htl⟩ (cSg 2 htl wd_360 wd_361 wd_1 wd_362 rfl rfl (by decide +kernel) ⟨Nat.le_of_ble_eq_true rfl, Nat.le_of_ble_eq_true rfl⟩) (hP.sub [] rfl) hK rfl hl.1 rfl (Nat.le_of_ble_eq_true rfl) dX8_pointingHome_20 ⟨Nat.zero_le _, Nat.zero_le _⟩ (fun r hr9 => ?_)
  subst hr9
  refine lv_istore (lv' := [(4, .int (s_X8_nearer (nI (pp % 6)) (nI (ho % 6)))), (3, .int (s_X8_nearer (nI (pp / 6)) (nI (ho / 6)))), (0, .ref h), (1, .int (nI ho)), (2, .int (nI pp))]) hx hb dX8_pointingHome_23 hl (by decide) rfl (fun ls hl => ?_)
  refine lv_aload_n hx hb dX8_pointingHome_25 rfl (lv_at hl 2 rfl) ?_
  refine lv_iload_n hx hb dX8_pointingHome_26 rfl (lv_at hl 1 rfl) ?_
  refine lv_iload hx hb dX8_pointingHome_27 (lv_at hl 0 rfl) ?_
  refine roU (As := [Value.int (s_X8_nearer (nI (pp / 6)) (nI (ho / 6))), Value.int (s_X8_nearer (nI (pp % 6)) (nI (ho % 6)))]) (rest := []) (kX4_turn l dC dI ca h (s_X8_nearer (nI (pp / 6)) (nI (ho / 6))) (s_X8_nearer (nI (pp % 6)) (nI (ho % 6))) ) ⟨hx, hb, hml, hown, htl⟩ (cOg (C := RX4) (owner := RX1) (x := yX1_turn) 2 htl wd_363 wd_366 wd_364 wd_373 wd_374 wd_16 wd_375 wd_379 rfl rfl (by decide +kernel) ⟨Nat.le_of_ble_eq_true rfl, Nat.le_of_ble_eq_true rfl⟩) (hP.sub [0] rfl) hK (va_recv hK hP (ci := 4) (q0 := 0) rfl rfl) rfl hl.1 rfl (Nat.le_of_ble_eq_true rfl) dX8_pointingHome_29 ⟨Nat.zero_le _, Nat.zero_le _⟩ (fun r hr9 => ?_)
  subst hr9
  exact W.iret (v := s_X4_turn (s_X8_nearer (nI (pp / 6)) (nI (ho / 6))) (s_X8_nearer (nI (pp % 6)) (nI (ho % 6)))) hx hb hr (fun t ht hW => ⟨s_X4_turn (s_X8_nearer (nI (pp / 6)) (nI (ho / 6))) (s_X8_nearer (nI (pp % 6)) (nI (ho % 6))), rfl, pt_4 ho hho pp hp, ht⟩) (fun q h => by cases h) dX8_pointingHome_32
theorem kX8_pointingHome (l : Launch) (dC : Nat → ClassId) (dI : Nat → Nat → Nat) (ca : Nat → ClassId) (h : Nat) (k : Nat) (ho : Nat) (pp : Nat) (hk : k < 5) (hho : ho < 36) (hp : pp < 36) : Met l yX8_pointingHome (Cond.code yX8_pointingHome cX8_pointingHome 5 (some .int) :: gT) (rk 2) (ROp (dC, dI) [(h, .inr (kc k, []))] (TY ca) [Value.ref h, Value.int (nI ho), Value.int (nI pp)]) (vp_Si (fun r => r = nI (pointN k ho pp))) 0 0 (fun _ => False) := by
  match k, hk with
  | 0, _ => exact kX8_pointingHome_0 l dC dI ca h ho pp hho hp
  | 1, _ => exact kX8_pointingHome_1 l dC dI ca h ho pp hho hp
  | 2, _ => exact kX8_pointingHome_2 l dC dI ca h ho pp hho hp
  | 3, _ => exact kX8_pointingHome_3 l dC dI ca h ho pp hho hp
  | 4, _ => exact kX8_pointingHome_4 l dC dI ca h ho pp hho hp
  | n + 5, hk => exact absurd hk (by omega)
set_option maxHeartbeats 4000000 in
set_option maxRecDepth 100000 in
theorem kX8_pointing (l : Launch) (dC : Nat → ClassId) (dI : Nat → Nat → Nat) (ca : Nat → ClassId) (i : Nat) (pp : Nat) (q : Nat → Nat) (qn : Nat → Nat) (kd : Nat → Nat) (nc : Nat) (sr : Int32) (ik : Int32) (isl : Int64) (br : Nat) (st : Int32) (so : Int32) (se : Nat) (hm : Nat → Nat) (hi : i < 4) (hp : pp < 36) (hkd : ∀ j, j < 4 → kd j < 5) (hhm : ∀ j, j < 4 → hm j < 36) : Met l yX8_pointing (Cond.code yX8_pointing cX8_pointing 3 (some .int) :: gT) (rk 3) (ROp (dC, dI) [(q 0, .inr (8, [.ref (q 1), .ref (q 3), .ref (q 4), .ref (q 9), .ref (q 14), .ref (q 15), .ref (q 16), .ref (q 17), .int (nI nc), .int sr, .int ik])), (q 3, .inl (ca 1, 4, .inr (.inr (.inr (.inr (fun zj => some (qn zj))))))), (q 4, .inr (7, [.ref (q 5), .ref (q 6), .ref (q 7), .ref (q 8), .long isl, .int (nI br), .int st, .int so, .int (nI se)])), (q 5, .inl (ca 2, 4, .inl (fun zj => nI (hm zj)))), (qn i, .inr (kc (kd i), []))] (TY ca) [Value.ref (q 0), Value.int (nI i), Value.int (nI pp)]) (vp_Si (fun r => r = nI (pointN (kd i) (hm i) pp))) 0 0 (fun _ => False) := by
  refine Met.ofW (cc := cX8_pointing) (maxL := 3) (ret := (some .int)) (by decide) rfl ?_
  intro p e s m args below meth c s₁ B hml hv
  obtain ⟨rfl, hP, hK⟩ := hv
  have hx := B.exec
  have hb := B.bytes
  have hr := B.returns
  have hts := atoms_spec (ws := (Cond.code yX8_pointing cX8_pointing 3 (some .int) :: gT)) B.pre
  have htl : ∀ w ∈ gT, w.before _ s = true := fun w h => hts w (List.mem_cons_of_mem _ h)
  have hown : s.vm.findClass RX8 = some m.cls := findClass_of_methodNamed B.named
  have hlocks := B.notSynchronized
  have hl := lv_entry ([Value.ref (q 0), Value.int (nI i), Value.int (nI pp)]) (n := 3) (Nat.le_of_ble_eq_true rfl)
  rw [lg_entry_eq]
  generalize (lg_sl ([Value.ref (q 0), Value.int (nI i), Value.int (nI pp)]) ++ List.replicate (3 - (lg_sl ([Value.ref (q 0), Value.int (nI i), Value.int (nI pp)])).length) Slot.unset).toArray = ls at hl ⊢
  have hl : lv_has ls 3 [(0, .ref (q 0)), (1, .int (nI i)), (2, .int (nI pp))] := hl
  refine lv_aload_n hx hb dX8_pointing_0 rfl (lv_at hl 0 rfl) ?_
  refine va_get (D := (dC, dI)) (ci := 8) (v := .ref (q 3)) (C := RX8) (T := TX8) (N := 11) hx hb htl iX8 hown hK hP 0 rfl rfl 1 (by decide) (htl _ wd_112) (fun _ h9 => h9) rfl dX8_pointing_1 ?_
  refine lv_iload_n hx hb dX8_pointing_4 rfl (lv_at hl 1 rfl) ?_
  refine va_aldq hx hb hK hP 1 1 rfl rfl (vp_in_nI (by omega) (by decide)) dX8_pointing_5 ?_
  refine lv_rv (y := .ref (qn i)) (congrArg (fun zj => va_rf (some (qn zj))) (nI_clamp (by omega))) ?_
  refine lv_aload_n hx hb dX8_pointing_6 rfl (lv_at hl 0 rfl) ?_
  refine va_get (D := (dC, dI)) (ci := 8) (v := .ref (q 4)) (C := RX8) (T := TX8) (N := 11) hx hb htl iX8 hown hK hP 0 rfl rfl 2 (by decide) (htl _ wd_113) (fun _ h9 => h9) rfl dX8_pointing_7 ?_
  refine va_get (D := (dC, dI)) (ci := 7) (v := .ref (q 5)) (C := RX7) (T := TX7) (N := 9) hx hb htl iX7 hown hK hP 2 rfl rfl 0 (by decide) (htl _ wd_53) (fun _ h9 => h9) rfl dX8_pointing_10 ?_
  refine lv_iload_n hx hb dX8_pointing_13 rfl (lv_at hl 1 rfl) ?_
  refine va_iald hx hb hK hP 3 2 rfl rfl (vp_in_nI (by omega) (by decide)) dX8_pointing_14 ?_
  refine lv_ri (y := nI (hm i)) (congrArg (fun zj => nI (hm zj)) (nI_clamp (by omega))) ?_
  refine lv_iload_n hx hb dX8_pointing_15 rfl (lv_at hl 2 rfl) ?_
  refine roS (As := [Value.ref (qn i), Value.int (nI (hm i)), Value.int (nI pp)]) (rest := []) (kX8_pointingHome l dC dI ca (qn i) (kd i) (hm i) pp (hkd i hi) (hhm i hi) hp) ⟨hx, hb, hml, hown, htl⟩ (cSg 3 htl wd_357 wd_358 wd_1 wd_359 rfl rfl (by decide +kernel) ⟨Nat.le_of_ble_eq_true rfl, Nat.le_of_ble_eq_true rfl⟩) (hP.sub [4] rfl) hK rfl hl.1 rfl (Nat.le_of_ble_eq_true rfl) dX8_pointing_16 ⟨Nat.zero_le _, Nat.zero_le _⟩ (fun r hr9 => ?_)
  subst hr9
  exact W.iret (v := nI (pointN (kd i) (hm i) pp)) hx hb hr (fun t ht hW => ⟨nI (pointN (kd i) (hm i) pp), rfl, rfl, ht⟩) (fun q h => by cases h) dX8_pointing_19
def downsN (f : Nat → Nat) : Nat → Nat → Nat → Nat
  | 0, _, d => d
  | n + 1, i, d => downsN f n (i + 1) (if f i = 4 then d + 1 else d)
set_option maxHeartbeats 4000000 in
set_option maxRecDepth 100000 in
theorem kX8_needlesDownAt (l : Launch) (dC : Nat → ClassId) (dI : Nat → Nat → Nat) (ca : Nat → ClassId) (pp : Nat) (q : Nat → Nat) (qn : Nat → Nat) (kd : Nat → Nat) (nc : Nat) (sr : Int32) (ik : Int32) (isl : Int64) (br : Nat) (st : Int32) (so : Int32) (se : Nat) (hm : Nat → Nat) (hp : pp < 36) (hnc : nc ≤ 4) (hkd : ∀ j, j < 4 → kd j < 5) (hhm : ∀ j, j < 4 → hm j < 36) : Met l yX8_needlesDownAt (Cond.code yX8_needlesDownAt cX8_needlesDownAt 4 (some .int) :: gT) (rk 4) (ROp (dC, dI) [(q 0, .inr (8, [.ref (q 1), .ref (q 3), .ref (q 4), .ref (q 9), .ref (q 14), .ref (q 15), .ref (q 16), .ref (q 17), .int (nI nc), .int sr, .int ik])), (q 3, .inl (ca 1, 4, .inr (.inr (.inr (.inr (fun zj => some (qn zj))))))), (q 4, .inr (7, [.ref (q 5), .ref (q 6), .ref (q 7), .ref (q 8), .long isl, .int (nI br), .int st, .int so, .int (nI se)])), (q 5, .inl (ca 2, 4, .inl (fun zj => nI (hm zj)))), (qn 0, .inr (kc (kd 0), [])), (qn 1, .inr (kc (kd 1), [])), (qn 2, .inr (kc (kd 2), [])), (qn 3, .inr (kc (kd 3), []))] (TY ca) [Value.ref (q 0), Value.int (nI pp)]) (vp_Si (fun r => r = nI (downsN (fun i => pointN (kd i) (hm i) pp) nc 0 0))) 0 0 (fun _ => False) := by
  refine Met.ofW (cc := cX8_needlesDownAt) (maxL := 4) (ret := (some .int)) (by decide) rfl ?_
  intro p e s m args below meth c s₁ B hml hv
  obtain ⟨rfl, hP, hK⟩ := hv
  have hx := B.exec
  have hb := B.bytes
  have hr := B.returns
  have hts := atoms_spec (ws := (Cond.code yX8_needlesDownAt cX8_needlesDownAt 4 (some .int) :: gT)) B.pre
  have htl : ∀ w ∈ gT, w.before _ s = true := fun w h => hts w (List.mem_cons_of_mem _ h)
  have hown : s.vm.findClass RX8 = some m.cls := findClass_of_methodNamed B.named
  have hlocks := B.notSynchronized
  have hl := lv_entry ([Value.ref (q 0), Value.int (nI pp)]) (n := 4) (Nat.le_of_ble_eq_true rfl)
  rw [lg_entry_eq]
  generalize (lg_sl ([Value.ref (q 0), Value.int (nI pp)]) ++ List.replicate (4 - (lg_sl ([Value.ref (q 0), Value.int (nI pp)])).length) Slot.unset).toArray = ls at hl ⊢
  have hl : lv_has ls 4 [(0, .ref (q 0)), (1, .int (nI pp))] := hl
  refine lv_iconst (v := nI 0) hx hb dX8_needlesDownAt_0 (by decide) ?_
  refine lv_istore_n (lv' := [(2, .int (nI 0)), (0, .ref (q 0)), (1, .int (nI pp))]) hx hb dX8_needlesDownAt_1 rfl hl (by decide) rfl (fun ls hl => ?_)
  refine lv_iconst (v := nI 0) hx hb dX8_needlesDownAt_2 (by decide) ?_
  refine lv_istore_n (lv' := [(3, .int (nI 0)), (2, .int (nI 0)), (0, .ref (q 0)), (1, .int (nI pp))]) hx hb dX8_needlesDownAt_3 rfl hl (by decide) rfl (fun ls hl => ?_)
  have lp4 : ∀ (n : Nat) (i : Nat) (d : Nat), (i + n = nc) → (downsN (fun i => pointN (kd i) (hm i) pp) n i d = downsN (fun i => pointN (kd i) (hm i) pp) nc 0 0) → ∀ (ls : Array Slot), lv_has ls 4 [(3, .int (nI i)), (2, .int (nI d)), (0, .ref (q 0)), (1, .int (nI pp))] → W p l e (headSpec (Cond.code yX8_needlesDownAt cX8_needlesDownAt 4 (some .int) :: gT) (rk 4)).room s m ([Value.ref (q 0), Value.int (nI pp)] : List Value).toArray below meth c s.heap [] 0 0 (MQ below (vp_Si (fun r => r = nI (downsN (fun i => pointN (kd i) (hm i) pp) nc 0 0))) ([Value.ref (q 0), Value.int (nI pp)] : List Value).toArray s 0 0 (fun _ => False)) (F0 m 4 ls []) := by
    clear hl
    intro n
    induction n with
    | zero =>
      intro i d hi hR ls hl
      refine lv_iload_n hx hb dX8_needlesDownAt_4 rfl (lv_at hl 0 rfl) ?_
      refine lv_aload_n hx hb dX8_needlesDownAt_5 rfl (lv_at hl 2 rfl) ?_
      refine va_get (D := (dC, dI)) (ci := 8) (v := .int (nI nc)) (C := RX8) (T := TX8) (N := 11) hx hb htl iX8 hown hK hP 0 rfl rfl 8 (by decide) (htl _ wd_119) (fun _ h9 => h9) rfl dX8_needlesDownAt_6 ?_
      refine lv_icmp_ge (tgt := 31) hx hb dX8_needlesDownAt_9 (by decide) (fun c_1 => ?_) (fun c_1 => ?_)
      · refine lv_iload_n hx hb dX8_needlesDownAt_31 rfl (lv_at hl 1 rfl) ?_
        exact W.iret (v := nI d) hx hb hr (fun t ht hW => ⟨nI d, rfl, by show _ = _; rw [← hR]; rfl, ht⟩) (fun q h => by cases h) dX8_needlesDownAt_32
      · exact absurd (nI_le (by omega) (by omega)) c_1
    | succ n ih4 =>
      intro i d hi hR ls hl
      refine lv_iload_n hx hb dX8_needlesDownAt_4 rfl (lv_at hl 0 rfl) ?_
      refine lv_aload_n hx hb dX8_needlesDownAt_5 rfl (lv_at hl 2 rfl) ?_
      refine va_get (D := (dC, dI)) (ci := 8) (v := .int (nI nc)) (C := RX8) (T := TX8) (N := 11) hx hb htl iX8 hown hK hP 0 rfl rfl 8 (by decide) (htl _ wd_119) (fun _ h9 => h9) rfl dX8_needlesDownAt_6 ?_
      refine lv_icmp_ge (tgt := 31) hx hb dX8_needlesDownAt_9 (by decide) (fun c_2 => ?_) (fun c_2 => ?_)
      · exact absurd c_2 (nI_ge (by omega) (by omega))
      · refine lv_aload_n hx hb dX8_needlesDownAt_12 rfl (lv_at hl 2 rfl) ?_
        refine lv_iload_n hx hb dX8_needlesDownAt_13 rfl (lv_at hl 0 rfl) ?_
        refine lv_iload_n hx hb dX8_needlesDownAt_14 rfl (lv_at hl 3 rfl) ?_
        refine roV (As := [Value.int (nI i), Value.int (nI pp)]) (rest := []) (kX8_pointing l dC dI ca i pp q qn kd nc sr ik isl br st so se hm (by omega) hp hkd hhm) ⟨hx, hb, hml, hown, htl⟩ (cVg (C := RX8) 2 htl wd_353 wd_355 wp_3 wd_1 wd_356 rfl rfl (by decide +kernel) ⟨Nat.le_of_ble_eq_true rfl, Nat.le_of_ble_eq_true rfl⟩) (va_P.app (hP.sub [0, 1, 2, 3] rfl) (nd4 hP i (by omega) 4 5 6 7 rfl rfl rfl rfl)) hK (va_recv hK hP (ci := 8) (q0 := 0) rfl rfl) rfl hl.1 rfl (Nat.le_of_ble_eq_true rfl) dX8_needlesDownAt_15 ⟨Nat.zero_le _, Nat.zero_le _⟩ (fun r hr9 => ?_)
        subst hr9
        refine lv_iconst (v := nI 4) hx hb dX8_needlesDownAt_18 (by decide) ?_
        refine lv_icmp_ne (tgt := 25) hx hb dX8_needlesDownAt_19 (by decide) (fun c_3 => ?_) (fun c_3 => ?_)
        · rw [nI_eq (Nat.lt_trans (pointN_lt _ _ _) (by decide)) (by decide)] at c_3
          refine lv_iinc (v := nI (i + 1)) (lv' := [(3, .int (nI (i + 1))), (2, .int (nI d)), (0, .ref (q 0)), (1, .int (nI pp))]) hx hb dX8_needlesDownAt_25 hl (k := 0) rfl (nI_add i 1) (by decide) rfl (fun ls hl => ?_)
          refine lv_goto (tgt := 4) hx hb dX8_needlesDownAt_28 (by decide) ?_
          exact ih4 (i + 1) d (by omega) (by simp only [downsN, c_3, ↓reduceIte] at hR; exact hR) ls (lv_sub hl [0, 1, 2, 3] rfl)
        · rw [nI_eq (Nat.lt_trans (pointN_lt _ _ _) (by decide)) (by decide)] at c_3
          refine lv_iinc (v := nI (d + 1)) (lv' := [(2, .int (nI (d + 1))), (3, .int (nI i)), (0, .ref (q 0)), (1, .int (nI pp))]) hx hb dX8_needlesDownAt_22 hl (k := 1) rfl (nI_add d 1) (by decide) rfl (fun ls hl => ?_)
          refine lv_iinc (v := nI (i + 1)) (lv' := [(3, .int (nI (i + 1))), (2, .int (nI (d + 1))), (0, .ref (q 0)), (1, .int (nI pp))]) hx hb dX8_needlesDownAt_25 hl (k := 1) rfl (nI_add i 1) (by decide) rfl (fun ls hl => ?_)
          refine lv_goto (tgt := 4) hx hb dX8_needlesDownAt_28 (by decide) ?_
          exact ih4 (i + 1) (d + 1) (by omega) (by simp only [downsN, c_3, ↓reduceIte] at hR; exact hR) ls (lv_sub hl [0, 1, 2, 3] rfl)
  exact lp4 nc 0 0 (by omega) rfl ls (lv_sub hl [0, 1, 2, 3] rfl)
