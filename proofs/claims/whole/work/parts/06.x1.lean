def s_X8_nearer (x1 : Int32) (x2 : Int32) : Int32 := if x2 ≤ x1 then (if x1 ≤ x2 then (nI 0) else ((-1))) else (nI 1)
set_option maxHeartbeats 4000000 in
set_option maxRecDepth 100000 in
theorem kX8_nearer (l : Launch) (dC : Nat → ClassId) (dI : Nat → Nat → Nat) (ca : Nat → ClassId) (x1 : Int32) (x2 : Int32) : Met l yX8_nearer (Cond.code yX8_nearer cX8_nearer 2 (some .int) :: gT) (rk 1) (ROp (dC, dI) [] (TY ca) [Value.int x1, Value.int x2]) (vp_Si (fun r => r = s_X8_nearer x1 x2)) 0 0 (fun _ => False) := by
  refine Met.ofW (cc := cX8_nearer) (maxL := 2) (ret := (some .int)) (by decide) rfl ?_
  intro p e s m args below meth c s₁ B hml hv
  obtain ⟨rfl, hP, hK⟩ := hv
  have hx := B.exec
  have hb := B.bytes
  have hr := B.returns
  have hts := atoms_spec (ws := (Cond.code yX8_nearer cX8_nearer 2 (some .int) :: gT)) B.pre
  have htl : ∀ w ∈ gT, w.before _ s = true := fun w h => hts w (List.mem_cons_of_mem _ h)
  have hown : s.vm.findClass RX8 = some m.cls := findClass_of_methodNamed B.named
  have hlocks := B.notSynchronized
  have hl := lv_entry ([Value.int x1, Value.int x2]) (n := 2) (Nat.le_of_ble_eq_true rfl)
  rw [lg_entry_eq]
  generalize (lg_sl ([Value.int x1, Value.int x2]) ++ List.replicate (2 - (lg_sl ([Value.int x1, Value.int x2])).length) Slot.unset).toArray = ls at hl ⊢
  have hl : lv_has ls 2 [(0, .int x1), (1, .int x2)] := hl
  refine lv_iload_n hx hb dX8_nearer_0 rfl (lv_at hl 1 rfl) ?_
  refine lv_iload_n hx hb dX8_nearer_1 rfl (lv_at hl 0 rfl) ?_
  refine lv_icmp_le (tgt := 9) hx hb dX8_nearer_2 (by decide) (fun c_1 => ?_) (fun c_1 => ?_)
  · refine lv_iload_n hx hb dX8_nearer_9 rfl (lv_at hl 1 rfl) ?_
    refine lv_iload_n hx hb dX8_nearer_10 rfl (lv_at hl 0 rfl) ?_
    refine lv_icmp_ge (tgt := 18) hx hb dX8_nearer_11 (by decide) (fun c_2 => ?_) (fun c_2 => ?_)
    · refine lv_iconst (v := nI 0) hx hb dX8_nearer_18 (by decide) ?_
      exact W.iret (v := nI 0) hx hb hr (fun t ht hW => ⟨nI 0, rfl, by show _ = _; unfold s_X8_nearer; (first | rw [if_pos c_1] | rw [if_neg c_1] | rw [if_neg (by rw [c_1]; decide)]); (first | rw [if_pos c_2] | rw [if_neg c_2] | rw [if_neg (by rw [c_2]; decide)]); (first | done | rfl), ht⟩) (fun q h => by cases h) dX8_nearer_19
    · refine lv_iconst (v := (-1)) hx hb dX8_nearer_14 (by decide) ?_
      refine lv_goto (tgt := 19) hx hb dX8_nearer_15 (by decide) ?_
      exact W.iret (v := (-1)) hx hb hr (fun t ht hW => ⟨(-1), rfl, by show _ = _; unfold s_X8_nearer; (first | rw [if_pos c_1] | rw [if_neg c_1] | rw [if_neg (by rw [c_1]; decide)]); (first | rw [if_pos c_2] | rw [if_neg c_2] | rw [if_neg (by rw [c_2]; decide)]); (first | done | rfl), ht⟩) (fun q h => by cases h) dX8_nearer_19
  · refine lv_iconst (v := nI 1) hx hb dX8_nearer_5 (by decide) ?_
    refine lv_goto (tgt := 19) hx hb dX8_nearer_6 (by decide) ?_
    exact W.iret (v := nI 1) hx hb hr (fun t ht hW => ⟨nI 1, rfl, by show _ = _; unfold s_X8_nearer; (first | rw [if_pos c_1] | rw [if_neg c_1] | rw [if_neg (by rw [c_1]; decide)]); (first | done | rfl), ht⟩) (fun q h => by cases h) dX8_nearer_19
set_option maxHeartbeats 4000000 in
set_option maxRecDepth 100000 in
theorem kX8_isPlace (l : Launch) (dC : Nat → ClassId) (dI : Nat → Nat → Nat) (ca : Nat → ClassId) (x1 : Int32) : Met l yX8_isPlace (Cond.code yX8_isPlace cX8_isPlace 1 (some .boolean) :: gT) (rk 1) (ROp (dC, dI) [] (TY ca) [Value.int x1]) (vp_Si (fun r => r = bI (rng x1 36))) 0 0 (fun _ => False) := by
  refine Met.ofW (cc := cX8_isPlace) (maxL := 1) (ret := (some .boolean)) (by decide) rfl ?_
  intro p e s m args below meth c s₁ B hml hv
  obtain ⟨rfl, hP, hK⟩ := hv
  have hx := B.exec
  have hb := B.bytes
  have hr := B.returns
  have hts := atoms_spec (ws := (Cond.code yX8_isPlace cX8_isPlace 1 (some .boolean) :: gT)) B.pre
  have htl : ∀ w ∈ gT, w.before _ s = true := fun w h => hts w (List.mem_cons_of_mem _ h)
  have hown : s.vm.findClass RX8 = some m.cls := findClass_of_methodNamed B.named
  have hlocks := B.notSynchronized
  have hl := lv_entry ([Value.int x1]) (n := 1) (Nat.le_of_ble_eq_true rfl)
  rw [lg_entry_eq]
  generalize (lg_sl ([Value.int x1]) ++ List.replicate (1 - (lg_sl ([Value.int x1])).length) Slot.unset).toArray = ls at hl ⊢
  have hl : lv_has ls 1 [(0, .int x1)] := hl
  refine lv_iload_n hx hb dX8_isPlace_0 rfl (lv_at hl 0 rfl) ?_
  refine lv_if_lt (tgt := 14) hx hb dX8_isPlace_1 (by decide) (fun c_1 => ?_) (fun c_1 => ?_)
  · refine lv_iconst (v := nI 0) hx hb dX8_isPlace_14 (by decide) ?_
    exact W.zret (v := nI 0) hx hb hr (by decide +kernel) (fun t ht hW => ⟨nI 0, rfl, by show _ = _; unfold rng; simp [c_1]; rfl, ht⟩) (fun q h => by cases h) dX8_isPlace_15
  · refine lv_iload_n hx hb dX8_isPlace_4 rfl (lv_at hl 0 rfl) ?_
    refine lv_bipush (v := nI 36) hx hb dX8_isPlace_5 (by decide) ?_
    refine lv_icmp_ge (tgt := 14) hx hb dX8_isPlace_7 (by decide) (fun c_2 => ?_) (fun c_2 => ?_)
    · refine lv_iconst (v := nI 0) hx hb dX8_isPlace_14 (by decide) ?_
      exact W.zret (v := nI 0) hx hb hr (by decide +kernel) (fun t ht hW => ⟨nI 0, rfl, by show _ = _; unfold rng; simp [c_1, c_2]; rfl, ht⟩) (fun q h => by cases h) dX8_isPlace_15
    · refine lv_iconst (v := nI 1) hx hb dX8_isPlace_10 (by decide) ?_
      refine lv_goto (tgt := 15) hx hb dX8_isPlace_11 (by decide) ?_
      exact W.zret (v := nI 1) hx hb hr (by decide +kernel) (fun t ht hW => ⟨nI 1, rfl, by show _ = _; unfold rng; simp [c_1, c_2]; rfl, ht⟩) (fun q h => by cases h) dX8_isPlace_15
set_option maxHeartbeats 4000000 in
set_option maxRecDepth 100000 in
theorem kX8_isDirection (l : Launch) (dC : Nat → ClassId) (dI : Nat → Nat → Nat) (ca : Nat → ClassId) (x1 : Int32) : Met l yX8_isDirection (Cond.code yX8_isDirection cX8_isDirection 1 (some .boolean) :: gT) (rk 1) (ROp (dC, dI) [] (TY ca) [Value.int x1]) (vp_Si (fun r => r = bI (rng x1 9))) 0 0 (fun _ => False) := by
  refine Met.ofW (cc := cX8_isDirection) (maxL := 1) (ret := (some .boolean)) (by decide) rfl ?_
  intro p e s m args below meth c s₁ B hml hv
  obtain ⟨rfl, hP, hK⟩ := hv
  have hx := B.exec
  have hb := B.bytes
  have hr := B.returns
  have hts := atoms_spec (ws := (Cond.code yX8_isDirection cX8_isDirection 1 (some .boolean) :: gT)) B.pre
  have htl : ∀ w ∈ gT, w.before _ s = true := fun w h => hts w (List.mem_cons_of_mem _ h)
  have hown : s.vm.findClass RX8 = some m.cls := findClass_of_methodNamed B.named
  have hlocks := B.notSynchronized
  have hl := lv_entry ([Value.int x1]) (n := 1) (Nat.le_of_ble_eq_true rfl)
  rw [lg_entry_eq]
  generalize (lg_sl ([Value.int x1]) ++ List.replicate (1 - (lg_sl ([Value.int x1])).length) Slot.unset).toArray = ls at hl ⊢
  have hl : lv_has ls 1 [(0, .int x1)] := hl
  refine lv_iload_n hx hb dX8_isDirection_0 rfl (lv_at hl 0 rfl) ?_
  refine lv_if_lt (tgt := 14) hx hb dX8_isDirection_1 (by decide) (fun c_1 => ?_) (fun c_1 => ?_)
  · refine lv_iconst (v := nI 0) hx hb dX8_isDirection_14 (by decide) ?_
    exact W.zret (v := nI 0) hx hb hr (by decide +kernel) (fun t ht hW => ⟨nI 0, rfl, by show _ = _; unfold rng; simp [c_1]; rfl, ht⟩) (fun q h => by cases h) dX8_isDirection_15
  · refine lv_iload_n hx hb dX8_isDirection_4 rfl (lv_at hl 0 rfl) ?_
    refine lv_bipush (v := nI 9) hx hb dX8_isDirection_5 (by decide) ?_
    refine lv_icmp_ge (tgt := 14) hx hb dX8_isDirection_7 (by decide) (fun c_2 => ?_) (fun c_2 => ?_)
    · refine lv_iconst (v := nI 0) hx hb dX8_isDirection_14 (by decide) ?_
      exact W.zret (v := nI 0) hx hb hr (by decide +kernel) (fun t ht hW => ⟨nI 0, rfl, by show _ = _; unfold rng; simp [c_1, c_2]; rfl, ht⟩) (fun q h => by cases h) dX8_isDirection_15
    · refine lv_iconst (v := nI 1) hx hb dX8_isDirection_10 (by decide) ?_
      refine lv_goto (tgt := 15) hx hb dX8_isDirection_11 (by decide) ?_
      exact W.zret (v := nI 1) hx hb hr (by decide +kernel) (fun t ht hW => ⟨nI 1, rfl, by show _ = _; unfold rng; simp [c_1, c_2]; rfl, ht⟩) (fun q h => by cases h) dX8_isDirection_15
set_option maxHeartbeats 4000000 in
set_option maxRecDepth 100000 in
theorem kX8_isNeedle (l : Launch) (dC : Nat → ClassId) (dI : Nat → Nat → Nat) (ca : Nat → ClassId) (x1 : Int32) (q : Nat → Nat) (nc : Nat) (sr : Int32) (ik : Int32) : Met l yX8_isNeedle (Cond.code yX8_isNeedle cX8_isNeedle 2 (some .boolean) :: gT) (rk 1) (ROp (dC, dI) [(q 0, .inr (8, [.ref (q 1), .ref (q 3), .ref (q 4), .ref (q 9), .ref (q 14), .ref (q 15), .ref (q 16), .ref (q 17), .int (nI nc), .int sr, .int ik]))] (TY ca) [Value.ref (q 0), Value.int x1]) (vp_Si (fun r => r = bI (rng x1 nc))) 0 0 (fun _ => False) := by
  refine Met.ofW (cc := cX8_isNeedle) (maxL := 2) (ret := (some .boolean)) (by decide) rfl ?_
  intro p e s m args below meth c s₁ B hml hv
  obtain ⟨rfl, hP, hK⟩ := hv
  have hx := B.exec
  have hb := B.bytes
  have hr := B.returns
  have hts := atoms_spec (ws := (Cond.code yX8_isNeedle cX8_isNeedle 2 (some .boolean) :: gT)) B.pre
  have htl : ∀ w ∈ gT, w.before _ s = true := fun w h => hts w (List.mem_cons_of_mem _ h)
  have hown : s.vm.findClass RX8 = some m.cls := findClass_of_methodNamed B.named
  have hlocks := B.notSynchronized
  have hl := lv_entry ([Value.ref (q 0), Value.int x1]) (n := 2) (Nat.le_of_ble_eq_true rfl)
  rw [lg_entry_eq]
  generalize (lg_sl ([Value.ref (q 0), Value.int x1]) ++ List.replicate (2 - (lg_sl ([Value.ref (q 0), Value.int x1])).length) Slot.unset).toArray = ls at hl ⊢
  have hl : lv_has ls 2 [(0, .ref (q 0)), (1, .int x1)] := hl
  refine lv_iload_n hx hb dX8_isNeedle_0 rfl (lv_at hl 1 rfl) ?_
  refine lv_if_lt (tgt := 16) hx hb dX8_isNeedle_1 (by decide) (fun c_1 => ?_) (fun c_1 => ?_)
  · refine lv_iconst (v := nI 0) hx hb dX8_isNeedle_16 (by decide) ?_
    exact W.zret (v := nI 0) hx hb hr (by decide +kernel) (fun t ht hW => ⟨nI 0, rfl, by show _ = _; unfold rng; simp [c_1]; rfl, ht⟩) (fun q h => by cases h) dX8_isNeedle_17
  · refine lv_iload_n hx hb dX8_isNeedle_4 rfl (lv_at hl 1 rfl) ?_
    refine lv_aload_n hx hb dX8_isNeedle_5 rfl (lv_at hl 0 rfl) ?_
    refine va_get (D := (dC, dI)) (ci := 8) (v := .int (nI nc)) (C := RX8) (T := TX8) (N := 11) hx hb htl iX8 hown hK hP 0 rfl rfl 8 (by decide) (htl _ wd_119) (fun _ h9 => h9) rfl dX8_isNeedle_6 ?_
    refine lv_icmp_ge (tgt := 16) hx hb dX8_isNeedle_9 (by decide) (fun c_2 => ?_) (fun c_2 => ?_)
    · refine lv_iconst (v := nI 0) hx hb dX8_isNeedle_16 (by decide) ?_
      exact W.zret (v := nI 0) hx hb hr (by decide +kernel) (fun t ht hW => ⟨nI 0, rfl, by show _ = _; unfold rng; simp [c_1, c_2]; rfl, ht⟩) (fun q h => by cases h) dX8_isNeedle_17
    · refine lv_iconst (v := nI 1) hx hb dX8_isNeedle_12 (by decide) ?_
      refine lv_goto (tgt := 17) hx hb dX8_isNeedle_13 (by decide) ?_
      exact W.zret (v := nI 1) hx hb hr (by decide +kernel) (fun t ht hW => ⟨nI 1, rfl, by show _ = _; unfold rng; simp [c_1, c_2]; rfl, ht⟩) (fun q h => by cases h) dX8_isNeedle_17
set_option maxHeartbeats 4000000 in
set_option maxRecDepth 100000 in
theorem kX8_hasSea (l : Launch) (dC : Nat → ClassId) (dI : Nat → Nat → Nat) (ca : Nat → ClassId) (q : Nat → Nat) (nc : Nat) (sr : Int32) (ik : Int32) (hnc : nc ≤ 4) : Met l yX8_hasSea (Cond.code yX8_hasSea cX8_hasSea 1 (some .boolean) :: gT) (rk 1) (ROp (dC, dI) [(q 0, .inr (8, [.ref (q 1), .ref (q 3), .ref (q 4), .ref (q 9), .ref (q 14), .ref (q 15), .ref (q 16), .ref (q 17), .int (nI nc), .int sr, .int ik]))] (TY ca) [Value.ref (q 0)]) (vp_Si (fun r => r = bI (!decide (nc = 0)))) 0 0 (fun _ => False) := by
  refine Met.ofW (cc := cX8_hasSea) (maxL := 1) (ret := (some .boolean)) (by decide) rfl ?_
  intro p e s m args below meth c s₁ B hml hv
  obtain ⟨rfl, hP, hK⟩ := hv
  have hx := B.exec
  have hb := B.bytes
  have hr := B.returns
  have hts := atoms_spec (ws := (Cond.code yX8_hasSea cX8_hasSea 1 (some .boolean) :: gT)) B.pre
  have htl : ∀ w ∈ gT, w.before _ s = true := fun w h => hts w (List.mem_cons_of_mem _ h)
  have hown : s.vm.findClass RX8 = some m.cls := findClass_of_methodNamed B.named
  have hlocks := B.notSynchronized
  have hl := lv_entry ([Value.ref (q 0)]) (n := 1) (Nat.le_of_ble_eq_true rfl)
  rw [lg_entry_eq]
  generalize (lg_sl ([Value.ref (q 0)]) ++ List.replicate (1 - (lg_sl ([Value.ref (q 0)])).length) Slot.unset).toArray = ls at hl ⊢
  have hl : lv_has ls 1 [(0, .ref (q 0))] := hl
  refine lv_aload_n hx hb dX8_hasSea_0 rfl (lv_at hl 0 rfl) ?_
  refine va_get (D := (dC, dI)) (ci := 8) (v := .int (nI nc)) (C := RX8) (T := TX8) (N := 11) hx hb htl iX8 hown hK hP 0 rfl rfl 8 (by decide) (htl _ wd_119) (fun _ h9 => h9) rfl dX8_hasSea_1 ?_
  refine lv_if_le (tgt := 11) hx hb dX8_hasSea_4 (by decide) (fun c_1 => ?_) (fun c_1 => ?_)
  · rw [nI_le0 (by omega)] at c_1
    refine lv_iconst (v := nI 0) hx hb dX8_hasSea_11 (by decide) ?_
    exact W.zret (v := nI 0) hx hb hr (by decide +kernel) (fun t ht hW => ⟨nI 0, rfl, by show _ = _; simp [c_1]; rfl, ht⟩) (fun q h => by cases h) dX8_hasSea_12
  · rw [nI_le0 (by omega)] at c_1
    refine lv_iconst (v := nI 1) hx hb dX8_hasSea_7 (by decide) ?_
    refine lv_goto (tgt := 12) hx hb dX8_hasSea_8 (by decide) ?_
    exact W.zret (v := nI 1) hx hb hr (by decide +kernel) (fun t ht hW => ⟨nI 1, rfl, by show _ = _; simp [c_1]; rfl, ht⟩) (fun q h => by cases h) dX8_hasSea_12
set_option maxHeartbeats 4000000 in
set_option maxRecDepth 100000 in
theorem kX7_isIsland (l : Launch) (dC : Nat → ClassId) (dI : Nat → Nat → Nat) (ca : Nat → ClassId) (j : Nat) (q : Nat → Nat) (isl : Int64) (br : Nat) (st : Int32) (so : Int32) (se : Nat) (hj : j < 36) : Met l yX7_isIsland (Cond.code yX7_isIsland cX7_isIsland 2 (some .boolean) :: gT) (rk 1) (ROp (dC, dI) [(q 4, .inr (7, [.ref (q 5), .ref (q 6), .ref (q 7), .ref (q 8), .long isl, .int (nI br), .int st, .int so, .int (nI se)]))] (TY ca) [Value.ref (q 4), Value.int (nI j)]) (vp_Si (fun r => r = bI (xb isl j))) 0 0 (fun _ => False) := by
  refine Met.ofW (cc := cX7_isIsland) (maxL := 2) (ret := (some .boolean)) (by decide) rfl ?_
  intro p e s m args below meth c s₁ B hml hv
  obtain ⟨rfl, hP, hK⟩ := hv
  have hx := B.exec
  have hb := B.bytes
  have hr := B.returns
  have hts := atoms_spec (ws := (Cond.code yX7_isIsland cX7_isIsland 2 (some .boolean) :: gT)) B.pre
  have htl : ∀ w ∈ gT, w.before _ s = true := fun w h => hts w (List.mem_cons_of_mem _ h)
  have hown : s.vm.findClass RX7 = some m.cls := findClass_of_methodNamed B.named
  have hlocks := B.notSynchronized
  have hl := lv_entry ([Value.ref (q 4), Value.int (nI j)]) (n := 2) (Nat.le_of_ble_eq_true rfl)
  rw [lg_entry_eq]
  generalize (lg_sl ([Value.ref (q 4), Value.int (nI j)]) ++ List.replicate (2 - (lg_sl ([Value.ref (q 4), Value.int (nI j)])).length) Slot.unset).toArray = ls at hl ⊢
  have hl : lv_has ls 2 [(0, .ref (q 4)), (1, .int (nI j))] := hl
  refine lv_aload_n hx hb dX7_isIsland_0 rfl (lv_at hl 0 rfl) ?_
  refine va_get (D := (dC, dI)) (ci := 7) (v := .long isl) (C := RX7) (T := TX7) (N := 9) hx hb htl iX7 hown hK hP 0 rfl rfl 4 (by decide) (htl _ wd_60) (fun _ h9 => h9) rfl dX7_isIsland_1 ?_
  refine lv_iload_n hx hb dX7_isIsland_4 rfl (lv_at hl 1 rfl) ?_
  refine lv_lshr (v := isl >>> ((nI j).toInt64 &&& 63)) hx hb dX7_isIsland_5 rfl ?_
  refine lv_lconst (v := 1) hx hb dX7_isIsland_6 (by decide) ?_
  refine lv_land hx hb dX7_isIsland_7 ?_
  refine lv_lconst (v := 1) hx hb dX7_isIsland_8 (by decide) ?_
  refine W.lcmp hx hb dX7_isIsland_9 ?_
  refine lv_if_ne (tgt := 17) hx hb dX7_isIsland_10 (by decide) (fun c_1 => ?_) (fun c_1 => ?_)
  · rw [lgE] at c_1
    refine lv_iconst (v := nI 0) hx hb dX7_isIsland_17 (by decide) ?_
    exact W.zret (v := nI 0) hx hb hr (by decide +kernel) (fun t ht hW => ⟨nI 0, rfl, xb_f hj c_1, ht⟩) (fun q h => by cases h) dX7_isIsland_18
  · rw [lgE] at c_1
    refine lv_iconst (v := nI 1) hx hb dX7_isIsland_13 (by decide) ?_
    refine lv_goto (tgt := 18) hx hb dX7_isIsland_14 (by decide) ?_
    exact W.zret (v := nI 1) hx hb hr (by decide +kernel) (fun t ht hW => ⟨nI 1, rfl, xb_t hj c_1, ht⟩) (fun q h => by cases h) dX7_isIsland_18
def s_X0_kind  : Int32 := nI 2
set_option maxHeartbeats 4000000 in
set_option maxRecDepth 100000 in
theorem kX0_kind (l : Launch) (dC : Nat → ClassId) (dI : Nat → Nat → Nat) (ca : Nat → ClassId) (h : Nat) : Met l yX0_kind (Cond.code yX0_kind cX0_kind 1 (some .int) :: gT) (rk 1) (ROp (dC, dI) [(h, .inr (0, []))] (TY ca) [Value.ref h]) (vp_Si (fun r => r = s_X0_kind)) 0 0 (fun _ => False) := by
  refine Met.ofW (cc := cX0_kind) (maxL := 1) (ret := (some .int)) (by decide) rfl ?_
  intro p e s m args below meth c s₁ B hml hv
  obtain ⟨rfl, hP, hK⟩ := hv
  have hx := B.exec
  have hb := B.bytes
  have hr := B.returns
  have hts := atoms_spec (ws := (Cond.code yX0_kind cX0_kind 1 (some .int) :: gT)) B.pre
  have htl : ∀ w ∈ gT, w.before _ s = true := fun w h => hts w (List.mem_cons_of_mem _ h)
  have hown : s.vm.findClass RX0 = some m.cls := findClass_of_methodNamed B.named
  have hlocks := B.notSynchronized
  have hl := lv_entry ([Value.ref h]) (n := 1) (Nat.le_of_ble_eq_true rfl)
  rw [lg_entry_eq]
  generalize (lg_sl ([Value.ref h]) ++ List.replicate (1 - (lg_sl ([Value.ref h])).length) Slot.unset).toArray = ls at hl ⊢
  have hl : lv_has ls 1 [(0, .ref h)] := hl
  refine lv_iconst (v := nI 2) hx hb dX0_kind_0 (by decide) ?_
  exact W.iret (v := nI 2) hx hb hr (fun t ht hW => ⟨nI 2, rfl, by show _ = _; unfold s_X0_kind; rfl, ht⟩) (fun q h => by cases h) dX0_kind_1
def s_X0_turn (x1 : Int32) (x2 : Int32) : Int32 := if x2 = 0 then ((nI 4) + ((nI 3) * x1)) else ((nI 4) + x2)
set_option maxHeartbeats 4000000 in
set_option maxRecDepth 100000 in
theorem kX0_turn (l : Launch) (dC : Nat → ClassId) (dI : Nat → Nat → Nat) (ca : Nat → ClassId) (h : Nat) (x1 : Int32) (x2 : Int32) : Met l yX0_turn (Cond.code yX0_turn cX0_turn 3 (some .int) :: gT) (rk 1) (ROp (dC, dI) [(h, .inr (0, []))] (TY ca) [Value.ref h, Value.int x1, Value.int x2]) (vp_Si (fun r => r = s_X0_turn x1 x2)) 0 0 (fun _ => False) := by
  refine Met.ofW (cc := cX0_turn) (maxL := 3) (ret := (some .int)) (by decide) rfl ?_
  intro p e s m args below meth c s₁ B hml hv
  obtain ⟨rfl, hP, hK⟩ := hv
  have hx := B.exec
  have hb := B.bytes
  have hr := B.returns
  have hts := atoms_spec (ws := (Cond.code yX0_turn cX0_turn 3 (some .int) :: gT)) B.pre
  have htl : ∀ w ∈ gT, w.before _ s = true := fun w h => hts w (List.mem_cons_of_mem _ h)
  have hown : s.vm.findClass RX0 = some m.cls := findClass_of_methodNamed B.named
  have hlocks := B.notSynchronized
  have hl := lv_entry ([Value.ref h, Value.int x1, Value.int x2]) (n := 3) (Nat.le_of_ble_eq_true rfl)
  rw [lg_entry_eq]
  generalize (lg_sl ([Value.ref h, Value.int x1, Value.int x2]) ++ List.replicate (3 - (lg_sl ([Value.ref h, Value.int x1, Value.int x2])).length) Slot.unset).toArray = ls at hl ⊢
  have hl : lv_has ls 3 [(0, .ref h), (1, .int x1), (2, .int x2)] := hl
  refine lv_iload_n hx hb dX0_turn_0 rfl (lv_at hl 2 rfl) ?_
  refine lv_if_eq (tgt := 10) hx hb dX0_turn_1 (by decide) (fun c_1 => ?_) (fun c_1 => ?_)
  · refine lv_iconst (v := nI 4) hx hb dX0_turn_10 (by decide) ?_
    refine lv_iconst (v := nI 3) hx hb dX0_turn_11 (by decide) ?_
    refine lv_iload_n hx hb dX0_turn_12 rfl (lv_at hl 1 rfl) ?_
    refine lv_imul hx hb dX0_turn_13 ?_
    refine lv_iadd hx hb dX0_turn_14 ?_
    exact W.iret (v := (nI 4) + ((nI 3) * x1)) hx hb hr (fun t ht hW => ⟨(nI 4) + ((nI 3) * x1), rfl, by show _ = _; unfold s_X0_turn; (first | rw [if_pos c_1] | rw [if_neg c_1] | rw [if_neg (by rw [c_1]; decide)]); (first | done | rfl), ht⟩) (fun q h => by cases h) dX0_turn_15
  · refine lv_iconst (v := nI 4) hx hb dX0_turn_4 (by decide) ?_
    refine lv_iload_n hx hb dX0_turn_5 rfl (lv_at hl 2 rfl) ?_
    refine lv_iadd hx hb dX0_turn_6 ?_
    refine lv_goto (tgt := 15) hx hb dX0_turn_7 (by decide) ?_
    exact W.iret (v := (nI 4) + x2) hx hb hr (fun t ht hW => ⟨(nI 4) + x2, rfl, by show _ = _; unfold s_X0_turn; (first | rw [if_pos c_1] | rw [if_neg c_1] | rw [if_neg (by rw [c_1]; decide)]); (first | done | rfl), ht⟩) (fun q h => by cases h) dX0_turn_15
def s_X1_kind  : Int32 := nI 0
set_option maxHeartbeats 4000000 in
set_option maxRecDepth 100000 in
theorem kX1_kind (l : Launch) (dC : Nat → ClassId) (dI : Nat → Nat → Nat) (ca : Nat → ClassId) (h : Nat) : Met l yX1_kind (Cond.code yX1_kind cX1_kind 1 (some .int) :: gT) (rk 1) (ROp (dC, dI) [(h, .inr (1, []))] (TY ca) [Value.ref h]) (vp_Si (fun r => r = s_X1_kind)) 0 0 (fun _ => False) := by
  refine Met.ofW (cc := cX1_kind) (maxL := 1) (ret := (some .int)) (by decide) rfl ?_
  intro p e s m args below meth c s₁ B hml hv
  obtain ⟨rfl, hP, hK⟩ := hv
  have hx := B.exec
  have hb := B.bytes
  have hr := B.returns
  have hts := atoms_spec (ws := (Cond.code yX1_kind cX1_kind 1 (some .int) :: gT)) B.pre
  have htl : ∀ w ∈ gT, w.before _ s = true := fun w h => hts w (List.mem_cons_of_mem _ h)
  have hown : s.vm.findClass RX1 = some m.cls := findClass_of_methodNamed B.named
  have hlocks := B.notSynchronized
  have hl := lv_entry ([Value.ref h]) (n := 1) (Nat.le_of_ble_eq_true rfl)
  rw [lg_entry_eq]
  generalize (lg_sl ([Value.ref h]) ++ List.replicate (1 - (lg_sl ([Value.ref h])).length) Slot.unset).toArray = ls at hl ⊢
  have hl : lv_has ls 1 [(0, .ref h)] := hl
  refine lv_iconst (v := nI 0) hx hb dX1_kind_0 (by decide) ?_
  exact W.iret (v := nI 0) hx hb hr (fun t ht hW => ⟨nI 0, rfl, by show _ = _; unfold s_X1_kind; rfl, ht⟩) (fun q h => by cases h) dX1_kind_1
def s_X1_turn (x1 : Int32) (x2 : Int32) : Int32 := ((nI 4) + ((nI 3) * x1)) + x2
set_option maxHeartbeats 4000000 in
set_option maxRecDepth 100000 in
theorem kX1_turn (l : Launch) (dC : Nat → ClassId) (dI : Nat → Nat → Nat) (ca : Nat → ClassId) (h : Nat) (x1 : Int32) (x2 : Int32) : Met l yX1_turn (Cond.code yX1_turn cX1_turn 3 (some .int) :: gT) (rk 1) (ROp (dC, dI) [(h, .inr (1, []))] (TY ca) [Value.ref h, Value.int x1, Value.int x2]) (vp_Si (fun r => r = s_X1_turn x1 x2)) 0 0 (fun _ => False) := by
  refine Met.ofW (cc := cX1_turn) (maxL := 3) (ret := (some .int)) (by decide) rfl ?_
  intro p e s m args below meth c s₁ B hml hv
  obtain ⟨rfl, hP, hK⟩ := hv
  have hx := B.exec
  have hb := B.bytes
  have hr := B.returns
  have hts := atoms_spec (ws := (Cond.code yX1_turn cX1_turn 3 (some .int) :: gT)) B.pre
  have htl : ∀ w ∈ gT, w.before _ s = true := fun w h => hts w (List.mem_cons_of_mem _ h)
  have hown : s.vm.findClass RX1 = some m.cls := findClass_of_methodNamed B.named
  have hlocks := B.notSynchronized
  have hl := lv_entry ([Value.ref h, Value.int x1, Value.int x2]) (n := 3) (Nat.le_of_ble_eq_true rfl)
  rw [lg_entry_eq]
  generalize (lg_sl ([Value.ref h, Value.int x1, Value.int x2]) ++ List.replicate (3 - (lg_sl ([Value.ref h, Value.int x1, Value.int x2])).length) Slot.unset).toArray = ls at hl ⊢
  have hl : lv_has ls 3 [(0, .ref h), (1, .int x1), (2, .int x2)] := hl
  refine lv_iconst (v := nI 4) hx hb dX1_turn_0 (by decide) ?_
  refine lv_iconst (v := nI 3) hx hb dX1_turn_1 (by decide) ?_
  refine lv_iload_n hx hb dX1_turn_2 rfl (lv_at hl 1 rfl) ?_
  refine lv_imul hx hb dX1_turn_3 ?_
  refine lv_iadd hx hb dX1_turn_4 ?_
  refine lv_iload_n hx hb dX1_turn_5 rfl (lv_at hl 2 rfl) ?_
  refine lv_iadd hx hb dX1_turn_6 ?_
  exact W.iret (v := ((nI 4) + ((nI 3) * x1)) + x2) hx hb hr (fun t ht hW => ⟨((nI 4) + ((nI 3) * x1)) + x2, rfl, by show _ = _; unfold s_X1_turn; rfl, ht⟩) (fun q h => by cases h) dX1_turn_7
def s_X3_kind  : Int32 := nI 1
set_option maxHeartbeats 4000000 in
set_option maxRecDepth 100000 in
theorem kX3_kind (l : Launch) (dC : Nat → ClassId) (dI : Nat → Nat → Nat) (ca : Nat → ClassId) (h : Nat) : Met l yX3_kind (Cond.code yX3_kind cX3_kind 1 (some .int) :: gT) (rk 1) (ROp (dC, dI) [(h, .inr (3, []))] (TY ca) [Value.ref h]) (vp_Si (fun r => r = s_X3_kind)) 0 0 (fun _ => False) := by
  refine Met.ofW (cc := cX3_kind) (maxL := 1) (ret := (some .int)) (by decide) rfl ?_
  intro p e s m args below meth c s₁ B hml hv
  obtain ⟨rfl, hP, hK⟩ := hv
  have hx := B.exec
  have hb := B.bytes
  have hr := B.returns
  have hts := atoms_spec (ws := (Cond.code yX3_kind cX3_kind 1 (some .int) :: gT)) B.pre
  have htl : ∀ w ∈ gT, w.before _ s = true := fun w h => hts w (List.mem_cons_of_mem _ h)
  have hown : s.vm.findClass RX3 = some m.cls := findClass_of_methodNamed B.named
  have hlocks := B.notSynchronized
  have hl := lv_entry ([Value.ref h]) (n := 1) (Nat.le_of_ble_eq_true rfl)
  rw [lg_entry_eq]
  generalize (lg_sl ([Value.ref h]) ++ List.replicate (1 - (lg_sl ([Value.ref h])).length) Slot.unset).toArray = ls at hl ⊢
  have hl : lv_has ls 1 [(0, .ref h)] := hl
  refine lv_iconst (v := nI 1) hx hb dX3_kind_0 (by decide) ?_
  exact W.iret (v := nI 1) hx hb hr (fun t ht hW => ⟨nI 1, rfl, by show _ = _; unfold s_X3_kind; rfl, ht⟩) (fun q h => by cases h) dX3_kind_1
def s_X3_turn (x1 : Int32) (x2 : Int32) : Int32 := ((nI 4) - ((nI 3) * x1)) - x2
set_option maxHeartbeats 4000000 in
set_option maxRecDepth 100000 in
theorem kX3_turn (l : Launch) (dC : Nat → ClassId) (dI : Nat → Nat → Nat) (ca : Nat → ClassId) (h : Nat) (x1 : Int32) (x2 : Int32) : Met l yX3_turn (Cond.code yX3_turn cX3_turn 3 (some .int) :: gT) (rk 1) (ROp (dC, dI) [(h, .inr (3, []))] (TY ca) [Value.ref h, Value.int x1, Value.int x2]) (vp_Si (fun r => r = s_X3_turn x1 x2)) 0 0 (fun _ => False) := by
  refine Met.ofW (cc := cX3_turn) (maxL := 3) (ret := (some .int)) (by decide) rfl ?_
  intro p e s m args below meth c s₁ B hml hv
  obtain ⟨rfl, hP, hK⟩ := hv
  have hx := B.exec
  have hb := B.bytes
  have hr := B.returns
  have hts := atoms_spec (ws := (Cond.code yX3_turn cX3_turn 3 (some .int) :: gT)) B.pre
  have htl : ∀ w ∈ gT, w.before _ s = true := fun w h => hts w (List.mem_cons_of_mem _ h)
  have hown : s.vm.findClass RX3 = some m.cls := findClass_of_methodNamed B.named
  have hlocks := B.notSynchronized
  have hl := lv_entry ([Value.ref h, Value.int x1, Value.int x2]) (n := 3) (Nat.le_of_ble_eq_true rfl)
  rw [lg_entry_eq]
  generalize (lg_sl ([Value.ref h, Value.int x1, Value.int x2]) ++ List.replicate (3 - (lg_sl ([Value.ref h, Value.int x1, Value.int x2])).length) Slot.unset).toArray = ls at hl ⊢
  have hl : lv_has ls 3 [(0, .ref h), (1, .int x1), (2, .int x2)] := hl
  refine lv_iconst (v := nI 4) hx hb dX3_turn_0 (by decide) ?_
  refine lv_iconst (v := nI 3) hx hb dX3_turn_1 (by decide) ?_
  refine lv_iload_n hx hb dX3_turn_2 rfl (lv_at hl 1 rfl) ?_
  refine lv_imul hx hb dX3_turn_3 ?_
  refine lv_isub hx hb dX3_turn_4 ?_
  refine lv_iload_n hx hb dX3_turn_5 rfl (lv_at hl 2 rfl) ?_
  refine lv_isub hx hb dX3_turn_6 ?_
  exact W.iret (v := ((nI 4) - ((nI 3) * x1)) - x2) hx hb hr (fun t ht hW => ⟨((nI 4) - ((nI 3) * x1)) - x2, rfl, by show _ = _; unfold s_X3_turn; rfl, ht⟩) (fun q h => by cases h) dX3_turn_7
def s_X4_kind  : Int32 := nI 4
set_option maxHeartbeats 4000000 in
set_option maxRecDepth 100000 in
theorem kX4_kind (l : Launch) (dC : Nat → ClassId) (dI : Nat → Nat → Nat) (ca : Nat → ClassId) (h : Nat) : Met l yX4_kind (Cond.code yX4_kind cX4_kind 1 (some .int) :: gT) (rk 1) (ROp (dC, dI) [(h, .inr (4, []))] (TY ca) [Value.ref h]) (vp_Si (fun r => r = s_X4_kind)) 0 0 (fun _ => False) := by
  refine Met.ofW (cc := cX4_kind) (maxL := 1) (ret := (some .int)) (by decide) rfl ?_
  intro p e s m args below meth c s₁ B hml hv
  obtain ⟨rfl, hP, hK⟩ := hv
  have hx := B.exec
  have hb := B.bytes
  have hr := B.returns
  have hts := atoms_spec (ws := (Cond.code yX4_kind cX4_kind 1 (some .int) :: gT)) B.pre
  have htl : ∀ w ∈ gT, w.before _ s = true := fun w h => hts w (List.mem_cons_of_mem _ h)
  have hown : s.vm.findClass RX4 = some m.cls := findClass_of_methodNamed B.named
  have hlocks := B.notSynchronized
  have hl := lv_entry ([Value.ref h]) (n := 1) (Nat.le_of_ble_eq_true rfl)
  rw [lg_entry_eq]
  generalize (lg_sl ([Value.ref h]) ++ List.replicate (1 - (lg_sl ([Value.ref h])).length) Slot.unset).toArray = ls at hl ⊢
  have hl : lv_has ls 1 [(0, .ref h)] := hl
  refine lv_iconst (v := nI 4) hx hb dX4_kind_0 (by decide) ?_
  exact W.iret (v := nI 4) hx hb hr (fun t ht hW => ⟨nI 4, rfl, by show _ = _; unfold s_X4_kind; rfl, ht⟩) (fun q h => by cases h) dX4_kind_1
def s_X4_turn (x1 : Int32) (x2 : Int32) : Int32 := if x1 = 0 then ((nI 4) + x2) else ((nI 4) + ((nI 3) * x1))
set_option maxHeartbeats 4000000 in
set_option maxRecDepth 100000 in
theorem kX4_turn (l : Launch) (dC : Nat → ClassId) (dI : Nat → Nat → Nat) (ca : Nat → ClassId) (h : Nat) (x1 : Int32) (x2 : Int32) : Met l yX4_turn (Cond.code yX4_turn cX4_turn 3 (some .int) :: gT) (rk 1) (ROp (dC, dI) [(h, .inr (4, []))] (TY ca) [Value.ref h, Value.int x1, Value.int x2]) (vp_Si (fun r => r = s_X4_turn x1 x2)) 0 0 (fun _ => False) := by
  refine Met.ofW (cc := cX4_turn) (maxL := 3) (ret := (some .int)) (by decide) rfl ?_
  intro p e s m args below meth c s₁ B hml hv
  obtain ⟨rfl, hP, hK⟩ := hv
  have hx := B.exec
  have hb := B.bytes
  have hr := B.returns
  have hts := atoms_spec (ws := (Cond.code yX4_turn cX4_turn 3 (some .int) :: gT)) B.pre
  have htl : ∀ w ∈ gT, w.before _ s = true := fun w h => hts w (List.mem_cons_of_mem _ h)
  have hown : s.vm.findClass RX4 = some m.cls := findClass_of_methodNamed B.named
  have hlocks := B.notSynchronized
  have hl := lv_entry ([Value.ref h, Value.int x1, Value.int x2]) (n := 3) (Nat.le_of_ble_eq_true rfl)
  rw [lg_entry_eq]
  generalize (lg_sl ([Value.ref h, Value.int x1, Value.int x2]) ++ List.replicate (3 - (lg_sl ([Value.ref h, Value.int x1, Value.int x2])).length) Slot.unset).toArray = ls at hl ⊢
  have hl : lv_has ls 3 [(0, .ref h), (1, .int x1), (2, .int x2)] := hl
  refine lv_iload_n hx hb dX4_turn_0 rfl (lv_at hl 1 rfl) ?_
  refine lv_if_eq (tgt := 12) hx hb dX4_turn_1 (by decide) (fun c_1 => ?_) (fun c_1 => ?_)
  · refine lv_iconst (v := nI 4) hx hb dX4_turn_12 (by decide) ?_
    refine lv_iload_n hx hb dX4_turn_13 rfl (lv_at hl 2 rfl) ?_
    refine lv_iadd hx hb dX4_turn_14 ?_
    exact W.iret (v := (nI 4) + x2) hx hb hr (fun t ht hW => ⟨(nI 4) + x2, rfl, by show _ = _; unfold s_X4_turn; (first | rw [if_pos c_1] | rw [if_neg c_1] | rw [if_neg (by rw [c_1]; decide)]); (first | done | rfl), ht⟩) (fun q h => by cases h) dX4_turn_15
  · refine lv_iconst (v := nI 4) hx hb dX4_turn_4 (by decide) ?_
    refine lv_iconst (v := nI 3) hx hb dX4_turn_5 (by decide) ?_
    refine lv_iload_n hx hb dX4_turn_6 rfl (lv_at hl 1 rfl) ?_
    refine lv_imul hx hb dX4_turn_7 ?_
    refine lv_iadd hx hb dX4_turn_8 ?_
    refine lv_goto (tgt := 15) hx hb dX4_turn_9 (by decide) ?_
    exact W.iret (v := (nI 4) + ((nI 3) * x1)) hx hb hr (fun t ht hW => ⟨(nI 4) + ((nI 3) * x1), rfl, by show _ = _; unfold s_X4_turn; (first | rw [if_pos c_1] | rw [if_neg c_1] | rw [if_neg (by rw [c_1]; decide)]); (first | done | rfl), ht⟩) (fun q h => by cases h) dX4_turn_15
def s_X6_kind  : Int32 := nI 3
set_option maxHeartbeats 4000000 in
set_option maxRecDepth 100000 in
theorem kX6_kind (l : Launch) (dC : Nat → ClassId) (dI : Nat → Nat → Nat) (ca : Nat → ClassId) (h : Nat) : Met l yX6_kind (Cond.code yX6_kind cX6_kind 1 (some .int) :: gT) (rk 1) (ROp (dC, dI) [(h, .inr (6, []))] (TY ca) [Value.ref h]) (vp_Si (fun r => r = s_X6_kind)) 0 0 (fun _ => False) := by
  refine Met.ofW (cc := cX6_kind) (maxL := 1) (ret := (some .int)) (by decide) rfl ?_
  intro p e s m args below meth c s₁ B hml hv
  obtain ⟨rfl, hP, hK⟩ := hv
  have hx := B.exec
  have hb := B.bytes
  have hr := B.returns
  have hts := atoms_spec (ws := (Cond.code yX6_kind cX6_kind 1 (some .int) :: gT)) B.pre
  have htl : ∀ w ∈ gT, w.before _ s = true := fun w h => hts w (List.mem_cons_of_mem _ h)
  have hown : s.vm.findClass RX6 = some m.cls := findClass_of_methodNamed B.named
  have hlocks := B.notSynchronized
  have hl := lv_entry ([Value.ref h]) (n := 1) (Nat.le_of_ble_eq_true rfl)
  rw [lg_entry_eq]
  generalize (lg_sl ([Value.ref h]) ++ List.replicate (1 - (lg_sl ([Value.ref h])).length) Slot.unset).toArray = ls at hl ⊢
  have hl : lv_has ls 1 [(0, .ref h)] := hl
  refine lv_iconst (v := nI 3) hx hb dX6_kind_0 (by decide) ?_
  exact W.iret (v := nI 3) hx hb hr (fun t ht hW => ⟨nI 3, rfl, by show _ = _; unfold s_X6_kind; rfl, ht⟩) (fun q h => by cases h) dX6_kind_1
def s_X6_turn (x1 : Int32) (x2 : Int32) : Int32 := ((nI 4) + ((nI 3) * x2)) - x1
set_option maxHeartbeats 4000000 in
set_option maxRecDepth 100000 in
theorem kX6_turn (l : Launch) (dC : Nat → ClassId) (dI : Nat → Nat → Nat) (ca : Nat → ClassId) (h : Nat) (x1 : Int32) (x2 : Int32) : Met l yX6_turn (Cond.code yX6_turn cX6_turn 3 (some .int) :: gT) (rk 1) (ROp (dC, dI) [(h, .inr (6, []))] (TY ca) [Value.ref h, Value.int x1, Value.int x2]) (vp_Si (fun r => r = s_X6_turn x1 x2)) 0 0 (fun _ => False) := by
  refine Met.ofW (cc := cX6_turn) (maxL := 3) (ret := (some .int)) (by decide) rfl ?_
  intro p e s m args below meth c s₁ B hml hv
  obtain ⟨rfl, hP, hK⟩ := hv
  have hx := B.exec
  have hb := B.bytes
  have hr := B.returns
  have hts := atoms_spec (ws := (Cond.code yX6_turn cX6_turn 3 (some .int) :: gT)) B.pre
  have htl : ∀ w ∈ gT, w.before _ s = true := fun w h => hts w (List.mem_cons_of_mem _ h)
  have hown : s.vm.findClass RX6 = some m.cls := findClass_of_methodNamed B.named
  have hlocks := B.notSynchronized
  have hl := lv_entry ([Value.ref h, Value.int x1, Value.int x2]) (n := 3) (Nat.le_of_ble_eq_true rfl)
  rw [lg_entry_eq]
  generalize (lg_sl ([Value.ref h, Value.int x1, Value.int x2]) ++ List.replicate (3 - (lg_sl ([Value.ref h, Value.int x1, Value.int x2])).length) Slot.unset).toArray = ls at hl ⊢
  have hl : lv_has ls 3 [(0, .ref h), (1, .int x1), (2, .int x2)] := hl
  refine lv_iconst (v := nI 4) hx hb dX6_turn_0 (by decide) ?_
  refine lv_iconst (v := nI 3) hx hb dX6_turn_1 (by decide) ?_
  refine lv_iload_n hx hb dX6_turn_2 rfl (lv_at hl 2 rfl) ?_
  refine lv_imul hx hb dX6_turn_3 ?_
  refine lv_iadd hx hb dX6_turn_4 ?_
  refine lv_iload_n hx hb dX6_turn_5 rfl (lv_at hl 1 rfl) ?_
  refine lv_isub hx hb dX6_turn_6 ?_
  exact W.iret (v := ((nI 4) + ((nI 3) * x2)) - x1) hx hb hr (fun t ht hW => ⟨((nI 4) + ((nI 3) * x2)) - x1, rfl, by show _ = _; unfold s_X6_turn; rfl, ht⟩) (fun q h => by cases h) dX6_turn_7
