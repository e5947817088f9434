set_option maxHeartbeats 4000000 in
set_option maxRecDepth 100000 in
theorem kX8_newNeedle_0 (l : Launch) (dC : Nat → ClassId) (dI : Nat → Nat → Nat) (ca : Nat → ClassId) (sz : Nat) : Met l yX8_newNeedle (Cond.code yX8_newNeedle cX8_newNeedle 1 (some (.object "HomeNeedles$Needle")) :: gT) (rkA 4 1 0) (EFx (dC, dI) [] (TY ca) sz TF [Value.int (nI 0)]) (va_Qr (fun (_ : Unit) => True) (fun _ a t => va_P (dC, dI) vwCl [(a, .inr (1, []))] t.heap ∧ va_K (dC, dI) vwCl (TY ca) t ∧ va_D (va_A [] sz) [(a, .inr (1, []))]) (va_A [] sz)) 1 0 (va_A [] sz) := by
  refine Met.ofW (cc := cX8_newNeedle) (maxL := 1) (ret := (some (.object "HomeNeedles$Needle"))) (by decide) rfl ?_
  intro p e s m args below meth c s₁ B hml hv
  obtain ⟨rfl, hsz, hP, hK, hD0, hE⟩ := hv
  have hx := B.exec
  have hb := B.bytes
  have hr := B.returns
  have hts := atoms_spec (ws := (Cond.code yX8_newNeedle cX8_newNeedle 1 (some (.object "HomeNeedles$Needle")) :: gT)) B.pre
  have htl : ∀ w ∈ gT, w.before _ s = true := fun w h => hts w (List.mem_cons_of_mem _ h)
  have hown : s.vm.findClass RX8 = some m.cls := findClass_of_methodNamed B.named
  have hlocks := B.notSynchronized
  subst hsz
  have hD := hD0.self (sz := s.heap.size)
  generalize hAe : va_A [] s.heap.size = A at hD ⊢
  have hA : ∀ q : Nat, s.heap.size ≤ q → A q := fun q h => by rw [← hAe]; exact Or.inr h
  have hS : va_S A s.heap s.heap [] := va_S.rf
  have hl := lv_entry ([Value.int (nI 0)]) (n := 1) (Nat.le_of_ble_eq_true rfl)
  rw [lg_entry_eq]
  generalize (lg_sl ([Value.int (nI 0)]) ++ List.replicate (1 - (lg_sl ([Value.int (nI 0)])).length) Slot.unset).toArray = ls at hl ⊢
  have hl : lv_has ls 1 [(0, .int (nI 0))] := hl
  refine lv_iload_n hx hb dX8_newNeedle_0 rfl (lv_at hl 0 rfl) ?_
  refine lv_tableOut (tgt := 64) hx hb dX8_newNeedle_1 (by decide) (by decide) ?_
  refine va_new (ci := 1) (fs := []) (C := RX1) (T := TX1) (N := 0) hx hb htl iX1 tyX1 tyX1_ok hown (htl _ wd_44) (htl _ wd_105) (htl _ wd_5) hK hP hD hS hA rfl (fun j hj => absurd hj (Nat.not_lt_zero j)) (Nat.le_of_ble_eq_true rfl) (Nat.le_of_ble_eq_true rfl) dX8_newNeedle_64 (fun q64 H hP hD hS => ?_)
  have hP : va_P (dC, dI) vwCl [(q64, .inr (1, []))] H := hP
  have hD : va_D A [(q64, .inr (1, []))] := hD
  refine W.widen (k := 1) (n := 0) (Nat.le_of_ble_eq_true rfl) (Nat.le_of_ble_eq_true rfl) ?_
  refine lv_dup hx hb dX8_newNeedle_67 rfl ?_
  refine efIx (As := []) (rest := [.ref q64]) (wr := []) (kX1_init_X1 l dC dI _ q64) TF_bl (fun U hU hW => hE.warm hW) ⟨hx, hb, hml, hown, htl⟩ ⟨va_cnB (host := "HomeNeedles") 0 htl (gT_cons wd_108) rfl rfl rfl (hE.2.2.1 _ (List.mem_of_getElem? (i := 3) rfl)) (htl _ wd_5) (by decide +kernel) ⟨(Nat.le_of_ble_eq_true rfl), (Nat.le_of_ble_eq_true rfl)⟩, rfl, htl _ wd_107⟩ hP hD hS hA hK [0] [] rfl rfl (by decide) (by decide) (by decide) rfl hl.1 rfl (Nat.le_of_ble_eq_true rfl) dX8_newNeedle_68 ⟨(Nat.le_of_ble_eq_true rfl), (Nat.le_of_ble_eq_true rfl)⟩ (fun u H locs hP hD hK hS => ?_)
  obtain ⟨a68, k68⟩ := u
  have hP : va_P (dC, dI) vwCl [(q64, .inr (1, []))] H := hP
  have hD : va_D A [(q64, .inr (1, []))] := hD
  have hK : va_K (dC, dI) vwCl (TY ca) s := hK
  refine W.widen (k := 1) (n := 0) (Nat.le_refl _) (Nat.le_refl _) ?_
  exact W.aret (v := .ref q64) hx hb hr (Or.inl ⟨_, rfl⟩) (Or.inr ⟨_, rfl⟩) (fun t ht hW => ⟨⟨(), q64, rfl, trivial, by rw [ht]; exact hP, va_K.moved hW.alike hK, hD⟩, hS.F ht⟩) hS.2.2 dX8_newNeedle_71
set_option maxHeartbeats 4000000 in
set_option maxRecDepth 100000 in
theorem kX8_newNeedle_1 (l : Launch) (dC : Nat → ClassId) (dI : Nat → Nat → Nat) (ca : Nat → ClassId) (sz : Nat) : Met l yX8_newNeedle (Cond.code yX8_newNeedle cX8_newNeedle 1 (some (.object "HomeNeedles$Needle")) :: gT) (rkA 4 1 0) (EFx (dC, dI) [] (TY ca) sz TF [Value.int (nI 1)]) (va_Qr (fun (_ : Unit) => True) (fun _ a t => va_P (dC, dI) vwCl [(a, .inr (3, []))] t.heap ∧ va_K (dC, dI) vwCl (TY ca) t ∧ va_D (va_A [] sz) [(a, .inr (3, []))]) (va_A [] sz)) 1 0 (va_A [] sz) := by
  refine Met.ofW (cc := cX8_newNeedle) (maxL := 1) (ret := (some (.object "HomeNeedles$Needle"))) (by decide) rfl ?_
  intro p e s m args below meth c s₁ B hml hv
  obtain ⟨rfl, hsz, hP, hK, hD0, hE⟩ := hv
  have hx := B.exec
  have hb := B.bytes
  have hr := B.returns
  have hts := atoms_spec (ws := (Cond.code yX8_newNeedle cX8_newNeedle 1 (some (.object "HomeNeedles$Needle")) :: gT)) B.pre
  have htl : ∀ w ∈ gT, w.before _ s = true := fun w h => hts w (List.mem_cons_of_mem _ h)
  have hown : s.vm.findClass RX8 = some m.cls := findClass_of_methodNamed B.named
  have hlocks := B.notSynchronized
  subst hsz
  have hD := hD0.self (sz := s.heap.size)
  generalize hAe : va_A [] s.heap.size = A at hD ⊢
  have hA : ∀ q : Nat, s.heap.size ≤ q → A q := fun q h => by rw [← hAe]; exact Or.inr h
  have hS : va_S A s.heap s.heap [] := va_S.rf
  have hl := lv_entry ([Value.int (nI 1)]) (n := 1) (Nat.le_of_ble_eq_true rfl)
  rw [lg_entry_eq]
  generalize (lg_sl ([Value.int (nI 1)]) ++ List.replicate (1 - (lg_sl ([Value.int (nI 1)])).length) Slot.unset).toArray = ls at hl ⊢
  have hl : lv_has ls 1 [(0, .int (nI 1))] := hl
  refine lv_iload_n hx hb dX8_newNeedle_0 rfl (lv_at hl 0 rfl) ?_
  refine lv_tableIn (off := 31) (tgt := 32) hx hb dX8_newNeedle_1 (by decide) (by decide) rfl (by decide) ?_
  refine va_new (ci := 3) (fs := []) (C := RX3) (T := TX3) (N := 0) hx hb htl iX3 tyX3 tyX3_ok hown (htl _ wd_291) (htl _ wd_292) (htl _ wd_13) hK hP hD hS hA rfl (fun j hj => absurd hj (Nat.not_lt_zero j)) (Nat.le_of_ble_eq_true rfl) (Nat.le_of_ble_eq_true rfl) dX8_newNeedle_32 (fun q32 H hP hD hS => ?_)
  have hP : va_P (dC, dI) vwCl [(q32, .inr (3, []))] H := hP
  have hD : va_D A [(q32, .inr (3, []))] := hD
  refine W.widen (k := 1) (n := 0) (Nat.le_of_ble_eq_true rfl) (Nat.le_of_ble_eq_true rfl) ?_
  refine lv_dup hx hb dX8_newNeedle_35 rfl ?_
  refine efIx (As := []) (rest := [.ref q32]) (wr := []) (kX3_init l dC dI _ q32) TF_bl (fun U hU hW => hE.warm hW) ⟨hx, hb, hml, hown, htl⟩ ⟨va_cnB (host := "HomeNeedles") 0 htl (gT_cons wd_295) rfl rfl rfl (hE.2.2.1 _ (List.mem_of_getElem? (i := 4) rfl)) (htl _ wd_13) (by decide +kernel) ⟨(Nat.le_of_ble_eq_true rfl), (Nat.le_of_ble_eq_true rfl)⟩, rfl, htl _ wd_294⟩ hP hD hS hA hK [0] [] rfl rfl (by decide) (by decide) (by decide) rfl hl.1 rfl (Nat.le_of_ble_eq_true rfl) dX8_newNeedle_36 ⟨(Nat.le_of_ble_eq_true rfl), (Nat.le_of_ble_eq_true rfl)⟩ (fun u H locs hP hD hK hS => ?_)
  obtain ⟨a36, k36⟩ := u
  have hP : va_P (dC, dI) vwCl [(q32, .inr (3, []))] H := hP
  have hD : va_D A [(q32, .inr (3, []))] := hD
  have hK : va_K (dC, dI) vwCl (TY ca) s := hK
  refine W.widen (k := 1) (n := 0) (Nat.le_refl _) (Nat.le_refl _) ?_
  exact W.aret (v := .ref q32) hx hb hr (Or.inl ⟨_, rfl⟩) (Or.inr ⟨_, rfl⟩) (fun t ht hW => ⟨⟨(), q32, rfl, trivial, by rw [ht]; exact hP, va_K.moved hW.alike hK, hD⟩, hS.F ht⟩) hS.2.2 dX8_newNeedle_39
set_option maxHeartbeats 4000000 in
set_option maxRecDepth 100000 in
theorem kX8_newNeedle_2 (l : Launch) (dC : Nat → ClassId) (dI : Nat → Nat → Nat) (ca : Nat → ClassId) (sz : Nat) : Met l yX8_newNeedle (Cond.code yX8_newNeedle cX8_newNeedle 1 (some (.object "HomeNeedles$Needle")) :: gT) (rkA 4 1 0) (EFx (dC, dI) [] (TY ca) sz TF [Value.int (nI 2)]) (va_Qr (fun (_ : Unit) => True) (fun _ a t => va_P (dC, dI) vwCl [(a, .inr (0, []))] t.heap ∧ va_K (dC, dI) vwCl (TY ca) t ∧ va_D (va_A [] sz) [(a, .inr (0, []))]) (va_A [] sz)) 1 0 (va_A [] sz) := by
  refine Met.ofW (cc := cX8_newNeedle) (maxL := 1) (ret := (some (.object "HomeNeedles$Needle"))) (by decide) rfl ?_
  intro p e s m args below meth c s₁ B hml hv
  obtain ⟨rfl, hsz, hP, hK, hD0, hE⟩ := hv
  have hx := B.exec
  have hb := B.bytes
  have hr := B.returns
  have hts := atoms_spec (ws := (Cond.code yX8_newNeedle cX8_newNeedle 1 (some (.object "HomeNeedles$Needle")) :: gT)) B.pre
  have htl : ∀ w ∈ gT, w.before _ s = true := fun w h => hts w (List.mem_cons_of_mem _ h)
  have hown : s.vm.findClass RX8 = some m.cls := findClass_of_methodNamed B.named
  have hlocks := B.notSynchronized
  subst hsz
  have hD := hD0.self (sz := s.heap.size)
  generalize hAe : va_A [] s.heap.size = A at hD ⊢
  have hA : ∀ q : Nat, s.heap.size ≤ q → A q := fun q h => by rw [← hAe]; exact Or.inr h
  have hS : va_S A s.heap s.heap [] := va_S.rf
  have hl := lv_entry ([Value.int (nI 2)]) (n := 1) (Nat.le_of_ble_eq_true rfl)
  rw [lg_entry_eq]
  generalize (lg_sl ([Value.int (nI 2)]) ++ List.replicate (1 - (lg_sl ([Value.int (nI 2)])).length) Slot.unset).toArray = ls at hl ⊢
  have hl : lv_has ls 1 [(0, .int (nI 2))] := hl
  refine lv_iload_n hx hb dX8_newNeedle_0 rfl (lv_at hl 0 rfl) ?_
  refine lv_tableIn (off := 39) (tgt := 40) hx hb dX8_newNeedle_1 (by decide) (by decide) rfl (by decide) ?_
  refine va_new (ci := 0) (fs := []) (C := RX0) (T := TX0) (N := 0) hx hb htl iX0 tyX0 tyX0_ok hown (htl _ wd_298) (htl _ wd_299) (htl _ wd_14) hK hP hD hS hA rfl (fun j hj => absurd hj (Nat.not_lt_zero j)) (Nat.le_of_ble_eq_true rfl) (Nat.le_of_ble_eq_true rfl) dX8_newNeedle_40 (fun q40 H hP hD hS => ?_)
  have hP : va_P (dC, dI) vwCl [(q40, .inr (0, []))] H := hP
  have hD : va_D A [(q40, .inr (0, []))] := hD
  refine W.widen (k := 1) (n := 0) (Nat.le_of_ble_eq_true rfl) (Nat.le_of_ble_eq_true rfl) ?_
  refine lv_dup hx hb dX8_newNeedle_43 rfl ?_
  refine efIx (As := []) (rest := [.ref q40]) (wr := []) (kX0_init_X0 l dC dI _ q40) TF_bl (fun U hU hW => hE.warm hW) ⟨hx, hb, hml, hown, htl⟩ ⟨va_cnB (host := "HomeNeedles") 0 htl (gT_cons wd_302) rfl rfl rfl (hE.2.2.1 _ (List.mem_of_getElem? (i := 6) rfl)) (htl _ wd_14) (by decide +kernel) ⟨(Nat.le_of_ble_eq_true rfl), (Nat.le_of_ble_eq_true rfl)⟩, rfl, htl _ wd_301⟩ hP hD hS hA hK [0] [] rfl rfl (by decide) (by decide) (by decide) rfl hl.1 rfl (Nat.le_of_ble_eq_true rfl) dX8_newNeedle_44 ⟨(Nat.le_of_ble_eq_true rfl), (Nat.le_of_ble_eq_true rfl)⟩ (fun u H locs hP hD hK hS => ?_)
  obtain ⟨a44, k44⟩ := u
  have hP : va_P (dC, dI) vwCl [(q40, .inr (0, []))] H := hP
  have hD : va_D A [(q40, .inr (0, []))] := hD
  have hK : va_K (dC, dI) vwCl (TY ca) s := hK
  refine W.widen (k := 1) (n := 0) (Nat.le_refl _) (Nat.le_refl _) ?_
  exact W.aret (v := .ref q40) hx hb hr (Or.inl ⟨_, rfl⟩) (Or.inr ⟨_, rfl⟩) (fun t ht hW => ⟨⟨(), q40, rfl, trivial, by rw [ht]; exact hP, va_K.moved hW.alike hK, hD⟩, hS.F ht⟩) hS.2.2 dX8_newNeedle_47
set_option maxHeartbeats 4000000 in
set_option maxRecDepth 100000 in
theorem kX8_newNeedle_3 (l : Launch) (dC : Nat → ClassId) (dI : Nat → Nat → Nat) (ca : Nat → ClassId) (sz : Nat) : Met l yX8_newNeedle (Cond.code yX8_newNeedle cX8_newNeedle 1 (some (.object "HomeNeedles$Needle")) :: gT) (rkA 4 1 0) (EFx (dC, dI) [] (TY ca) sz TF [Value.int (nI 3)]) (va_Qr (fun (_ : Unit) => True) (fun _ a t => va_P (dC, dI) vwCl [(a, .inr (6, []))] t.heap ∧ va_K (dC, dI) vwCl (TY ca) t ∧ va_D (va_A [] sz) [(a, .inr (6, []))]) (va_A [] sz)) 1 0 (va_A [] sz) := by
  refine Met.ofW (cc := cX8_newNeedle) (maxL := 1) (ret := (some (.object "HomeNeedles$Needle"))) (by decide) rfl ?_
  intro p e s m args below meth c s₁ B hml hv
  obtain ⟨rfl, hsz, hP, hK, hD0, hE⟩ := hv
  have hx := B.exec
  have hb := B.bytes
  have hr := B.returns
  have hts := atoms_spec (ws := (Cond.code yX8_newNeedle cX8_newNeedle 1 (some (.object "HomeNeedles$Needle")) :: gT)) B.pre
  have htl : ∀ w ∈ gT, w.before _ s = true := fun w h => hts w (List.mem_cons_of_mem _ h)
  have hown : s.vm.findClass RX8 = some m.cls := findClass_of_methodNamed B.named
  have hlocks := B.notSynchronized
  subst hsz
  have hD := hD0.self (sz := s.heap.size)
  generalize hAe : va_A [] s.heap.size = A at hD ⊢
  have hA : ∀ q : Nat, s.heap.size ≤ q → A q := fun q h => by rw [← hAe]; exact Or.inr h
  have hS : va_S A s.heap s.heap [] := va_S.rf
  have hl := lv_entry ([Value.int (nI 3)]) (n := 1) (Nat.le_of_ble_eq_true rfl)
  rw [lg_entry_eq]
  generalize (lg_sl ([Value.int (nI 3)]) ++ List.replicate (1 - (lg_sl ([Value.int (nI 3)])).length) Slot.unset).toArray = ls at hl ⊢
  have hl : lv_has ls 1 [(0, .int (nI 3))] := hl
  refine lv_iload_n hx hb dX8_newNeedle_0 rfl (lv_at hl 0 rfl) ?_
  refine lv_tableIn (off := 47) (tgt := 48) hx hb dX8_newNeedle_1 (by decide) (by decide) rfl (by decide) ?_
  refine va_new (ci := 6) (fs := []) (C := RX6) (T := TX6) (N := 0) hx hb htl iX6 tyX6 tyX6_ok hown (htl _ wd_305) (htl _ wd_306) (htl _ wd_15) hK hP hD hS hA rfl (fun j hj => absurd hj (Nat.not_lt_zero j)) (Nat.le_of_ble_eq_true rfl) (Nat.le_of_ble_eq_true rfl) dX8_newNeedle_48 (fun q48 H hP hD hS => ?_)
  have hP : va_P (dC, dI) vwCl [(q48, .inr (6, []))] H := hP
  have hD : va_D A [(q48, .inr (6, []))] := hD
  refine W.widen (k := 1) (n := 0) (Nat.le_of_ble_eq_true rfl) (Nat.le_of_ble_eq_true rfl) ?_
  refine lv_dup hx hb dX8_newNeedle_51 rfl ?_
  refine efIx (As := []) (rest := [.ref q48]) (wr := []) (kX6_init l dC dI _ q48) TF_bl (fun U hU hW => hE.warm hW) ⟨hx, hb, hml, hown, htl⟩ ⟨va_cnB (host := "HomeNeedles") 0 htl (gT_cons wd_309) rfl rfl rfl (hE.2.2.1 _ (List.mem_of_getElem? (i := 8) rfl)) (htl _ wd_15) (by decide +kernel) ⟨(Nat.le_of_ble_eq_true rfl), (Nat.le_of_ble_eq_true rfl)⟩, rfl, htl _ wd_308⟩ hP hD hS hA hK [0] [] rfl rfl (by decide) (by decide) (by decide) rfl hl.1 rfl (Nat.le_of_ble_eq_true rfl) dX8_newNeedle_52 ⟨(Nat.le_of_ble_eq_true rfl), (Nat.le_of_ble_eq_true rfl)⟩ (fun u H locs hP hD hK hS => ?_)
  obtain ⟨a52, k52⟩ := u
  have hP : va_P (dC, dI) vwCl [(q48, .inr (6, []))] H := hP
  have hD : va_D A [(q48, .inr (6, []))] := hD
  have hK : va_K (dC, dI) vwCl (TY ca) s := hK
  refine W.widen (k := 1) (n := 0) (Nat.le_refl _) (Nat.le_refl _) ?_
  exact W.aret (v := .ref q48) hx hb hr (Or.inl ⟨_, rfl⟩) (Or.inr ⟨_, rfl⟩) (fun t ht hW => ⟨⟨(), q48, rfl, trivial, by rw [ht]; exact hP, va_K.moved hW.alike hK, hD⟩, hS.F ht⟩) hS.2.2 dX8_newNeedle_55
set_option maxHeartbeats 4000000 in
set_option maxRecDepth 100000 in
theorem kX8_newNeedle_4 (l : Launch) (dC : Nat → ClassId) (dI : Nat → Nat → Nat) (ca : Nat → ClassId) (sz : Nat) : Met l yX8_newNeedle (Cond.code yX8_newNeedle cX8_newNeedle 1 (some (.object "HomeNeedles$Needle")) :: gT) (rkA 4 1 0) (EFx (dC, dI) [] (TY ca) sz TF [Value.int (nI 4)]) (va_Qr (fun (_ : Unit) => True) (fun _ a t => va_P (dC, dI) vwCl [(a, .inr (4, []))] t.heap ∧ va_K (dC, dI) vwCl (TY ca) t ∧ va_D (va_A [] sz) [(a, .inr (4, []))]) (va_A [] sz)) 1 0 (va_A [] sz) := by
  refine Met.ofW (cc := cX8_newNeedle) (maxL := 1) (ret := (some (.object "HomeNeedles$Needle"))) (by decide) rfl ?_
  intro p e s m args below meth c s₁ B hml hv
  obtain ⟨rfl, hsz, hP, hK, hD0, hE⟩ := hv
  have hx := B.exec
  have hb := B.bytes
  have hr := B.returns
  have hts := atoms_spec (ws := (Cond.code yX8_newNeedle cX8_newNeedle 1 (some (.object "HomeNeedles$Needle")) :: gT)) B.pre
  have htl : ∀ w ∈ gT, w.before _ s = true := fun w h => hts w (List.mem_cons_of_mem _ h)
  have hown : s.vm.findClass RX8 = some m.cls := findClass_of_methodNamed B.named
  have hlocks := B.notSynchronized
  subst hsz
  have hD := hD0.self (sz := s.heap.size)
  generalize hAe : va_A [] s.heap.size = A at hD ⊢
  have hA : ∀ q : Nat, s.heap.size ≤ q → A q := fun q h => by rw [← hAe]; exact Or.inr h
  have hS : va_S A s.heap s.heap [] := va_S.rf
  have hl := lv_entry ([Value.int (nI 4)]) (n := 1) (Nat.le_of_ble_eq_true rfl)
  rw [lg_entry_eq]
  generalize (lg_sl ([Value.int (nI 4)]) ++ List.replicate (1 - (lg_sl ([Value.int (nI 4)])).length) Slot.unset).toArray = ls at hl ⊢
  have hl : lv_has ls 1 [(0, .int (nI 4))] := hl
  refine lv_iload_n hx hb dX8_newNeedle_0 rfl (lv_at hl 0 rfl) ?_
  refine lv_tableIn (off := 55) (tgt := 56) hx hb dX8_newNeedle_1 (by decide) (by decide) rfl (by decide) ?_
  refine va_new (ci := 4) (fs := []) (C := RX4) (T := TX4) (N := 0) hx hb htl iX4 tyX4 tyX4_ok hown (htl _ wd_312) (htl _ wd_313) (htl _ wd_16) hK hP hD hS hA rfl (fun j hj => absurd hj (Nat.not_lt_zero j)) (Nat.le_of_ble_eq_true rfl) (Nat.le_of_ble_eq_true rfl) dX8_newNeedle_56 (fun q56 H hP hD hS => ?_)
  have hP : va_P (dC, dI) vwCl [(q56, .inr (4, []))] H := hP
  have hD : va_D A [(q56, .inr (4, []))] := hD
  refine W.widen (k := 1) (n := 0) (Nat.le_of_ble_eq_true rfl) (Nat.le_of_ble_eq_true rfl) ?_
  refine lv_dup hx hb dX8_newNeedle_59 rfl ?_
  refine efIx (As := []) (rest := [.ref q56]) (wr := []) (kX4_init l dC dI _ q56) TF_bl (fun U hU hW => hE.warm hW) ⟨hx, hb, hml, hown, htl⟩ ⟨va_cnB (host := "HomeNeedles") 0 htl (gT_cons wd_316) rfl rfl rfl (hE.2.2.1 _ (List.mem_of_getElem? (i := 10) rfl)) (htl _ wd_16) (by decide +kernel) ⟨(Nat.le_of_ble_eq_true rfl), (Nat.le_of_ble_eq_true rfl)⟩, rfl, htl _ wd_315⟩ hP hD hS hA hK [0] [] rfl rfl (by decide) (by decide) (by decide) rfl hl.1 rfl (Nat.le_of_ble_eq_true rfl) dX8_newNeedle_60 ⟨(Nat.le_of_ble_eq_true rfl), (Nat.le_of_ble_eq_true rfl)⟩ (fun u H locs hP hD hK hS => ?_)
  obtain ⟨a60, k60⟩ := u
  have hP : va_P (dC, dI) vwCl [(q56, .inr (4, []))] H := hP
  have hD : va_D A [(q56, .inr (4, []))] := hD
  have hK : va_K (dC, dI) vwCl (TY ca) s := hK
  refine W.widen (k := 1) (n := 0) (Nat.le_refl _) (Nat.le_refl _) ?_
  exact W.aret (v := .ref q56) hx hb hr (Or.inl ⟨_, rfl⟩) (Or.inr ⟨_, rfl⟩) (fun t ht hW => ⟨⟨(), q56, rfl, trivial, by rw [ht]; exact hP, va_K.moved hW.alike hK, hD⟩, hS.F ht⟩) hS.2.2 dX8_newNeedle_63
theorem kX8_newNeedle (l : Launch) (dC : Nat → ClassId) (dI : Nat → Nat → Nat) (ca : Nat → ClassId) (sz : Nat) (k : Nat) (hk : k < 5) : Met l yX8_newNeedle (Cond.code yX8_newNeedle cX8_newNeedle 1 (some (.object "HomeNeedles$Needle")) :: gT) (rkA 4 1 0) (EFx (dC, dI) [] (TY ca) sz TF [Value.int (nI k)]) (va_Qr (fun (_ : Unit) => True) (fun _ a t => va_P (dC, dI) vwCl [(a, .inr (kc k, []))] t.heap ∧ va_K (dC, dI) vwCl (TY ca) t ∧ va_D (va_A [] sz) [(a, .inr (kc k, []))]) (va_A [] sz)) 1 0 (va_A [] sz) := by
  rcases (show k = 0 ∨ k = 1 ∨ k = 2 ∨ k = 3 ∨ k = 4 by omega) with rfl | rfl | rfl | rfl | rfl
  · exact kX8_newNeedle_0 l dC dI ca sz
  · exact kX8_newNeedle_1 l dC dI ca sz
  · exact kX8_newNeedle_2 l dC dI ca sz
  · exact kX8_newNeedle_3 l dC dI ca sz
  · exact kX8_newNeedle_4 l dC dI ca sz
set_option maxHeartbeats 4000000 in
set_option maxRecDepth 100000 in
theorem kX8_isOfKind_00 (l : Launch) (dC : Nat → ClassId) (dI : Nat → Nat → Nat) (ca : Nat → ClassId) (a : Nat) : Met l yX8_isOfKind (Cond.code yX8_isOfKind cX8_isOfKind 2 (some .boolean) :: gT) (rk 1) (ROx (dC, dI) [(a, .inr (1, []))] (TY ca) TF [Value.ref a, Value.int (nI 0)]) (vp_Si (fun r => r = bI true)) 0 0 (fun _ => False) := by
  refine Met.ofW (cc := cX8_isOfKind) (maxL := 2) (ret := (some .boolean)) (by decide) rfl ?_
  intro p e s m args below meth c s₁ B hml hv
  obtain ⟨rfl, hP, hK, hE⟩ := hv
  have hx := B.exec
  have hb := B.bytes
  have hr := B.returns
  have hts := atoms_spec (ws := (Cond.code yX8_isOfKind cX8_isOfKind 2 (some .boolean) :: gT)) B.pre
  have htl : ∀ w ∈ gT, w.before _ s = true := fun w h => hts w (List.mem_cons_of_mem _ h)
  have hown : s.vm.findClass RX8 = some m.cls := findClass_of_methodNamed B.named
  have hlocks := B.notSynchronized
  have hl := lv_entry ([Value.ref a, Value.int (nI 0)]) (n := 2) (Nat.le_of_ble_eq_true rfl)
  rw [lg_entry_eq]
  generalize (lg_sl ([Value.ref a, Value.int (nI 0)]) ++ List.replicate (2 - (lg_sl ([Value.ref a, Value.int (nI 0)])).length) Slot.unset).toArray = ls at hl ⊢
  have hl : lv_has ls 2 [(0, .ref a), (1, .int (nI 0))] := hl
  refine lv_iload_n hx hb dX8_isOfKind_0 rfl (lv_at hl 1 rfl) ?_
  refine lv_tableIn (off := 35) (tgt := 36) hx hb dX8_isOfKind_1 (by decide) (by decide) rfl (by decide) ?_
  refine lv_iconst (v := nI 1) hx hb dX8_isOfKind_36 (by decide) ?_
  exact W.zret (v := nI 1) hx hb hr (by decide +kernel) (fun t ht hW => ⟨nI 1, rfl, by decide, ht⟩) (fun q h => by cases h) dX8_isOfKind_37
set_option maxHeartbeats 4000000 in
set_option maxRecDepth 100000 in
theorem kX8_isOfKind_01 (l : Launch) (dC : Nat → ClassId) (dI : Nat → Nat → Nat) (ca : Nat → ClassId) (a : Nat) : Met l yX8_isOfKind (Cond.code yX8_isOfKind cX8_isOfKind 2 (some .boolean) :: gT) (rk 1) (ROx (dC, dI) [(a, .inr (1, []))] (TY ca) TF [Value.ref a, Value.int (nI 1)]) (vp_Si (fun r => r = bI false)) 0 0 (fun _ => False) := by
  refine Met.ofW (cc := cX8_isOfKind) (maxL := 2) (ret := (some .boolean)) (by decide) rfl ?_
  intro p e s m args below meth c s₁ B hml hv
  obtain ⟨rfl, hP, hK, hE⟩ := hv
  have hx := B.exec
  have hb := B.bytes
  have hr := B.returns
  have hts := atoms_spec (ws := (Cond.code yX8_isOfKind cX8_isOfKind 2 (some .boolean) :: gT)) B.pre
  have htl : ∀ w ∈ gT, w.before _ s = true := fun w h => hts w (List.mem_cons_of_mem _ h)
  have hown : s.vm.findClass RX8 = some m.cls := findClass_of_methodNamed B.named
  have hlocks := B.notSynchronized
  have hl := lv_entry ([Value.ref a, Value.int (nI 1)]) (n := 2) (Nat.le_of_ble_eq_true rfl)
  rw [lg_entry_eq]
  generalize (lg_sl ([Value.ref a, Value.int (nI 1)]) ++ List.replicate (2 - (lg_sl ([Value.ref a, Value.int (nI 1)])).length) Slot.unset).toArray = ls at hl ⊢
  have hl : lv_has ls 2 [(0, .ref a), (1, .int (nI 1))] := hl
  refine lv_iload_n hx hb dX8_isOfKind_0 rfl (lv_at hl 1 rfl) ?_
  refine lv_tableIn (off := 37) (tgt := 38) hx hb dX8_isOfKind_1 (by decide) (by decide) rfl (by decide) ?_
  refine lv_aload_n hx hb dX8_isOfKind_38 rfl (lv_at hl 0 rfl) ?_
  refine va_instNo (C := RX1) hx hb hown (htl _ wd_291) (hE.1 _ (List.mem_of_getElem? (i := 0) rfl)) (va_recv hK hP (ci := 1) (q0 := 0) rfl rfl) dX8_isOfKind_39 ?_
  exact W.zret (v := nI 0) hx hb hr (by decide +kernel) (fun t ht hW => ⟨nI 0, rfl, by decide, ht⟩) (fun q h => by cases h) dX8_isOfKind_42
set_option maxHeartbeats 4000000 in
set_option maxRecDepth 100000 in
theorem kX8_isOfKind_02 (l : Launch) (dC : Nat → ClassId) (dI : Nat → Nat → Nat) (ca : Nat → ClassId) (a : Nat) : Met l yX8_isOfKind (Cond.code yX8_isOfKind cX8_isOfKind 2 (some .boolean) :: gT) (rk 1) (ROx (dC, dI) [(a, .inr (1, []))] (TY ca) TF [Value.ref a, Value.int (nI 2)]) (vp_Si (fun r => r = bI false)) 0 0 (fun _ => False) := by
  refine Met.ofW (cc := cX8_isOfKind) (maxL := 2) (ret := (some .boolean)) (by decide) rfl ?_
  intro p e s m args below meth c s₁ B hml hv
  obtain ⟨rfl, hP, hK, hE⟩ := hv
  have hx := B.exec
  have hb := B.bytes
  have hr := B.returns
  have hts := atoms_spec (ws := (Cond.code yX8_isOfKind cX8_isOfKind 2 (some .boolean) :: gT)) B.pre
  have htl : ∀ w ∈ gT, w.before _ s = true := fun w h => hts w (List.mem_cons_of_mem _ h)
  have hown : s.vm.findClass RX8 = some m.cls := findClass_of_methodNamed B.named
  have hlocks := B.notSynchronized
  have hl := lv_entry ([Value.ref a, Value.int (nI 2)]) (n := 2) (Nat.le_of_ble_eq_true rfl)
  rw [lg_entry_eq]
  generalize (lg_sl ([Value.ref a, Value.int (nI 2)]) ++ List.replicate (2 - (lg_sl ([Value.ref a, Value.int (nI 2)])).length) Slot.unset).toArray = ls at hl ⊢
  have hl : lv_has ls 2 [(0, .ref a), (1, .int (nI 2))] := hl
  refine lv_iload_n hx hb dX8_isOfKind_0 rfl (lv_at hl 1 rfl) ?_
  refine lv_tableIn (off := 42) (tgt := 43) hx hb dX8_isOfKind_1 (by decide) (by decide) rfl (by decide) ?_
  refine lv_aload_n hx hb dX8_isOfKind_43 rfl (lv_at hl 0 rfl) ?_
  refine va_instNo (C := RX1) hx hb hown (htl _ wd_298) (hE.1 _ (List.mem_of_getElem? (i := 4) rfl)) (va_recv hK hP (ci := 1) (q0 := 0) rfl rfl) dX8_isOfKind_44 ?_
  exact W.zret (v := nI 0) hx hb hr (by decide +kernel) (fun t ht hW => ⟨nI 0, rfl, by decide, ht⟩) (fun q h => by cases h) dX8_isOfKind_47
set_option maxHeartbeats 4000000 in
set_option maxRecDepth 100000 in
theorem kX8_isOfKind_03 (l : Launch) (dC : Nat → ClassId) (dI : Nat → Nat → Nat) (ca : Nat → ClassId) (a : Nat) : Met l yX8_isOfKind (Cond.code yX8_isOfKind cX8_isOfKind 2 (some .boolean) :: gT) (rk 1) (ROx (dC, dI) [(a, .inr (1, []))] (TY ca) TF [Value.ref a, Value.int (nI 3)]) (vp_Si (fun r => r = bI false)) 0 0 (fun _ => False) := by
  refine Met.ofW (cc := cX8_isOfKind) (maxL := 2) (ret := (some .boolean)) (by decide) rfl ?_
  intro p e s m args below meth c s₁ B hml hv
  obtain ⟨rfl, hP, hK, hE⟩ := hv
  have hx := B.exec
  have hb := B.bytes
  have hr := B.returns
  have hts := atoms_spec (ws := (Cond.code yX8_isOfKind cX8_isOfKind 2 (some .boolean) :: gT)) B.pre
  have htl : ∀ w ∈ gT, w.before _ s = true := fun w h => hts w (List.mem_cons_of_mem _ h)
  have hown : s.vm.findClass RX8 = some m.cls := findClass_of_methodNamed B.named
  have hlocks := B.notSynchronized
  have hl := lv_entry ([Value.ref a, Value.int (nI 3)]) (n := 2) (Nat.le_of_ble_eq_true rfl)
  rw [lg_entry_eq]
  generalize (lg_sl ([Value.ref a, Value.int (nI 3)]) ++ List.replicate (2 - (lg_sl ([Value.ref a, Value.int (nI 3)])).length) Slot.unset).toArray = ls at hl ⊢
  have hl : lv_has ls 2 [(0, .ref a), (1, .int (nI 3))] := hl
  refine lv_iload_n hx hb dX8_isOfKind_0 rfl (lv_at hl 1 rfl) ?_
  refine lv_tableIn (off := 47) (tgt := 48) hx hb dX8_isOfKind_1 (by decide) (by decide) rfl (by decide) ?_
  refine lv_aload_n hx hb dX8_isOfKind_48 rfl (lv_at hl 0 rfl) ?_
  refine va_instNo (C := RX1) hx hb hown (htl _ wd_305) (hE.1 _ (List.mem_of_getElem? (i := 7) rfl)) (va_recv hK hP (ci := 1) (q0 := 0) rfl rfl) dX8_isOfKind_49 ?_
  exact W.zret (v := nI 0) hx hb hr (by decide +kernel) (fun t ht hW => ⟨nI 0, rfl, by decide, ht⟩) (fun q h => by cases h) dX8_isOfKind_52
set_option maxHeartbeats 4000000 in
set_option maxRecDepth 100000 in
theorem kX8_isOfKind_04 (l : Launch) (dC : Nat → ClassId) (dI : Nat → Nat → Nat) (ca : Nat → ClassId) (a : Nat) : Met l yX8_isOfKind (Cond.code yX8_isOfKind cX8_isOfKind 2 (some .boolean) :: gT) (rk 1) (ROx (dC, dI) [(a, .inr (1, []))] (TY ca) TF [Value.ref a, Value.int (nI 4)]) (vp_Si (fun r => r = bI false)) 0 0 (fun _ => False) := by
  refine Met.ofW (cc := cX8_isOfKind) (maxL := 2) (ret := (some .boolean)) (by decide) rfl ?_
  intro p e s m args below meth c s₁ B hml hv
  obtain ⟨rfl, hP, hK, hE⟩ := hv
  have hx := B.exec
  have hb := B.bytes
  have hr := B.returns
  have hts := atoms_spec (ws := (Cond.code yX8_isOfKind cX8_isOfKind 2 (some .boolean) :: gT)) B.pre
  have htl : ∀ w ∈ gT, w.before _ s = true := fun w h => hts w (List.mem_cons_of_mem _ h)
  have hown : s.vm.findClass RX8 = some m.cls := findClass_of_methodNamed B.named
  have hlocks := B.notSynchronized
  have hl := lv_entry ([Value.ref a, Value.int (nI 4)]) (n := 2) (Nat.le_of_ble_eq_true rfl)
  rw [lg_entry_eq]
  generalize (lg_sl ([Value.ref a, Value.int (nI 4)]) ++ List.replicate (2 - (lg_sl ([Value.ref a, Value.int (nI 4)])).length) Slot.unset).toArray = ls at hl ⊢
  have hl : lv_has ls 2 [(0, .ref a), (1, .int (nI 4))] := hl
  refine lv_iload_n hx hb dX8_isOfKind_0 rfl (lv_at hl 1 rfl) ?_
  refine lv_tableIn (off := 52) (tgt := 53) hx hb dX8_isOfKind_1 (by decide) (by decide) rfl (by decide) ?_
  refine lv_aload_n hx hb dX8_isOfKind_53 rfl (lv_at hl 0 rfl) ?_
  refine va_instNo (C := RX1) hx hb hown (htl _ wd_312) (hE.1 _ (List.mem_of_getElem? (i := 11) rfl)) (va_recv hK hP (ci := 1) (q0 := 0) rfl rfl) dX8_isOfKind_54 ?_
  exact W.zret (v := nI 0) hx hb hr (by decide +kernel) (fun t ht hW => ⟨nI 0, rfl, by decide, ht⟩) (fun q h => by cases h) dX8_isOfKind_57
set_option maxHeartbeats 4000000 in
set_option maxRecDepth 100000 in
theorem kX8_isOfKind_10 (l : Launch) (dC : Nat → ClassId) (dI : Nat → Nat → Nat) (ca : Nat → ClassId) (a : Nat) : Met l yX8_isOfKind (Cond.code yX8_isOfKind cX8_isOfKind 2 (some .boolean) :: gT) (rk 1) (ROx (dC, dI) [(a, .inr (3, []))] (TY ca) TF [Value.ref a, Value.int (nI 0)]) (vp_Si (fun r => r = bI true)) 0 0 (fun _ => False) := by
  refine Met.ofW (cc := cX8_isOfKind) (maxL := 2) (ret := (some .boolean)) (by decide) rfl ?_
  intro p e s m args below meth c s₁ B hml hv
  obtain ⟨rfl, hP, hK, hE⟩ := hv
  have hx := B.exec
  have hb := B.bytes
  have hr := B.returns
  have hts := atoms_spec (ws := (Cond.code yX8_isOfKind cX8_isOfKind 2 (some .boolean) :: gT)) B.pre
  have htl : ∀ w ∈ gT, w.before _ s = true := fun w h => hts w (List.mem_cons_of_mem _ h)
  have hown : s.vm.findClass RX8 = some m.cls := findClass_of_methodNamed B.named
  have hlocks := B.notSynchronized
  have hl := lv_entry ([Value.ref a, Value.int (nI 0)]) (n := 2) (Nat.le_of_ble_eq_true rfl)
  rw [lg_entry_eq]
  generalize (lg_sl ([Value.ref a, Value.int (nI 0)]) ++ List.replicate (2 - (lg_sl ([Value.ref a, Value.int (nI 0)])).length) Slot.unset).toArray = ls at hl ⊢
  have hl : lv_has ls 2 [(0, .ref a), (1, .int (nI 0))] := hl
  refine lv_iload_n hx hb dX8_isOfKind_0 rfl (lv_at hl 1 rfl) ?_
  refine lv_tableIn (off := 35) (tgt := 36) hx hb dX8_isOfKind_1 (by decide) (by decide) rfl (by decide) ?_
  refine lv_iconst (v := nI 1) hx hb dX8_isOfKind_36 (by decide) ?_
  exact W.zret (v := nI 1) hx hb hr (by decide +kernel) (fun t ht hW => ⟨nI 1, rfl, by decide, ht⟩) (fun q h => by cases h) dX8_isOfKind_37
set_option maxHeartbeats 4000000 in
set_option maxRecDepth 100000 in
theorem kX8_isOfKind_11 (l : Launch) (dC : Nat → ClassId) (dI : Nat → Nat → Nat) (ca : Nat → ClassId) (a : Nat) : Met l yX8_isOfKind (Cond.code yX8_isOfKind cX8_isOfKind 2 (some .boolean) :: gT) (rk 1) (ROx (dC, dI) [(a, .inr (3, []))] (TY ca) TF [Value.ref a, Value.int (nI 1)]) (vp_Si (fun r => r = bI true)) 0 0 (fun _ => False) := by
  refine Met.ofW (cc := cX8_isOfKind) (maxL := 2) (ret := (some .boolean)) (by decide) rfl ?_
  intro p e s m args below meth c s₁ B hml hv
  obtain ⟨rfl, hP, hK, hE⟩ := hv
  have hx := B.exec
  have hb := B.bytes
  have hr := B.returns
  have hts := atoms_spec (ws := (Cond.code yX8_isOfKind cX8_isOfKind 2 (some .boolean) :: gT)) B.pre
  have htl : ∀ w ∈ gT, w.before _ s = true := fun w h => hts w (List.mem_cons_of_mem _ h)
  have hown : s.vm.findClass RX8 = some m.cls := findClass_of_methodNamed B.named
  have hlocks := B.notSynchronized
  have hl := lv_entry ([Value.ref a, Value.int (nI 1)]) (n := 2) (Nat.le_of_ble_eq_true rfl)
  rw [lg_entry_eq]
  generalize (lg_sl ([Value.ref a, Value.int (nI 1)]) ++ List.replicate (2 - (lg_sl ([Value.ref a, Value.int (nI 1)])).length) Slot.unset).toArray = ls at hl ⊢
  have hl : lv_has ls 2 [(0, .ref a), (1, .int (nI 1))] := hl
  refine lv_iload_n hx hb dX8_isOfKind_0 rfl (lv_at hl 1 rfl) ?_
  refine lv_tableIn (off := 37) (tgt := 38) hx hb dX8_isOfKind_1 (by decide) (by decide) rfl (by decide) ?_
  refine lv_aload_n hx hb dX8_isOfKind_38 rfl (lv_at hl 0 rfl) ?_
  refine va_instS hx hb hown (htl _ wd_291) ((hK.1 3 _ rfl).2) (va_recv hK hP (ci := 3) (q0 := 0) rfl rfl) dX8_isOfKind_39 ?_
  exact W.zret (v := nI 1) hx hb hr (by decide +kernel) (fun t ht hW => ⟨nI 1, rfl, by decide, ht⟩) (fun q h => by cases h) dX8_isOfKind_42
set_option maxHeartbeats 4000000 in
set_option maxRecDepth 100000 in
theorem kX8_isOfKind_12 (l : Launch) (dC : Nat → ClassId) (dI : Nat → Nat → Nat) (ca : Nat → ClassId) (a : Nat) : Met l yX8_isOfKind (Cond.code yX8_isOfKind cX8_isOfKind 2 (some .boolean) :: gT) (rk 1) (ROx (dC, dI) [(a, .inr (3, []))] (TY ca) TF [Value.ref a, Value.int (nI 2)]) (vp_Si (fun r => r = bI false)) 0 0 (fun _ => False) := by
  refine Met.ofW (cc := cX8_isOfKind) (maxL := 2) (ret := (some .boolean)) (by decide) rfl ?_
  intro p e s m args below meth c s₁ B hml hv
  obtain ⟨rfl, hP, hK, hE⟩ := hv
  have hx := B.exec
  have hb := B.bytes
  have hr := B.returns
  have hts := atoms_spec (ws := (Cond.code yX8_isOfKind cX8_isOfKind 2 (some .boolean) :: gT)) B.pre
  have htl : ∀ w ∈ gT, w.before _ s = true := fun w h => hts w (List.mem_cons_of_mem _ h)
  have hown : s.vm.findClass RX8 = some m.cls := findClass_of_methodNamed B.named
  have hlocks := B.notSynchronized
  have hl := lv_entry ([Value.ref a, Value.int (nI 2)]) (n := 2) (Nat.le_of_ble_eq_true rfl)
  rw [lg_entry_eq]
  generalize (lg_sl ([Value.ref a, Value.int (nI 2)]) ++ List.replicate (2 - (lg_sl ([Value.ref a, Value.int (nI 2)])).length) Slot.unset).toArray = ls at hl ⊢
  have hl : lv_has ls 2 [(0, .ref a), (1, .int (nI 2))] := hl
  refine lv_iload_n hx hb dX8_isOfKind_0 rfl (lv_at hl 1 rfl) ?_
  refine lv_tableIn (off := 42) (tgt := 43) hx hb dX8_isOfKind_1 (by decide) (by decide) rfl (by decide) ?_
  refine lv_aload_n hx hb dX8_isOfKind_43 rfl (lv_at hl 0 rfl) ?_
  refine va_instNo (C := RX3) hx hb hown (htl _ wd_298) (hE.1 _ (List.mem_of_getElem? (i := 5) rfl)) (va_recv hK hP (ci := 3) (q0 := 0) rfl rfl) dX8_isOfKind_44 ?_
  exact W.zret (v := nI 0) hx hb hr (by decide +kernel) (fun t ht hW => ⟨nI 0, rfl, by decide, ht⟩) (fun q h => by cases h) dX8_isOfKind_47
set_option maxHeartbeats 4000000 in
set_option maxRecDepth 100000 in
theorem kX8_isOfKind_13 (l : Launch) (dC : Nat → ClassId) (dI : Nat → Nat → Nat) (ca : Nat → ClassId) (a : Nat) : Met l yX8_isOfKind (Cond.code yX8_isOfKind cX8_isOfKind 2 (some .boolean) :: gT) (rk 1) (ROx (dC, dI) [(a, .inr (3, []))] (TY ca) TF [Value.ref a, Value.int (nI 3)]) (vp_Si (fun r => r = bI false)) 0 0 (fun _ => False) := by
  refine Met.ofW (cc := cX8_isOfKind) (maxL := 2) (ret := (some .boolean)) (by decide) rfl ?_
  intro p e s m args below meth c s₁ B hml hv
  obtain ⟨rfl, hP, hK, hE⟩ := hv
  have hx := B.exec
  have hb := B.bytes
  have hr := B.returns
  have hts := atoms_spec (ws := (Cond.code yX8_isOfKind cX8_isOfKind 2 (some .boolean) :: gT)) B.pre
  have htl : ∀ w ∈ gT, w.before _ s = true := fun w h => hts w (List.mem_cons_of_mem _ h)
  have hown : s.vm.findClass RX8 = some m.cls := findClass_of_methodNamed B.named
  have hlocks := B.notSynchronized
  have hl := lv_entry ([Value.ref a, Value.int (nI 3)]) (n := 2) (Nat.le_of_ble_eq_true rfl)
  rw [lg_entry_eq]
  generalize (lg_sl ([Value.ref a, Value.int (nI 3)]) ++ List.replicate (2 - (lg_sl ([Value.ref a, Value.int (nI 3)])).length) Slot.unset).toArray = ls at hl ⊢
  have hl : lv_has ls 2 [(0, .ref a), (1, .int (nI 3))] := hl
  refine lv_iload_n hx hb dX8_isOfKind_0 rfl (lv_at hl 1 rfl) ?_
  refine lv_tableIn (off := 47) (tgt := 48) hx hb dX8_isOfKind_1 (by decide) (by decide) rfl (by decide) ?_
  refine lv_aload_n hx hb dX8_isOfKind_48 rfl (lv_at hl 0 rfl) ?_
  refine va_instNo (C := RX3) hx hb hown (htl _ wd_305) (hE.1 _ (List.mem_of_getElem? (i := 8) rfl)) (va_recv hK hP (ci := 3) (q0 := 0) rfl rfl) dX8_isOfKind_49 ?_
  exact W.zret (v := nI 0) hx hb hr (by decide +kernel) (fun t ht hW => ⟨nI 0, rfl, by decide, ht⟩) (fun q h => by cases h) dX8_isOfKind_52
set_option maxHeartbeats 4000000 in
set_option maxRecDepth 100000 in
theorem kX8_isOfKind_14 (l : Launch) (dC : Nat → ClassId) (dI : Nat → Nat → Nat) (ca : Nat → ClassId) (a : Nat) : Met l yX8_isOfKind (Cond.code yX8_isOfKind cX8_isOfKind 2 (some .boolean) :: gT) (rk 1) (ROx (dC, dI) [(a, .inr (3, []))] (TY ca) TF [Value.ref a, Value.int (nI 4)]) (vp_Si (fun r => r = bI false)) 0 0 (fun _ => False) := by
  refine Met.ofW (cc := cX8_isOfKind) (maxL := 2) (ret := (some .boolean)) (by decide) rfl ?_
  intro p e s m args below meth c s₁ B hml hv
  obtain ⟨rfl, hP, hK, hE⟩ := hv
  have hx := B.exec
  have hb := B.bytes
  have hr := B.returns
  have hts := atoms_spec (ws := (Cond.code yX8_isOfKind cX8_isOfKind 2 (some .boolean) :: gT)) B.pre
  have htl : ∀ w ∈ gT, w.before _ s = true := fun w h => hts w (List.mem_cons_of_mem _ h)
  have hown : s.vm.findClass RX8 = some m.cls := findClass_of_methodNamed B.named
  have hlocks := B.notSynchronized
  have hl := lv_entry ([Value.ref a, Value.int (nI 4)]) (n := 2) (Nat.le_of_ble_eq_true rfl)
  rw [lg_entry_eq]
  generalize (lg_sl ([Value.ref a, Value.int (nI 4)]) ++ List.replicate (2 - (lg_sl ([Value.ref a, Value.int (nI 4)])).length) Slot.unset).toArray = ls at hl ⊢
  have hl : lv_has ls 2 [(0, .ref a), (1, .int (nI 4))] := hl
  refine lv_iload_n hx hb dX8_isOfKind_0 rfl (lv_at hl 1 rfl) ?_
  refine lv_tableIn (off := 52) (tgt := 53) hx hb dX8_isOfKind_1 (by decide) (by decide) rfl (by decide) ?_
  refine lv_aload_n hx hb dX8_isOfKind_53 rfl (lv_at hl 0 rfl) ?_
  refine va_instNo (C := RX3) hx hb hown (htl _ wd_312) (hE.1 _ (List.mem_of_getElem? (i := 12) rfl)) (va_recv hK hP (ci := 3) (q0 := 0) rfl rfl) dX8_isOfKind_54 ?_
  exact W.zret (v := nI 0) hx hb hr (by decide +kernel) (fun t ht hW => ⟨nI 0, rfl, by decide, ht⟩) (fun q h => by cases h) dX8_isOfKind_57
set_option maxHeartbeats 4000000 in
set_option maxRecDepth 100000 in
theorem kX8_isOfKind_20 (l : Launch) (dC : Nat → ClassId) (dI : Nat → Nat → Nat) (ca : Nat → ClassId) (a : Nat) : Met l yX8_isOfKind (Cond.code yX8_isOfKind cX8_isOfKind 2 (some .boolean) :: gT) (rk 1) (ROx (dC, dI) [(a, .inr (0, []))] (TY ca) TF [Value.ref a, Value.int (nI 0)]) (vp_Si (fun r => r = bI true)) 0 0 (fun _ => False) := by
  refine Met.ofW (cc := cX8_isOfKind) (maxL := 2) (ret := (some .boolean)) (by decide) rfl ?_
  intro p e s m args below meth c s₁ B hml hv
  obtain ⟨rfl, hP, hK, hE⟩ := hv
  have hx := B.exec
  have hb := B.bytes
  have hr := B.returns
  have hts := atoms_spec (ws := (Cond.code yX8_isOfKind cX8_isOfKind 2 (some .boolean) :: gT)) B.pre
  have htl : ∀ w ∈ gT, w.before _ s = true := fun w h => hts w (List.mem_cons_of_mem _ h)
  have hown : s.vm.findClass RX8 = some m.cls := findClass_of_methodNamed B.named
  have hlocks := B.notSynchronized
  have hl := lv_entry ([Value.ref a, Value.int (nI 0)]) (n := 2) (Nat.le_of_ble_eq_true rfl)
  rw [lg_entry_eq]
  generalize (lg_sl ([Value.ref a, Value.int (nI 0)]) ++ List.replicate (2 - (lg_sl ([Value.ref a, Value.int (nI 0)])).length) Slot.unset).toArray = ls at hl ⊢
  have hl : lv_has ls 2 [(0, .ref a), (1, .int (nI 0))] := hl
  refine lv_iload_n hx hb dX8_isOfKind_0 rfl (lv_at hl 1 rfl) ?_
  refine lv_tableIn (off := 35) (tgt := 36) hx hb dX8_isOfKind_1 (by decide) (by decide) rfl (by decide) ?_
  refine lv_iconst (v := nI 1) hx hb dX8_isOfKind_36 (by decide) ?_
  exact W.zret (v := nI 1) hx hb hr (by decide +kernel) (fun t ht hW => ⟨nI 1, rfl, by decide, ht⟩) (fun q h => by cases h) dX8_isOfKind_37
set_option maxHeartbeats 4000000 in
set_option maxRecDepth 100000 in
theorem kX8_isOfKind_21 (l : Launch) (dC : Nat → ClassId) (dI : Nat → Nat → Nat) (ca : Nat → ClassId) (a : Nat) : Met l yX8_isOfKind (Cond.code yX8_isOfKind cX8_isOfKind 2 (some .boolean) :: gT) (rk 1) (ROx (dC, dI) [(a, .inr (0, []))] (TY ca) TF [Value.ref a, Value.int (nI 1)]) (vp_Si (fun r => r = bI false)) 0 0 (fun _ => False) := by
  refine Met.ofW (cc := cX8_isOfKind) (maxL := 2) (ret := (some .boolean)) (by decide) rfl ?_
  intro p e s m args below meth c s₁ B hml hv
  obtain ⟨rfl, hP, hK, hE⟩ := hv
  have hx := B.exec
  have hb := B.bytes
  have hr := B.returns
  have hts := atoms_spec (ws := (Cond.code yX8_isOfKind cX8_isOfKind 2 (some .boolean) :: gT)) B.pre
  have htl : ∀ w ∈ gT, w.before _ s = true := fun w h => hts w (List.mem_cons_of_mem _ h)
  have hown : s.vm.findClass RX8 = some m.cls := findClass_of_methodNamed B.named
  have hlocks := B.notSynchronized
  have hl := lv_entry ([Value.ref a, Value.int (nI 1)]) (n := 2) (Nat.le_of_ble_eq_true rfl)
  rw [lg_entry_eq]
  generalize (lg_sl ([Value.ref a, Value.int (nI 1)]) ++ List.replicate (2 - (lg_sl ([Value.ref a, Value.int (nI 1)])).length) Slot.unset).toArray = ls at hl ⊢
  have hl : lv_has ls 2 [(0, .ref a), (1, .int (nI 1))] := hl
  refine lv_iload_n hx hb dX8_isOfKind_0 rfl (lv_at hl 1 rfl) ?_
  refine lv_tableIn (off := 37) (tgt := 38) hx hb dX8_isOfKind_1 (by decide) (by decide) rfl (by decide) ?_
  refine lv_aload_n hx hb dX8_isOfKind_38 rfl (lv_at hl 0 rfl) ?_
  refine va_instNo (C := RX0) hx hb hown (htl _ wd_291) (hE.1 _ (List.mem_of_getElem? (i := 1) rfl)) (va_recv hK hP (ci := 0) (q0 := 0) rfl rfl) dX8_isOfKind_39 ?_
  exact W.zret (v := nI 0) hx hb hr (by decide +kernel) (fun t ht hW => ⟨nI 0, rfl, by decide, ht⟩) (fun q h => by cases h) dX8_isOfKind_42
set_option maxHeartbeats 4000000 in
set_option maxRecDepth 100000 in
theorem kX8_isOfKind_22 (l : Launch) (dC : Nat → ClassId) (dI : Nat → Nat → Nat) (ca : Nat → ClassId) (a : Nat) : Met l yX8_isOfKind (Cond.code yX8_isOfKind cX8_isOfKind 2 (some .boolean) :: gT) (rk 1) (ROx (dC, dI) [(a, .inr (0, []))] (TY ca) TF [Value.ref a, Value.int (nI 2)]) (vp_Si (fun r => r = bI true)) 0 0 (fun _ => False) := by
  refine Met.ofW (cc := cX8_isOfKind) (maxL := 2) (ret := (some .boolean)) (by decide) rfl ?_
  intro p e s m args below meth c s₁ B hml hv
  obtain ⟨rfl, hP, hK, hE⟩ := hv
  have hx := B.exec
  have hb := B.bytes
  have hr := B.returns
  have hts := atoms_spec (ws := (Cond.code yX8_isOfKind cX8_isOfKind 2 (some .boolean) :: gT)) B.pre
  have htl : ∀ w ∈ gT, w.before _ s = true := fun w h => hts w (List.mem_cons_of_mem _ h)
  have hown : s.vm.findClass RX8 = some m.cls := findClass_of_methodNamed B.named
  have hlocks := B.notSynchronized
  have hl := lv_entry ([Value.ref a, Value.int (nI 2)]) (n := 2) (Nat.le_of_ble_eq_true rfl)
  rw [lg_entry_eq]
  generalize (lg_sl ([Value.ref a, Value.int (nI 2)]) ++ List.replicate (2 - (lg_sl ([Value.ref a, Value.int (nI 2)])).length) Slot.unset).toArray = ls at hl ⊢
  have hl : lv_has ls 2 [(0, .ref a), (1, .int (nI 2))] := hl
  refine lv_iload_n hx hb dX8_isOfKind_0 rfl (lv_at hl 1 rfl) ?_
  refine lv_tableIn (off := 42) (tgt := 43) hx hb dX8_isOfKind_1 (by decide) (by decide) rfl (by decide) ?_
  refine lv_aload_n hx hb dX8_isOfKind_43 rfl (lv_at hl 0 rfl) ?_
  refine va_instS hx hb hown (htl _ wd_298) ((hK.1 0 _ rfl).2) (va_recv hK hP (ci := 0) (q0 := 0) rfl rfl) dX8_isOfKind_44 ?_
  exact W.zret (v := nI 1) hx hb hr (by decide +kernel) (fun t ht hW => ⟨nI 1, rfl, by decide, ht⟩) (fun q h => by cases h) dX8_isOfKind_47
set_option maxHeartbeats 4000000 in
set_option maxRecDepth 100000 in
theorem kX8_isOfKind_23 (l : Launch) (dC : Nat → ClassId) (dI : Nat → Nat → Nat) (ca : Nat → ClassId) (a : Nat) : Met l yX8_isOfKind (Cond.code yX8_isOfKind cX8_isOfKind 2 (some .boolean) :: gT) (rk 1) (ROx (dC, dI) [(a, .inr (0, []))] (TY ca) TF [Value.ref a, Value.int (nI 3)]) (vp_Si (fun r => r = bI false)) 0 0 (fun _ => False) := by
  refine Met.ofW (cc := cX8_isOfKind) (maxL := 2) (ret := (some .boolean)) (by decide) rfl ?_
  intro p e s m args below meth c s₁ B hml hv
  obtain ⟨rfl, hP, hK, hE⟩ := hv
  have hx := B.exec
  have hb := B.bytes
  have hr := B.returns
  have hts := atoms_spec (ws := (Cond.code yX8_isOfKind cX8_isOfKind 2 (some .boolean) :: gT)) B.pre
  have htl : ∀ w ∈ gT, w.before _ s = true := fun w h => hts w (List.mem_cons_of_mem _ h)
  have hown : s.vm.findClass RX8 = some m.cls := findClass_of_methodNamed B.named
  have hlocks := B.notSynchronized
  have hl := lv_entry ([Value.ref a, Value.int (nI 3)]) (n := 2) (Nat.le_of_ble_eq_true rfl)
  rw [lg_entry_eq]
  generalize (lg_sl ([Value.ref a, Value.int (nI 3)]) ++ List.replicate (2 - (lg_sl ([Value.ref a, Value.int (nI 3)])).length) Slot.unset).toArray = ls at hl ⊢
  have hl : lv_has ls 2 [(0, .ref a), (1, .int (nI 3))] := hl
  refine lv_iload_n hx hb dX8_isOfKind_0 rfl (lv_at hl 1 rfl) ?_
  refine lv_tableIn (off := 47) (tgt := 48) hx hb dX8_isOfKind_1 (by decide) (by decide) rfl (by decide) ?_
  refine lv_aload_n hx hb dX8_isOfKind_48 rfl (lv_at hl 0 rfl) ?_
  refine va_instNo (C := RX0) hx hb hown (htl _ wd_305) (hE.1 _ (List.mem_of_getElem? (i := 9) rfl)) (va_recv hK hP (ci := 0) (q0 := 0) rfl rfl) dX8_isOfKind_49 ?_
  exact W.zret (v := nI 0) hx hb hr (by decide +kernel) (fun t ht hW => ⟨nI 0, rfl, by decide, ht⟩) (fun q h => by cases h) dX8_isOfKind_52
set_option maxHeartbeats 4000000 in
set_option maxRecDepth 100000 in
theorem kX8_isOfKind_24 (l : Launch) (dC : Nat → ClassId) (dI : Nat → Nat → Nat) (ca : Nat → ClassId) (a : Nat) : Met l yX8_isOfKind (Cond.code yX8_isOfKind cX8_isOfKind 2 (some .boolean) :: gT) (rk 1) (ROx (dC, dI) [(a, .inr (0, []))] (TY ca) TF [Value.ref a, Value.int (nI 4)]) (vp_Si (fun r => r = bI false)) 0 0 (fun _ => False) := by
  refine Met.ofW (cc := cX8_isOfKind) (maxL := 2) (ret := (some .boolean)) (by decide) rfl ?_
  intro p e s m args below meth c s₁ B hml hv
  obtain ⟨rfl, hP, hK, hE⟩ := hv
  have hx := B.exec
  have hb := B.bytes
  have hr := B.returns
  have hts := atoms_spec (ws := (Cond.code yX8_isOfKind cX8_isOfKind 2 (some .boolean) :: gT)) B.pre
  have htl : ∀ w ∈ gT, w.before _ s = true := fun w h => hts w (List.mem_cons_of_mem _ h)
  have hown : s.vm.findClass RX8 = some m.cls := findClass_of_methodNamed B.named
  have hlocks := B.notSynchronized
  have hl := lv_entry ([Value.ref a, Value.int (nI 4)]) (n := 2) (Nat.le_of_ble_eq_true rfl)
  rw [lg_entry_eq]
  generalize (lg_sl ([Value.ref a, Value.int (nI 4)]) ++ List.replicate (2 - (lg_sl ([Value.ref a, Value.int (nI 4)])).length) Slot.unset).toArray = ls at hl ⊢
  have hl : lv_has ls 2 [(0, .ref a), (1, .int (nI 4))] := hl
  refine lv_iload_n hx hb dX8_isOfKind_0 rfl (lv_at hl 1 rfl) ?_
  refine lv_tableIn (off := 52) (tgt := 53) hx hb dX8_isOfKind_1 (by decide) (by decide) rfl (by decide) ?_
  refine lv_aload_n hx hb dX8_isOfKind_53 rfl (lv_at hl 0 rfl) ?_
  refine va_instNo (C := RX0) hx hb hown (htl _ wd_312) (hE.1 _ (List.mem_of_getElem? (i := 13) rfl)) (va_recv hK hP (ci := 0) (q0 := 0) rfl rfl) dX8_isOfKind_54 ?_
  exact W.zret (v := nI 0) hx hb hr (by decide +kernel) (fun t ht hW => ⟨nI 0, rfl, by decide, ht⟩) (fun q h => by cases h) dX8_isOfKind_57
set_option maxHeartbeats 4000000 in
set_option maxRecDepth 100000 in
theorem kX8_isOfKind_30 (l : Launch) (dC : Nat → ClassId) (dI : Nat → Nat → Nat) (ca : Nat → ClassId) (a : Nat) : Met l yX8_isOfKind (Cond.code yX8_isOfKind cX8_isOfKind 2 (some .boolean) :: gT) (rk 1) (ROx (dC, dI) [(a, .inr (6, []))] (TY ca) TF [Value.ref a, Value.int (nI 0)]) (vp_Si (fun r => r = bI true)) 0 0 (fun _ => False) := by
  refine Met.ofW (cc := cX8_isOfKind) (maxL := 2) (ret := (some .boolean)) (by decide) rfl ?_
  intro p e s m args below meth c s₁ B hml hv
  obtain ⟨rfl, hP, hK, hE⟩ := hv
  have hx := B.exec
  have hb := B.bytes
  have hr := B.returns
  have hts := atoms_spec (ws := (Cond.code yX8_isOfKind cX8_isOfKind 2 (some .boolean) :: gT)) B.pre
  have htl : ∀ w ∈ gT, w.before _ s = true := fun w h => hts w (List.mem_cons_of_mem _ h)
  have hown : s.vm.findClass RX8 = some m.cls := findClass_of_methodNamed B.named
  have hlocks := B.notSynchronized
  have hl := lv_entry ([Value.ref a, Value.int (nI 0)]) (n := 2) (Nat.le_of_ble_eq_true rfl)
  rw [lg_entry_eq]
  generalize (lg_sl ([Value.ref a, Value.int (nI 0)]) ++ List.replicate (2 - (lg_sl ([Value.ref a, Value.int (nI 0)])).length) Slot.unset).toArray = ls at hl ⊢
  have hl : lv_has ls 2 [(0, .ref a), (1, .int (nI 0))] := hl
  refine lv_iload_n hx hb dX8_isOfKind_0 rfl (lv_at hl 1 rfl) ?_
  refine lv_tableIn (off := 35) (tgt := 36) hx hb dX8_isOfKind_1 (by decide) (by decide) rfl (by decide) ?_
  refine lv_iconst (v := nI 1) hx hb dX8_isOfKind_36 (by decide) ?_
  exact W.zret (v := nI 1) hx hb hr (by decide +kernel) (fun t ht hW => ⟨nI 1, rfl, by decide, ht⟩) (fun q h => by cases h) dX8_isOfKind_37
set_option maxHeartbeats 4000000 in
set_option maxRecDepth 100000 in
theorem kX8_isOfKind_31 (l : Launch) (dC : Nat → ClassId) (dI : Nat → Nat → Nat) (ca : Nat → ClassId) (a : Nat) : Met l yX8_isOfKind (Cond.code yX8_isOfKind cX8_isOfKind 2 (some .boolean) :: gT) (rk 1) (ROx (dC, dI) [(a, .inr (6, []))] (TY ca) TF [Value.ref a, Value.int (nI 1)]) (vp_Si (fun r => r = bI false)) 0 0 (fun _ => False) := by
  refine Met.ofW (cc := cX8_isOfKind) (maxL := 2) (ret := (some .boolean)) (by decide) rfl ?_
  intro p e s m args below meth c s₁ B hml hv
  obtain ⟨rfl, hP, hK, hE⟩ := hv
  have hx := B.exec
  have hb := B.bytes
  have hr := B.returns
  have hts := atoms_spec (ws := (Cond.code yX8_isOfKind cX8_isOfKind 2 (some .boolean) :: gT)) B.pre
  have htl : ∀ w ∈ gT, w.before _ s = true := fun w h => hts w (List.mem_cons_of_mem _ h)
  have hown : s.vm.findClass RX8 = some m.cls := findClass_of_methodNamed B.named
  have hlocks := B.notSynchronized
  have hl := lv_entry ([Value.ref a, Value.int (nI 1)]) (n := 2) (Nat.le_of_ble_eq_true rfl)
  rw [lg_entry_eq]
  generalize (lg_sl ([Value.ref a, Value.int (nI 1)]) ++ List.replicate (2 - (lg_sl ([Value.ref a, Value.int (nI 1)])).length) Slot.unset).toArray = ls at hl ⊢
  have hl : lv_has ls 2 [(0, .ref a), (1, .int (nI 1))] := hl
  refine lv_iload_n hx hb dX8_isOfKind_0 rfl (lv_at hl 1 rfl) ?_
  refine lv_tableIn (off := 37) (tgt := 38) hx hb dX8_isOfKind_1 (by decide) (by decide) rfl (by decide) ?_
  refine lv_aload_n hx hb dX8_isOfKind_38 rfl (lv_at hl 0 rfl) ?_
  refine va_instNo (C := RX6) hx hb hown (htl _ wd_291) (hE.1 _ (List.mem_of_getElem? (i := 2) rfl)) (va_recv hK hP (ci := 6) (q0 := 0) rfl rfl) dX8_isOfKind_39 ?_
  exact W.zret (v := nI 0) hx hb hr (by decide +kernel) (fun t ht hW => ⟨nI 0, rfl, by decide, ht⟩) (fun q h => by cases h) dX8_isOfKind_42
set_option maxHeartbeats 4000000 in
set_option maxRecDepth 100000 in
theorem kX8_isOfKind_32 (l : Launch) (dC : Nat → ClassId) (dI : Nat → Nat → Nat) (ca : Nat → ClassId) (a : Nat) : Met l yX8_isOfKind (Cond.code yX8_isOfKind cX8_isOfKind 2 (some .boolean) :: gT) (rk 1) (ROx (dC, dI) [(a, .inr (6, []))] (TY ca) TF [Value.ref a, Value.int (nI 2)]) (vp_Si (fun r => r = bI false)) 0 0 (fun _ => False) := by
  refine Met.ofW (cc := cX8_isOfKind) (maxL := 2) (ret := (some .boolean)) (by decide) rfl ?_
  intro p e s m args below meth c s₁ B hml hv
  obtain ⟨rfl, hP, hK, hE⟩ := hv
  have hx := B.exec
  have hb := B.bytes
  have hr := B.returns
  have hts := atoms_spec (ws := (Cond.code yX8_isOfKind cX8_isOfKind 2 (some .boolean) :: gT)) B.pre
  have htl : ∀ w ∈ gT, w.before _ s = true := fun w h => hts w (List.mem_cons_of_mem _ h)
  have hown : s.vm.findClass RX8 = some m.cls := findClass_of_methodNamed B.named
  have hlocks := B.notSynchronized
  have hl := lv_entry ([Value.ref a, Value.int (nI 2)]) (n := 2) (Nat.le_of_ble_eq_true rfl)
  rw [lg_entry_eq]
  generalize (lg_sl ([Value.ref a, Value.int (nI 2)]) ++ List.replicate (2 - (lg_sl ([Value.ref a, Value.int (nI 2)])).length) Slot.unset).toArray = ls at hl ⊢
  have hl : lv_has ls 2 [(0, .ref a), (1, .int (nI 2))] := hl
  refine lv_iload_n hx hb dX8_isOfKind_0 rfl (lv_at hl 1 rfl) ?_
  refine lv_tableIn (off := 42) (tgt := 43) hx hb dX8_isOfKind_1 (by decide) (by decide) rfl (by decide) ?_
  refine lv_aload_n hx hb dX8_isOfKind_43 rfl (lv_at hl 0 rfl) ?_
  refine va_instNo (C := RX6) hx hb hown (htl _ wd_298) (hE.1 _ (List.mem_of_getElem? (i := 6) rfl)) (va_recv hK hP (ci := 6) (q0 := 0) rfl rfl) dX8_isOfKind_44 ?_
  exact W.zret (v := nI 0) hx hb hr (by decide +kernel) (fun t ht hW => ⟨nI 0, rfl, by decide, ht⟩) (fun q h => by cases h) dX8_isOfKind_47
set_option maxHeartbeats 4000000 in
set_option maxRecDepth 100000 in
theorem kX8_isOfKind_33 (l : Launch) (dC : Nat → ClassId) (dI : Nat → Nat → Nat) (ca : Nat → ClassId) (a : Nat) : Met l yX8_isOfKind (Cond.code yX8_isOfKind cX8_isOfKind 2 (some .boolean) :: gT) (rk 1) (ROx (dC, dI) [(a, .inr (6, []))] (TY ca) TF [Value.ref a, Value.int (nI 3)]) (vp_Si (fun r => r = bI true)) 0 0 (fun _ => False) := by
  refine Met.ofW (cc := cX8_isOfKind) (maxL := 2) (ret := (some .boolean)) (by decide) rfl ?_
  intro p e s m args below meth c s₁ B hml hv
  obtain ⟨rfl, hP, hK, hE⟩ := hv
  have hx := B.exec
  have hb := B.bytes
  have hr := B.returns
  have hts := atoms_spec (ws := (Cond.code yX8_isOfKind cX8_isOfKind 2 (some .boolean) :: gT)) B.pre
  have htl : ∀ w ∈ gT, w.before _ s = true := fun w h => hts w (List.mem_cons_of_mem _ h)
  have hown : s.vm.findClass RX8 = some m.cls := findClass_of_methodNamed B.named
  have hlocks := B.notSynchronized
  have hl := lv_entry ([Value.ref a, Value.int (nI 3)]) (n := 2) (Nat.le_of_ble_eq_true rfl)
  rw [lg_entry_eq]
  generalize (lg_sl ([Value.ref a, Value.int (nI 3)]) ++ List.replicate (2 - (lg_sl ([Value.ref a, Value.int (nI 3)])).length) Slot.unset).toArray = ls at hl ⊢
  have hl : lv_has ls 2 [(0, .ref a), (1, .int (nI 3))] := hl
  refine lv_iload_n hx hb dX8_isOfKind_0 rfl (lv_at hl 1 rfl) ?_
  refine lv_tableIn (off := 47) (tgt := 48) hx hb dX8_isOfKind_1 (by decide) (by decide) rfl (by decide) ?_
  refine lv_aload_n hx hb dX8_isOfKind_48 rfl (lv_at hl 0 rfl) ?_
  refine va_instS hx hb hown (htl _ wd_305) ((hK.1 6 _ rfl).2) (va_recv hK hP (ci := 6) (q0 := 0) rfl rfl) dX8_isOfKind_49 ?_
  exact W.zret (v := nI 1) hx hb hr (by decide +kernel) (fun t ht hW => ⟨nI 1, rfl, by decide, ht⟩) (fun q h => by cases h) dX8_isOfKind_52
set_option maxHeartbeats 4000000 in
set_option maxRecDepth 100000 in
theorem kX8_isOfKind_34 (l : Launch) (dC : Nat → ClassId) (dI : Nat → Nat → Nat) (ca : Nat → ClassId) (a : Nat) : Met l yX8_isOfKind (Cond.code yX8_isOfKind cX8_isOfKind 2 (some .boolean) :: gT) (rk 1) (ROx (dC, dI) [(a, .inr (6, []))] (TY ca) TF [Value.ref a, Value.int (nI 4)]) (vp_Si (fun r => r = bI false)) 0 0 (fun _ => False) := by
  refine Met.ofW (cc := cX8_isOfKind) (maxL := 2) (ret := (some .boolean)) (by decide) rfl ?_
  intro p e s m args below meth c s₁ B hml hv
  obtain ⟨rfl, hP, hK, hE⟩ := hv
  have hx := B.exec
  have hb := B.bytes
  have hr := B.returns
  have hts := atoms_spec (ws := (Cond.code yX8_isOfKind cX8_isOfKind 2 (some .boolean) :: gT)) B.pre
  have htl : ∀ w ∈ gT, w.before _ s = true := fun w h => hts w (List.mem_cons_of_mem _ h)
  have hown : s.vm.findClass RX8 = some m.cls := findClass_of_methodNamed B.named
  have hlocks := B.notSynchronized
  have hl := lv_entry ([Value.ref a, Value.int (nI 4)]) (n := 2) (Nat.le_of_ble_eq_true rfl)
  rw [lg_entry_eq]
  generalize (lg_sl ([Value.ref a, Value.int (nI 4)]) ++ List.replicate (2 - (lg_sl ([Value.ref a, Value.int (nI 4)])).length) Slot.unset).toArray = ls at hl ⊢
  have hl : lv_has ls 2 [(0, .ref a), (1, .int (nI 4))] := hl
  refine lv_iload_n hx hb dX8_isOfKind_0 rfl (lv_at hl 1 rfl) ?_
  refine lv_tableIn (off := 52) (tgt := 53) hx hb dX8_isOfKind_1 (by decide) (by decide) rfl (by decide) ?_
  refine lv_aload_n hx hb dX8_isOfKind_53 rfl (lv_at hl 0 rfl) ?_
  refine va_instNo (C := RX6) hx hb hown (htl _ wd_312) (hE.1 _ (List.mem_of_getElem? (i := 14) rfl)) (va_recv hK hP (ci := 6) (q0 := 0) rfl rfl) dX8_isOfKind_54 ?_
  exact W.zret (v := nI 0) hx hb hr (by decide +kernel) (fun t ht hW => ⟨nI 0, rfl, by decide, ht⟩) (fun q h => by cases h) dX8_isOfKind_57
set_option maxHeartbeats 4000000 in
set_option maxRecDepth 100000 in
theorem kX8_isOfKind_40 (l : Launch) (dC : Nat → ClassId) (dI : Nat → Nat → Nat) (ca : Nat → ClassId) (a : Nat) : Met l yX8_isOfKind (Cond.code yX8_isOfKind cX8_isOfKind 2 (some .boolean) :: gT) (rk 1) (ROx (dC, dI) [(a, .inr (4, []))] (TY ca) TF [Value.ref a, Value.int (nI 0)]) (vp_Si (fun r => r = bI true)) 0 0 (fun _ => False) := by
  refine Met.ofW (cc := cX8_isOfKind) (maxL := 2) (ret := (some .boolean)) (by decide) rfl ?_
  intro p e s m args below meth c s₁ B hml hv
  obtain ⟨rfl, hP, hK, hE⟩ := hv
  have hx := B.exec
  have hb := B.bytes
  have hr := B.returns
  have hts := atoms_spec (ws := (Cond.code yX8_isOfKind cX8_isOfKind 2 (some .boolean) :: gT)) B.pre
  have htl : ∀ w ∈ gT, w.before _ s = true := fun w h => hts w (List.mem_cons_of_mem _ h)
  have hown : s.vm.findClass RX8 = some m.cls := findClass_of_methodNamed B.named
  have hlocks := B.notSynchronized
  have hl := lv_entry ([Value.ref a, Value.int (nI 0)]) (n := 2) (Nat.le_of_ble_eq_true rfl)
  rw [lg_entry_eq]
  generalize (lg_sl ([Value.ref a, Value.int (nI 0)]) ++ List.replicate (2 - (lg_sl ([Value.ref a, Value.int (nI 0)])).length) Slot.unset).toArray = ls at hl ⊢
  have hl : lv_has ls 2 [(0, .ref a), (1, .int (nI 0))] := hl
  refine lv_iload_n hx hb dX8_isOfKind_0 rfl (lv_at hl 1 rfl) ?_
  refine lv_tableIn (off := 35) (tgt := 36) hx hb dX8_isOfKind_1 (by decide) (by decide) rfl (by decide) ?_
  refine lv_iconst (v := nI 1) hx hb dX8_isOfKind_36 (by decide) ?_
  exact W.zret (v := nI 1) hx hb hr (by decide +kernel) (fun t ht hW => ⟨nI 1, rfl, by decide, ht⟩) (fun q h => by cases h) dX8_isOfKind_37
set_option maxHeartbeats 4000000 in
set_option maxRecDepth 100000 in
theorem kX8_isOfKind_41 (l : Launch) (dC : Nat → ClassId) (dI : Nat → Nat → Nat) (ca : Nat → ClassId) (a : Nat) : Met l yX8_isOfKind (Cond.code yX8_isOfKind cX8_isOfKind 2 (some .boolean) :: gT) (rk 1) (ROx (dC, dI) [(a, .inr (4, []))] (TY ca) TF [Value.ref a, Value.int (nI 1)]) (vp_Si (fun r => r = bI false)) 0 0 (fun _ => False) := by
  refine Met.ofW (cc := cX8_isOfKind) (maxL := 2) (ret := (some .boolean)) (by decide) rfl ?_
  intro p e s m args below meth c s₁ B hml hv
  obtain ⟨rfl, hP, hK, hE⟩ := hv
  have hx := B.exec
  have hb := B.bytes
  have hr := B.returns
  have hts := atoms_spec (ws := (Cond.code yX8_isOfKind cX8_isOfKind 2 (some .boolean) :: gT)) B.pre
  have htl : ∀ w ∈ gT, w.before _ s = true := fun w h => hts w (List.mem_cons_of_mem _ h)
  have hown : s.vm.findClass RX8 = some m.cls := findClass_of_methodNamed B.named
  have hlocks := B.notSynchronized
  have hl := lv_entry ([Value.ref a, Value.int (nI 1)]) (n := 2) (Nat.le_of_ble_eq_true rfl)
  rw [lg_entry_eq]
  generalize (lg_sl ([Value.ref a, Value.int (nI 1)]) ++ List.replicate (2 - (lg_sl ([Value.ref a, Value.int (nI 1)])).length) Slot.unset).toArray = ls at hl ⊢
  have hl : lv_has ls 2 [(0, .ref a), (1, .int (nI 1))] := hl
  refine lv_iload_n hx hb dX8_isOfKind_0 rfl (lv_at hl 1 rfl) ?_
  refine lv_tableIn (off := 37) (tgt := 38) hx hb dX8_isOfKind_1 (by decide) (by decide) rfl (by decide) ?_
  refine lv_aload_n hx hb dX8_isOfKind_38 rfl (lv_at hl 0 rfl) ?_
  refine va_instNo (C := RX4) hx hb hown (htl _ wd_291) (hE.1 _ (List.mem_of_getElem? (i := 3) rfl)) (va_recv hK hP (ci := 4) (q0 := 0) rfl rfl) dX8_isOfKind_39 ?_
  exact W.zret (v := nI 0) hx hb hr (by decide +kernel) (fun t ht hW => ⟨nI 0, rfl, by decide, ht⟩) (fun q h => by cases h) dX8_isOfKind_42
set_option maxHeartbeats 4000000 in
set_option maxRecDepth 100000 in
theorem kX8_isOfKind_42 (l : Launch) (dC : Nat → ClassId) (dI : Nat → Nat → Nat) (ca : Nat → ClassId) (a : Nat) : Met l yX8_isOfKind (Cond.code yX8_isOfKind cX8_isOfKind 2 (some .boolean) :: gT) (rk 1) (ROx (dC, dI) [(a, .inr (4, []))] (TY ca) TF [Value.ref a, Value.int (nI 2)]) (vp_Si (fun r => r = bI true)) 0 0 (fun _ => False) := by
  refine Met.ofW (cc := cX8_isOfKind) (maxL := 2) (ret := (some .boolean)) (by decide) rfl ?_
  intro p e s m args below meth c s₁ B hml hv
  obtain ⟨rfl, hP, hK, hE⟩ := hv
  have hx := B.exec
  have hb := B.bytes
  have hr := B.returns
  have hts := atoms_spec (ws := (Cond.code yX8_isOfKind cX8_isOfKind 2 (some .boolean) :: gT)) B.pre
  have htl : ∀ w ∈ gT, w.before _ s = true := fun w h => hts w (List.mem_cons_of_mem _ h)
  have hown : s.vm.findClass RX8 = some m.cls := findClass_of_methodNamed B.named
  have hlocks := B.notSynchronized
  have hl := lv_entry ([Value.ref a, Value.int (nI 2)]) (n := 2) (Nat.le_of_ble_eq_true rfl)
  rw [lg_entry_eq]
  generalize (lg_sl ([Value.ref a, Value.int (nI 2)]) ++ List.replicate (2 - (lg_sl ([Value.ref a, Value.int (nI 2)])).length) Slot.unset).toArray = ls at hl ⊢
  have hl : lv_has ls 2 [(0, .ref a), (1, .int (nI 2))] := hl
  refine lv_iload_n hx hb dX8_isOfKind_0 rfl (lv_at hl 1 rfl) ?_
  refine lv_tableIn (off := 42) (tgt := 43) hx hb dX8_isOfKind_1 (by decide) (by decide) rfl (by decide) ?_
  refine lv_aload_n hx hb dX8_isOfKind_43 rfl (lv_at hl 0 rfl) ?_
  refine va_instY (C := RX4) hx hb hown (htl _ wd_298) (hE.2.1 _ (List.mem_of_getElem? (i := 0) rfl)) (va_recv hK hP (ci := 4) (q0 := 0) rfl rfl) dX8_isOfKind_44 ?_
  exact W.zret (v := nI 1) hx hb hr (by decide +kernel) (fun t ht hW => ⟨nI 1, rfl, by decide, ht⟩) (fun q h => by cases h) dX8_isOfKind_47
set_option maxHeartbeats 4000000 in
set_option maxRecDepth 100000 in
theorem kX8_isOfKind_43 (l : Launch) (dC : Nat → ClassId) (dI : Nat → Nat → Nat) (ca : Nat → ClassId) (a : Nat) : Met l yX8_isOfKind (Cond.code yX8_isOfKind cX8_isOfKind 2 (some .boolean) :: gT) (rk 1) (ROx (dC, dI) [(a, .inr (4, []))] (TY ca) TF [Value.ref a, Value.int (nI 3)]) (vp_Si (fun r => r = bI false)) 0 0 (fun _ => False) := by
  refine Met.ofW (cc := cX8_isOfKind) (maxL := 2) (ret := (some .boolean)) (by decide) rfl ?_
  intro p e s m args below meth c s₁ B hml hv
  obtain ⟨rfl, hP, hK, hE⟩ := hv
  have hx := B.exec
  have hb := B.bytes
  have hr := B.returns
  have hts := atoms_spec (ws := (Cond.code yX8_isOfKind cX8_isOfKind 2 (some .boolean) :: gT)) B.pre
  have htl : ∀ w ∈ gT, w.before _ s = true := fun w h => hts w (List.mem_cons_of_mem _ h)
  have hown : s.vm.findClass RX8 = some m.cls := findClass_of_methodNamed B.named
  have hlocks := B.notSynchronized
  have hl := lv_entry ([Value.ref a, Value.int (nI 3)]) (n := 2) (Nat.le_of_ble_eq_true rfl)
  rw [lg_entry_eq]
  generalize (lg_sl ([Value.ref a, Value.int (nI 3)]) ++ List.replicate (2 - (lg_sl ([Value.ref a, Value.int (nI 3)])).length) Slot.unset).toArray = ls at hl ⊢
  have hl : lv_has ls 2 [(0, .ref a), (1, .int (nI 3))] := hl
  refine lv_iload_n hx hb dX8_isOfKind_0 rfl (lv_at hl 1 rfl) ?_
  refine lv_tableIn (off := 47) (tgt := 48) hx hb dX8_isOfKind_1 (by decide) (by decide) rfl (by decide) ?_
  refine lv_aload_n hx hb dX8_isOfKind_48 rfl (lv_at hl 0 rfl) ?_
  refine va_instNo (C := RX4) hx hb hown (htl _ wd_305) (hE.1 _ (List.mem_of_getElem? (i := 10) rfl)) (va_recv hK hP (ci := 4) (q0 := 0) rfl rfl) dX8_isOfKind_49 ?_
  exact W.zret (v := nI 0) hx hb hr (by decide +kernel) (fun t ht hW => ⟨nI 0, rfl, by decide, ht⟩) (fun q h => by cases h) dX8_isOfKind_52
set_option maxHeartbeats 4000000 in
set_option maxRecDepth 100000 in
theorem kX8_isOfKind_44 (l : Launch) (dC : Nat → ClassId) (dI : Nat → Nat → Nat) (ca : Nat → ClassId) (a : Nat) : Met l yX8_isOfKind (Cond.code yX8_isOfKind cX8_isOfKind 2 (some .boolean) :: gT) (rk 1) (ROx (dC, dI) [(a, .inr (4, []))] (TY ca) TF [Value.ref a, Value.int (nI 4)]) (vp_Si (fun r => r = bI true)) 0 0 (fun _ => False) := by
  refine Met.ofW (cc := cX8_isOfKind) (maxL := 2) (ret := (some .boolean)) (by decide) rfl ?_
  intro p e s m args below meth c s₁ B hml hv
  obtain ⟨rfl, hP, hK, hE⟩ := hv
  have hx := B.exec
  have hb := B.bytes
  have hr := B.returns
  have hts := atoms_spec (ws := (Cond.code yX8_isOfKind cX8_isOfKind 2 (some .boolean) :: gT)) B.pre
  have htl : ∀ w ∈ gT, w.before _ s = true := fun w h => hts w (List.mem_cons_of_mem _ h)
  have hown : s.vm.findClass RX8 = some m.cls := findClass_of_methodNamed B.named
  have hlocks := B.notSynchronized
  have hl := lv_entry ([Value.ref a, Value.int (nI 4)]) (n := 2) (Nat.le_of_ble_eq_true rfl)
  rw [lg_entry_eq]
  generalize (lg_sl ([Value.ref a, Value.int (nI 4)]) ++ List.replicate (2 - (lg_sl ([Value.ref a, Value.int (nI 4)])).length) Slot.unset).toArray = ls at hl ⊢
  have hl : lv_has ls 2 [(0, .ref a), (1, .int (nI 4))] := hl
  refine lv_iload_n hx hb dX8_isOfKind_0 rfl (lv_at hl 1 rfl) ?_
  refine lv_tableIn (off := 52) (tgt := 53) hx hb dX8_isOfKind_1 (by decide) (by decide) rfl (by decide) ?_
  refine lv_aload_n hx hb dX8_isOfKind_53 rfl (lv_at hl 0 rfl) ?_
  refine va_instS hx hb hown (htl _ wd_312) ((hK.1 4 _ rfl).2) (va_recv hK hP (ci := 4) (q0 := 0) rfl rfl) dX8_isOfKind_54 ?_
  exact W.zret (v := nI 1) hx hb hr (by decide +kernel) (fun t ht hW => ⟨nI 1, rfl, by decide, ht⟩) (fun q h => by cases h) dX8_isOfKind_57
theorem kX8_isOfKind (l : Launch) (dC : Nat → ClassId) (dI : Nat → Nat → Nat) (ca : Nat → ClassId) (qn : Nat → Nat) (i : Nat) (k : Nat) (kk : Nat) (hk : k < 5) (hkk : kk < 5) : Met l yX8_isOfKind (Cond.code yX8_isOfKind cX8_isOfKind 2 (some .boolean) :: gT) (rk 1) (ROx (dC, dI) [(qn i, .inr (kc k, []))] (TY ca) TF [Value.ref (qn i), Value.int (nI kk)]) (vp_Si (fun r => r = bI (asB k kk))) 0 0 (fun _ => False) := by
  rcases (show k = 0 ∨ k = 1 ∨ k = 2 ∨ k = 3 ∨ k = 4 by omega) with rfl | rfl | rfl | rfl | rfl <;> rcases (show kk = 0 ∨ kk = 1 ∨ kk = 2 ∨ kk = 3 ∨ kk = 4 by omega) with rfl | rfl | rfl | rfl | rfl
  · exact kX8_isOfKind_00 l dC dI ca (qn i)
  · exact kX8_isOfKind_01 l dC dI ca (qn i)
  · exact kX8_isOfKind_02 l dC dI ca (qn i)
  · exact kX8_isOfKind_03 l dC dI ca (qn i)
  · exact kX8_isOfKind_04 l dC dI ca (qn i)
  · exact kX8_isOfKind_10 l dC dI ca (qn i)
  · exact kX8_isOfKind_11 l dC dI ca (qn i)
  · exact kX8_isOfKind_12 l dC dI ca (qn i)
  · exact kX8_isOfKind_13 l dC dI ca (qn i)
  · exact kX8_isOfKind_14 l dC dI ca (qn i)
  · exact kX8_isOfKind_20 l dC dI ca (qn i)
  · exact kX8_isOfKind_21 l dC dI ca (qn i)
  · exact kX8_isOfKind_22 l dC dI ca (qn i)
  · exact kX8_isOfKind_23 l dC dI ca (qn i)
  · exact kX8_isOfKind_24 l dC dI ca (qn i)
  · exact kX8_isOfKind_30 l dC dI ca (qn i)
  · exact kX8_isOfKind_31 l dC dI ca (qn i)
  · exact kX8_isOfKind_32 l dC dI ca (qn i)
  · exact kX8_isOfKind_33 l dC dI ca (qn i)
  · exact kX8_isOfKind_34 l dC dI ca (qn i)
  · exact kX8_isOfKind_40 l dC dI ca (qn i)
  · exact kX8_isOfKind_41 l dC dI ca (qn i)
  · exact kX8_isOfKind_42 l dC dI ca (qn i)
  · exact kX8_isOfKind_43 l dC dI ca (qn i)
  · exact kX8_isOfKind_44 l dC dI ca (qn i)
set_option maxHeartbeats 4000000 in
set_option maxRecDepth 100000 in
theorem kX8_as (l : Launch) (dC : Nat → ClassId) (dI : Nat → Nat → Nat) (ca : Nat → ClassId) (x1 : Int32) (x2 : Int32) (q : Nat → Nat) (qn : Nat → Nat) (kd : Nat → Nat) (nc : Nat) (sr : Int32) (ik : Int32) (hnc : nc ≤ 4) (hkd : ∀ j, j < 4 → kd j < 5) : Met l yX8_as (Cond.code yX8_as cX8_as 3 (some .int) :: gT) (rk 2) (ROx (dC, dI) [(q 0, .inr (8, [.ref (q 1), .ref (q 3), .ref (q 4), .ref (q 9), .ref (q 14), .ref (q 15), .ref (q 16), .ref (q 17), .int (nI nc), .int sr, .int ik])), (q 3, .inl (ca 1, 4, .inr (.inr (.inr (.inr (fun zj => some (qn zj))))))), (qn 0, .inr (kc (kd 0), [])), (qn 1, .inr (kc (kd 1), [])), (qn 2, .inr (kc (kd 2), [])), (qn 3, .inr (kc (kd 3), []))] (TY ca) TF [Value.ref (q 0), Value.int x1, Value.int x2]) (vp_Si (fun r => r = asR nc kd x1 x2)) 0 0 (fun _ => False) := by
  refine Met.ofW (cc := cX8_as) (maxL := 3) (ret := (some .int)) (by decide) rfl ?_
  intro p e s m args below meth c s₁ B hml hv
  obtain ⟨rfl, hP, hK, hE⟩ := hv
  have hx := B.exec
  have hb := B.bytes
  have hr := B.returns
  have hts := atoms_spec (ws := (Cond.code yX8_as cX8_as 3 (some .int) :: gT)) B.pre
  have htl : ∀ w ∈ gT, w.before _ s = true := fun w h => hts w (List.mem_cons_of_mem _ h)
  have hown : s.vm.findClass RX8 = some m.cls := findClass_of_methodNamed B.named
  have hlocks := B.notSynchronized
  have hl := lv_entry ([Value.ref (q 0), Value.int x1, Value.int x2]) (n := 3) (Nat.le_of_ble_eq_true rfl)
  rw [lg_entry_eq]
  generalize (lg_sl ([Value.ref (q 0), Value.int x1, Value.int x2]) ++ List.replicate (3 - (lg_sl ([Value.ref (q 0), Value.int x1, Value.int x2])).length) Slot.unset).toArray = ls at hl ⊢
  have hl : lv_has ls 3 [(0, .ref (q 0)), (1, .int x1), (2, .int x2)] := hl
  refine lv_aload_n hx hb dX8_as_0 rfl (lv_at hl 0 rfl) ?_
  refine lv_iload_n hx hb dX8_as_1 rfl (lv_at hl 1 rfl) ?_
  refine roV (As := [Value.int x1]) (rest := []) (kX8_isNeedle l dC dI ca x1 q nc sr ik ) ⟨hx, hb, hml, hown, htl⟩ (cVg (C := RX8) 1 htl wd_332 wd_334 wp_2 wd_1 wd_335 rfl rfl (by decide +kernel) ⟨Nat.le_of_ble_eq_true rfl, Nat.le_of_ble_eq_true rfl⟩) (hP.sub [0] rfl) hK (va_recv hK hP (ci := 8) (q0 := 0) rfl rfl) rfl hl.1 rfl (Nat.le_of_ble_eq_true rfl) dX8_as_2 ⟨Nat.zero_le _, Nat.zero_le _⟩ (fun r hr9 => ?_)
  subst hr9
  refine lv_if_ne (tgt := 11) hx hb dX8_as_5 (by decide) (fun c_1 => ?_) (fun c_1 => ?_)
  · replace c_1 := bI_t c_1
    refine lv_iload_n hx hb dX8_as_11 rfl (lv_at hl 2 rfl) ?_
    refine lv_if_lt (tgt := 20) hx hb dX8_as_12 (by decide) (fun c_2 => ?_) (fun c_2 => ?_)
    · refine lv_bipush (v := (-102)) hx hb dX8_as_20 (by decide) ?_
      exact W.iret (v := (-102)) hx hb hr (fun t ht hW => ⟨(-102), rfl, by show _ = _; unfold asR; rw [if_pos c_1, show rng x2 5 = false by (unfold rng; rw [decide_eq_true c_2]; rfl)]; rfl, ht⟩) (fun q h => by cases h) dX8_as_22
    · refine lv_iload_n hx hb dX8_as_15 rfl (lv_at hl 2 rfl) ?_
      refine lv_iconst (v := nI 5) hx hb dX8_as_16 (by decide) ?_
      refine lv_icmp_lt (tgt := 23) hx hb dX8_as_17 (by decide) (fun c_3 => ?_) (fun c_3 => ?_)
      · have hr2 : rng x2 5 = true := by unfold rng; rw [decide_eq_false c_2, decide_eq_false (Int32.not_le.mpr c_3)]; rfl
        obtain ⟨i, hi, rfl⟩ := rng_ex c_1 (by omega)
        obtain ⟨kk, hkk, rfl⟩ := rng_ex hr2 (by decide)
        refine lv_aload_n hx hb dX8_as_23 rfl (lv_at hl 0 rfl) ?_
        refine va_get (D := (dC, dI)) (ci := 8) (v := .ref (q 3)) (C := RX8) (T := TX8) (N := 11) hx hb htl iX8 hown hK hP 0 rfl rfl 1 (by decide) (htl _ wd_112) (fun _ h9 => h9) rfl dX8_as_24 ?_
        refine lv_iload_n hx hb dX8_as_27 rfl (lv_at hl 1 rfl) ?_
        refine va_aldq hx hb hK hP 1 1 rfl rfl (vp_in_nI (by omega) (by decide)) dX8_as_28 ?_
        refine lv_rv (y := .ref (qn i)) (congrArg (fun zj => va_rf (some (qn zj))) (nI_clamp (by omega))) ?_
        refine lv_iload_n hx hb dX8_as_29 rfl (lv_at hl 2 rfl) ?_
        refine roSx (As := [Value.ref (qn i), Value.int (nI kk)]) (rest := []) (kX8_isOfKind l dC dI ca qn i (kd i) kk (hkd i (by omega)) hkk) TF_bl (fun U hU hW => hE.warm hW) ⟨hx, hb, hml, hown, htl⟩ (cSg 2 htl wd_429 wd_430 wd_1 wd_431 rfl rfl (by decide +kernel) ⟨Nat.le_of_ble_eq_true rfl, Nat.le_of_ble_eq_true rfl⟩) (va_P.app (hP.sub [] rfl) (nd4 hP i (by omega) 2 3 4 5 rfl rfl rfl rfl)) hK rfl hl.1 rfl (Nat.le_of_ble_eq_true rfl) dX8_as_30 ⟨Nat.zero_le _, Nat.zero_le _⟩ (fun r hr9 => ?_)
        subst hr9
        refine lv_if_eq (tgt := 40) hx hb dX8_as_33 (by decide) (fun c_4 => ?_) (fun c_4 => ?_)
        · replace c_4 := bI_f c_4
          refine lv_iconst (v := (-1)) hx hb dX8_as_40 (by decide) ?_
          exact W.iret (v := (-1)) hx hb hr (fun t ht hW => ⟨(-1), rfl, by show _ = _; simp [asR, c_1, hr2, c_4, nI_clamp (show i < 2 ^ 31 by omega), nI_clamp (show kk < 2 ^ 31 by omega)], ht⟩) (fun q h => by cases h) dX8_as_41
        · replace c_4 := bI_t c_4
          refine lv_iload_n hx hb dX8_as_36 rfl (lv_at hl 1 rfl) ?_
          refine lv_goto (tgt := 41) hx hb dX8_as_37 (by decide) ?_
          exact W.iret (v := nI i) hx hb hr (fun t ht hW => ⟨nI i, rfl, by show _ = _; simp [asR, c_1, hr2, c_4, nI_clamp (show i < 2 ^ 31 by omega), nI_clamp (show kk < 2 ^ 31 by omega)], ht⟩) (fun q h => by cases h) dX8_as_41
      · refine lv_bipush (v := (-102)) hx hb dX8_as_20 (by decide) ?_
        exact W.iret (v := (-102)) hx hb hr (fun t ht hW => ⟨(-102), rfl, by show _ = _; unfold asR; rw [if_pos c_1, show rng x2 5 = false by (unfold rng; rw [decide_eq_true (Int32.not_lt.mp c_3)]; simp)]; rfl, ht⟩) (fun q h => by cases h) dX8_as_22
  · replace c_1 := bI_f c_1
    refine lv_bipush (v := (-101)) hx hb dX8_as_8 (by decide) ?_
    exact W.iret (v := (-101)) hx hb hr (fun t ht hW => ⟨(-101), rfl, by show _ = _; simp [asR, c_1], ht⟩) (fun q h => by cases h) dX8_as_10
