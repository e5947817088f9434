set_option maxHeartbeats 4000000 in
set_option maxRecDepth 100000 in
theorem kX1_init_X1 (l : Launch) (dC : Nat → ClassId) (dI : Nat → Nat → Nat) (sz : Nat) (h0 : Nat) : Met l yX1_init (Cond.code yX1_init cX1_init 1 none :: gT) (rkA 1 0 0) (EFx (dC, dI) [(h0, .inr (1, []))] [] sz TF [Value.ref h0]) (va_Qv (fun (_ : (Nat → Nat) × (Nat → ClassId)) => True) (fun (u : (Nat → Nat) × (Nat → ClassId)) t => va_P (dC, dI) vwCl [(h0, .inr (1, []))] t.heap ∧ va_K (dC, dI) vwCl [] t ∧ va_D (va_A [(h0, .inr (1, []))] sz) [(h0, .inr (1, []))]) (va_A [(h0, .inr (1, []))] sz)) 0 0 (va_A [(h0, .inr (1, []))] sz) := by
  refine Met.ofW (cc := cX1_init) (maxL := 1) (ret := none) (by decide) rfl ?_
  intro p e s m args below meth c s₁ B hml hv
  obtain ⟨rfl, hsz, hP, hK, hD0, hE⟩ := hv
  have hx := B.exec
  have hb := B.bytes
  have hr := B.returns
  have hts := atoms_spec (ws := (Cond.code yX1_init cX1_init 1 none :: gT)) B.pre
  have htl : ∀ w ∈ gT, w.before _ s = true := fun w h => hts w (List.mem_cons_of_mem _ h)
  have hown : s.vm.findClass RX1 = some m.cls := findClass_of_methodNamed B.named
  have hlocks := B.notSynchronized
  have hin : meth.name = "<init>" := (name_of_methodNamed B.named B.method).1
  subst hsz
  have hD := hD0.self (sz := s.heap.size)
  generalize hAe : va_A [(h0, .inr (1, []))] s.heap.size = A at hD ⊢
  have hA : ∀ q : Nat, s.heap.size ≤ q → A q := fun q h => by rw [← hAe]; exact Or.inr h
  have hS : va_S A s.heap s.heap [] := va_S.rf
  have hl := lv_entry ([Value.ref h0]) (n := 1) (Nat.le_of_ble_eq_true rfl)
  rw [lg_entry_eq]
  generalize (lg_sl ([Value.ref h0]) ++ List.replicate (1 - (lg_sl ([Value.ref h0])).length) Slot.unset).toArray = ls at hl ⊢
  have hl : lv_has ls 1 [(0, .ref h0)] := hl
  refine lv_aload_n hx hb dX1_init_0 rfl (lv_at hl 0 rfl) ?_
  refine W.objInit hx hb hown (htl _ wd_109) (htl _ wd_26) (htl _ wd_27) rfl (by rw [hml]; exact hl.1) rfl dX1_init_1 (Nat.le_of_ble_eq_true rfl) (Nat.le_of_ble_eq_true rfl) ?_
  refine W.eq (g2 := F0 m 4 ls []) rfl ?_
  have hP9 := hP.sub (ws' := [(h0, .inr (1, []))]) [0] rfl
  have hD9 := hD.sub (ws' := [(h0, .inr (1, []))]) [0] (by decide) rfl
  have hK9 := hK.sub (tys' := []) [] rfl
  refine W.widen (k := 0) (n := 0) (Nat.le_refl _) (Nat.le_refl _) ?_
  exact W.vret hx hb hr (fun t ht hW => ⟨⟨((fun _ => 0), (fun _ => (dC 0))), rfl, trivial, by rw [ht]; exact hP9, va_K.moved hW.alike hK9, hD9⟩, hS.F ht⟩) hS.2.2 dX1_init_4
set_option maxHeartbeats 4000000 in
set_option maxRecDepth 100000 in
theorem kX1_init_X3 (l : Launch) (dC : Nat → ClassId) (dI : Nat → Nat → Nat) (sz : Nat) (h0 : Nat) : Met l yX1_init (Cond.code yX1_init cX1_init 1 none :: gT) (rkA 1 0 0) (EFx (dC, dI) [(h0, .inr (3, []))] [] sz TF [Value.ref h0]) (va_Qv (fun (_ : (Nat → Nat) × (Nat → ClassId)) => True) (fun (u : (Nat → Nat) × (Nat → ClassId)) t => va_P (dC, dI) vwCl [(h0, .inr (3, []))] t.heap ∧ va_K (dC, dI) vwCl [] t ∧ va_D (va_A [(h0, .inr (3, []))] sz) [(h0, .inr (3, []))]) (va_A [(h0, .inr (3, []))] sz)) 0 0 (va_A [(h0, .inr (3, []))] sz) := by
  refine Met.ofW (cc := cX1_init) (maxL := 1) (ret := none) (by decide) rfl ?_
  intro p e s m args below meth c s₁ B hml hv
  obtain ⟨rfl, hsz, hP, hK, hD0, hE⟩ := hv
  have hx := B.exec
  have hb := B.bytes
  have hr := B.returns
  have hts := atoms_spec (ws := (Cond.code yX1_init cX1_init 1 none :: gT)) B.pre
  have htl : ∀ w ∈ gT, w.before _ s = true := fun w h => hts w (List.mem_cons_of_mem _ h)
  have hown : s.vm.findClass RX1 = some m.cls := findClass_of_methodNamed B.named
  have hlocks := B.notSynchronized
  have hin : meth.name = "<init>" := (name_of_methodNamed B.named B.method).1
  subst hsz
  have hD := hD0.self (sz := s.heap.size)
  generalize hAe : va_A [(h0, .inr (3, []))] s.heap.size = A at hD ⊢
  have hA : ∀ q : Nat, s.heap.size ≤ q → A q := fun q h => by rw [← hAe]; exact Or.inr h
  have hS : va_S A s.heap s.heap [] := va_S.rf
  have hl := lv_entry ([Value.ref h0]) (n := 1) (Nat.le_of_ble_eq_true rfl)
  rw [lg_entry_eq]
  generalize (lg_sl ([Value.ref h0]) ++ List.replicate (1 - (lg_sl ([Value.ref h0])).length) Slot.unset).toArray = ls at hl ⊢
  have hl : lv_has ls 1 [(0, .ref h0)] := hl
  refine lv_aload_n hx hb dX1_init_0 rfl (lv_at hl 0 rfl) ?_
  refine W.objInit hx hb hown (htl _ wd_109) (htl _ wd_26) (htl _ wd_27) rfl (by rw [hml]; exact hl.1) rfl dX1_init_1 (Nat.le_of_ble_eq_true rfl) (Nat.le_of_ble_eq_true rfl) ?_
  refine W.eq (g2 := F0 m 4 ls []) rfl ?_
  have hP9 := hP.sub (ws' := [(h0, .inr (3, []))]) [0] rfl
  have hD9 := hD.sub (ws' := [(h0, .inr (3, []))]) [0] (by decide) rfl
  have hK9 := hK.sub (tys' := []) [] rfl
  refine W.widen (k := 0) (n := 0) (Nat.le_refl _) (Nat.le_refl _) ?_
  exact W.vret hx hb hr (fun t ht hW => ⟨⟨((fun _ => 0), (fun _ => (dC 0))), rfl, trivial, by rw [ht]; exact hP9, va_K.moved hW.alike hK9, hD9⟩, hS.F ht⟩) hS.2.2 dX1_init_4
set_option maxHeartbeats 4000000 in
set_option maxRecDepth 100000 in
theorem kX1_init_X0 (l : Launch) (dC : Nat → ClassId) (dI : Nat → Nat → Nat) (sz : Nat) (h0 : Nat) : Met l yX1_init (Cond.code yX1_init cX1_init 1 none :: gT) (rkA 1 0 0) (EFx (dC, dI) [(h0, .inr (0, []))] [] sz TF [Value.ref h0]) (va_Qv (fun (_ : (Nat → Nat) × (Nat → ClassId)) => True) (fun (u : (Nat → Nat) × (Nat → ClassId)) t => va_P (dC, dI) vwCl [(h0, .inr (0, []))] t.heap ∧ va_K (dC, dI) vwCl [] t ∧ va_D (va_A [(h0, .inr (0, []))] sz) [(h0, .inr (0, []))]) (va_A [(h0, .inr (0, []))] sz)) 0 0 (va_A [(h0, .inr (0, []))] sz) := by
  refine Met.ofW (cc := cX1_init) (maxL := 1) (ret := none) (by decide) rfl ?_
  intro p e s m args below meth c s₁ B hml hv
  obtain ⟨rfl, hsz, hP, hK, hD0, hE⟩ := hv
  have hx := B.exec
  have hb := B.bytes
  have hr := B.returns
  have hts := atoms_spec (ws := (Cond.code yX1_init cX1_init 1 none :: gT)) B.pre
  have htl : ∀ w ∈ gT, w.before _ s = true := fun w h => hts w (List.mem_cons_of_mem _ h)
  have hown : s.vm.findClass RX1 = some m.cls := findClass_of_methodNamed B.named
  have hlocks := B.notSynchronized
  have hin : meth.name = "<init>" := (name_of_methodNamed B.named B.method).1
  subst hsz
  have hD := hD0.self (sz := s.heap.size)
  generalize hAe : va_A [(h0, .inr (0, []))] s.heap.size = A at hD ⊢
  have hA : ∀ q : Nat, s.heap.size ≤ q → A q := fun q h => by rw [← hAe]; exact Or.inr h
  have hS : va_S A s.heap s.heap [] := va_S.rf
  have hl := lv_entry ([Value.ref h0]) (n := 1) (Nat.le_of_ble_eq_true rfl)
  rw [lg_entry_eq]
  generalize (lg_sl ([Value.ref h0]) ++ List.replicate (1 - (lg_sl ([Value.ref h0])).length) Slot.unset).toArray = ls at hl ⊢
  have hl : lv_has ls 1 [(0, .ref h0)] := hl
  refine lv_aload_n hx hb dX1_init_0 rfl (lv_at hl 0 rfl) ?_
  refine W.objInit hx hb hown (htl _ wd_109) (htl _ wd_26) (htl _ wd_27) rfl (by rw [hml]; exact hl.1) rfl dX1_init_1 (Nat.le_of_ble_eq_true rfl) (Nat.le_of_ble_eq_true rfl) ?_
  refine W.eq (g2 := F0 m 4 ls []) rfl ?_
  have hP9 := hP.sub (ws' := [(h0, .inr (0, []))]) [0] rfl
  have hD9 := hD.sub (ws' := [(h0, .inr (0, []))]) [0] (by decide) rfl
  have hK9 := hK.sub (tys' := []) [] rfl
  refine W.widen (k := 0) (n := 0) (Nat.le_refl _) (Nat.le_refl _) ?_
  exact W.vret hx hb hr (fun t ht hW => ⟨⟨((fun _ => 0), (fun _ => (dC 0))), rfl, trivial, by rw [ht]; exact hP9, va_K.moved hW.alike hK9, hD9⟩, hS.F ht⟩) hS.2.2 dX1_init_4
set_option maxHeartbeats 4000000 in
set_option maxRecDepth 100000 in
theorem kX1_init_X6 (l : Launch) (dC : Nat → ClassId) (dI : Nat → Nat → Nat) (sz : Nat) (h0 : Nat) : Met l yX1_init (Cond.code yX1_init cX1_init 1 none :: gT) (rkA 1 0 0) (EFx (dC, dI) [(h0, .inr (6, []))] [] sz TF [Value.ref h0]) (va_Qv (fun (_ : (Nat → Nat) × (Nat → ClassId)) => True) (fun (u : (Nat → Nat) × (Nat → ClassId)) t => va_P (dC, dI) vwCl [(h0, .inr (6, []))] t.heap ∧ va_K (dC, dI) vwCl [] t ∧ va_D (va_A [(h0, .inr (6, []))] sz) [(h0, .inr (6, []))]) (va_A [(h0, .inr (6, []))] sz)) 0 0 (va_A [(h0, .inr (6, []))] sz) := by
  refine Met.ofW (cc := cX1_init) (maxL := 1) (ret := none) (by decide) rfl ?_
  intro p e s m args below meth c s₁ B hml hv
  obtain ⟨rfl, hsz, hP, hK, hD0, hE⟩ := hv
  have hx := B.exec
  have hb := B.bytes
  have hr := B.returns
  have hts := atoms_spec (ws := (Cond.code yX1_init cX1_init 1 none :: gT)) B.pre
  have htl : ∀ w ∈ gT, w.before _ s = true := fun w h => hts w (List.mem_cons_of_mem _ h)
  have hown : s.vm.findClass RX1 = some m.cls := findClass_of_methodNamed B.named
  have hlocks := B.notSynchronized
  have hin : meth.name = "<init>" := (name_of_methodNamed B.named B.method).1
  subst hsz
  have hD := hD0.self (sz := s.heap.size)
  generalize hAe : va_A [(h0, .inr (6, []))] s.heap.size = A at hD ⊢
  have hA : ∀ q : Nat, s.heap.size ≤ q → A q := fun q h => by rw [← hAe]; exact Or.inr h
  have hS : va_S A s.heap s.heap [] := va_S.rf
  have hl := lv_entry ([Value.ref h0]) (n := 1) (Nat.le_of_ble_eq_true rfl)
  rw [lg_entry_eq]
  generalize (lg_sl ([Value.ref h0]) ++ List.replicate (1 - (lg_sl ([Value.ref h0])).length) Slot.unset).toArray = ls at hl ⊢
  have hl : lv_has ls 1 [(0, .ref h0)] := hl
  refine lv_aload_n hx hb dX1_init_0 rfl (lv_at hl 0 rfl) ?_
  refine W.objInit hx hb hown (htl _ wd_109) (htl _ wd_26) (htl _ wd_27) rfl (by rw [hml]; exact hl.1) rfl dX1_init_1 (Nat.le_of_ble_eq_true rfl) (Nat.le_of_ble_eq_true rfl) ?_
  refine W.eq (g2 := F0 m 4 ls []) rfl ?_
  have hP9 := hP.sub (ws' := [(h0, .inr (6, []))]) [0] rfl
  have hD9 := hD.sub (ws' := [(h0, .inr (6, []))]) [0] (by decide) rfl
  have hK9 := hK.sub (tys' := []) [] rfl
  refine W.widen (k := 0) (n := 0) (Nat.le_refl _) (Nat.le_refl _) ?_
  exact W.vret hx hb hr (fun t ht hW => ⟨⟨((fun _ => 0), (fun _ => (dC 0))), rfl, trivial, by rw [ht]; exact hP9, va_K.moved hW.alike hK9, hD9⟩, hS.F ht⟩) hS.2.2 dX1_init_4
set_option maxHeartbeats 4000000 in
set_option maxRecDepth 100000 in
theorem kX1_init_X4 (l : Launch) (dC : Nat → ClassId) (dI : Nat → Nat → Nat) (sz : Nat) (h0 : Nat) : Met l yX1_init (Cond.code yX1_init cX1_init 1 none :: gT) (rkA 1 0 0) (EFx (dC, dI) [(h0, .inr (4, []))] [] sz TF [Value.ref h0]) (va_Qv (fun (_ : (Nat → Nat) × (Nat → ClassId)) => True) (fun (u : (Nat → Nat) × (Nat → ClassId)) t => va_P (dC, dI) vwCl [(h0, .inr (4, []))] t.heap ∧ va_K (dC, dI) vwCl [] t ∧ va_D (va_A [(h0, .inr (4, []))] sz) [(h0, .inr (4, []))]) (va_A [(h0, .inr (4, []))] sz)) 0 0 (va_A [(h0, .inr (4, []))] sz) := by
  refine Met.ofW (cc := cX1_init) (maxL := 1) (ret := none) (by decide) rfl ?_
  intro p e s m args below meth c s₁ B hml hv
  obtain ⟨rfl, hsz, hP, hK, hD0, hE⟩ := hv
  have hx := B.exec
  have hb := B.bytes
  have hr := B.returns
  have hts := atoms_spec (ws := (Cond.code yX1_init cX1_init 1 none :: gT)) B.pre
  have htl : ∀ w ∈ gT, w.before _ s = true := fun w h => hts w (List.mem_cons_of_mem _ h)
  have hown : s.vm.findClass RX1 = some m.cls := findClass_of_methodNamed B.named
  have hlocks := B.notSynchronized
  have hin : meth.name = "<init>" := (name_of_methodNamed B.named B.method).1
  subst hsz
  have hD := hD0.self (sz := s.heap.size)
  generalize hAe : va_A [(h0, .inr (4, []))] s.heap.size = A at hD ⊢
  have hA : ∀ q : Nat, s.heap.size ≤ q → A q := fun q h => by rw [← hAe]; exact Or.inr h
  have hS : va_S A s.heap s.heap [] := va_S.rf
  have hl := lv_entry ([Value.ref h0]) (n := 1) (Nat.le_of_ble_eq_true rfl)
  rw [lg_entry_eq]
  generalize (lg_sl ([Value.ref h0]) ++ List.replicate (1 - (lg_sl ([Value.ref h0])).length) Slot.unset).toArray = ls at hl ⊢
  have hl : lv_has ls 1 [(0, .ref h0)] := hl
  refine lv_aload_n hx hb dX1_init_0 rfl (lv_at hl 0 rfl) ?_
  refine W.objInit hx hb hown (htl _ wd_109) (htl _ wd_26) (htl _ wd_27) rfl (by rw [hml]; exact hl.1) rfl dX1_init_1 (Nat.le_of_ble_eq_true rfl) (Nat.le_of_ble_eq_true rfl) ?_
  refine W.eq (g2 := F0 m 4 ls []) rfl ?_
  have hP9 := hP.sub (ws' := [(h0, .inr (4, []))]) [0] rfl
  have hD9 := hD.sub (ws' := [(h0, .inr (4, []))]) [0] (by decide) rfl
  have hK9 := hK.sub (tys' := []) [] rfl
  refine W.widen (k := 0) (n := 0) (Nat.le_refl _) (Nat.le_refl _) ?_
  exact W.vret hx hb hr (fun t ht hW => ⟨⟨((fun _ => 0), (fun _ => (dC 0))), rfl, trivial, by rw [ht]; exact hP9, va_K.moved hW.alike hK9, hD9⟩, hS.F ht⟩) hS.2.2 dX1_init_4
set_option maxHeartbeats 4000000 in
set_option maxRecDepth 100000 in
theorem kX0_init_X0 (l : Launch) (dC : Nat → ClassId) (dI : Nat → Nat → Nat) (sz : Nat) (h0 : Nat) : Met l yX0_init (Cond.code yX0_init cX0_init 1 none :: gT) (rkA 2 0 0) (EFx (dC, dI) [(h0, .inr (0, []))] [] sz TF [Value.ref h0]) (va_Qv (fun (_ : (Nat → Nat) × (Nat → ClassId)) => True) (fun (u : (Nat → Nat) × (Nat → ClassId)) t => va_P (dC, dI) vwCl [(h0, .inr (0, []))] t.heap ∧ va_K (dC, dI) vwCl [] t ∧ va_D (va_A [(h0, .inr (0, []))] sz) [(h0, .inr (0, []))]) (va_A [(h0, .inr (0, []))] sz)) 0 0 (va_A [(h0, .inr (0, []))] sz) := by
  refine Met.ofW (cc := cX0_init) (maxL := 1) (ret := none) (by decide) rfl ?_
  intro p e s m args below meth c s₁ B hml hv
  obtain ⟨rfl, hsz, hP, hK, hD0, hE⟩ := hv
  have hx := B.exec
  have hb := B.bytes
  have hr := B.returns
  have hts := atoms_spec (ws := (Cond.code yX0_init cX0_init 1 none :: gT)) B.pre
  have htl : ∀ w ∈ gT, w.before _ s = true := fun w h => hts w (List.mem_cons_of_mem _ h)
  have hown : s.vm.findClass RX0 = some m.cls := findClass_of_methodNamed B.named
  have hlocks := B.notSynchronized
  have hin : meth.name = "<init>" := (name_of_methodNamed B.named B.method).1
  subst hsz
  have hD := hD0.self (sz := s.heap.size)
  generalize hAe : va_A [(h0, .inr (0, []))] s.heap.size = A at hD ⊢
  have hA : ∀ q : Nat, s.heap.size ≤ q → A q := fun q h => by rw [← hAe]; exact Or.inr h
  have hS : va_S A s.heap s.heap [] := va_S.rf
  have hl := lv_entry ([Value.ref h0]) (n := 1) (Nat.le_of_ble_eq_true rfl)
  rw [lg_entry_eq]
  generalize (lg_sl ([Value.ref h0]) ++ List.replicate (1 - (lg_sl ([Value.ref h0])).length) Slot.unset).toArray = ls at hl ⊢
  have hl : lv_has ls 1 [(0, .ref h0)] := hl
  refine lv_aload_n hx hb dX0_init_0 rfl (lv_at hl 0 rfl) ?_
  refine efIx (As := []) (rest := []) (wr := []) (kX1_init_X0 l dC dI _ h0) TF_bl (fun U hU hW => hE.warm hW) ⟨hx, hb, hml, hown, htl⟩ ⟨va_cnB (host := "HomeNeedles") 0 htl (gT_cons wd_108) rfl rfl rfl (hE.2.2.1 _ (List.mem_of_getElem? (i := 7) rfl)) (htl _ wd_5) (by decide +kernel) ⟨(Nat.le_of_ble_eq_true rfl), (Nat.le_of_ble_eq_true rfl)⟩, rfl, htl _ wd_107⟩ hP hD hS hA hK [0] [] rfl rfl (by decide) (by decide) (by decide) rfl hl.1 rfl (Nat.le_of_ble_eq_true rfl) dX0_init_1 ⟨(Nat.le_of_ble_eq_true rfl), (Nat.le_of_ble_eq_true rfl)⟩ (fun u H locs hP hD hK hS => ?_)
  obtain ⟨a1, k1⟩ := u
  have hP : va_P (dC, dI) vwCl [(h0, .inr (0, []))] H := hP
  have hD : va_D A [(h0, .inr (0, []))] := hD
  have hK : va_K (dC, dI) vwCl [] s := hK
  refine W.widen (k := 0) (n := 0) (Nat.le_refl _) (Nat.le_refl _) ?_
  have hP9 := hP.sub (ws' := [(h0, .inr (0, []))]) [0] rfl
  have hD9 := hD.sub (ws' := [(h0, .inr (0, []))]) [0] (by decide) rfl
  have hK9 := hK.sub (tys' := []) [] rfl
  refine W.widen (k := 0) (n := 0) (Nat.le_refl _) (Nat.le_refl _) ?_
  exact W.vret hx hb hr (fun t ht hW => ⟨⟨((fun _ => 0), (fun _ => (dC 0))), rfl, trivial, by rw [ht]; exact hP9, va_K.moved hW.alike hK9, hD9⟩, hS.F ht⟩) hS.2.2 dX0_init_4
set_option maxHeartbeats 4000000 in
set_option maxRecDepth 100000 in
theorem kX0_init_X4 (l : Launch) (dC : Nat → ClassId) (dI : Nat → Nat → Nat) (sz : Nat) (h0 : Nat) : Met l yX0_init (Cond.code yX0_init cX0_init 1 none :: gT) (rkA 2 0 0) (EFx (dC, dI) [(h0, .inr (4, []))] [] sz TF [Value.ref h0]) (va_Qv (fun (_ : (Nat → Nat) × (Nat → ClassId)) => True) (fun (u : (Nat → Nat) × (Nat → ClassId)) t => va_P (dC, dI) vwCl [(h0, .inr (4, []))] t.heap ∧ va_K (dC, dI) vwCl [] t ∧ va_D (va_A [(h0, .inr (4, []))] sz) [(h0, .inr (4, []))]) (va_A [(h0, .inr (4, []))] sz)) 0 0 (va_A [(h0, .inr (4, []))] sz) := by
  refine Met.ofW (cc := cX0_init) (maxL := 1) (ret := none) (by decide) rfl ?_
  intro p e s m args below meth c s₁ B hml hv
  obtain ⟨rfl, hsz, hP, hK, hD0, hE⟩ := hv
  have hx := B.exec
  have hb := B.bytes
  have hr := B.returns
  have hts := atoms_spec (ws := (Cond.code yX0_init cX0_init 1 none :: gT)) B.pre
  have htl : ∀ w ∈ gT, w.before _ s = true := fun w h => hts w (List.mem_cons_of_mem _ h)
  have hown : s.vm.findClass RX0 = some m.cls := findClass_of_methodNamed B.named
  have hlocks := B.notSynchronized
  have hin : meth.name = "<init>" := (name_of_methodNamed B.named B.method).1
  subst hsz
  have hD := hD0.self (sz := s.heap.size)
  generalize hAe : va_A [(h0, .inr (4, []))] s.heap.size = A at hD ⊢
  have hA : ∀ q : Nat, s.heap.size ≤ q → A q := fun q h => by rw [← hAe]; exact Or.inr h
  have hS : va_S A s.heap s.heap [] := va_S.rf
  have hl := lv_entry ([Value.ref h0]) (n := 1) (Nat.le_of_ble_eq_true rfl)
  rw [lg_entry_eq]
  generalize (lg_sl ([Value.ref h0]) ++ List.replicate (1 - (lg_sl ([Value.ref h0])).length) Slot.unset).toArray = ls at hl ⊢
  have hl : lv_has ls 1 [(0, .ref h0)] := hl
  refine lv_aload_n hx hb dX0_init_0 rfl (lv_at hl 0 rfl) ?_
  refine efIx (As := []) (rest := []) (wr := []) (kX1_init_X4 l dC dI _ h0) TF_bl (fun U hU hW => hE.warm hW) ⟨hx, hb, hml, hown, htl⟩ ⟨va_cnB (host := "HomeNeedles") 0 htl (gT_cons wd_108) rfl rfl rfl (hE.2.2.1 _ (List.mem_of_getElem? (i := 7) rfl)) (htl _ wd_5) (by decide +kernel) ⟨(Nat.le_of_ble_eq_true rfl), (Nat.le_of_ble_eq_true rfl)⟩, rfl, htl _ wd_107⟩ hP hD hS hA hK [0] [] rfl rfl (by decide) (by decide) (by decide) rfl hl.1 rfl (Nat.le_of_ble_eq_true rfl) dX0_init_1 ⟨(Nat.le_of_ble_eq_true rfl), (Nat.le_of_ble_eq_true rfl)⟩ (fun u H locs hP hD hK hS => ?_)
  obtain ⟨a1, k1⟩ := u
  have hP : va_P (dC, dI) vwCl [(h0, .inr (4, []))] H := hP
  have hD : va_D A [(h0, .inr (4, []))] := hD
  have hK : va_K (dC, dI) vwCl [] s := hK
  refine W.widen (k := 0) (n := 0) (Nat.le_refl _) (Nat.le_refl _) ?_
  have hP9 := hP.sub (ws' := [(h0, .inr (4, []))]) [0] rfl
  have hD9 := hD.sub (ws' := [(h0, .inr (4, []))]) [0] (by decide) rfl
  have hK9 := hK.sub (tys' := []) [] rfl
  refine W.widen (k := 0) (n := 0) (Nat.le_refl _) (Nat.le_refl _) ?_
  exact W.vret hx hb hr (fun t ht hW => ⟨⟨((fun _ => 0), (fun _ => (dC 0))), rfl, trivial, by rw [ht]; exact hP9, va_K.moved hW.alike hK9, hD9⟩, hS.F ht⟩) hS.2.2 dX0_init_4
set_option maxHeartbeats 4000000 in
set_option maxRecDepth 100000 in
theorem kX3_init (l : Launch) (dC : Nat → ClassId) (dI : Nat → Nat → Nat) (sz : Nat) (h0 : Nat) : Met l yX3_init (Cond.code yX3_init cX3_init 1 none :: gT) (rkA 2 0 0) (EFx (dC, dI) [(h0, .inr (3, []))] [] sz TF [Value.ref h0]) (va_Qv (fun (_ : (Nat → Nat) × (Nat → ClassId)) => True) (fun (u : (Nat → Nat) × (Nat → ClassId)) t => va_P (dC, dI) vwCl [(h0, .inr (3, []))] t.heap ∧ va_K (dC, dI) vwCl [] t ∧ va_D (va_A [(h0, .inr (3, []))] sz) [(h0, .inr (3, []))]) (va_A [(h0, .inr (3, []))] sz)) 0 0 (va_A [(h0, .inr (3, []))] sz) := by
  refine Met.ofW (cc := cX3_init) (maxL := 1) (ret := none) (by decide) rfl ?_
  intro p e s m args below meth c s₁ B hml hv
  obtain ⟨rfl, hsz, hP, hK, hD0, hE⟩ := hv
  have hx := B.exec
  have hb := B.bytes
  have hr := B.returns
  have hts := atoms_spec (ws := (Cond.code yX3_init cX3_init 1 none :: gT)) B.pre
  have htl : ∀ w ∈ gT, w.before _ s = true := fun w h => hts w (List.mem_cons_of_mem _ h)
  have hown : s.vm.findClass RX3 = some m.cls := findClass_of_methodNamed B.named
  have hlocks := B.notSynchronized
  have hin : meth.name = "<init>" := (name_of_methodNamed B.named B.method).1
  subst hsz
  have hD := hD0.self (sz := s.heap.size)
  generalize hAe : va_A [(h0, .inr (3, []))] s.heap.size = A at hD ⊢
  have hA : ∀ q : Nat, s.heap.size ≤ q → A q := fun q h => by rw [← hAe]; exact Or.inr h
  have hS : va_S A s.heap s.heap [] := va_S.rf
  have hl := lv_entry ([Value.ref h0]) (n := 1) (Nat.le_of_ble_eq_true rfl)
  rw [lg_entry_eq]
  generalize (lg_sl ([Value.ref h0]) ++ List.replicate (1 - (lg_sl ([Value.ref h0])).length) Slot.unset).toArray = ls at hl ⊢
  have hl : lv_has ls 1 [(0, .ref h0)] := hl
  refine lv_aload_n hx hb dX3_init_0 rfl (lv_at hl 0 rfl) ?_
  refine efIx (As := []) (rest := []) (wr := []) (kX1_init_X3 l dC dI _ h0) TF_bl (fun U hU hW => hE.warm hW) ⟨hx, hb, hml, hown, htl⟩ ⟨va_cnB (host := "HomeNeedles") 0 htl (gT_cons wd_108) rfl rfl rfl (hE.2.2.1 _ (List.mem_of_getElem? (i := 5) rfl)) (htl _ wd_5) (by decide +kernel) ⟨(Nat.le_of_ble_eq_true rfl), (Nat.le_of_ble_eq_true rfl)⟩, rfl, htl _ wd_107⟩ hP hD hS hA hK [0] [] rfl rfl (by decide) (by decide) (by decide) rfl hl.1 rfl (Nat.le_of_ble_eq_true rfl) dX3_init_1 ⟨(Nat.le_of_ble_eq_true rfl), (Nat.le_of_ble_eq_true rfl)⟩ (fun u H locs hP hD hK hS => ?_)
  obtain ⟨a1, k1⟩ := u
  have hP : va_P (dC, dI) vwCl [(h0, .inr (3, []))] H := hP
  have hD : va_D A [(h0, .inr (3, []))] := hD
  have hK : va_K (dC, dI) vwCl [] s := hK
  refine W.widen (k := 0) (n := 0) (Nat.le_refl _) (Nat.le_refl _) ?_
  have hP9 := hP.sub (ws' := [(h0, .inr (3, []))]) [0] rfl
  have hD9 := hD.sub (ws' := [(h0, .inr (3, []))]) [0] (by decide) rfl
  have hK9 := hK.sub (tys' := []) [] rfl
  refine W.widen (k := 0) (n := 0) (Nat.le_refl _) (Nat.le_refl _) ?_
  exact W.vret hx hb hr (fun t ht hW => ⟨⟨((fun _ => 0), (fun _ => (dC 0))), rfl, trivial, by rw [ht]; exact hP9, va_K.moved hW.alike hK9, hD9⟩, hS.F ht⟩) hS.2.2 dX3_init_4
set_option maxHeartbeats 4000000 in
set_option maxRecDepth 100000 in
theorem kX6_init (l : Launch) (dC : Nat → ClassId) (dI : Nat → Nat → Nat) (sz : Nat) (h0 : Nat) : Met l yX6_init (Cond.code yX6_init cX6_init 1 none :: gT) (rkA 2 0 0) (EFx (dC, dI) [(h0, .inr (6, []))] [] sz TF [Value.ref h0]) (va_Qv (fun (_ : (Nat → Nat) × (Nat → ClassId)) => True) (fun (u : (Nat → Nat) × (Nat → ClassId)) t => va_P (dC, dI) vwCl [(h0, .inr (6, []))] t.heap ∧ va_K (dC, dI) vwCl [] t ∧ va_D (va_A [(h0, .inr (6, []))] sz) [(h0, .inr (6, []))]) (va_A [(h0, .inr (6, []))] sz)) 0 0 (va_A [(h0, .inr (6, []))] sz) := by
  refine Met.ofW (cc := cX6_init) (maxL := 1) (ret := none) (by decide) rfl ?_
  intro p e s m args below meth c s₁ B hml hv
  obtain ⟨rfl, hsz, hP, hK, hD0, hE⟩ := hv
  have hx := B.exec
  have hb := B.bytes
  have hr := B.returns
  have hts := atoms_spec (ws := (Cond.code yX6_init cX6_init 1 none :: gT)) B.pre
  have htl : ∀ w ∈ gT, w.before _ s = true := fun w h => hts w (List.mem_cons_of_mem _ h)
  have hown : s.vm.findClass RX6 = some m.cls := findClass_of_methodNamed B.named
  have hlocks := B.notSynchronized
  have hin : meth.name = "<init>" := (name_of_methodNamed B.named B.method).1
  subst hsz
  have hD := hD0.self (sz := s.heap.size)
  generalize hAe : va_A [(h0, .inr (6, []))] s.heap.size = A at hD ⊢
  have hA : ∀ q : Nat, s.heap.size ≤ q → A q := fun q h => by rw [← hAe]; exact Or.inr h
  have hS : va_S A s.heap s.heap [] := va_S.rf
  have hl := lv_entry ([Value.ref h0]) (n := 1) (Nat.le_of_ble_eq_true rfl)
  rw [lg_entry_eq]
  generalize (lg_sl ([Value.ref h0]) ++ List.replicate (1 - (lg_sl ([Value.ref h0])).length) Slot.unset).toArray = ls at hl ⊢
  have hl : lv_has ls 1 [(0, .ref h0)] := hl
  refine lv_aload_n hx hb dX6_init_0 rfl (lv_at hl 0 rfl) ?_
  refine efIx (As := []) (rest := []) (wr := []) (kX1_init_X6 l dC dI _ h0) TF_bl (fun U hU hW => hE.warm hW) ⟨hx, hb, hml, hown, htl⟩ ⟨va_cnB (host := "HomeNeedles") 0 htl (gT_cons wd_108) rfl rfl rfl (hE.2.2.1 _ (List.mem_of_getElem? (i := 9) rfl)) (htl _ wd_5) (by decide +kernel) ⟨(Nat.le_of_ble_eq_true rfl), (Nat.le_of_ble_eq_true rfl)⟩, rfl, htl _ wd_107⟩ hP hD hS hA hK [0] [] rfl rfl (by decide) (by decide) (by decide) rfl hl.1 rfl (Nat.le_of_ble_eq_true rfl) dX6_init_1 ⟨(Nat.le_of_ble_eq_true rfl), (Nat.le_of_ble_eq_true rfl)⟩ (fun u H locs hP hD hK hS => ?_)
  obtain ⟨a1, k1⟩ := u
  have hP : va_P (dC, dI) vwCl [(h0, .inr (6, []))] H := hP
  have hD : va_D A [(h0, .inr (6, []))] := hD
  have hK : va_K (dC, dI) vwCl [] s := hK
  refine W.widen (k := 0) (n := 0) (Nat.le_refl _) (Nat.le_refl _) ?_
  have hP9 := hP.sub (ws' := [(h0, .inr (6, []))]) [0] rfl
  have hD9 := hD.sub (ws' := [(h0, .inr (6, []))]) [0] (by decide) rfl
  have hK9 := hK.sub (tys' := []) [] rfl
  refine W.widen (k := 0) (n := 0) (Nat.le_refl _) (Nat.le_refl _) ?_
  exact W.vret hx hb hr (fun t ht hW => ⟨⟨((fun _ => 0), (fun _ => (dC 0))), rfl, trivial, by rw [ht]; exact hP9, va_K.moved hW.alike hK9, hD9⟩, hS.F ht⟩) hS.2.2 dX6_init_4
set_option maxHeartbeats 4000000 in
set_option maxRecDepth 100000 in
theorem kX4_init (l : Launch) (dC : Nat → ClassId) (dI : Nat → Nat → Nat) (sz : Nat) (h0 : Nat) : Met l yX4_init (Cond.code yX4_init cX4_init 1 none :: gT) (rkA 3 0 0) (EFx (dC, dI) [(h0, .inr (4, []))] [] sz TF [Value.ref h0]) (va_Qv (fun (_ : (Nat → Nat) × (Nat → ClassId)) => True) (fun (u : (Nat → Nat) × (Nat → ClassId)) t => va_P (dC, dI) vwCl [(h0, .inr (4, []))] t.heap ∧ va_K (dC, dI) vwCl [] t ∧ va_D (va_A [(h0, .inr (4, []))] sz) [(h0, .inr (4, []))]) (va_A [(h0, .inr (4, []))] sz)) 0 0 (va_A [(h0, .inr (4, []))] sz) := by
  refine Met.ofW (cc := cX4_init) (maxL := 1) (ret := none) (by decide) rfl ?_
  intro p e s m args below meth c s₁ B hml hv
  obtain ⟨rfl, hsz, hP, hK, hD0, hE⟩ := hv
  have hx := B.exec
  have hb := B.bytes
  have hr := B.returns
  have hts := atoms_spec (ws := (Cond.code yX4_init cX4_init 1 none :: gT)) B.pre
  have htl : ∀ w ∈ gT, w.before _ s = true := fun w h => hts w (List.mem_cons_of_mem _ h)
  have hown : s.vm.findClass RX4 = some m.cls := findClass_of_methodNamed B.named
  have hlocks := B.notSynchronized
  have hin : meth.name = "<init>" := (name_of_methodNamed B.named B.method).1
  subst hsz
  have hD := hD0.self (sz := s.heap.size)
  generalize hAe : va_A [(h0, .inr (4, []))] s.heap.size = A at hD ⊢
  have hA : ∀ q : Nat, s.heap.size ≤ q → A q := fun q h => by rw [← hAe]; exact Or.inr h
  have hS : va_S A s.heap s.heap [] := va_S.rf
  have hl := lv_entry ([Value.ref h0]) (n := 1) (Nat.le_of_ble_eq_true rfl)
  rw [lg_entry_eq]
  generalize (lg_sl ([Value.ref h0]) ++ List.replicate (1 - (lg_sl ([Value.ref h0])).length) Slot.unset).toArray = ls at hl ⊢
  have hl : lv_has ls 1 [(0, .ref h0)] := hl
  refine lv_aload_n hx hb dX4_init_0 rfl (lv_at hl 0 rfl) ?_
  refine efIx (As := []) (rest := []) (wr := []) (kX0_init_X4 l dC dI _ h0) TF_bl (fun U hU hW => hE.warm hW) ⟨hx, hb, hml, hown, htl⟩ ⟨va_cnB (host := "HomeNeedles") 0 htl (gT_cons wd_302) rfl rfl rfl (hE.2.2.1 _ (List.mem_of_getElem? (i := 11) rfl)) (htl _ wd_14) (by decide +kernel) ⟨(Nat.le_of_ble_eq_true rfl), (Nat.le_of_ble_eq_true rfl)⟩, rfl, htl _ wd_301⟩ hP hD hS hA hK [0] [] rfl rfl (by decide) (by decide) (by decide) rfl hl.1 rfl (Nat.le_of_ble_eq_true rfl) dX4_init_1 ⟨(Nat.le_of_ble_eq_true rfl), (Nat.le_of_ble_eq_true rfl)⟩ (fun u H locs hP hD hK hS => ?_)
  obtain ⟨a1, k1⟩ := u
  have hP : va_P (dC, dI) vwCl [(h0, .inr (4, []))] H := hP
  have hD : va_D A [(h0, .inr (4, []))] := hD
  have hK : va_K (dC, dI) vwCl [] s := hK
  refine W.widen (k := 0) (n := 0) (Nat.le_refl _) (Nat.le_refl _) ?_
  have hP9 := hP.sub (ws' := [(h0, .inr (4, []))]) [0] rfl
  have hD9 := hD.sub (ws' := [(h0, .inr (4, []))]) [0] (by decide) rfl
  have hK9 := hK.sub (tys' := []) [] rfl
  refine W.widen (k := 0) (n := 0) (Nat.le_refl _) (Nat.le_refl _) ?_
  exact W.vret hx hb hr (fun t ht hW => ⟨⟨((fun _ => 0), (fun _ => (dC 0))), rfl, trivial, by rw [ht]; exact hP9, va_K.moved hW.alike hK9, hD9⟩, hS.F ht⟩) hS.2.2 dX4_init_4
set_option maxHeartbeats 4000000 in
set_option maxRecDepth 100000 in
theorem kX5_init (l : Launch) (dC : Nat → ClassId) (dI : Nat → Nat → Nat) (sz : Nat) (h0 : Nat) : Met l yX5_init (Cond.code yX5_init cX5_init 1 none :: gT) (rkA 1 0 0) (EFx (dC, dI) [(h0, .inr (5, [.int 0, .int 0]))] [] sz TF [Value.ref h0]) (va_Qv (fun (_ : (Nat → Nat) × (Nat → ClassId)) => True) (fun (u : (Nat → Nat) × (Nat → ClassId)) t => va_P (dC, dI) vwCl [(h0, .inr (5, [.int (nI 0), .int (nI 0)]))] t.heap ∧ va_K (dC, dI) vwCl [] t ∧ va_D (va_A [(h0, .inr (5, [.int 0, .int 0]))] sz) [(h0, .inr (5, [.int (nI 0), .int (nI 0)]))]) (va_A [(h0, .inr (5, [.int 0, .int 0]))] sz)) 0 0 (va_A [(h0, .inr (5, [.int 0, .int 0]))] sz) := by
  refine Met.ofW (cc := cX5_init) (maxL := 1) (ret := none) (by decide) rfl ?_
  intro p e s m args below meth c s₁ B hml hv
  obtain ⟨rfl, hsz, hP, hK, hD0, hE⟩ := hv
  have hx := B.exec
  have hb := B.bytes
  have hr := B.returns
  have hts := atoms_spec (ws := (Cond.code yX5_init cX5_init 1 none :: gT)) B.pre
  have htl : ∀ w ∈ gT, w.before _ s = true := fun w h => hts w (List.mem_cons_of_mem _ h)
  have hown : s.vm.findClass RX5 = some m.cls := findClass_of_methodNamed B.named
  have hlocks := B.notSynchronized
  have hin : meth.name = "<init>" := (name_of_methodNamed B.named B.method).1
  subst hsz
  have hD := hD0.self (sz := s.heap.size)
  generalize hAe : va_A [(h0, .inr (5, [.int 0, .int 0]))] s.heap.size = A at hD ⊢
  have hA : ∀ q : Nat, s.heap.size ≤ q → A q := fun q h => by rw [← hAe]; exact Or.inr h
  have hS : va_S A s.heap s.heap [] := va_S.rf
  have hl := lv_entry ([Value.ref h0]) (n := 1) (Nat.le_of_ble_eq_true rfl)
  rw [lg_entry_eq]
  generalize (lg_sl ([Value.ref h0]) ++ List.replicate (1 - (lg_sl ([Value.ref h0])).length) Slot.unset).toArray = ls at hl ⊢
  have hl : lv_has ls 1 [(0, .ref h0)] := hl
  refine lv_aload_n hx hb dX5_init_0 rfl (lv_at hl 0 rfl) ?_
  refine W.objInit hx hb hown (htl _ wd_95) (htl _ wd_26) (htl _ wd_27) rfl (by rw [hml]; exact hl.1) rfl dX5_init_1 (Nat.le_of_ble_eq_true rfl) (Nat.le_of_ble_eq_true rfl) ?_
  refine W.eq (g2 := F0 m 4 ls []) rfl ?_
  refine lv_aload_n hx hb dX5_init_4 rfl (lv_at hl 0 rfl) ?_
  refine lv_iconst (v := nI 0) hx hb dX5_init_5 (by decide) ?_
  refine va_put (D := (dC, dI)) (ci := 5) (v := .int (nI 0)) (ty := .int) (C := RX5) (T := TX5) (N := 2) hx hb htl iX5 tyX5 tyX5_ok nmX5 hown hK hP hD hS 0 rfl rfl 0 (by decide) (htl _ wd_96) (fun _ h9 => h9) rfl (by decide +kernel) rfl rfl (Nat.le_of_ble_eq_true rfl) dX5_init_6 (fun H locs hP hD hS => ?_)
  have hP : va_P (dC, dI) vwCl [(h0, .inr (5, [.int (nI 0), .int 0]))] H := hP
  have hD : va_D A [(h0, .inr (5, [.int (nI 0), .int 0]))] := hD
  refine lv_aload_n hx hb dX5_init_9 rfl (lv_at hl 0 rfl) ?_
  refine lv_iconst (v := nI 0) hx hb dX5_init_10 (by decide) ?_
  refine va_put (D := (dC, dI)) (ci := 5) (v := .int (nI 0)) (ty := .int) (C := RX5) (T := TX5) (N := 2) hx hb htl iX5 tyX5 tyX5_ok nmX5 hown hK hP hD hS 0 rfl rfl 1 (by decide) (htl _ wd_98) (fun _ h9 => h9) rfl (by decide +kernel) rfl rfl (Nat.le_of_ble_eq_true rfl) dX5_init_11 (fun H locs hP hD hS => ?_)
  have hP : va_P (dC, dI) vwCl [(h0, .inr (5, [.int (nI 0), .int (nI 0)]))] H := hP
  have hD : va_D A [(h0, .inr (5, [.int (nI 0), .int (nI 0)]))] := hD
  have hP9 := hP.sub (ws' := [(h0, .inr (5, [.int (nI 0), .int (nI 0)]))]) [0] rfl
  have hD9 := hD.sub (ws' := [(h0, .inr (5, [.int (nI 0), .int (nI 0)]))]) [0] (by decide) rfl
  have hK9 := hK.sub (tys' := []) [] rfl
  refine W.widen (k := 0) (n := 0) (Nat.le_refl _) (Nat.le_refl _) ?_
  exact W.vret hx hb hr (fun t ht hW => ⟨⟨((fun _ => 0), (fun _ => (dC 0))), rfl, trivial, by rw [ht]; exact hP9, va_K.moved hW.alike hK9, hD9⟩, hS.F ht⟩) hS.2.2 dX5_init_14
set_option maxHeartbeats 4000000 in
set_option maxRecDepth 100000 in
theorem kX2_init (l : Launch) (dC : Nat → ClassId) (dI : Nat → Nat → Nat) (sz : Nat) (h0 : Nat) : Met l yX2_init (Cond.code yX2_init cX2_init 1 none :: gT) (rkA 1 1 28) (EFx (dC, dI) [(h0, .inr (2, [.null, .int 0]))] [] sz TF [Value.ref h0]) (va_Qv (fun (_ : (Nat → Nat) × (Nat → ClassId)) => True) (fun (u : (Nat → Nat) × (Nat → ClassId)) t => va_P (dC, dI) vwCl [(h0, .inr (2, [.ref (u.1 0), .int (nI 0)])), (u.1 0, .inl (u.2 0, 28, .inl (fun _ => 0)))] t.heap ∧ va_K (dC, dI) vwCl [(u.2 0, .char)] t ∧ va_D (va_A [(h0, .inr (2, [.null, .int 0]))] sz) [(h0, .inr (2, [.ref (u.1 0), .int (nI 0)])), (u.1 0, .inl (u.2 0, 28, .inl (fun _ => 0)))]) (va_A [(h0, .inr (2, [.null, .int 0]))] sz)) 1 28 (va_A [(h0, .inr (2, [.null, .int 0]))] sz) := by
  refine Met.ofW (cc := cX2_init) (maxL := 1) (ret := none) (by decide) rfl ?_
  intro p e s m args below meth c s₁ B hml hv
  obtain ⟨rfl, hsz, hP, hK, hD0, hE⟩ := hv
  have hx := B.exec
  have hb := B.bytes
  have hr := B.returns
  have hts := atoms_spec (ws := (Cond.code yX2_init cX2_init 1 none :: gT)) B.pre
  have htl : ∀ w ∈ gT, w.before _ s = true := fun w h => hts w (List.mem_cons_of_mem _ h)
  have hown : s.vm.findClass RX2 = some m.cls := findClass_of_methodNamed B.named
  have hlocks := B.notSynchronized
  have hin : meth.name = "<init>" := (name_of_methodNamed B.named B.method).1
  subst hsz
  have hD := hD0.self (sz := s.heap.size)
  generalize hAe : va_A [(h0, .inr (2, [.null, .int 0]))] s.heap.size = A at hD ⊢
  have hA : ∀ q : Nat, s.heap.size ≤ q → A q := fun q h => by rw [← hAe]; exact Or.inr h
  have hS : va_S A s.heap s.heap [] := va_S.rf
  have hl := lv_entry ([Value.ref h0]) (n := 1) (Nat.le_of_ble_eq_true rfl)
  rw [lg_entry_eq]
  generalize (lg_sl ([Value.ref h0]) ++ List.replicate (1 - (lg_sl ([Value.ref h0])).length) Slot.unset).toArray = ls at hl ⊢
  have hl : lv_has ls 1 [(0, .ref h0)] := hl
  refine lv_aload_n hx hb dX2_init_0 rfl (lv_at hl 0 rfl) ?_
  refine W.objInit hx hb hown (htl _ wd_33) (htl _ wd_26) (htl _ wd_27) rfl (by rw [hml]; exact hl.1) rfl dX2_init_1 (Nat.le_of_ble_eq_true rfl) (Nat.le_of_ble_eq_true rfl) ?_
  refine W.eq (g2 := F0 m 4 ls []) rfl ?_
  refine lv_aload_n hx hb dX2_init_4 rfl (lv_at hl 0 rfl) ?_
  refine lv_bipush (v := nI 28) hx hb dX2_init_5 (by decide) ?_
  refine va_newa (atype := .char) (ty := .char) (N' := 28) (a0 := (28, .inl (fun _ => 0))) hx hb (htl _ wd_43) rfl hK hP hD hS hA (fun _ => rfl) (by decide) (by decide) (by decide) (Nat.le_of_ble_eq_true rfl) (Nat.le_of_ble_eq_true rfl) dX2_init_7 (fun q7 y7 H hK hP hD hS => ?_)
  have hP : va_P (dC, dI) vwCl [(h0, .inr (2, [.null, .int 0])), (q7, .inl (y7, 28, .inl (fun _ => 0)))] H := hP
  have hD : va_D A [(h0, .inr (2, [.null, .int 0])), (q7, .inl (y7, 28, .inl (fun _ => 0)))] := hD
  have hK : va_K (dC, dI) vwCl [(y7, .char)] s := hK
  refine W.widen (k := 1) (n := 28) (Nat.le_of_ble_eq_true rfl) (Nat.le_of_ble_eq_true rfl) ?_
  refine va_putF (D := (dC, dI)) (ci := 2) (v := .ref q7) (ty := .array .char) (C := RX2) (T := TX2) (N := 2) hx hb htl iX2 tyX2 tyX2_ok nmX2 hown hK hP hD hS 0 rfl rfl 0 (by decide) (htl _ wd_34) (fun _ h9 => h9) rfl hin rfl (by decide +kernel) rfl rfl (Nat.le_of_ble_eq_true rfl) dX2_init_9 (fun H locs hP hD hS => ?_)
  have hP : va_P (dC, dI) vwCl [(h0, .inr (2, [.ref q7, .int 0])), (q7, .inl (y7, 28, .inl (fun _ => 0)))] H := hP
  have hD : va_D A [(h0, .inr (2, [.ref q7, .int 0])), (q7, .inl (y7, 28, .inl (fun _ => 0)))] := hD
  refine lv_aload_n hx hb dX2_init_12 rfl (lv_at hl 0 rfl) ?_
  refine lv_iconst (v := nI 0) hx hb dX2_init_13 (by decide) ?_
  refine va_put (D := (dC, dI)) (ci := 2) (v := .int (nI 0)) (ty := .int) (C := RX2) (T := TX2) (N := 2) hx hb htl iX2 tyX2 tyX2_ok nmX2 hown hK hP hD hS 0 rfl rfl 1 (by decide) (htl _ wd_36) (fun _ h9 => h9) rfl (by decide +kernel) rfl rfl (Nat.le_of_ble_eq_true rfl) dX2_init_14 (fun H locs hP hD hS => ?_)
  have hP : va_P (dC, dI) vwCl [(h0, .inr (2, [.ref q7, .int (nI 0)])), (q7, .inl (y7, 28, .inl (fun _ => 0)))] H := hP
  have hD : va_D A [(h0, .inr (2, [.ref q7, .int (nI 0)])), (q7, .inl (y7, 28, .inl (fun _ => 0)))] := hD
  have hP9 := hP.sub (ws' := [(h0, .inr (2, [.ref q7, .int (nI 0)])), (q7, .inl (y7, 28, .inl (fun _ => 0)))]) [0, 1] rfl
  have hD9 := hD.sub (ws' := [(h0, .inr (2, [.ref q7, .int (nI 0)])), (q7, .inl (y7, 28, .inl (fun _ => 0)))]) [0, 1] (by decide) rfl
  have hK9 := hK.sub (tys' := [(y7, .char)]) [0] rfl
  refine W.widen (k := 1) (n := 28) (Nat.le_refl _) (Nat.le_refl _) ?_
  exact W.vret hx hb hr (fun t ht hW => ⟨⟨((fun j => match j with  | _ => q7), (fun j => match j with  | _ => y7)), rfl, trivial, by rw [ht]; exact hP9, va_K.moved hW.alike hK9, hD9⟩, hS.F ht⟩) hS.2.2 dX2_init_17
set_option maxHeartbeats 4000000 in
set_option maxRecDepth 100000 in
theorem kX7_init (l : Launch) (dC : Nat → ClassId) (dI : Nat → Nat → Nat) (sz : Nat) (h0 : Nat) : Met l yX7_init (Cond.code yX7_init cX7_init 1 none :: gT) (rkA 1 4 22) (EFx (dC, dI) [(h0, .inr (7, [.null, .null, .null, .null, .long 0, .int 0, .int 0, .int 0, .int 0]))] [] sz TF [Value.ref h0]) (va_Qv (fun (_ : (Nat → Nat) × (Nat → ClassId)) => True) (fun (u : (Nat → Nat) × (Nat → ClassId)) t => va_P (dC, dI) vwCl [(h0, .inr (7, [.ref (u.1 0), .ref (u.1 1), .ref (u.1 2), .ref (u.1 3), .long 0, .int (nI 0), .int (nI 0), .int (nI 0), .int (nI 0)])), (u.1 0, .inl (u.2 0, 4, .inl (fun _ => 0))), (u.1 1, .inl (u.2 1, 6, .inl (fun _ => 0))), (u.1 2, .inl (u.2 2, 6, .inl (fun _ => 0))), (u.1 3, .inl (u.2 3, 6, .inl (fun _ => 0)))] t.heap ∧ va_K (dC, dI) vwCl [(u.2 0, .int), (u.2 1, .int), (u.2 2, .int), (u.2 3, .int)] t ∧ va_D (va_A [(h0, .inr (7, [.null, .null, .null, .null, .long 0, .int 0, .int 0, .int 0, .int 0]))] sz) [(h0, .inr (7, [.ref (u.1 0), .ref (u.1 1), .ref (u.1 2), .ref (u.1 3), .long 0, .int (nI 0), .int (nI 0), .int (nI 0), .int (nI 0)])), (u.1 0, .inl (u.2 0, 4, .inl (fun _ => 0))), (u.1 1, .inl (u.2 1, 6, .inl (fun _ => 0))), (u.1 2, .inl (u.2 2, 6, .inl (fun _ => 0))), (u.1 3, .inl (u.2 3, 6, .inl (fun _ => 0)))]) (va_A [(h0, .inr (7, [.null, .null, .null, .null, .long 0, .int 0, .int 0, .int 0, .int 0]))] sz)) 4 22 (va_A [(h0, .inr (7, [.null, .null, .null, .null, .long 0, .int 0, .int 0, .int 0, .int 0]))] sz) := by
  refine Met.ofW (cc := cX7_init) (maxL := 1) (ret := none) (by decide) rfl ?_
  intro p e s m args below meth c s₁ B hml hv
  obtain ⟨rfl, hsz, hP, hK, hD0, hE⟩ := hv
  have hx := B.exec
  have hb := B.bytes
  have hr := B.returns
  have hts := atoms_spec (ws := (Cond.code yX7_init cX7_init 1 none :: gT)) B.pre
  have htl : ∀ w ∈ gT, w.before _ s = true := fun w h => hts w (List.mem_cons_of_mem _ h)
  have hown : s.vm.findClass RX7 = some m.cls := findClass_of_methodNamed B.named
  have hlocks := B.notSynchronized
  have hin : meth.name = "<init>" := (name_of_methodNamed B.named B.method).1
  subst hsz
  have hD := hD0.self (sz := s.heap.size)
  generalize hAe : va_A [(h0, .inr (7, [.null, .null, .null, .null, .long 0, .int 0, .int 0, .int 0, .int 0]))] s.heap.size = A at hD ⊢
  have hA : ∀ q : Nat, s.heap.size ≤ q → A q := fun q h => by rw [← hAe]; exact Or.inr h
  have hS : va_S A s.heap s.heap [] := va_S.rf
  have hl := lv_entry ([Value.ref h0]) (n := 1) (Nat.le_of_ble_eq_true rfl)
  rw [lg_entry_eq]
  generalize (lg_sl ([Value.ref h0]) ++ List.replicate (1 - (lg_sl ([Value.ref h0])).length) Slot.unset).toArray = ls at hl ⊢
  have hl : lv_has ls 1 [(0, .ref h0)] := hl
  refine lv_aload_n hx hb dX7_init_0 rfl (lv_at hl 0 rfl) ?_
  refine W.objInit hx hb hown (htl _ wd_51) (htl _ wd_26) (htl _ wd_27) rfl (by rw [hml]; exact hl.1) rfl dX7_init_1 (Nat.le_of_ble_eq_true rfl) (Nat.le_of_ble_eq_true rfl) ?_
  refine W.eq (g2 := F0 m 4 ls []) rfl ?_
  refine lv_aload_n hx hb dX7_init_4 rfl (lv_at hl 0 rfl) ?_
  refine lv_iconst (v := nI 4) hx hb dX7_init_5 (by decide) ?_
  refine va_newa (atype := .int) (ty := .int) (N' := 4) (a0 := (4, .inl (fun _ => 0))) hx hb (htl _ wd_89) rfl hK hP hD hS hA (fun _ => rfl) (by decide) (by decide) (by decide) (Nat.le_of_ble_eq_true rfl) (Nat.le_of_ble_eq_true rfl) dX7_init_6 (fun q6 y6 H hK hP hD hS => ?_)
  have hP : va_P (dC, dI) vwCl [(h0, .inr (7, [.null, .null, .null, .null, .long 0, .int 0, .int 0, .int 0, .int 0])), (q6, .inl (y6, 4, .inl (fun _ => 0)))] H := hP
  have hD : va_D A [(h0, .inr (7, [.null, .null, .null, .null, .long 0, .int 0, .int 0, .int 0, .int 0])), (q6, .inl (y6, 4, .inl (fun _ => 0)))] := hD
  have hK : va_K (dC, dI) vwCl [(y6, .int)] s := hK
  refine W.widen (k := 1) (n := 4) (Nat.le_of_ble_eq_true rfl) (Nat.le_of_ble_eq_true rfl) ?_
  refine va_putF (D := (dC, dI)) (ci := 7) (v := .ref q6) (ty := .array .int) (C := RX7) (T := TX7) (N := 9) hx hb htl iX7 tyX7 tyX7_ok nmX7 hown hK hP hD hS 0 rfl rfl 0 (by decide) (htl _ wd_52) (fun _ h9 => h9) rfl hin rfl (by decide +kernel) rfl rfl (Nat.le_of_ble_eq_true rfl) dX7_init_8 (fun H locs hP hD hS => ?_)
  have hP : va_P (dC, dI) vwCl [(h0, .inr (7, [.ref q6, .null, .null, .null, .long 0, .int 0, .int 0, .int 0, .int 0])), (q6, .inl (y6, 4, .inl (fun _ => 0)))] H := hP
  have hD : va_D A [(h0, .inr (7, [.ref q6, .null, .null, .null, .long 0, .int 0, .int 0, .int 0, .int 0])), (q6, .inl (y6, 4, .inl (fun _ => 0)))] := hD
  refine lv_aload_n hx hb dX7_init_11 rfl (lv_at hl 0 rfl) ?_
  refine lv_bipush (v := nI 6) hx hb dX7_init_12 (by decide) ?_
  refine va_newa (atype := .int) (ty := .int) (N' := 6) (a0 := (6, .inl (fun _ => 0))) hx hb (htl _ wd_89) rfl hK hP hD hS hA (fun _ => rfl) (by decide) (by decide) (by decide) (Nat.le_of_ble_eq_true rfl) (Nat.le_of_ble_eq_true rfl) dX7_init_14 (fun q14 y14 H hK hP hD hS => ?_)
  have hP : va_P (dC, dI) vwCl [(h0, .inr (7, [.ref q6, .null, .null, .null, .long 0, .int 0, .int 0, .int 0, .int 0])), (q6, .inl (y6, 4, .inl (fun _ => 0))), (q14, .inl (y14, 6, .inl (fun _ => 0)))] H := hP
  have hD : va_D A [(h0, .inr (7, [.ref q6, .null, .null, .null, .long 0, .int 0, .int 0, .int 0, .int 0])), (q6, .inl (y6, 4, .inl (fun _ => 0))), (q14, .inl (y14, 6, .inl (fun _ => 0)))] := hD
  have hK : va_K (dC, dI) vwCl [(y6, .int), (y14, .int)] s := hK
  refine W.widen (k := 2) (n := 10) (Nat.le_of_ble_eq_true rfl) (Nat.le_of_ble_eq_true rfl) ?_
  refine va_putF (D := (dC, dI)) (ci := 7) (v := .ref q14) (ty := .array .int) (C := RX7) (T := TX7) (N := 9) hx hb htl iX7 tyX7 tyX7_ok nmX7 hown hK hP hD hS 0 rfl rfl 1 (by decide) (htl _ wd_54) (fun _ h9 => h9) rfl hin rfl (by decide +kernel) rfl rfl (Nat.le_of_ble_eq_true rfl) dX7_init_16 (fun H locs hP hD hS => ?_)
  have hP : va_P (dC, dI) vwCl [(h0, .inr (7, [.ref q6, .ref q14, .null, .null, .long 0, .int 0, .int 0, .int 0, .int 0])), (q6, .inl (y6, 4, .inl (fun _ => 0))), (q14, .inl (y14, 6, .inl (fun _ => 0)))] H := hP
  have hD : va_D A [(h0, .inr (7, [.ref q6, .ref q14, .null, .null, .long 0, .int 0, .int 0, .int 0, .int 0])), (q6, .inl (y6, 4, .inl (fun _ => 0))), (q14, .inl (y14, 6, .inl (fun _ => 0)))] := hD
  refine lv_aload_n hx hb dX7_init_19 rfl (lv_at hl 0 rfl) ?_
  refine lv_bipush (v := nI 6) hx hb dX7_init_20 (by decide) ?_
  refine va_newa (atype := .int) (ty := .int) (N' := 6) (a0 := (6, .inl (fun _ => 0))) hx hb (htl _ wd_89) rfl hK hP hD hS hA (fun _ => rfl) (by decide) (by decide) (by decide) (Nat.le_of_ble_eq_true rfl) (Nat.le_of_ble_eq_true rfl) dX7_init_22 (fun q22 y22 H hK hP hD hS => ?_)
  have hP : va_P (dC, dI) vwCl [(h0, .inr (7, [.ref q6, .ref q14, .null, .null, .long 0, .int 0, .int 0, .int 0, .int 0])), (q6, .inl (y6, 4, .inl (fun _ => 0))), (q14, .inl (y14, 6, .inl (fun _ => 0))), (q22, .inl (y22, 6, .inl (fun _ => 0)))] H := hP
  have hD : va_D A [(h0, .inr (7, [.ref q6, .ref q14, .null, .null, .long 0, .int 0, .int 0, .int 0, .int 0])), (q6, .inl (y6, 4, .inl (fun _ => 0))), (q14, .inl (y14, 6, .inl (fun _ => 0))), (q22, .inl (y22, 6, .inl (fun _ => 0)))] := hD
  have hK : va_K (dC, dI) vwCl [(y6, .int), (y14, .int), (y22, .int)] s := hK
  refine W.widen (k := 3) (n := 16) (Nat.le_of_ble_eq_true rfl) (Nat.le_of_ble_eq_true rfl) ?_
  refine va_putF (D := (dC, dI)) (ci := 7) (v := .ref q22) (ty := .array .int) (C := RX7) (T := TX7) (N := 9) hx hb htl iX7 tyX7 tyX7_ok nmX7 hown hK hP hD hS 0 rfl rfl 2 (by decide) (htl _ wd_56) (fun _ h9 => h9) rfl hin rfl (by decide +kernel) rfl rfl (Nat.le_of_ble_eq_true rfl) dX7_init_24 (fun H locs hP hD hS => ?_)
  have hP : va_P (dC, dI) vwCl [(h0, .inr (7, [.ref q6, .ref q14, .ref q22, .null, .long 0, .int 0, .int 0, .int 0, .int 0])), (q6, .inl (y6, 4, .inl (fun _ => 0))), (q14, .inl (y14, 6, .inl (fun _ => 0))), (q22, .inl (y22, 6, .inl (fun _ => 0)))] H := hP
  have hD : va_D A [(h0, .inr (7, [.ref q6, .ref q14, .ref q22, .null, .long 0, .int 0, .int 0, .int 0, .int 0])), (q6, .inl (y6, 4, .inl (fun _ => 0))), (q14, .inl (y14, 6, .inl (fun _ => 0))), (q22, .inl (y22, 6, .inl (fun _ => 0)))] := hD
  refine lv_aload_n hx hb dX7_init_27 rfl (lv_at hl 0 rfl) ?_
  refine lv_bipush (v := nI 6) hx hb dX7_init_28 (by decide) ?_
  refine va_newa (atype := .int) (ty := .int) (N' := 6) (a0 := (6, .inl (fun _ => 0))) hx hb (htl _ wd_89) rfl hK hP hD hS hA (fun _ => rfl) (by decide) (by decide) (by decide) (Nat.le_of_ble_eq_true rfl) (Nat.le_of_ble_eq_true rfl) dX7_init_30 (fun q30 y30 H hK hP hD hS => ?_)
  have hP : va_P (dC, dI) vwCl [(h0, .inr (7, [.ref q6, .ref q14, .ref q22, .null, .long 0, .int 0, .int 0, .int 0, .int 0])), (q6, .inl (y6, 4, .inl (fun _ => 0))), (q14, .inl (y14, 6, .inl (fun _ => 0))), (q22, .inl (y22, 6, .inl (fun _ => 0))), (q30, .inl (y30, 6, .inl (fun _ => 0)))] H := hP
  have hD : va_D A [(h0, .inr (7, [.ref q6, .ref q14, .ref q22, .null, .long 0, .int 0, .int 0, .int 0, .int 0])), (q6, .inl (y6, 4, .inl (fun _ => 0))), (q14, .inl (y14, 6, .inl (fun _ => 0))), (q22, .inl (y22, 6, .inl (fun _ => 0))), (q30, .inl (y30, 6, .inl (fun _ => 0)))] := hD
  have hK : va_K (dC, dI) vwCl [(y6, .int), (y14, .int), (y22, .int), (y30, .int)] s := hK
  refine W.widen (k := 4) (n := 22) (Nat.le_of_ble_eq_true rfl) (Nat.le_of_ble_eq_true rfl) ?_
  refine va_putF (D := (dC, dI)) (ci := 7) (v := .ref q30) (ty := .array .int) (C := RX7) (T := TX7) (N := 9) hx hb htl iX7 tyX7 tyX7_ok nmX7 hown hK hP hD hS 0 rfl rfl 3 (by decide) (htl _ wd_58) (fun _ h9 => h9) rfl hin rfl (by decide +kernel) rfl rfl (Nat.le_of_ble_eq_true rfl) dX7_init_32 (fun H locs hP hD hS => ?_)
  have hP : va_P (dC, dI) vwCl [(h0, .inr (7, [.ref q6, .ref q14, .ref q22, .ref q30, .long 0, .int 0, .int 0, .int 0, .int 0])), (q6, .inl (y6, 4, .inl (fun _ => 0))), (q14, .inl (y14, 6, .inl (fun _ => 0))), (q22, .inl (y22, 6, .inl (fun _ => 0))), (q30, .inl (y30, 6, .inl (fun _ => 0)))] H := hP
  have hD : va_D A [(h0, .inr (7, [.ref q6, .ref q14, .ref q22, .ref q30, .long 0, .int 0, .int 0, .int 0, .int 0])), (q6, .inl (y6, 4, .inl (fun _ => 0))), (q14, .inl (y14, 6, .inl (fun _ => 0))), (q22, .inl (y22, 6, .inl (fun _ => 0))), (q30, .inl (y30, 6, .inl (fun _ => 0)))] := hD
  refine lv_aload_n hx hb dX7_init_35 rfl (lv_at hl 0 rfl) ?_
  refine lv_lconst (v := 0) hx hb dX7_init_36 (by decide) ?_
  refine va_put (D := (dC, dI)) (ci := 7) (v := .long 0) (ty := .long) (C := RX7) (T := TX7) (N := 9) hx hb htl iX7 tyX7 tyX7_ok nmX7 hown hK hP hD hS 0 rfl rfl 4 (by decide) (htl _ wd_60) (fun _ h9 => h9) rfl (by decide +kernel) rfl rfl (Nat.le_of_ble_eq_true rfl) dX7_init_37 (fun H locs hP hD hS => ?_)
  have hP : va_P (dC, dI) vwCl [(h0, .inr (7, [.ref q6, .ref q14, .ref q22, .ref q30, .long 0, .int 0, .int 0, .int 0, .int 0])), (q6, .inl (y6, 4, .inl (fun _ => 0))), (q14, .inl (y14, 6, .inl (fun _ => 0))), (q22, .inl (y22, 6, .inl (fun _ => 0))), (q30, .inl (y30, 6, .inl (fun _ => 0)))] H := hP
  have hD : va_D A [(h0, .inr (7, [.ref q6, .ref q14, .ref q22, .ref q30, .long 0, .int 0, .int 0, .int 0, .int 0])), (q6, .inl (y6, 4, .inl (fun _ => 0))), (q14, .inl (y14, 6, .inl (fun _ => 0))), (q22, .inl (y22, 6, .inl (fun _ => 0))), (q30, .inl (y30, 6, .inl (fun _ => 0)))] := hD
  refine lv_aload_n hx hb dX7_init_40 rfl (lv_at hl 0 rfl) ?_
  refine lv_iconst (v := nI 0) hx hb dX7_init_41 (by decide) ?_
  refine va_put (D := (dC, dI)) (ci := 7) (v := .int (nI 0)) (ty := .int) (C := RX7) (T := TX7) (N := 9) hx hb htl iX7 tyX7 tyX7_ok nmX7 hown hK hP hD hS 0 rfl rfl 5 (by decide) (htl _ wd_62) (fun _ h9 => h9) rfl (by decide +kernel) rfl rfl (Nat.le_of_ble_eq_true rfl) dX7_init_42 (fun H locs hP hD hS => ?_)
  have hP : va_P (dC, dI) vwCl [(h0, .inr (7, [.ref q6, .ref q14, .ref q22, .ref q30, .long 0, .int (nI 0), .int 0, .int 0, .int 0])), (q6, .inl (y6, 4, .inl (fun _ => 0))), (q14, .inl (y14, 6, .inl (fun _ => 0))), (q22, .inl (y22, 6, .inl (fun _ => 0))), (q30, .inl (y30, 6, .inl (fun _ => 0)))] H := hP
  have hD : va_D A [(h0, .inr (7, [.ref q6, .ref q14, .ref q22, .ref q30, .long 0, .int (nI 0), .int 0, .int 0, .int 0])), (q6, .inl (y6, 4, .inl (fun _ => 0))), (q14, .inl (y14, 6, .inl (fun _ => 0))), (q22, .inl (y22, 6, .inl (fun _ => 0))), (q30, .inl (y30, 6, .inl (fun _ => 0)))] := hD
  refine lv_aload_n hx hb dX7_init_45 rfl (lv_at hl 0 rfl) ?_
  refine lv_iconst (v := nI 0) hx hb dX7_init_46 (by decide) ?_
  refine va_put (D := (dC, dI)) (ci := 7) (v := .int (nI 0)) (ty := .int) (C := RX7) (T := TX7) (N := 9) hx hb htl iX7 tyX7 tyX7_ok nmX7 hown hK hP hD hS 0 rfl rfl 6 (by decide) (htl _ wd_64) (fun _ h9 => h9) rfl (by decide +kernel) rfl rfl (Nat.le_of_ble_eq_true rfl) dX7_init_47 (fun H locs hP hD hS => ?_)
  have hP : va_P (dC, dI) vwCl [(h0, .inr (7, [.ref q6, .ref q14, .ref q22, .ref q30, .long 0, .int (nI 0), .int (nI 0), .int 0, .int 0])), (q6, .inl (y6, 4, .inl (fun _ => 0))), (q14, .inl (y14, 6, .inl (fun _ => 0))), (q22, .inl (y22, 6, .inl (fun _ => 0))), (q30, .inl (y30, 6, .inl (fun _ => 0)))] H := hP
  have hD : va_D A [(h0, .inr (7, [.ref q6, .ref q14, .ref q22, .ref q30, .long 0, .int (nI 0), .int (nI 0), .int 0, .int 0])), (q6, .inl (y6, 4, .inl (fun _ => 0))), (q14, .inl (y14, 6, .inl (fun _ => 0))), (q22, .inl (y22, 6, .inl (fun _ => 0))), (q30, .inl (y30, 6, .inl (fun _ => 0)))] := hD
  refine lv_aload_n hx hb dX7_init_50 rfl (lv_at hl 0 rfl) ?_
  refine lv_iconst (v := nI 0) hx hb dX7_init_51 (by decide) ?_
  refine va_put (D := (dC, dI)) (ci := 7) (v := .int (nI 0)) (ty := .int) (C := RX7) (T := TX7) (N := 9) hx hb htl iX7 tyX7 tyX7_ok nmX7 hown hK hP hD hS 0 rfl rfl 7 (by decide) (htl _ wd_66) (fun _ h9 => h9) rfl (by decide +kernel) rfl rfl (Nat.le_of_ble_eq_true rfl) dX7_init_52 (fun H locs hP hD hS => ?_)
  have hP : va_P (dC, dI) vwCl [(h0, .inr (7, [.ref q6, .ref q14, .ref q22, .ref q30, .long 0, .int (nI 0), .int (nI 0), .int (nI 0), .int 0])), (q6, .inl (y6, 4, .inl (fun _ => 0))), (q14, .inl (y14, 6, .inl (fun _ => 0))), (q22, .inl (y22, 6, .inl (fun _ => 0))), (q30, .inl (y30, 6, .inl (fun _ => 0)))] H := hP
  have hD : va_D A [(h0, .inr (7, [.ref q6, .ref q14, .ref q22, .ref q30, .long 0, .int (nI 0), .int (nI 0), .int (nI 0), .int 0])), (q6, .inl (y6, 4, .inl (fun _ => 0))), (q14, .inl (y14, 6, .inl (fun _ => 0))), (q22, .inl (y22, 6, .inl (fun _ => 0))), (q30, .inl (y30, 6, .inl (fun _ => 0)))] := hD
  refine lv_aload_n hx hb dX7_init_55 rfl (lv_at hl 0 rfl) ?_
  refine lv_iconst (v := nI 0) hx hb dX7_init_56 (by decide) ?_
  refine va_put (D := (dC, dI)) (ci := 7) (v := .int (nI 0)) (ty := .int) (C := RX7) (T := TX7) (N := 9) hx hb htl iX7 tyX7 tyX7_ok nmX7 hown hK hP hD hS 0 rfl rfl 8 (by decide) (htl _ wd_68) (fun _ h9 => h9) rfl (by decide +kernel) rfl rfl (Nat.le_of_ble_eq_true rfl) dX7_init_57 (fun H locs hP hD hS => ?_)
  have hP : va_P (dC, dI) vwCl [(h0, .inr (7, [.ref q6, .ref q14, .ref q22, .ref q30, .long 0, .int (nI 0), .int (nI 0), .int (nI 0), .int (nI 0)])), (q6, .inl (y6, 4, .inl (fun _ => 0))), (q14, .inl (y14, 6, .inl (fun _ => 0))), (q22, .inl (y22, 6, .inl (fun _ => 0))), (q30, .inl (y30, 6, .inl (fun _ => 0)))] H := hP
  have hD : va_D A [(h0, .inr (7, [.ref q6, .ref q14, .ref q22, .ref q30, .long 0, .int (nI 0), .int (nI 0), .int (nI 0), .int (nI 0)])), (q6, .inl (y6, 4, .inl (fun _ => 0))), (q14, .inl (y14, 6, .inl (fun _ => 0))), (q22, .inl (y22, 6, .inl (fun _ => 0))), (q30, .inl (y30, 6, .inl (fun _ => 0)))] := hD
  have hP9 := hP.sub (ws' := [(h0, .inr (7, [.ref q6, .ref q14, .ref q22, .ref q30, .long 0, .int (nI 0), .int (nI 0), .int (nI 0), .int (nI 0)])), (q6, .inl (y6, 4, .inl (fun _ => 0))), (q14, .inl (y14, 6, .inl (fun _ => 0))), (q22, .inl (y22, 6, .inl (fun _ => 0))), (q30, .inl (y30, 6, .inl (fun _ => 0)))]) [0, 1, 2, 3, 4] rfl
  have hD9 := hD.sub (ws' := [(h0, .inr (7, [.ref q6, .ref q14, .ref q22, .ref q30, .long 0, .int (nI 0), .int (nI 0), .int (nI 0), .int (nI 0)])), (q6, .inl (y6, 4, .inl (fun _ => 0))), (q14, .inl (y14, 6, .inl (fun _ => 0))), (q22, .inl (y22, 6, .inl (fun _ => 0))), (q30, .inl (y30, 6, .inl (fun _ => 0)))]) [0, 1, 2, 3, 4] (by decide) rfl
  have hK9 := hK.sub (tys' := [(y6, .int), (y14, .int), (y22, .int), (y30, .int)]) [0, 1, 2, 3] rfl
  refine W.widen (k := 4) (n := 22) (Nat.le_refl _) (Nat.le_refl _) ?_
  exact W.vret hx hb hr (fun t ht hW => ⟨⟨((fun j => match j with | 0 => q6 | 1 => q14 | 2 => q22 | _ => q30), (fun j => match j with | 0 => y6 | 1 => y14 | 2 => y22 | _ => y30)), rfl, trivial, by rw [ht]; exact hP9, va_K.moved hW.alike hK9, hD9⟩, hS.F ht⟩) hS.2.2 dX7_init_60
set_option maxHeartbeats 4000000 in
set_option maxRecDepth 100000 in
theorem kX9_init (l : Launch) (dC : Nat → ClassId) (dI : Nat → Nat → Nat) (sz : Nat) (h0 : Nat) : Met l yX9_init (Cond.code yX9_init cX9_init 1 none :: gT) (rkA 1 9 197) (EFx (dC, dI) [(h0, .inr (9, [.null, .int 0, .int 0, .int 0, .int 0, .int 0, .int 0, .int 0, .null, .null, .int 0, .int 0, .null, .int 0, .null, .null, .int 0, .int 0, .int 0, .int 0, .int 0, .int 0, .null, .null, .null, .long 0]))] [] sz TF [Value.ref h0]) (va_Qv (fun (_ : (Nat → Nat) × (Nat → ClassId)) => True) (fun (u : (Nat → Nat) × (Nat → ClassId)) t => va_P (dC, dI) vwCl [(h0, .inr (9, [.ref (u.1 0), .int 0, .int 0, .int 0, .int 0, .int 0, .int 0, .int 0, .ref (u.1 1), .ref (u.1 2), .int 0, .int 0, .ref (u.1 3), .int 0, .ref (u.1 4), .ref (u.1 5), .int 0, .int (-1), .int 0, .int 0, .int 0, .int 0, .ref (u.1 6), .ref (u.1 7), .ref (u.1 8), .long 0])), (u.1 0, .inl (u.2 0, 28, .inl (fun _ => 0))), (u.1 1, .inl (u.2 1, 8, .inl (fun _ => 0))), (u.1 2, .inl (u.2 2, 36, .inl (fun _ => 0))), (u.1 3, .inl (u.2 3, 36, .inl (fun _ => 0))), (u.1 4, .inl (u.2 4, 18, .inl (fun _ => 0))), (u.1 5, .inl (u.2 5, 9, .inl (fun _ => 0))), (u.1 6, .inl (u.2 6, 8, .inl (fun _ => 0))), (u.1 7, .inl (u.2 7, 36, .inl (fun _ => 0))), (u.1 8, .inl (u.2 8, 18, .inl (fun _ => 0)))] t.heap ∧ va_K (dC, dI) vwCl [(u.2 0, .int), (u.2 1, .int), (u.2 2, .int), (u.2 3, .int), (u.2 4, .int), (u.2 5, .int), (u.2 6, .int), (u.2 7, .int), (u.2 8, .int)] t ∧ va_D (va_A [(h0, .inr (9, [.null, .int 0, .int 0, .int 0, .int 0, .int 0, .int 0, .int 0, .null, .null, .int 0, .int 0, .null, .int 0, .null, .null, .int 0, .int 0, .int 0, .int 0, .int 0, .int 0, .null, .null, .null, .long 0]))] sz) [(h0, .inr (9, [.ref (u.1 0), .int 0, .int 0, .int 0, .int 0, .int 0, .int 0, .int 0, .ref (u.1 1), .ref (u.1 2), .int 0, .int 0, .ref (u.1 3), .int 0, .ref (u.1 4), .ref (u.1 5), .int 0, .int (-1), .int 0, .int 0, .int 0, .int 0, .ref (u.1 6), .ref (u.1 7), .ref (u.1 8), .long 0])), (u.1 0, .inl (u.2 0, 28, .inl (fun _ => 0))), (u.1 1, .inl (u.2 1, 8, .inl (fun _ => 0))), (u.1 2, .inl (u.2 2, 36, .inl (fun _ => 0))), (u.1 3, .inl (u.2 3, 36, .inl (fun _ => 0))), (u.1 4, .inl (u.2 4, 18, .inl (fun _ => 0))), (u.1 5, .inl (u.2 5, 9, .inl (fun _ => 0))), (u.1 6, .inl (u.2 6, 8, .inl (fun _ => 0))), (u.1 7, .inl (u.2 7, 36, .inl (fun _ => 0))), (u.1 8, .inl (u.2 8, 18, .inl (fun _ => 0)))]) (va_A [(h0, .inr (9, [.null, .int 0, .int 0, .int 0, .int 0, .int 0, .int 0, .int 0, .null, .null, .int 0, .int 0, .null, .int 0, .null, .null, .int 0, .int 0, .int 0, .int 0, .int 0, .int 0, .null, .null, .null, .long 0]))] sz)) 9 197 (va_A [(h0, .inr (9, [.null, .int 0, .int 0, .int 0, .int 0, .int 0, .int 0, .int 0, .null, .null, .int 0, .int 0, .null, .int 0, .null, .null, .int 0, .int 0, .int 0, .int 0, .int 0, .int 0, .null, .null, .null, .long 0]))] sz) := by
  refine Met.ofW (cc := cX9_init) (maxL := 1) (ret := none) (by decide) rfl ?_
  intro p e s m args below meth c s₁ B hml hv
  obtain ⟨rfl, hsz, hP, hK, hD0, hE⟩ := hv
  have hx := B.exec
  have hb := B.bytes
  have hr := B.returns
  have hts := atoms_spec (ws := (Cond.code yX9_init cX9_init 1 none :: gT)) B.pre
  have htl : ∀ w ∈ gT, w.before _ s = true := fun w h => hts w (List.mem_cons_of_mem _ h)
  have hown : s.vm.findClass RX9 = some m.cls := findClass_of_methodNamed B.named
  have hlocks := B.notSynchronized
  have hin : meth.name = "<init>" := (name_of_methodNamed B.named B.method).1
  subst hsz
  have hD := hD0.self (sz := s.heap.size)
  generalize hAe : va_A [(h0, .inr (9, [.null, .int 0, .int 0, .int 0, .int 0, .int 0, .int 0, .int 0, .null, .null, .int 0, .int 0, .null, .int 0, .null, .null, .int 0, .int 0, .int 0, .int 0, .int 0, .int 0, .null, .null, .null, .long 0]))] s.heap.size = A at hD ⊢
  have hA : ∀ q : Nat, s.heap.size ≤ q → A q := fun q h => by rw [← hAe]; exact Or.inr h
  have hS : va_S A s.heap s.heap [] := va_S.rf
  have hl := lv_entry ([Value.ref h0]) (n := 1) (Nat.le_of_ble_eq_true rfl)
  rw [lg_entry_eq]
  generalize (lg_sl ([Value.ref h0]) ++ List.replicate (1 - (lg_sl ([Value.ref h0])).length) Slot.unset).toArray = ls at hl ⊢
  have hl : lv_has ls 1 [(0, .ref h0)] := hl
  refine lv_aload_n hx hb dX9_init_0 rfl (lv_at hl 0 rfl) ?_
  refine W.objInit hx hb hown (htl _ wd_550) (htl _ wd_26) (htl _ wd_27) rfl (by rw [hml]; exact hl.1) rfl dX9_init_1 (Nat.le_of_ble_eq_true rfl) (Nat.le_of_ble_eq_true rfl) ?_
  refine W.eq (g2 := F0 m 4 ls []) rfl ?_
  refine lv_aload_n hx hb dX9_init_4 rfl (lv_at hl 0 rfl) ?_
  refine lv_bipush (v := nI 28) hx hb dX9_init_5 (by decide) ?_
  refine va_newa (atype := .int) (ty := .int) (N' := 28) (a0 := (28, .inl (fun _ => 0))) hx hb (htl _ wd_89) rfl hK hP hD hS hA (fun _ => rfl) (by decide) (by decide) (by decide) (Nat.le_of_ble_eq_true rfl) (Nat.le_of_ble_eq_true rfl) dX9_init_7 (fun q7 y7 H hK hP hD hS => ?_)
  have hP : va_P (dC, dI) vwCl [(h0, .inr (9, [.null, .int 0, .int 0, .int 0, .int 0, .int 0, .int 0, .int 0, .null, .null, .int 0, .int 0, .null, .int 0, .null, .null, .int 0, .int 0, .int 0, .int 0, .int 0, .int 0, .null, .null, .null, .long 0])), (q7, .inl (y7, 28, .inl (fun _ => 0)))] H := hP
  have hD : va_D A [(h0, .inr (9, [.null, .int 0, .int 0, .int 0, .int 0, .int 0, .int 0, .int 0, .null, .null, .int 0, .int 0, .null, .int 0, .null, .null, .int 0, .int 0, .int 0, .int 0, .int 0, .int 0, .null, .null, .null, .long 0])), (q7, .inl (y7, 28, .inl (fun _ => 0)))] := hD
  have hK : va_K (dC, dI) vwCl [(y7, .int)] s := hK
  refine W.widen (k := 1) (n := 28) (Nat.le_of_ble_eq_true rfl) (Nat.le_of_ble_eq_true rfl) ?_
  refine va_putF (D := (dC, dI)) (ci := 9) (v := .ref q7) (ty := .array .int) (C := RX9) (T := TX9) (N := 26) hx hb htl iX9 tyX9 tyX9_ok nmX9 hown hK hP hD hS 0 rfl rfl 0 (by decide) (htl _ wd_551) (fun _ h9 => h9) rfl hin rfl (by decide +kernel) rfl rfl (Nat.le_of_ble_eq_true rfl) dX9_init_9 (fun H locs hP hD hS => ?_)
  have hP : va_P (dC, dI) vwCl [(h0, .inr (9, [.ref q7, .int 0, .int 0, .int 0, .int 0, .int 0, .int 0, .int 0, .null, .null, .int 0, .int 0, .null, .int 0, .null, .null, .int 0, .int 0, .int 0, .int 0, .int 0, .int 0, .null, .null, .null, .long 0])), (q7, .inl (y7, 28, .inl (fun _ => 0)))] H := hP
  have hD : va_D A [(h0, .inr (9, [.ref q7, .int 0, .int 0, .int 0, .int 0, .int 0, .int 0, .int 0, .null, .null, .int 0, .int 0, .null, .int 0, .null, .null, .int 0, .int 0, .int 0, .int 0, .int 0, .int 0, .null, .null, .null, .long 0])), (q7, .inl (y7, 28, .inl (fun _ => 0)))] := hD
  refine lv_aload_n hx hb dX9_init_12 rfl (lv_at hl 0 rfl) ?_
  refine lv_bipush (v := nI 8) hx hb dX9_init_13 (by decide) ?_
  refine va_newa (atype := .int) (ty := .int) (N' := 8) (a0 := (8, .inl (fun _ => 0))) hx hb (htl _ wd_89) rfl hK hP hD hS hA (fun _ => rfl) (by decide) (by decide) (by decide) (Nat.le_of_ble_eq_true rfl) (Nat.le_of_ble_eq_true rfl) dX9_init_15 (fun q15 y15 H hK hP hD hS => ?_)
  have hP : va_P (dC, dI) vwCl [(h0, .inr (9, [.ref q7, .int 0, .int 0, .int 0, .int 0, .int 0, .int 0, .int 0, .null, .null, .int 0, .int 0, .null, .int 0, .null, .null, .int 0, .int 0, .int 0, .int 0, .int 0, .int 0, .null, .null, .null, .long 0])), (q7, .inl (y7, 28, .inl (fun _ => 0))), (q15, .inl (y15, 8, .inl (fun _ => 0)))] H := hP
  have hD : va_D A [(h0, .inr (9, [.ref q7, .int 0, .int 0, .int 0, .int 0, .int 0, .int 0, .int 0, .null, .null, .int 0, .int 0, .null, .int 0, .null, .null, .int 0, .int 0, .int 0, .int 0, .int 0, .int 0, .null, .null, .null, .long 0])), (q7, .inl (y7, 28, .inl (fun _ => 0))), (q15, .inl (y15, 8, .inl (fun _ => 0)))] := hD
  have hK : va_K (dC, dI) vwCl [(y7, .int), (y15, .int)] s := hK
  refine W.widen (k := 2) (n := 36) (Nat.le_of_ble_eq_true rfl) (Nat.le_of_ble_eq_true rfl) ?_
  refine va_putF (D := (dC, dI)) (ci := 9) (v := .ref q15) (ty := .array .int) (C := RX9) (T := TX9) (N := 26) hx hb htl iX9 tyX9 tyX9_ok nmX9 hown hK hP hD hS 0 rfl rfl 8 (by decide) (htl _ wd_559) (fun _ h9 => h9) rfl hin rfl (by decide +kernel) rfl rfl (Nat.le_of_ble_eq_true rfl) dX9_init_17 (fun H locs hP hD hS => ?_)
  have hP : va_P (dC, dI) vwCl [(h0, .inr (9, [.ref q7, .int 0, .int 0, .int 0, .int 0, .int 0, .int 0, .int 0, .ref q15, .null, .int 0, .int 0, .null, .int 0, .null, .null, .int 0, .int 0, .int 0, .int 0, .int 0, .int 0, .null, .null, .null, .long 0])), (q7, .inl (y7, 28, .inl (fun _ => 0))), (q15, .inl (y15, 8, .inl (fun _ => 0)))] H := hP
  have hD : va_D A [(h0, .inr (9, [.ref q7, .int 0, .int 0, .int 0, .int 0, .int 0, .int 0, .int 0, .ref q15, .null, .int 0, .int 0, .null, .int 0, .null, .null, .int 0, .int 0, .int 0, .int 0, .int 0, .int 0, .null, .null, .null, .long 0])), (q7, .inl (y7, 28, .inl (fun _ => 0))), (q15, .inl (y15, 8, .inl (fun _ => 0)))] := hD
  refine lv_aload_n hx hb dX9_init_20 rfl (lv_at hl 0 rfl) ?_
  refine lv_bipush (v := nI 36) hx hb dX9_init_21 (by decide) ?_
  refine va_newa (atype := .int) (ty := .int) (N' := 36) (a0 := (36, .inl (fun _ => 0))) hx hb (htl _ wd_89) rfl hK hP hD hS hA (fun _ => rfl) (by decide) (by decide) (by decide) (Nat.le_of_ble_eq_true rfl) (Nat.le_of_ble_eq_true rfl) dX9_init_23 (fun q23 y23 H hK hP hD hS => ?_)
  have hP : va_P (dC, dI) vwCl [(h0, .inr (9, [.ref q7, .int 0, .int 0, .int 0, .int 0, .int 0, .int 0, .int 0, .ref q15, .null, .int 0, .int 0, .null, .int 0, .null, .null, .int 0, .int 0, .int 0, .int 0, .int 0, .int 0, .null, .null, .null, .long 0])), (q7, .inl (y7, 28, .inl (fun _ => 0))), (q15, .inl (y15, 8, .inl (fun _ => 0))), (q23, .inl (y23, 36, .inl (fun _ => 0)))] H := hP
  have hD : va_D A [(h0, .inr (9, [.ref q7, .int 0, .int 0, .int 0, .int 0, .int 0, .int 0, .int 0, .ref q15, .null, .int 0, .int 0, .null, .int 0, .null, .null, .int 0, .int 0, .int 0, .int 0, .int 0, .int 0, .null, .null, .null, .long 0])), (q7, .inl (y7, 28, .inl (fun _ => 0))), (q15, .inl (y15, 8, .inl (fun _ => 0))), (q23, .inl (y23, 36, .inl (fun _ => 0)))] := hD
  have hK : va_K (dC, dI) vwCl [(y7, .int), (y15, .int), (y23, .int)] s := hK
  refine W.widen (k := 3) (n := 72) (Nat.le_of_ble_eq_true rfl) (Nat.le_of_ble_eq_true rfl) ?_
  refine va_putF (D := (dC, dI)) (ci := 9) (v := .ref q23) (ty := .array .int) (C := RX9) (T := TX9) (N := 26) hx hb htl iX9 tyX9 tyX9_ok nmX9 hown hK hP hD hS 0 rfl rfl 9 (by decide) (htl _ wd_560) (fun _ h9 => h9) rfl hin rfl (by decide +kernel) rfl rfl (Nat.le_of_ble_eq_true rfl) dX9_init_25 (fun H locs hP hD hS => ?_)
  have hP : va_P (dC, dI) vwCl [(h0, .inr (9, [.ref q7, .int 0, .int 0, .int 0, .int 0, .int 0, .int 0, .int 0, .ref q15, .ref q23, .int 0, .int 0, .null, .int 0, .null, .null, .int 0, .int 0, .int 0, .int 0, .int 0, .int 0, .null, .null, .null, .long 0])), (q7, .inl (y7, 28, .inl (fun _ => 0))), (q15, .inl (y15, 8, .inl (fun _ => 0))), (q23, .inl (y23, 36, .inl (fun _ => 0)))] H := hP
  have hD : va_D A [(h0, .inr (9, [.ref q7, .int 0, .int 0, .int 0, .int 0, .int 0, .int 0, .int 0, .ref q15, .ref q23, .int 0, .int 0, .null, .int 0, .null, .null, .int 0, .int 0, .int 0, .int 0, .int 0, .int 0, .null, .null, .null, .long 0])), (q7, .inl (y7, 28, .inl (fun _ => 0))), (q15, .inl (y15, 8, .inl (fun _ => 0))), (q23, .inl (y23, 36, .inl (fun _ => 0)))] := hD
  refine lv_aload_n hx hb dX9_init_28 rfl (lv_at hl 0 rfl) ?_
  refine lv_bipush (v := nI 36) hx hb dX9_init_29 (by decide) ?_
  refine va_newa (atype := .int) (ty := .int) (N' := 36) (a0 := (36, .inl (fun _ => 0))) hx hb (htl _ wd_89) rfl hK hP hD hS hA (fun _ => rfl) (by decide) (by decide) (by decide) (Nat.le_of_ble_eq_true rfl) (Nat.le_of_ble_eq_true rfl) dX9_init_31 (fun q31 y31 H hK hP hD hS => ?_)
  have hP : va_P (dC, dI) vwCl [(h0, .inr (9, [.ref q7, .int 0, .int 0, .int 0, .int 0, .int 0, .int 0, .int 0, .ref q15, .ref q23, .int 0, .int 0, .null, .int 0, .null, .null, .int 0, .int 0, .int 0, .int 0, .int 0, .int 0, .null, .null, .null, .long 0])), (q7, .inl (y7, 28, .inl (fun _ => 0))), (q15, .inl (y15, 8, .inl (fun _ => 0))), (q23, .inl (y23, 36, .inl (fun _ => 0))), (q31, .inl (y31, 36, .inl (fun _ => 0)))] H := hP
  have hD : va_D A [(h0, .inr (9, [.ref q7, .int 0, .int 0, .int 0, .int 0, .int 0, .int 0, .int 0, .ref q15, .ref q23, .int 0, .int 0, .null, .int 0, .null, .null, .int 0, .int 0, .int 0, .int 0, .int 0, .int 0, .null, .null, .null, .long 0])), (q7, .inl (y7, 28, .inl (fun _ => 0))), (q15, .inl (y15, 8, .inl (fun _ => 0))), (q23, .inl (y23, 36, .inl (fun _ => 0))), (q31, .inl (y31, 36, .inl (fun _ => 0)))] := hD
  have hK : va_K (dC, dI) vwCl [(y7, .int), (y15, .int), (y23, .int), (y31, .int)] s := hK
  refine W.widen (k := 4) (n := 108) (Nat.le_of_ble_eq_true rfl) (Nat.le_of_ble_eq_true rfl) ?_
  refine va_putF (D := (dC, dI)) (ci := 9) (v := .ref q31) (ty := .array .int) (C := RX9) (T := TX9) (N := 26) hx hb htl iX9 tyX9 tyX9_ok nmX9 hown hK hP hD hS 0 rfl rfl 12 (by decide) (htl _ wd_563) (fun _ h9 => h9) rfl hin rfl (by decide +kernel) rfl rfl (Nat.le_of_ble_eq_true rfl) dX9_init_33 (fun H locs hP hD hS => ?_)
  have hP : va_P (dC, dI) vwCl [(h0, .inr (9, [.ref q7, .int 0, .int 0, .int 0, .int 0, .int 0, .int 0, .int 0, .ref q15, .ref q23, .int 0, .int 0, .ref q31, .int 0, .null, .null, .int 0, .int 0, .int 0, .int 0, .int 0, .int 0, .null, .null, .null, .long 0])), (q7, .inl (y7, 28, .inl (fun _ => 0))), (q15, .inl (y15, 8, .inl (fun _ => 0))), (q23, .inl (y23, 36, .inl (fun _ => 0))), (q31, .inl (y31, 36, .inl (fun _ => 0)))] H := hP
  have hD : va_D A [(h0, .inr (9, [.ref q7, .int 0, .int 0, .int 0, .int 0, .int 0, .int 0, .int 0, .ref q15, .ref q23, .int 0, .int 0, .ref q31, .int 0, .null, .null, .int 0, .int 0, .int 0, .int 0, .int 0, .int 0, .null, .null, .null, .long 0])), (q7, .inl (y7, 28, .inl (fun _ => 0))), (q15, .inl (y15, 8, .inl (fun _ => 0))), (q23, .inl (y23, 36, .inl (fun _ => 0))), (q31, .inl (y31, 36, .inl (fun _ => 0)))] := hD
  refine lv_aload_n hx hb dX9_init_36 rfl (lv_at hl 0 rfl) ?_
  refine lv_bipush (v := nI 18) hx hb dX9_init_37 (by decide) ?_
  refine va_newa (atype := .int) (ty := .int) (N' := 18) (a0 := (18, .inl (fun _ => 0))) hx hb (htl _ wd_89) rfl hK hP hD hS hA (fun _ => rfl) (by decide) (by decide) (by decide) (Nat.le_of_ble_eq_true rfl) (Nat.le_of_ble_eq_true rfl) dX9_init_39 (fun q39 y39 H hK hP hD hS => ?_)
  have hP : va_P (dC, dI) vwCl [(h0, .inr (9, [.ref q7, .int 0, .int 0, .int 0, .int 0, .int 0, .int 0, .int 0, .ref q15, .ref q23, .int 0, .int 0, .ref q31, .int 0, .null, .null, .int 0, .int 0, .int 0, .int 0, .int 0, .int 0, .null, .null, .null, .long 0])), (q7, .inl (y7, 28, .inl (fun _ => 0))), (q15, .inl (y15, 8, .inl (fun _ => 0))), (q23, .inl (y23, 36, .inl (fun _ => 0))), (q31, .inl (y31, 36, .inl (fun _ => 0))), (q39, .inl (y39, 18, .inl (fun _ => 0)))] H := hP
  have hD : va_D A [(h0, .inr (9, [.ref q7, .int 0, .int 0, .int 0, .int 0, .int 0, .int 0, .int 0, .ref q15, .ref q23, .int 0, .int 0, .ref q31, .int 0, .null, .null, .int 0, .int 0, .int 0, .int 0, .int 0, .int 0, .null, .null, .null, .long 0])), (q7, .inl (y7, 28, .inl (fun _ => 0))), (q15, .inl (y15, 8, .inl (fun _ => 0))), (q23, .inl (y23, 36, .inl (fun _ => 0))), (q31, .inl (y31, 36, .inl (fun _ => 0))), (q39, .inl (y39, 18, .inl (fun _ => 0)))] := hD
  have hK : va_K (dC, dI) vwCl [(y7, .int), (y15, .int), (y23, .int), (y31, .int), (y39, .int)] s := hK
  refine W.widen (k := 5) (n := 126) (Nat.le_of_ble_eq_true rfl) (Nat.le_of_ble_eq_true rfl) ?_
  refine va_putF (D := (dC, dI)) (ci := 9) (v := .ref q39) (ty := .array .int) (C := RX9) (T := TX9) (N := 26) hx hb htl iX9 tyX9 tyX9_ok nmX9 hown hK hP hD hS 0 rfl rfl 14 (by decide) (htl _ wd_565) (fun _ h9 => h9) rfl hin rfl (by decide +kernel) rfl rfl (Nat.le_of_ble_eq_true rfl) dX9_init_41 (fun H locs hP hD hS => ?_)
  have hP : va_P (dC, dI) vwCl [(h0, .inr (9, [.ref q7, .int 0, .int 0, .int 0, .int 0, .int 0, .int 0, .int 0, .ref q15, .ref q23, .int 0, .int 0, .ref q31, .int 0, .ref q39, .null, .int 0, .int 0, .int 0, .int 0, .int 0, .int 0, .null, .null, .null, .long 0])), (q7, .inl (y7, 28, .inl (fun _ => 0))), (q15, .inl (y15, 8, .inl (fun _ => 0))), (q23, .inl (y23, 36, .inl (fun _ => 0))), (q31, .inl (y31, 36, .inl (fun _ => 0))), (q39, .inl (y39, 18, .inl (fun _ => 0)))] H := hP
  have hD : va_D A [(h0, .inr (9, [.ref q7, .int 0, .int 0, .int 0, .int 0, .int 0, .int 0, .int 0, .ref q15, .ref q23, .int 0, .int 0, .ref q31, .int 0, .ref q39, .null, .int 0, .int 0, .int 0, .int 0, .int 0, .int 0, .null, .null, .null, .long 0])), (q7, .inl (y7, 28, .inl (fun _ => 0))), (q15, .inl (y15, 8, .inl (fun _ => 0))), (q23, .inl (y23, 36, .inl (fun _ => 0))), (q31, .inl (y31, 36, .inl (fun _ => 0))), (q39, .inl (y39, 18, .inl (fun _ => 0)))] := hD
  refine lv_aload_n hx hb dX9_init_44 rfl (lv_at hl 0 rfl) ?_
  refine lv_bipush (v := nI 9) hx hb dX9_init_45 (by decide) ?_
  refine va_newa (atype := .int) (ty := .int) (N' := 9) (a0 := (9, .inl (fun _ => 0))) hx hb (htl _ wd_89) rfl hK hP hD hS hA (fun _ => rfl) (by decide) (by decide) (by decide) (Nat.le_of_ble_eq_true rfl) (Nat.le_of_ble_eq_true rfl) dX9_init_47 (fun q47 y47 H hK hP hD hS => ?_)
  have hP : va_P (dC, dI) vwCl [(h0, .inr (9, [.ref q7, .int 0, .int 0, .int 0, .int 0, .int 0, .int 0, .int 0, .ref q15, .ref q23, .int 0, .int 0, .ref q31, .int 0, .ref q39, .null, .int 0, .int 0, .int 0, .int 0, .int 0, .int 0, .null, .null, .null, .long 0])), (q7, .inl (y7, 28, .inl (fun _ => 0))), (q15, .inl (y15, 8, .inl (fun _ => 0))), (q23, .inl (y23, 36, .inl (fun _ => 0))), (q31, .inl (y31, 36, .inl (fun _ => 0))), (q39, .inl (y39, 18, .inl (fun _ => 0))), (q47, .inl (y47, 9, .inl (fun _ => 0)))] H := hP
  have hD : va_D A [(h0, .inr (9, [.ref q7, .int 0, .int 0, .int 0, .int 0, .int 0, .int 0, .int 0, .ref q15, .ref q23, .int 0, .int 0, .ref q31, .int 0, .ref q39, .null, .int 0, .int 0, .int 0, .int 0, .int 0, .int 0, .null, .null, .null, .long 0])), (q7, .inl (y7, 28, .inl (fun _ => 0))), (q15, .inl (y15, 8, .inl (fun _ => 0))), (q23, .inl (y23, 36, .inl (fun _ => 0))), (q31, .inl (y31, 36, .inl (fun _ => 0))), (q39, .inl (y39, 18, .inl (fun _ => 0))), (q47, .inl (y47, 9, .inl (fun _ => 0)))] := hD
  have hK : va_K (dC, dI) vwCl [(y7, .int), (y15, .int), (y23, .int), (y31, .int), (y39, .int), (y47, .int)] s := hK
  refine W.widen (k := 6) (n := 135) (Nat.le_of_ble_eq_true rfl) (Nat.le_of_ble_eq_true rfl) ?_
  refine va_putF (D := (dC, dI)) (ci := 9) (v := .ref q47) (ty := .array .int) (C := RX9) (T := TX9) (N := 26) hx hb htl iX9 tyX9 tyX9_ok nmX9 hown hK hP hD hS 0 rfl rfl 15 (by decide) (htl _ wd_566) (fun _ h9 => h9) rfl hin rfl (by decide +kernel) rfl rfl (Nat.le_of_ble_eq_true rfl) dX9_init_49 (fun H locs hP hD hS => ?_)
  have hP : va_P (dC, dI) vwCl [(h0, .inr (9, [.ref q7, .int 0, .int 0, .int 0, .int 0, .int 0, .int 0, .int 0, .ref q15, .ref q23, .int 0, .int 0, .ref q31, .int 0, .ref q39, .ref q47, .int 0, .int 0, .int 0, .int 0, .int 0, .int 0, .null, .null, .null, .long 0])), (q7, .inl (y7, 28, .inl (fun _ => 0))), (q15, .inl (y15, 8, .inl (fun _ => 0))), (q23, .inl (y23, 36, .inl (fun _ => 0))), (q31, .inl (y31, 36, .inl (fun _ => 0))), (q39, .inl (y39, 18, .inl (fun _ => 0))), (q47, .inl (y47, 9, .inl (fun _ => 0)))] H := hP
  have hD : va_D A [(h0, .inr (9, [.ref q7, .int 0, .int 0, .int 0, .int 0, .int 0, .int 0, .int 0, .ref q15, .ref q23, .int 0, .int 0, .ref q31, .int 0, .ref q39, .ref q47, .int 0, .int 0, .int 0, .int 0, .int 0, .int 0, .null, .null, .null, .long 0])), (q7, .inl (y7, 28, .inl (fun _ => 0))), (q15, .inl (y15, 8, .inl (fun _ => 0))), (q23, .inl (y23, 36, .inl (fun _ => 0))), (q31, .inl (y31, 36, .inl (fun _ => 0))), (q39, .inl (y39, 18, .inl (fun _ => 0))), (q47, .inl (y47, 9, .inl (fun _ => 0)))] := hD
  refine lv_aload_n hx hb dX9_init_52 rfl (lv_at hl 0 rfl) ?_
  refine lv_bipush (v := nI 8) hx hb dX9_init_53 (by decide) ?_
  refine va_newa (atype := .int) (ty := .int) (N' := 8) (a0 := (8, .inl (fun _ => 0))) hx hb (htl _ wd_89) rfl hK hP hD hS hA (fun _ => rfl) (by decide) (by decide) (by decide) (Nat.le_of_ble_eq_true rfl) (Nat.le_of_ble_eq_true rfl) dX9_init_55 (fun q55 y55 H hK hP hD hS => ?_)
  have hP : va_P (dC, dI) vwCl [(h0, .inr (9, [.ref q7, .int 0, .int 0, .int 0, .int 0, .int 0, .int 0, .int 0, .ref q15, .ref q23, .int 0, .int 0, .ref q31, .int 0, .ref q39, .ref q47, .int 0, .int 0, .int 0, .int 0, .int 0, .int 0, .null, .null, .null, .long 0])), (q7, .inl (y7, 28, .inl (fun _ => 0))), (q15, .inl (y15, 8, .inl (fun _ => 0))), (q23, .inl (y23, 36, .inl (fun _ => 0))), (q31, .inl (y31, 36, .inl (fun _ => 0))), (q39, .inl (y39, 18, .inl (fun _ => 0))), (q47, .inl (y47, 9, .inl (fun _ => 0))), (q55, .inl (y55, 8, .inl (fun _ => 0)))] H := hP
  have hD : va_D A [(h0, .inr (9, [.ref q7, .int 0, .int 0, .int 0, .int 0, .int 0, .int 0, .int 0, .ref q15, .ref q23, .int 0, .int 0, .ref q31, .int 0, .ref q39, .ref q47, .int 0, .int 0, .int 0, .int 0, .int 0, .int 0, .null, .null, .null, .long 0])), (q7, .inl (y7, 28, .inl (fun _ => 0))), (q15, .inl (y15, 8, .inl (fun _ => 0))), (q23, .inl (y23, 36, .inl (fun _ => 0))), (q31, .inl (y31, 36, .inl (fun _ => 0))), (q39, .inl (y39, 18, .inl (fun _ => 0))), (q47, .inl (y47, 9, .inl (fun _ => 0))), (q55, .inl (y55, 8, .inl (fun _ => 0)))] := hD
  have hK : va_K (dC, dI) vwCl [(y7, .int), (y15, .int), (y23, .int), (y31, .int), (y39, .int), (y47, .int), (y55, .int)] s := hK
  refine W.widen (k := 7) (n := 143) (Nat.le_of_ble_eq_true rfl) (Nat.le_of_ble_eq_true rfl) ?_
  refine va_putF (D := (dC, dI)) (ci := 9) (v := .ref q55) (ty := .array .int) (C := RX9) (T := TX9) (N := 26) hx hb htl iX9 tyX9 tyX9_ok nmX9 hown hK hP hD hS 0 rfl rfl 22 (by decide) (htl _ wd_573) (fun _ h9 => h9) rfl hin rfl (by decide +kernel) rfl rfl (Nat.le_of_ble_eq_true rfl) dX9_init_57 (fun H locs hP hD hS => ?_)
  have hP : va_P (dC, dI) vwCl [(h0, .inr (9, [.ref q7, .int 0, .int 0, .int 0, .int 0, .int 0, .int 0, .int 0, .ref q15, .ref q23, .int 0, .int 0, .ref q31, .int 0, .ref q39, .ref q47, .int 0, .int 0, .int 0, .int 0, .int 0, .int 0, .ref q55, .null, .null, .long 0])), (q7, .inl (y7, 28, .inl (fun _ => 0))), (q15, .inl (y15, 8, .inl (fun _ => 0))), (q23, .inl (y23, 36, .inl (fun _ => 0))), (q31, .inl (y31, 36, .inl (fun _ => 0))), (q39, .inl (y39, 18, .inl (fun _ => 0))), (q47, .inl (y47, 9, .inl (fun _ => 0))), (q55, .inl (y55, 8, .inl (fun _ => 0)))] H := hP
  have hD : va_D A [(h0, .inr (9, [.ref q7, .int 0, .int 0, .int 0, .int 0, .int 0, .int 0, .int 0, .ref q15, .ref q23, .int 0, .int 0, .ref q31, .int 0, .ref q39, .ref q47, .int 0, .int 0, .int 0, .int 0, .int 0, .int 0, .ref q55, .null, .null, .long 0])), (q7, .inl (y7, 28, .inl (fun _ => 0))), (q15, .inl (y15, 8, .inl (fun _ => 0))), (q23, .inl (y23, 36, .inl (fun _ => 0))), (q31, .inl (y31, 36, .inl (fun _ => 0))), (q39, .inl (y39, 18, .inl (fun _ => 0))), (q47, .inl (y47, 9, .inl (fun _ => 0))), (q55, .inl (y55, 8, .inl (fun _ => 0)))] := hD
  refine lv_aload_n hx hb dX9_init_60 rfl (lv_at hl 0 rfl) ?_
  refine lv_bipush (v := nI 36) hx hb dX9_init_61 (by decide) ?_
  refine va_newa (atype := .int) (ty := .int) (N' := 36) (a0 := (36, .inl (fun _ => 0))) hx hb (htl _ wd_89) rfl hK hP hD hS hA (fun _ => rfl) (by decide) (by decide) (by decide) (Nat.le_of_ble_eq_true rfl) (Nat.le_of_ble_eq_true rfl) dX9_init_63 (fun q63 y63 H hK hP hD hS => ?_)
  have hP : va_P (dC, dI) vwCl [(h0, .inr (9, [.ref q7, .int 0, .int 0, .int 0, .int 0, .int 0, .int 0, .int 0, .ref q15, .ref q23, .int 0, .int 0, .ref q31, .int 0, .ref q39, .ref q47, .int 0, .int 0, .int 0, .int 0, .int 0, .int 0, .ref q55, .null, .null, .long 0])), (q7, .inl (y7, 28, .inl (fun _ => 0))), (q15, .inl (y15, 8, .inl (fun _ => 0))), (q23, .inl (y23, 36, .inl (fun _ => 0))), (q31, .inl (y31, 36, .inl (fun _ => 0))), (q39, .inl (y39, 18, .inl (fun _ => 0))), (q47, .inl (y47, 9, .inl (fun _ => 0))), (q55, .inl (y55, 8, .inl (fun _ => 0))), (q63, .inl (y63, 36, .inl (fun _ => 0)))] H := hP
  have hD : va_D A [(h0, .inr (9, [.ref q7, .int 0, .int 0, .int 0, .int 0, .int 0, .int 0, .int 0, .ref q15, .ref q23, .int 0, .int 0, .ref q31, .int 0, .ref q39, .ref q47, .int 0, .int 0, .int 0, .int 0, .int 0, .int 0, .ref q55, .null, .null, .long 0])), (q7, .inl (y7, 28, .inl (fun _ => 0))), (q15, .inl (y15, 8, .inl (fun _ => 0))), (q23, .inl (y23, 36, .inl (fun _ => 0))), (q31, .inl (y31, 36, .inl (fun _ => 0))), (q39, .inl (y39, 18, .inl (fun _ => 0))), (q47, .inl (y47, 9, .inl (fun _ => 0))), (q55, .inl (y55, 8, .inl (fun _ => 0))), (q63, .inl (y63, 36, .inl (fun _ => 0)))] := hD
  have hK : va_K (dC, dI) vwCl [(y7, .int), (y15, .int), (y23, .int), (y31, .int), (y39, .int), (y47, .int), (y55, .int), (y63, .int)] s := hK
  refine W.widen (k := 8) (n := 179) (Nat.le_of_ble_eq_true rfl) (Nat.le_of_ble_eq_true rfl) ?_
  refine va_putF (D := (dC, dI)) (ci := 9) (v := .ref q63) (ty := .array .int) (C := RX9) (T := TX9) (N := 26) hx hb htl iX9 tyX9 tyX9_ok nmX9 hown hK hP hD hS 0 rfl rfl 23 (by decide) (htl _ wd_574) (fun _ h9 => h9) rfl hin rfl (by decide +kernel) rfl rfl (Nat.le_of_ble_eq_true rfl) dX9_init_65 (fun H locs hP hD hS => ?_)
  have hP : va_P (dC, dI) vwCl [(h0, .inr (9, [.ref q7, .int 0, .int 0, .int 0, .int 0, .int 0, .int 0, .int 0, .ref q15, .ref q23, .int 0, .int 0, .ref q31, .int 0, .ref q39, .ref q47, .int 0, .int 0, .int 0, .int 0, .int 0, .int 0, .ref q55, .ref q63, .null, .long 0])), (q7, .inl (y7, 28, .inl (fun _ => 0))), (q15, .inl (y15, 8, .inl (fun _ => 0))), (q23, .inl (y23, 36, .inl (fun _ => 0))), (q31, .inl (y31, 36, .inl (fun _ => 0))), (q39, .inl (y39, 18, .inl (fun _ => 0))), (q47, .inl (y47, 9, .inl (fun _ => 0))), (q55, .inl (y55, 8, .inl (fun _ => 0))), (q63, .inl (y63, 36, .inl (fun _ => 0)))] H := hP
  have hD : va_D A [(h0, .inr (9, [.ref q7, .int 0, .int 0, .int 0, .int 0, .int 0, .int 0, .int 0, .ref q15, .ref q23, .int 0, .int 0, .ref q31, .int 0, .ref q39, .ref q47, .int 0, .int 0, .int 0, .int 0, .int 0, .int 0, .ref q55, .ref q63, .null, .long 0])), (q7, .inl (y7, 28, .inl (fun _ => 0))), (q15, .inl (y15, 8, .inl (fun _ => 0))), (q23, .inl (y23, 36, .inl (fun _ => 0))), (q31, .inl (y31, 36, .inl (fun _ => 0))), (q39, .inl (y39, 18, .inl (fun _ => 0))), (q47, .inl (y47, 9, .inl (fun _ => 0))), (q55, .inl (y55, 8, .inl (fun _ => 0))), (q63, .inl (y63, 36, .inl (fun _ => 0)))] := hD
  refine lv_aload_n hx hb dX9_init_68 rfl (lv_at hl 0 rfl) ?_
  refine lv_bipush (v := nI 18) hx hb dX9_init_69 (by decide) ?_
  refine va_newa (atype := .int) (ty := .int) (N' := 18) (a0 := (18, .inl (fun _ => 0))) hx hb (htl _ wd_89) rfl hK hP hD hS hA (fun _ => rfl) (by decide) (by decide) (by decide) (Nat.le_of_ble_eq_true rfl) (Nat.le_of_ble_eq_true rfl) dX9_init_71 (fun q71 y71 H hK hP hD hS => ?_)
  have hP : va_P (dC, dI) vwCl [(h0, .inr (9, [.ref q7, .int 0, .int 0, .int 0, .int 0, .int 0, .int 0, .int 0, .ref q15, .ref q23, .int 0, .int 0, .ref q31, .int 0, .ref q39, .ref q47, .int 0, .int 0, .int 0, .int 0, .int 0, .int 0, .ref q55, .ref q63, .null, .long 0])), (q7, .inl (y7, 28, .inl (fun _ => 0))), (q15, .inl (y15, 8, .inl (fun _ => 0))), (q23, .inl (y23, 36, .inl (fun _ => 0))), (q31, .inl (y31, 36, .inl (fun _ => 0))), (q39, .inl (y39, 18, .inl (fun _ => 0))), (q47, .inl (y47, 9, .inl (fun _ => 0))), (q55, .inl (y55, 8, .inl (fun _ => 0))), (q63, .inl (y63, 36, .inl (fun _ => 0))), (q71, .inl (y71, 18, .inl (fun _ => 0)))] H := hP
  have hD : va_D A [(h0, .inr (9, [.ref q7, .int 0, .int 0, .int 0, .int 0, .int 0, .int 0, .int 0, .ref q15, .ref q23, .int 0, .int 0, .ref q31, .int 0, .ref q39, .ref q47, .int 0, .int 0, .int 0, .int 0, .int 0, .int 0, .ref q55, .ref q63, .null, .long 0])), (q7, .inl (y7, 28, .inl (fun _ => 0))), (q15, .inl (y15, 8, .inl (fun _ => 0))), (q23, .inl (y23, 36, .inl (fun _ => 0))), (q31, .inl (y31, 36, .inl (fun _ => 0))), (q39, .inl (y39, 18, .inl (fun _ => 0))), (q47, .inl (y47, 9, .inl (fun _ => 0))), (q55, .inl (y55, 8, .inl (fun _ => 0))), (q63, .inl (y63, 36, .inl (fun _ => 0))), (q71, .inl (y71, 18, .inl (fun _ => 0)))] := hD
  have hK : va_K (dC, dI) vwCl [(y7, .int), (y15, .int), (y23, .int), (y31, .int), (y39, .int), (y47, .int), (y55, .int), (y63, .int), (y71, .int)] s := hK
  refine W.widen (k := 9) (n := 197) (Nat.le_of_ble_eq_true rfl) (Nat.le_of_ble_eq_true rfl) ?_
  refine va_putF (D := (dC, dI)) (ci := 9) (v := .ref q71) (ty := .array .int) (C := RX9) (T := TX9) (N := 26) hx hb htl iX9 tyX9 tyX9_ok nmX9 hown hK hP hD hS 0 rfl rfl 24 (by decide) (htl _ wd_575) (fun _ h9 => h9) rfl hin rfl (by decide +kernel) rfl rfl (Nat.le_of_ble_eq_true rfl) dX9_init_73 (fun H locs hP hD hS => ?_)
  have hP : va_P (dC, dI) vwCl [(h0, .inr (9, [.ref q7, .int 0, .int 0, .int 0, .int 0, .int 0, .int 0, .int 0, .ref q15, .ref q23, .int 0, .int 0, .ref q31, .int 0, .ref q39, .ref q47, .int 0, .int 0, .int 0, .int 0, .int 0, .int 0, .ref q55, .ref q63, .ref q71, .long 0])), (q7, .inl (y7, 28, .inl (fun _ => 0))), (q15, .inl (y15, 8, .inl (fun _ => 0))), (q23, .inl (y23, 36, .inl (fun _ => 0))), (q31, .inl (y31, 36, .inl (fun _ => 0))), (q39, .inl (y39, 18, .inl (fun _ => 0))), (q47, .inl (y47, 9, .inl (fun _ => 0))), (q55, .inl (y55, 8, .inl (fun _ => 0))), (q63, .inl (y63, 36, .inl (fun _ => 0))), (q71, .inl (y71, 18, .inl (fun _ => 0)))] H := hP
  have hD : va_D A [(h0, .inr (9, [.ref q7, .int 0, .int 0, .int 0, .int 0, .int 0, .int 0, .int 0, .ref q15, .ref q23, .int 0, .int 0, .ref q31, .int 0, .ref q39, .ref q47, .int 0, .int 0, .int 0, .int 0, .int 0, .int 0, .ref q55, .ref q63, .ref q71, .long 0])), (q7, .inl (y7, 28, .inl (fun _ => 0))), (q15, .inl (y15, 8, .inl (fun _ => 0))), (q23, .inl (y23, 36, .inl (fun _ => 0))), (q31, .inl (y31, 36, .inl (fun _ => 0))), (q39, .inl (y39, 18, .inl (fun _ => 0))), (q47, .inl (y47, 9, .inl (fun _ => 0))), (q55, .inl (y55, 8, .inl (fun _ => 0))), (q63, .inl (y63, 36, .inl (fun _ => 0))), (q71, .inl (y71, 18, .inl (fun _ => 0)))] := hD
  refine lv_aload_n hx hb dX9_init_76 rfl (lv_at hl 0 rfl) ?_
  refine lv_iconst (v := (-1)) hx hb dX9_init_77 (by decide) ?_
  refine va_put (D := (dC, dI)) (ci := 9) (v := .int (-1)) (ty := .int) (C := RX9) (T := TX9) (N := 26) hx hb htl iX9 tyX9 tyX9_ok nmX9 hown hK hP hD hS 0 rfl rfl 17 (by decide) (htl _ wd_568) (fun _ h9 => h9) rfl (by decide +kernel) rfl rfl (Nat.le_of_ble_eq_true rfl) dX9_init_78 (fun H locs hP hD hS => ?_)
  have hP : va_P (dC, dI) vwCl [(h0, .inr (9, [.ref q7, .int 0, .int 0, .int 0, .int 0, .int 0, .int 0, .int 0, .ref q15, .ref q23, .int 0, .int 0, .ref q31, .int 0, .ref q39, .ref q47, .int 0, .int (-1), .int 0, .int 0, .int 0, .int 0, .ref q55, .ref q63, .ref q71, .long 0])), (q7, .inl (y7, 28, .inl (fun _ => 0))), (q15, .inl (y15, 8, .inl (fun _ => 0))), (q23, .inl (y23, 36, .inl (fun _ => 0))), (q31, .inl (y31, 36, .inl (fun _ => 0))), (q39, .inl (y39, 18, .inl (fun _ => 0))), (q47, .inl (y47, 9, .inl (fun _ => 0))), (q55, .inl (y55, 8, .inl (fun _ => 0))), (q63, .inl (y63, 36, .inl (fun _ => 0))), (q71, .inl (y71, 18, .inl (fun _ => 0)))] H := hP
  have hD : va_D A [(h0, .inr (9, [.ref q7, .int 0, .int 0, .int 0, .int 0, .int 0, .int 0, .int 0, .ref q15, .ref q23, .int 0, .int 0, .ref q31, .int 0, .ref q39, .ref q47, .int 0, .int (-1), .int 0, .int 0, .int 0, .int 0, .ref q55, .ref q63, .ref q71, .long 0])), (q7, .inl (y7, 28, .inl (fun _ => 0))), (q15, .inl (y15, 8, .inl (fun _ => 0))), (q23, .inl (y23, 36, .inl (fun _ => 0))), (q31, .inl (y31, 36, .inl (fun _ => 0))), (q39, .inl (y39, 18, .inl (fun _ => 0))), (q47, .inl (y47, 9, .inl (fun _ => 0))), (q55, .inl (y55, 8, .inl (fun _ => 0))), (q63, .inl (y63, 36, .inl (fun _ => 0))), (q71, .inl (y71, 18, .inl (fun _ => 0)))] := hD
  have hP9 := hP.sub (ws' := [(h0, .inr (9, [.ref q7, .int 0, .int 0, .int 0, .int 0, .int 0, .int 0, .int 0, .ref q15, .ref q23, .int 0, .int 0, .ref q31, .int 0, .ref q39, .ref q47, .int 0, .int (-1), .int 0, .int 0, .int 0, .int 0, .ref q55, .ref q63, .ref q71, .long 0])), (q7, .inl (y7, 28, .inl (fun _ => 0))), (q15, .inl (y15, 8, .inl (fun _ => 0))), (q23, .inl (y23, 36, .inl (fun _ => 0))), (q31, .inl (y31, 36, .inl (fun _ => 0))), (q39, .inl (y39, 18, .inl (fun _ => 0))), (q47, .inl (y47, 9, .inl (fun _ => 0))), (q55, .inl (y55, 8, .inl (fun _ => 0))), (q63, .inl (y63, 36, .inl (fun _ => 0))), (q71, .inl (y71, 18, .inl (fun _ => 0)))]) [0, 1, 2, 3, 4, 5, 6, 7, 8, 9] rfl
  have hD9 := hD.sub (ws' := [(h0, .inr (9, [.ref q7, .int 0, .int 0, .int 0, .int 0, .int 0, .int 0, .int 0, .ref q15, .ref q23, .int 0, .int 0, .ref q31, .int 0, .ref q39, .ref q47, .int 0, .int (-1), .int 0, .int 0, .int 0, .int 0, .ref q55, .ref q63, .ref q71, .long 0])), (q7, .inl (y7, 28, .inl (fun _ => 0))), (q15, .inl (y15, 8, .inl (fun _ => 0))), (q23, .inl (y23, 36, .inl (fun _ => 0))), (q31, .inl (y31, 36, .inl (fun _ => 0))), (q39, .inl (y39, 18, .inl (fun _ => 0))), (q47, .inl (y47, 9, .inl (fun _ => 0))), (q55, .inl (y55, 8, .inl (fun _ => 0))), (q63, .inl (y63, 36, .inl (fun _ => 0))), (q71, .inl (y71, 18, .inl (fun _ => 0)))]) [0, 1, 2, 3, 4, 5, 6, 7, 8, 9] (by decide) rfl
  have hK9 := hK.sub (tys' := [(y7, .int), (y15, .int), (y23, .int), (y31, .int), (y39, .int), (y47, .int), (y55, .int), (y63, .int), (y71, .int)]) [0, 1, 2, 3, 4, 5, 6, 7, 8] rfl
  refine W.widen (k := 9) (n := 197) (Nat.le_refl _) (Nat.le_refl _) ?_
  exact W.vret hx hb hr (fun t ht hW => ⟨⟨((fun j => match j with | 0 => q7 | 1 => q15 | 2 => q23 | 3 => q31 | 4 => q39 | 5 => q47 | 6 => q55 | 7 => q63 | _ => q71), (fun j => match j with | 0 => y7 | 1 => y15 | 2 => y23 | 3 => y31 | 4 => y39 | 5 => y47 | 6 => y55 | 7 => y63 | _ => y71)), rfl, trivial, by rw [ht]; exact hP9, va_K.moved hW.alike hK9, hD9⟩, hS.F ht⟩) hS.2.2 dX9_init_81
