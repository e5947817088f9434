set_option maxHeartbeats 4000000 in
set_option maxRecDepth 100000 in
theorem kX8_trailOf (l : Launch) (dC : Nat → ClassId) (dI : Nat → Nat → Nat) (ca : Nat → ClassId) (sz : Nat) (i : Nat) (q : Nat → Nat) (qn : Nat → Nat) (kd : Nat → Nat) (nc : Nat) (sr : Int32) (ik : Int32) (isl : Int64) (br : Nat) (st : Int32) (so : Int32) (se : Nat) (hm : Nat → Nat) (ts : Int32) (tp : Int32) (hi : i < 4) (hbr : br < 36) (hkd : ∀ j, j < 4 → kd j < 5) (hhm : ∀ j, j < 4 → hm j < 36) : Met l yX8_trailOf (Cond.code yX8_trailOf cX8_trailOf 4 (some (.object "HomeNeedles$Trail")) :: gT) (rk 4) (EFp (dC, dI) [(q 0, .inr (8, [.ref (q 1), .ref (q 3), .ref (q 4), .ref (q 9), .ref (q 14), .ref (q 15), .ref (q 16), .ref (q 17), .int (nI nc), .int sr, .int ik])), (q 3, .inl (ca 1, 4, .inr (.inr (.inr (.inr (fun zj => some (qn zj))))))), (q 4, .inr (7, [.ref (q 5), .ref (q 6), .ref (q 7), .ref (q 8), .long isl, .int (nI br), .int st, .int so, .int (nI se)])), (q 5, .inl (ca 2, 4, .inl (fun zj => nI (hm zj)))), (qn 0, .inr (kc (kd 0), [])), (qn 1, .inr (kc (kd 1), [])), (qn 2, .inr (kc (kd 2), [])), (qn 3, .inr (kc (kd 3), [])), (q 14, .inr (5, [.int ts, .int tp]))] (TY ca) sz [Value.ref (q 0), Value.int (nI i)]) (va_Qr (fun (_ : Unit) => True) (fun u a t => a = q 14 ∧ EFb (dC, dI) (fun (_ : Unit) => [(q 0, .inr (8, [.ref (q 1), .ref (q 3), .ref (q 4), .ref (q 9), .ref (q 14), .ref (q 15), .ref (q 16), .ref (q 17), .int (nI nc), .int sr, .int ik])), (q 3, .inl (ca 1, 4, .inr (.inr (.inr (.inr (fun zj => some (qn zj))))))), (q 4, .inr (7, [.ref (q 5), .ref (q 6), .ref (q 7), .ref (q 8), .long isl, .int (nI br), .int st, .int so, .int (nI se)])), (q 5, .inl (ca 2, 4, .inl (fun zj => nI (hm zj)))), (qn 0, .inr (kc (kd 0), [])), (qn 1, .inr (kc (kd 1), [])), (qn 2, .inr (kc (kd 2), [])), (qn 3, .inr (kc (kd 3), [])), (q 14, .inr (5, [.int (nI ((trailN (xb isl) (kd i) (hm i) 40 br 0).2)), .int (nI ((trailN (xb isl) (kd i) (hm i) 40 br 0).1))]))]) (TY ca) (va_A [(q 0, .inr (8, [.ref (q 1), .ref (q 3), .ref (q 4), .ref (q 9), .ref (q 14), .ref (q 15), .ref (q 16), .ref (q 17), .int (nI nc), .int sr, .int ik])), (q 3, .inl (ca 1, 4, .inr (.inr (.inr (.inr (fun zj => some (qn zj))))))), (q 4, .inr (7, [.ref (q 5), .ref (q 6), .ref (q 7), .ref (q 8), .long isl, .int (nI br), .int st, .int so, .int (nI se)])), (q 5, .inl (ca 2, 4, .inl (fun zj => nI (hm zj)))), (qn 0, .inr (kc (kd 0), [])), (qn 1, .inr (kc (kd 1), [])), (qn 2, .inr (kc (kd 2), [])), (qn 3, .inr (kc (kd 3), [])), (q 14, .inr (5, [.int ts, .int tp]))] sz) u t) (va_A [(q 0, .inr (8, [.ref (q 1), .ref (q 3), .ref (q 4), .ref (q 9), .ref (q 14), .ref (q 15), .ref (q 16), .ref (q 17), .int (nI nc), .int sr, .int ik])), (q 3, .inl (ca 1, 4, .inr (.inr (.inr (.inr (fun zj => some (qn zj))))))), (q 4, .inr (7, [.ref (q 5), .ref (q 6), .ref (q 7), .ref (q 8), .long isl, .int (nI br), .int st, .int so, .int (nI se)])), (q 5, .inl (ca 2, 4, .inl (fun zj => nI (hm zj)))), (qn 0, .inr (kc (kd 0), [])), (qn 1, .inr (kc (kd 1), [])), (qn 2, .inr (kc (kd 2), [])), (qn 3, .inr (kc (kd 3), [])), (q 14, .inr (5, [.int ts, .int tp]))] sz)) 0 0 (va_A [(q 0, .inr (8, [.ref (q 1), .ref (q 3), .ref (q 4), .ref (q 9), .ref (q 14), .ref (q 15), .ref (q 16), .ref (q 17), .int (nI nc), .int sr, .int ik])), (q 3, .inl (ca 1, 4, .inr (.inr (.inr (.inr (fun zj => some (qn zj))))))), (q 4, .inr (7, [.ref (q 5), .ref (q 6), .ref (q 7), .ref (q 8), .long isl, .int (nI br), .int st, .int so, .int (nI se)])), (q 5, .inl (ca 2, 4, .inl (fun zj => nI (hm zj)))), (qn 0, .inr (kc (kd 0), [])), (qn 1, .inr (kc (kd 1), [])), (qn 2, .inr (kc (kd 2), [])), (qn 3, .inr (kc (kd 3), [])), (q 14, .inr (5, [.int ts, .int tp]))] sz) := by
  refine Met.ofW (cc := cX8_trailOf) (maxL := 4) (ret := (some (.object "HomeNeedles$Trail"))) (by decide) rfl ?_
  intro p e s m args below meth c s₁ B hml hv
  obtain ⟨rfl, hsz, hP, hK, hD0⟩ := hv
  have hx := B.exec
  have hb := B.bytes
  have hr := B.returns
  have hts := atoms_spec (ws := (Cond.code yX8_trailOf cX8_trailOf 4 (some (.object "HomeNeedles$Trail")) :: gT)) B.pre
  have htl : ∀ w ∈ gT, w.before _ s = true := fun w h => hts w (List.mem_cons_of_mem _ h)
  have hown : s.vm.findClass RX8 = some m.cls := findClass_of_methodNamed B.named
  have hlocks := B.notSynchronized
  subst hsz
  have hD := hD0.self (sz := s.heap.size)
  generalize hAe : va_A [(q 0, .inr (8, [.ref (q 1), .ref (q 3), .ref (q 4), .ref (q 9), .ref (q 14), .ref (q 15), .ref (q 16), .ref (q 17), .int (nI nc), .int sr, .int ik])), (q 3, .inl (ca 1, 4, .inr (.inr (.inr (.inr (fun zj => some (qn zj))))))), (q 4, .inr (7, [.ref (q 5), .ref (q 6), .ref (q 7), .ref (q 8), .long isl, .int (nI br), .int st, .int so, .int (nI se)])), (q 5, .inl (ca 2, 4, .inl (fun zj => nI (hm zj)))), (qn 0, .inr (kc (kd 0), [])), (qn 1, .inr (kc (kd 1), [])), (qn 2, .inr (kc (kd 2), [])), (qn 3, .inr (kc (kd 3), [])), (q 14, .inr (5, [.int ts, .int tp]))] s.heap.size = A at hD ⊢
  have hA : ∀ q : Nat, s.heap.size ≤ q → A q := fun q h => by rw [← hAe]; exact Or.inr h
  have hS : va_S A s.heap s.heap [] := va_S.rf
  have hl := lv_entry ([Value.ref (q 0), Value.int (nI i)]) (n := 4) (Nat.le_of_ble_eq_true rfl)
  rw [lg_entry_eq]
  generalize (lg_sl ([Value.ref (q 0), Value.int (nI i)]) ++ List.replicate (4 - (lg_sl ([Value.ref (q 0), Value.int (nI i)])).length) Slot.unset).toArray = ls at hl ⊢
  have hl : lv_has ls 4 [(0, .ref (q 0)), (1, .int (nI i))] := hl
  refine lv_aload_n hx hb dX8_trailOf_0 rfl (lv_at hl 0 rfl) ?_
  refine va_get (D := (dC, dI)) (ci := 8) (v := .ref (q 14)) (C := RX8) (T := TX8) (N := 11) hx hb htl iX8 hown hK hP 0 rfl rfl 4 (by decide) (htl _ wd_115) (fun _ h9 => h9) rfl dX8_trailOf_1 ?_
  refine lv_iconst (v := nI 0) hx hb dX8_trailOf_4 (by decide) ?_
  refine va_put (D := (dC, dI)) (ci := 5) (v := .int (nI 0)) (ty := .int) (C := RX5) (T := TX5) (N := 2) hx hb htl iX5 tyX5 tyX5_ok nmX5 hown hK hP hD hS 8 rfl rfl 0 (by decide) (htl _ wd_97) (fun _ h9 => h9) rfl (by decide +kernel) rfl rfl (Nat.le_of_ble_eq_true rfl) dX8_trailOf_5 (fun H locs hP hD hS => ?_)
  have hP : va_P (dC, dI) vwCl [(q 0, .inr (8, [.ref (q 1), .ref (q 3), .ref (q 4), .ref (q 9), .ref (q 14), .ref (q 15), .ref (q 16), .ref (q 17), .int (nI nc), .int sr, .int ik])), (q 3, .inl (ca 1, 4, .inr (.inr (.inr (.inr (fun zj => some (qn zj))))))), (q 4, .inr (7, [.ref (q 5), .ref (q 6), .ref (q 7), .ref (q 8), .long isl, .int (nI br), .int st, .int so, .int (nI se)])), (q 5, .inl (ca 2, 4, .inl (fun zj => nI (hm zj)))), (qn 0, .inr (kc (kd 0), [])), (qn 1, .inr (kc (kd 1), [])), (qn 2, .inr (kc (kd 2), [])), (qn 3, .inr (kc (kd 3), [])), (q 14, .inr (5, [.int (nI 0), .int tp]))] H := hP
  have hD : va_D A [(q 0, .inr (8, [.ref (q 1), .ref (q 3), .ref (q 4), .ref (q 9), .ref (q 14), .ref (q 15), .ref (q 16), .ref (q 17), .int (nI nc), .int sr, .int ik])), (q 3, .inl (ca 1, 4, .inr (.inr (.inr (.inr (fun zj => some (qn zj))))))), (q 4, .inr (7, [.ref (q 5), .ref (q 6), .ref (q 7), .ref (q 8), .long isl, .int (nI br), .int st, .int so, .int (nI se)])), (q 5, .inl (ca 2, 4, .inl (fun zj => nI (hm zj)))), (qn 0, .inr (kc (kd 0), [])), (qn 1, .inr (kc (kd 1), [])), (qn 2, .inr (kc (kd 2), [])), (qn 3, .inr (kc (kd 3), [])), (q 14, .inr (5, [.int (nI 0), .int tp]))] := hD
  refine lv_aload_n hx hb dX8_trailOf_8 rfl (lv_at hl 0 rfl) ?_
  refine va_get (D := (dC, dI)) (ci := 8) (v := .ref (q 14)) (C := RX8) (T := TX8) (N := 11) hx hb htl iX8 hown hK hP 0 rfl rfl 4 (by decide) (htl _ wd_115) (fun _ h9 => h9) rfl dX8_trailOf_9 ?_
  refine lv_aload_n hx hb dX8_trailOf_12 rfl (lv_at hl 0 rfl) ?_
  refine va_get (D := (dC, dI)) (ci := 8) (v := .ref (q 4)) (C := RX8) (T := TX8) (N := 11) hx hb htl iX8 hown hK hP 0 rfl rfl 2 (by decide) (htl _ wd_113) (fun _ h9 => h9) rfl dX8_trailOf_13 ?_
  refine va_get (D := (dC, dI)) (ci := 7) (v := .int (nI br)) (C := RX7) (T := TX7) (N := 9) hx hb htl iX7 hown hK hP 2 rfl rfl 5 (by decide) (htl _ wd_63) (fun _ h9 => h9) rfl dX8_trailOf_16 ?_
  refine va_put (D := (dC, dI)) (ci := 5) (v := .int (nI br)) (ty := .int) (C := RX5) (T := TX5) (N := 2) hx hb htl iX5 tyX5 tyX5_ok nmX5 hown hK hP hD hS 8 rfl rfl 1 (by decide) (htl _ wd_99) (fun _ h9 => h9) rfl (by decide +kernel) rfl rfl (Nat.le_of_ble_eq_true rfl) dX8_trailOf_19 (fun H locs hP hD hS => ?_)
  have hP : va_P (dC, dI) vwCl [(q 0, .inr (8, [.ref (q 1), .ref (q 3), .ref (q 4), .ref (q 9), .ref (q 14), .ref (q 15), .ref (q 16), .ref (q 17), .int (nI nc), .int sr, .int ik])), (q 3, .inl (ca 1, 4, .inr (.inr (.inr (.inr (fun zj => some (qn zj))))))), (q 4, .inr (7, [.ref (q 5), .ref (q 6), .ref (q 7), .ref (q 8), .long isl, .int (nI br), .int st, .int so, .int (nI se)])), (q 5, .inl (ca 2, 4, .inl (fun zj => nI (hm zj)))), (qn 0, .inr (kc (kd 0), [])), (qn 1, .inr (kc (kd 1), [])), (qn 2, .inr (kc (kd 2), [])), (qn 3, .inr (kc (kd 3), [])), (q 14, .inr (5, [.int (nI 0), .int (nI br)]))] H := hP
  have hD : va_D A [(q 0, .inr (8, [.ref (q 1), .ref (q 3), .ref (q 4), .ref (q 9), .ref (q 14), .ref (q 15), .ref (q 16), .ref (q 17), .int (nI nc), .int sr, .int ik])), (q 3, .inl (ca 1, 4, .inr (.inr (.inr (.inr (fun zj => some (qn zj))))))), (q 4, .inr (7, [.ref (q 5), .ref (q 6), .ref (q 7), .ref (q 8), .long isl, .int (nI br), .int st, .int so, .int (nI se)])), (q 5, .inl (ca 2, 4, .inl (fun zj => nI (hm zj)))), (qn 0, .inr (kc (kd 0), [])), (qn 1, .inr (kc (kd 1), [])), (qn 2, .inr (kc (kd 2), [])), (qn 3, .inr (kc (kd 3), [])), (q 14, .inr (5, [.int (nI 0), .int (nI br)]))] := hD
  refine lv_iconst (v := nI 0) hx hb dX8_trailOf_22 (by decide) ?_
  refine lv_istore_n (lv' := [(2, .int (nI 0)), (0, .ref (q 0)), (1, .int (nI i))]) hx hb dX8_trailOf_23 rfl hl (by decide) rfl (fun ls hl => ?_)
  have lp24 : ∀ (n : Nat) (made : Nat) (pP : Nat) (sS : Nat), (made + n = 40) → (pP < 36) → (trailN (xb isl) (kd i) (hm i) n pP sS = trailN (xb isl) (kd i) (hm i) 40 br 0) → ∀ (H : Heap) (locs : List Loc), va_P (dC, dI) vwCl [(q 0, .inr (8, [.ref (q 1), .ref (q 3), .ref (q 4), .ref (q 9), .ref (q 14), .ref (q 15), .ref (q 16), .ref (q 17), .int (nI nc), .int sr, .int ik])), (q 3, .inl (ca 1, 4, .inr (.inr (.inr (.inr (fun zj => some (qn zj))))))), (q 4, .inr (7, [.ref (q 5), .ref (q 6), .ref (q 7), .ref (q 8), .long isl, .int (nI br), .int st, .int so, .int (nI se)])), (q 5, .inl (ca 2, 4, .inl (fun zj => nI (hm zj)))), (qn 0, .inr (kc (kd 0), [])), (qn 1, .inr (kc (kd 1), [])), (qn 2, .inr (kc (kd 2), [])), (qn 3, .inr (kc (kd 3), [])), (q 14, .inr (5, [.int (nI sS), .int (nI pP)]))] H → va_D A [(q 0, .inr (8, [.ref (q 1), .ref (q 3), .ref (q 4), .ref (q 9), .ref (q 14), .ref (q 15), .ref (q 16), .ref (q 17), .int (nI nc), .int sr, .int ik])), (q 3, .inl (ca 1, 4, .inr (.inr (.inr (.inr (fun zj => some (qn zj))))))), (q 4, .inr (7, [.ref (q 5), .ref (q 6), .ref (q 7), .ref (q 8), .long isl, .int (nI br), .int st, .int so, .int (nI se)])), (q 5, .inl (ca 2, 4, .inl (fun zj => nI (hm zj)))), (qn 0, .inr (kc (kd 0), [])), (qn 1, .inr (kc (kd 1), [])), (qn 2, .inr (kc (kd 2), [])), (qn 3, .inr (kc (kd 3), [])), (q 14, .inr (5, [.int (nI sS), .int (nI pP)]))] → va_S A s.heap H locs → ∀ (ls : Array Slot), lv_has ls 4 [(2, .int (nI made)), (0, .ref (q 0)), (1, .int (nI i))] → W p l e (headSpec (Cond.code yX8_trailOf cX8_trailOf 4 (some (.object "HomeNeedles$Trail")) :: gT) (rk 4)).room s m ([Value.ref (q 0), Value.int (nI i)] : List Value).toArray below meth c H locs 0 0 (MQ below (va_Qr (fun (_ : Unit) => True) (fun u a t => a = q 14 ∧ EFb (dC, dI) (fun (_ : Unit) => [(q 0, .inr (8, [.ref (q 1), .ref (q 3), .ref (q 4), .ref (q 9), .ref (q 14), .ref (q 15), .ref (q 16), .ref (q 17), .int (nI nc), .int sr, .int ik])), (q 3, .inl (ca 1, 4, .inr (.inr (.inr (.inr (fun zj => some (qn zj))))))), (q 4, .inr (7, [.ref (q 5), .ref (q 6), .ref (q 7), .ref (q 8), .long isl, .int (nI br), .int st, .int so, .int (nI se)])), (q 5, .inl (ca 2, 4, .inl (fun zj => nI (hm zj)))), (qn 0, .inr (kc (kd 0), [])), (qn 1, .inr (kc (kd 1), [])), (qn 2, .inr (kc (kd 2), [])), (qn 3, .inr (kc (kd 3), [])), (q 14, .inr (5, [.int (nI ((trailN (xb isl) (kd i) (hm i) 40 br 0).2)), .int (nI ((trailN (xb isl) (kd i) (hm i) 40 br 0).1))]))]) (TY ca) A u t) A) ([Value.ref (q 0), Value.int (nI i)] : List Value).toArray s 0 0 A) (F0 m 24 ls []) := by
    clear hS hP hD
    clear hl
    intro n
    induction n with
    | zero =>
      intro made pP sS hmd hpP hR H locs hP hD hS ls hl
      refine lv_iload_n hx hb dX8_trailOf_24 rfl (lv_at hl 0 rfl) ?_
      refine lv_bipush (v := nI 40) hx hb dX8_trailOf_25 (by decide) ?_
      refine lv_icmp_ge (tgt := 98) hx hb dX8_trailOf_27 (by decide) (fun c_1 => ?_) (fun c_1 => ?_)
      · refine lv_aload_n hx hb dX8_trailOf_98 rfl (lv_at hl 1 rfl) ?_
        refine va_get (D := (dC, dI)) (ci := 8) (v := .ref (q 14)) (C := RX8) (T := TX8) (N := 11) hx hb htl iX8 hown hK hP 0 rfl rfl 4 (by decide) (htl _ wd_115) (fun _ h9 => h9) rfl dX8_trailOf_99 ?_
        have hP9 := hP.sub (ws' := [(q 0, .inr (8, [.ref (q 1), .ref (q 3), .ref (q 4), .ref (q 9), .ref (q 14), .ref (q 15), .ref (q 16), .ref (q 17), .int (nI nc), .int sr, .int ik])), (q 3, .inl (ca 1, 4, .inr (.inr (.inr (.inr (fun zj => some (qn zj))))))), (q 4, .inr (7, [.ref (q 5), .ref (q 6), .ref (q 7), .ref (q 8), .long isl, .int (nI br), .int st, .int so, .int (nI se)])), (q 5, .inl (ca 2, 4, .inl (fun zj => nI (hm zj)))), (qn 0, .inr (kc (kd 0), [])), (qn 1, .inr (kc (kd 1), [])), (qn 2, .inr (kc (kd 2), [])), (qn 3, .inr (kc (kd 3), [])), (q 14, .inr (5, [.int (nI sS), .int (nI pP)]))]) [0, 1, 2, 3, 4, 5, 6, 7, 8] rfl
        have hD9 := hD.sub (ws' := [(q 0, .inr (8, [.ref (q 1), .ref (q 3), .ref (q 4), .ref (q 9), .ref (q 14), .ref (q 15), .ref (q 16), .ref (q 17), .int (nI nc), .int sr, .int ik])), (q 3, .inl (ca 1, 4, .inr (.inr (.inr (.inr (fun zj => some (qn zj))))))), (q 4, .inr (7, [.ref (q 5), .ref (q 6), .ref (q 7), .ref (q 8), .long isl, .int (nI br), .int st, .int so, .int (nI se)])), (q 5, .inl (ca 2, 4, .inl (fun zj => nI (hm zj)))), (qn 0, .inr (kc (kd 0), [])), (qn 1, .inr (kc (kd 1), [])), (qn 2, .inr (kc (kd 2), [])), (qn 3, .inr (kc (kd 3), [])), (q 14, .inr (5, [.int (nI sS), .int (nI pP)]))]) [0, 1, 2, 3, 4, 5, 6, 7, 8] (by decide) rfl
        exact W.aret (v := .ref (q 14)) hx hb hr (Or.inl ⟨_, rfl⟩) (Or.inr ⟨_, rfl⟩) (fun t ht hW => ⟨⟨(), q 14, rfl, trivial, rfl, by rw [ht]; rw [← hR]; exact hP9, va_K.moved hW.alike hK, (by rw [← hR]; exact hD9)⟩, hS.F ht⟩) hS.2.2 dX8_trailOf_102
      · exact absurd (nI_le (by omega) (by omega)) c_1
    | succ n ih24 =>
      intro made pP sS hmd hpP hR H locs hP hD hS ls hl
      refine lv_iload_n hx hb dX8_trailOf_24 rfl (lv_at hl 0 rfl) ?_
      refine lv_bipush (v := nI 40) hx hb dX8_trailOf_25 (by decide) ?_
      refine lv_icmp_ge (tgt := 98) hx hb dX8_trailOf_27 (by decide) (fun c_2 => ?_) (fun c_2 => ?_)
      · exact absurd c_2 (nI_ge (by omega) (by omega))
      · refine lv_aload_n hx hb dX8_trailOf_30 rfl (lv_at hl 1 rfl) ?_
        refine va_get (D := (dC, dI)) (ci := 8) (v := .ref (q 4)) (C := RX8) (T := TX8) (N := 11) hx hb htl iX8 hown hK hP 0 rfl rfl 2 (by decide) (htl _ wd_113) (fun _ h9 => h9) rfl dX8_trailOf_31 ?_
        refine lv_aload_n hx hb dX8_trailOf_34 rfl (lv_at hl 1 rfl) ?_
        refine va_get (D := (dC, dI)) (ci := 8) (v := .ref (q 14)) (C := RX8) (T := TX8) (N := 11) hx hb htl iX8 hown hK hP 0 rfl rfl 4 (by decide) (htl _ wd_115) (fun _ h9 => h9) rfl dX8_trailOf_35 ?_
        refine va_get (D := (dC, dI)) (ci := 5) (v := .int (nI pP)) (C := RX5) (T := TX5) (N := 2) hx hb htl iX5 hown hK hP 8 rfl rfl 1 (by decide) (htl _ wd_99) (fun _ h9 => h9) rfl dX8_trailOf_38 ?_
        refine lv_aload_n hx hb dX8_trailOf_41 rfl (lv_at hl 1 rfl) ?_
        refine lv_iload_n hx hb dX8_trailOf_42 rfl (lv_at hl 2 rfl) ?_
        refine lv_aload_n hx hb dX8_trailOf_43 rfl (lv_at hl 1 rfl) ?_
        refine va_get (D := (dC, dI)) (ci := 8) (v := .ref (q 14)) (C := RX8) (T := TX8) (N := 11) hx hb htl iX8 hown hK hP 0 rfl rfl 4 (by decide) (htl _ wd_115) (fun _ h9 => h9) rfl dX8_trailOf_44 ?_
        refine va_get (D := (dC, dI)) (ci := 5) (v := .int (nI pP)) (C := RX5) (T := TX5) (N := 2) hx hb htl iX5 hown hK hP 8 rfl rfl 1 (by decide) (htl _ wd_99) (fun _ h9 => h9) rfl dX8_trailOf_47 ?_
        refine roV (As := [Value.int (nI i), Value.int (nI pP)]) (rest := [.int (nI pP), .ref (q 4)]) (kX8_pointing l dC dI ca i pP q qn kd nc sr ik isl br st so se hm hi hpP hkd hhm) ⟨hx, hb, hml, hown, htl⟩ (cVg (C := RX8) 2 htl wd_353 wd_355 wp_3 wd_1 wd_356 rfl rfl (by decide +kernel) ⟨Nat.le_of_ble_eq_true rfl, Nat.le_of_ble_eq_true rfl⟩) (va_P.app (hP.sub [0, 1, 2, 3] rfl) (nd4 hP i (by omega) 4 5 6 7 rfl rfl rfl rfl)) hK (va_recv hK hP (ci := 8) (q0 := 0) rfl rfl) rfl hl.1 rfl (Nat.le_of_ble_eq_true rfl) dX8_trailOf_50 ⟨Nat.zero_le _, Nat.zero_le _⟩ (fun r hr9 => ?_)
        subst hr9
        refine roV (As := [Value.int (nI pP), Value.int (nI (pointN (kd i) (hm i) pP))]) (rest := []) (kX7_placeBehind l dC dI ca pP (pointN (kd i) (hm i) pP) q isl br st so se hpP (pointN_lt _ _ _)) ⟨hx, hb, hml, hown, htl⟩ (cVg (C := RX7) 2 htl wd_384 wd_385 wd_386 wd_3 wd_387 rfl rfl (by decide +kernel) ⟨Nat.le_of_ble_eq_true rfl, Nat.le_of_ble_eq_true rfl⟩) (hP.sub [2] rfl) hK (va_recv hK hP (ci := 7) (q0 := 2) rfl rfl) rfl hl.1 rfl (Nat.le_of_ble_eq_true rfl) dX8_trailOf_53 ⟨Nat.zero_le _, Nat.zero_le _⟩ (fun r hr9 => ?_)
        subst hr9
        refine lv_istore_n (lv' := [(3, .int (nI (stepN (xb isl) pP (pointN (kd i) (hm i) pP)))), (2, .int (nI made)), (0, .ref (q 0)), (1, .int (nI i))]) hx hb dX8_trailOf_56 rfl hl (by decide) rfl (fun ls hl => ?_)
        refine lv_iload_n hx hb dX8_trailOf_57 rfl (lv_at hl 0 rfl) ?_
        refine lv_aload_n hx hb dX8_trailOf_58 rfl (lv_at hl 2 rfl) ?_
        refine va_get (D := (dC, dI)) (ci := 8) (v := .ref (q 14)) (C := RX8) (T := TX8) (N := 11) hx hb htl iX8 hown hK hP 0 rfl rfl 4 (by decide) (htl _ wd_115) (fun _ h9 => h9) rfl dX8_trailOf_59 ?_
        refine va_get (D := (dC, dI)) (ci := 5) (v := .int (nI pP)) (C := RX5) (T := TX5) (N := 2) hx hb htl iX5 hown hK hP 8 rfl rfl 1 (by decide) (htl _ wd_99) (fun _ h9 => h9) rfl dX8_trailOf_62 ?_
        refine lv_icmp_ne (tgt := 71) hx hb dX8_trailOf_65 (by decide) (fun c_3 => ?_) (fun c_3 => ?_)
        · rw [nI_eq (Nat.lt_trans (stepN_lt hpP) (by decide)) (by omega)] at c_3
          refine lv_aload_n hx hb dX8_trailOf_71 rfl (lv_at hl 2 rfl) ?_
          refine va_get (D := (dC, dI)) (ci := 8) (v := .ref (q 14)) (C := RX8) (T := TX8) (N := 11) hx hb htl iX8 hown hK hP 0 rfl rfl 4 (by decide) (htl _ wd_115) (fun _ h9 => h9) rfl dX8_trailOf_72 ?_
          refine lv_iload_n hx hb dX8_trailOf_75 rfl (lv_at hl 0 rfl) ?_
          refine va_put (D := (dC, dI)) (ci := 5) (v := .int (nI (stepN (xb isl) pP (pointN (kd i) (hm i) pP)))) (ty := .int) (C := RX5) (T := TX5) (N := 2) hx hb htl iX5 tyX5 tyX5_ok nmX5 hown hK hP hD hS 8 rfl rfl 1 (by decide) (htl _ wd_99) (fun _ h9 => h9) rfl (by decide +kernel) rfl rfl (Nat.le_of_ble_eq_true rfl) dX8_trailOf_76 (fun H locs hP hD hS => ?_)
          have hP : va_P (dC, dI) vwCl [(q 0, .inr (8, [.ref (q 1), .ref (q 3), .ref (q 4), .ref (q 9), .ref (q 14), .ref (q 15), .ref (q 16), .ref (q 17), .int (nI nc), .int sr, .int ik])), (q 3, .inl (ca 1, 4, .inr (.inr (.inr (.inr (fun zj => some (qn zj))))))), (q 4, .inr (7, [.ref (q 5), .ref (q 6), .ref (q 7), .ref (q 8), .long isl, .int (nI br), .int st, .int so, .int (nI se)])), (q 5, .inl (ca 2, 4, .inl (fun zj => nI (hm zj)))), (qn 0, .inr (kc (kd 0), [])), (qn 1, .inr (kc (kd 1), [])), (qn 2, .inr (kc (kd 2), [])), (qn 3, .inr (kc (kd 3), [])), (q 14, .inr (5, [.int (nI sS), .int (nI (stepN (xb isl) pP (pointN (kd i) (hm i) pP)))]))] H := hP
          have hD : va_D A [(q 0, .inr (8, [.ref (q 1), .ref (q 3), .ref (q 4), .ref (q 9), .ref (q 14), .ref (q 15), .ref (q 16), .ref (q 17), .int (nI nc), .int sr, .int ik])), (q 3, .inl (ca 1, 4, .inr (.inr (.inr (.inr (fun zj => some (qn zj))))))), (q 4, .inr (7, [.ref (q 5), .ref (q 6), .ref (q 7), .ref (q 8), .long isl, .int (nI br), .int st, .int so, .int (nI se)])), (q 5, .inl (ca 2, 4, .inl (fun zj => nI (hm zj)))), (qn 0, .inr (kc (kd 0), [])), (qn 1, .inr (kc (kd 1), [])), (qn 2, .inr (kc (kd 2), [])), (qn 3, .inr (kc (kd 3), [])), (q 14, .inr (5, [.int (nI sS), .int (nI (stepN (xb isl) pP (pointN (kd i) (hm i) pP)))]))] := hD
          refine lv_aload_n hx hb dX8_trailOf_79 rfl (lv_at hl 2 rfl) ?_
          refine va_get (D := (dC, dI)) (ci := 8) (v := .ref (q 14)) (C := RX8) (T := TX8) (N := 11) hx hb htl iX8 hown hK hP 0 rfl rfl 4 (by decide) (htl _ wd_115) (fun _ h9 => h9) rfl dX8_trailOf_80 ?_
          refine lv_dup hx hb dX8_trailOf_83 rfl ?_
          refine va_get (D := (dC, dI)) (ci := 5) (v := .int (nI sS)) (C := RX5) (T := TX5) (N := 2) hx hb htl iX5 hown hK hP 8 rfl rfl 0 (by decide) (htl _ wd_97) (fun _ h9 => h9) rfl dX8_trailOf_84 ?_
          refine lv_iconst (v := nI 1) hx hb dX8_trailOf_87 (by decide) ?_
          refine lv_iadd hx hb dX8_trailOf_88 ?_
          refine lv_ri (y := nI (sS + 1)) (nI_add sS 1) ?_
          refine va_put (D := (dC, dI)) (ci := 5) (v := .int (nI (sS + 1))) (ty := .int) (C := RX5) (T := TX5) (N := 2) hx hb htl iX5 tyX5 tyX5_ok nmX5 hown hK hP hD hS 8 rfl rfl 0 (by decide) (htl _ wd_97) (fun _ h9 => h9) rfl (by decide +kernel) rfl rfl (Nat.le_of_ble_eq_true rfl) dX8_trailOf_89 (fun H locs hP hD hS => ?_)
          have hP : va_P (dC, dI) vwCl [(q 0, .inr (8, [.ref (q 1), .ref (q 3), .ref (q 4), .ref (q 9), .ref (q 14), .ref (q 15), .ref (q 16), .ref (q 17), .int (nI nc), .int sr, .int ik])), (q 3, .inl (ca 1, 4, .inr (.inr (.inr (.inr (fun zj => some (qn zj))))))), (q 4, .inr (7, [.ref (q 5), .ref (q 6), .ref (q 7), .ref (q 8), .long isl, .int (nI br), .int st, .int so, .int (nI se)])), (q 5, .inl (ca 2, 4, .inl (fun zj => nI (hm zj)))), (qn 0, .inr (kc (kd 0), [])), (qn 1, .inr (kc (kd 1), [])), (qn 2, .inr (kc (kd 2), [])), (qn 3, .inr (kc (kd 3), [])), (q 14, .inr (5, [.int (nI (sS + 1)), .int (nI (stepN (xb isl) pP (pointN (kd i) (hm i) pP)))]))] H := hP
          have hD : va_D A [(q 0, .inr (8, [.ref (q 1), .ref (q 3), .ref (q 4), .ref (q 9), .ref (q 14), .ref (q 15), .ref (q 16), .ref (q 17), .int (nI nc), .int sr, .int ik])), (q 3, .inl (ca 1, 4, .inr (.inr (.inr (.inr (fun zj => some (qn zj))))))), (q 4, .inr (7, [.ref (q 5), .ref (q 6), .ref (q 7), .ref (q 8), .long isl, .int (nI br), .int st, .int so, .int (nI se)])), (q 5, .inl (ca 2, 4, .inl (fun zj => nI (hm zj)))), (qn 0, .inr (kc (kd 0), [])), (qn 1, .inr (kc (kd 1), [])), (qn 2, .inr (kc (kd 2), [])), (qn 3, .inr (kc (kd 3), [])), (q 14, .inr (5, [.int (nI (sS + 1)), .int (nI (stepN (xb isl) pP (pointN (kd i) (hm i) pP)))]))] := hD
          refine lv_iinc (v := nI (made + 1)) (lv' := [(2, .int (nI (made + 1))), (3, .int (nI (stepN (xb isl) pP (pointN (kd i) (hm i) pP)))), (0, .ref (q 0)), (1, .int (nI i))]) hx hb dX8_trailOf_92 hl (k := 1) rfl (nI_add made 1) (by decide) rfl (fun ls hl => ?_)
          refine lv_goto (tgt := 24) hx hb dX8_trailOf_95 (by decide) ?_
          exact ih24 (made + 1) (stepN (xb isl) pP (pointN (kd i) (hm i) pP)) (sS + 1) (by omega) (stepN_lt hpP) (by rw [← hR]; simp only [trailN, c_3, ↓reduceIte]) _ _ (hP.sub [0, 1, 2, 3, 4, 5, 6, 7, 8] rfl) (hD.sub [0, 1, 2, 3, 4, 5, 6, 7, 8] (by decide) rfl) hS ls (lv_sub hl [0, 2, 3] rfl)
        · rw [nI_eq (Nat.lt_trans (stepN_lt hpP) (by decide)) (by omega)] at c_3
          refine lv_goto (tgt := 98) hx hb dX8_trailOf_68 (by decide) ?_
          refine lv_aload_n hx hb dX8_trailOf_98 rfl (lv_at hl 2 rfl) ?_
          refine va_get (D := (dC, dI)) (ci := 8) (v := .ref (q 14)) (C := RX8) (T := TX8) (N := 11) hx hb htl iX8 hown hK hP 0 rfl rfl 4 (by decide) (htl _ wd_115) (fun _ h9 => h9) rfl dX8_trailOf_99 ?_
          have hP9 := hP.sub (ws' := [(q 0, .inr (8, [.ref (q 1), .ref (q 3), .ref (q 4), .ref (q 9), .ref (q 14), .ref (q 15), .ref (q 16), .ref (q 17), .int (nI nc), .int sr, .int ik])), (q 3, .inl (ca 1, 4, .inr (.inr (.inr (.inr (fun zj => some (qn zj))))))), (q 4, .inr (7, [.ref (q 5), .ref (q 6), .ref (q 7), .ref (q 8), .long isl, .int (nI br), .int st, .int so, .int (nI se)])), (q 5, .inl (ca 2, 4, .inl (fun zj => nI (hm zj)))), (qn 0, .inr (kc (kd 0), [])), (qn 1, .inr (kc (kd 1), [])), (qn 2, .inr (kc (kd 2), [])), (qn 3, .inr (kc (kd 3), [])), (q 14, .inr (5, [.int (nI sS), .int (nI pP)]))]) [0, 1, 2, 3, 4, 5, 6, 7, 8] rfl
          have hD9 := hD.sub (ws' := [(q 0, .inr (8, [.ref (q 1), .ref (q 3), .ref (q 4), .ref (q 9), .ref (q 14), .ref (q 15), .ref (q 16), .ref (q 17), .int (nI nc), .int sr, .int ik])), (q 3, .inl (ca 1, 4, .inr (.inr (.inr (.inr (fun zj => some (qn zj))))))), (q 4, .inr (7, [.ref (q 5), .ref (q 6), .ref (q 7), .ref (q 8), .long isl, .int (nI br), .int st, .int so, .int (nI se)])), (q 5, .inl (ca 2, 4, .inl (fun zj => nI (hm zj)))), (qn 0, .inr (kc (kd 0), [])), (qn 1, .inr (kc (kd 1), [])), (qn 2, .inr (kc (kd 2), [])), (qn 3, .inr (kc (kd 3), [])), (q 14, .inr (5, [.int (nI sS), .int (nI pP)]))]) [0, 1, 2, 3, 4, 5, 6, 7, 8] (by decide) rfl
          have hR9 : (pP, sS) = trailN (xb isl) (kd i) (hm i) 40 br 0 := by rw [← hR]; simp only [trailN, c_3, ↓reduceIte]
          exact W.aret (v := .ref (q 14)) hx hb hr (Or.inl ⟨_, rfl⟩) (Or.inr ⟨_, rfl⟩) (fun t ht hW => ⟨⟨(), q 14, rfl, trivial, rfl, by rw [ht]; rw [← hR9]; exact hP9, va_K.moved hW.alike hK, (by rw [← hR9]; exact hD9)⟩, hS.F ht⟩) hS.2.2 dX8_trailOf_102
  exact lp24 40 0 br 0 (by omega) hbr rfl _ _ hP hD hS ls (lv_sub hl [0, 1, 2] rfl)
theorem trailN_lt {ib : Nat → Bool} {k ho : Nat} : ∀ (n pl st : Nat), pl < 36 → (trailN ib k ho n pl st).1 < 36
  | 0, _, _, h => h
  | n + 1, pl, st, h => by
    unfold trailN
    split
    · exact h
    · exact trailN_lt n _ _ (stepN_lt h)
set_option maxHeartbeats 4000000 in
set_option maxRecDepth 100000 in
theorem kX8_homingBits (l : Launch) (dC : Nat → ClassId) (dI : Nat → Nat → Nat) (ca : Nat → ClassId) (sz : Nat) (q : Nat → Nat) (qn : Nat → Nat) (kd : Nat → Nat) (nc : Nat) (sr : Int32) (ik : Int32) (isl : Int64) (br : Nat) (st : Int32) (so : Int32) (se : Nat) (hm : Nat → Nat) (ts : Int32) (tp : Int32) (hnc : nc ≤ 4) (hbr : br < 36) (hkd : ∀ j, j < 4 → kd j < 5) (hhm : ∀ j, j < 4 → hm j < 36) : Met l yX8_homingBits (Cond.code yX8_homingBits cX8_homingBits 3 (some .int) :: gT) (rk 5) (EFp (dC, dI) [(q 0, .inr (8, [.ref (q 1), .ref (q 3), .ref (q 4), .ref (q 9), .ref (q 14), .ref (q 15), .ref (q 16), .ref (q 17), .int (nI nc), .int sr, .int ik])), (q 3, .inl (ca 1, 4, .inr (.inr (.inr (.inr (fun zj => some (qn zj))))))), (q 4, .inr (7, [.ref (q 5), .ref (q 6), .ref (q 7), .ref (q 8), .long isl, .int (nI br), .int st, .int so, .int (nI se)])), (q 5, .inl (ca 2, 4, .inl (fun zj => nI (hm zj)))), (qn 0, .inr (kc (kd 0), [])), (qn 1, .inr (kc (kd 1), [])), (qn 2, .inr (kc (kd 2), [])), (qn 3, .inr (kc (kd 3), [])), (q 14, .inr (5, [.int ts, .int tp]))] (TY ca) sz [Value.ref (q 0)]) (va_Qi (fun (r : Int32) (u : Int32 × Int32) => match u with | (ts2, tp2) => r = homL (fun i => decide ((trailN (xb isl) (kd i) (hm i) 40 br 0).1 = hm i)) nc 0 (nI 0)) (EFb (dC, dI) (fun (u : Int32 × Int32) => match u with | (ts2, tp2) => [(q 0, .inr (8, [.ref (q 1), .ref (q 3), .ref (q 4), .ref (q 9), .ref (q 14), .ref (q 15), .ref (q 16), .ref (q 17), .int (nI nc), .int sr, .int ik])), (q 3, .inl (ca 1, 4, .inr (.inr (.inr (.inr (fun zj => some (qn zj))))))), (q 4, .inr (7, [.ref (q 5), .ref (q 6), .ref (q 7), .ref (q 8), .long isl, .int (nI br), .int st, .int so, .int (nI se)])), (q 5, .inl (ca 2, 4, .inl (fun zj => nI (hm zj)))), (qn 0, .inr (kc (kd 0), [])), (qn 1, .inr (kc (kd 1), [])), (qn 2, .inr (kc (kd 2), [])), (qn 3, .inr (kc (kd 3), [])), (q 14, .inr (5, [.int ts2, .int tp2]))]) (TY ca) (va_A [(q 0, .inr (8, [.ref (q 1), .ref (q 3), .ref (q 4), .ref (q 9), .ref (q 14), .ref (q 15), .ref (q 16), .ref (q 17), .int (nI nc), .int sr, .int ik])), (q 3, .inl (ca 1, 4, .inr (.inr (.inr (.inr (fun zj => some (qn zj))))))), (q 4, .inr (7, [.ref (q 5), .ref (q 6), .ref (q 7), .ref (q 8), .long isl, .int (nI br), .int st, .int so, .int (nI se)])), (q 5, .inl (ca 2, 4, .inl (fun zj => nI (hm zj)))), (qn 0, .inr (kc (kd 0), [])), (qn 1, .inr (kc (kd 1), [])), (qn 2, .inr (kc (kd 2), [])), (qn 3, .inr (kc (kd 3), [])), (q 14, .inr (5, [.int ts, .int tp]))] sz)) (va_A [(q 0, .inr (8, [.ref (q 1), .ref (q 3), .ref (q 4), .ref (q 9), .ref (q 14), .ref (q 15), .ref (q 16), .ref (q 17), .int (nI nc), .int sr, .int ik])), (q 3, .inl (ca 1, 4, .inr (.inr (.inr (.inr (fun zj => some (qn zj))))))), (q 4, .inr (7, [.ref (q 5), .ref (q 6), .ref (q 7), .ref (q 8), .long isl, .int (nI br), .int st, .int so, .int (nI se)])), (q 5, .inl (ca 2, 4, .inl (fun zj => nI (hm zj)))), (qn 0, .inr (kc (kd 0), [])), (qn 1, .inr (kc (kd 1), [])), (qn 2, .inr (kc (kd 2), [])), (qn 3, .inr (kc (kd 3), [])), (q 14, .inr (5, [.int ts, .int tp]))] sz)) 0 0 (va_A [(q 0, .inr (8, [.ref (q 1), .ref (q 3), .ref (q 4), .ref (q 9), .ref (q 14), .ref (q 15), .ref (q 16), .ref (q 17), .int (nI nc), .int sr, .int ik])), (q 3, .inl (ca 1, 4, .inr (.inr (.inr (.inr (fun zj => some (qn zj))))))), (q 4, .inr (7, [.ref (q 5), .ref (q 6), .ref (q 7), .ref (q 8), .long isl, .int (nI br), .int st, .int so, .int (nI se)])), (q 5, .inl (ca 2, 4, .inl (fun zj => nI (hm zj)))), (qn 0, .inr (kc (kd 0), [])), (qn 1, .inr (kc (kd 1), [])), (qn 2, .inr (kc (kd 2), [])), (qn 3, .inr (kc (kd 3), [])), (q 14, .inr (5, [.int ts, .int tp]))] sz) := by
  refine Met.ofW (cc := cX8_homingBits) (maxL := 3) (ret := (some .int)) (by decide) rfl ?_
  intro p e s m args below meth c s₁ B hml hv
  obtain ⟨rfl, hsz, hP, hK, hD0⟩ := hv
  have hx := B.exec
  have hb := B.bytes
  have hr := B.returns
  have hts := atoms_spec (ws := (Cond.code yX8_homingBits cX8_homingBits 3 (some .int) :: gT)) B.pre
  have htl : ∀ w ∈ gT, w.before _ s = true := fun w h => hts w (List.mem_cons_of_mem _ h)
  have hown : s.vm.findClass RX8 = some m.cls := findClass_of_methodNamed B.named
  have hlocks := B.notSynchronized
  subst hsz
  have hD := hD0.self (sz := s.heap.size)
  generalize hAe : va_A [(q 0, .inr (8, [.ref (q 1), .ref (q 3), .ref (q 4), .ref (q 9), .ref (q 14), .ref (q 15), .ref (q 16), .ref (q 17), .int (nI nc), .int sr, .int ik])), (q 3, .inl (ca 1, 4, .inr (.inr (.inr (.inr (fun zj => some (qn zj))))))), (q 4, .inr (7, [.ref (q 5), .ref (q 6), .ref (q 7), .ref (q 8), .long isl, .int (nI br), .int st, .int so, .int (nI se)])), (q 5, .inl (ca 2, 4, .inl (fun zj => nI (hm zj)))), (qn 0, .inr (kc (kd 0), [])), (qn 1, .inr (kc (kd 1), [])), (qn 2, .inr (kc (kd 2), [])), (qn 3, .inr (kc (kd 3), [])), (q 14, .inr (5, [.int ts, .int tp]))] s.heap.size = A at hD ⊢
  have hA : ∀ q : Nat, s.heap.size ≤ q → A q := fun q h => by rw [← hAe]; exact Or.inr h
  have hS : va_S A s.heap s.heap [] := va_S.rf
  have hl := lv_entry ([Value.ref (q 0)]) (n := 3) (Nat.le_of_ble_eq_true rfl)
  rw [lg_entry_eq]
  generalize (lg_sl ([Value.ref (q 0)]) ++ List.replicate (3 - (lg_sl ([Value.ref (q 0)])).length) Slot.unset).toArray = ls at hl ⊢
  have hl : lv_has ls 3 [(0, .ref (q 0))] := hl
  refine lv_iconst (v := nI 0) hx hb dX8_homingBits_0 (by decide) ?_
  refine lv_istore_n (lv' := [(1, .int (nI 0)), (0, .ref (q 0))]) hx hb dX8_homingBits_1 rfl hl (by decide) rfl (fun ls hl => ?_)
  refine lv_iconst (v := nI 0) hx hb dX8_homingBits_2 (by decide) ?_
  refine lv_istore_n (lv' := [(2, .int (nI 0)), (1, .int (nI 0)), (0, .ref (q 0))]) hx hb dX8_homingBits_3 rfl hl (by decide) rfl (fun ls hl => ?_)
  have lp4 : ∀ (n : Nat) (i : Nat) (b : Int32) (ts1 : Int32) (tp1 : Int32), (i + n = nc) → (homL (fun i => decide ((trailN (xb isl) (kd i) (hm i) 40 br 0).1 = hm i)) n i b = homL (fun i => decide ((trailN (xb isl) (kd i) (hm i) 40 br 0).1 = hm i)) nc 0 (nI 0)) → ∀ (H : Heap) (locs : List Loc), va_P (dC, dI) vwCl [(q 0, .inr (8, [.ref (q 1), .ref (q 3), .ref (q 4), .ref (q 9), .ref (q 14), .ref (q 15), .ref (q 16), .ref (q 17), .int (nI nc), .int sr, .int ik])), (q 3, .inl (ca 1, 4, .inr (.inr (.inr (.inr (fun zj => some (qn zj))))))), (q 4, .inr (7, [.ref (q 5), .ref (q 6), .ref (q 7), .ref (q 8), .long isl, .int (nI br), .int st, .int so, .int (nI se)])), (q 5, .inl (ca 2, 4, .inl (fun zj => nI (hm zj)))), (qn 0, .inr (kc (kd 0), [])), (qn 1, .inr (kc (kd 1), [])), (qn 2, .inr (kc (kd 2), [])), (qn 3, .inr (kc (kd 3), [])), (q 14, .inr (5, [.int ts1, .int tp1]))] H → va_D A [(q 0, .inr (8, [.ref (q 1), .ref (q 3), .ref (q 4), .ref (q 9), .ref (q 14), .ref (q 15), .ref (q 16), .ref (q 17), .int (nI nc), .int sr, .int ik])), (q 3, .inl (ca 1, 4, .inr (.inr (.inr (.inr (fun zj => some (qn zj))))))), (q 4, .inr (7, [.ref (q 5), .ref (q 6), .ref (q 7), .ref (q 8), .long isl, .int (nI br), .int st, .int so, .int (nI se)])), (q 5, .inl (ca 2, 4, .inl (fun zj => nI (hm zj)))), (qn 0, .inr (kc (kd 0), [])), (qn 1, .inr (kc (kd 1), [])), (qn 2, .inr (kc (kd 2), [])), (qn 3, .inr (kc (kd 3), [])), (q 14, .inr (5, [.int ts1, .int tp1]))] → va_S A s.heap H locs → ∀ (ls : Array Slot), lv_has ls 3 [(2, .int (nI i)), (1, .int b), (0, .ref (q 0))] → W p l e (headSpec (Cond.code yX8_homingBits cX8_homingBits 3 (some .int) :: gT) (rk 5)).room s m ([Value.ref (q 0)] : List Value).toArray below meth c H locs 0 0 (MQ below (va_Qi (fun (r : Int32) (u : Int32 × Int32) => match u with | (ts2, tp2) => r = homL (fun i => decide ((trailN (xb isl) (kd i) (hm i) 40 br 0).1 = hm i)) nc 0 (nI 0)) (EFb (dC, dI) (fun (u : Int32 × Int32) => match u with | (ts2, tp2) => [(q 0, .inr (8, [.ref (q 1), .ref (q 3), .ref (q 4), .ref (q 9), .ref (q 14), .ref (q 15), .ref (q 16), .ref (q 17), .int (nI nc), .int sr, .int ik])), (q 3, .inl (ca 1, 4, .inr (.inr (.inr (.inr (fun zj => some (qn zj))))))), (q 4, .inr (7, [.ref (q 5), .ref (q 6), .ref (q 7), .ref (q 8), .long isl, .int (nI br), .int st, .int so, .int (nI se)])), (q 5, .inl (ca 2, 4, .inl (fun zj => nI (hm zj)))), (qn 0, .inr (kc (kd 0), [])), (qn 1, .inr (kc (kd 1), [])), (qn 2, .inr (kc (kd 2), [])), (qn 3, .inr (kc (kd 3), [])), (q 14, .inr (5, [.int ts2, .int tp2]))]) (TY ca) A) A) ([Value.ref (q 0)] : List Value).toArray s 0 0 A) (F0 m 4 ls []) := by
    clear hS hP hD
    clear hl
    intro n
    induction n with
    | zero =>
      intro i b ts1 tp1 hi hR H locs hP hD hS ls hl
      refine lv_iload_n hx hb dX8_homingBits_4 rfl (lv_at hl 0 rfl) ?_
      refine lv_aload_n hx hb dX8_homingBits_5 rfl (lv_at hl 2 rfl) ?_
      refine va_get (D := (dC, dI)) (ci := 8) (v := .int (nI nc)) (C := RX8) (T := TX8) (N := 11) hx hb htl iX8 hown hK hP 0 rfl rfl 8 (by decide) (htl _ wd_119) (fun _ h9 => h9) rfl dX8_homingBits_6 ?_
      refine lv_icmp_ge (tgt := 44) hx hb dX8_homingBits_9 (by decide) (fun c_1 => ?_) (fun c_1 => ?_)
      · refine lv_iload_n hx hb dX8_homingBits_44 rfl (lv_at hl 1 rfl) ?_
        have hP9 := hP.sub (ws' := [(q 0, .inr (8, [.ref (q 1), .ref (q 3), .ref (q 4), .ref (q 9), .ref (q 14), .ref (q 15), .ref (q 16), .ref (q 17), .int (nI nc), .int sr, .int ik])), (q 3, .inl (ca 1, 4, .inr (.inr (.inr (.inr (fun zj => some (qn zj))))))), (q 4, .inr (7, [.ref (q 5), .ref (q 6), .ref (q 7), .ref (q 8), .long isl, .int (nI br), .int st, .int so, .int (nI se)])), (q 5, .inl (ca 2, 4, .inl (fun zj => nI (hm zj)))), (qn 0, .inr (kc (kd 0), [])), (qn 1, .inr (kc (kd 1), [])), (qn 2, .inr (kc (kd 2), [])), (qn 3, .inr (kc (kd 3), [])), (q 14, .inr (5, [.int ts1, .int tp1]))]) [0, 1, 2, 3, 4, 5, 6, 7, 8] rfl
        have hD9 := hD.sub (ws' := [(q 0, .inr (8, [.ref (q 1), .ref (q 3), .ref (q 4), .ref (q 9), .ref (q 14), .ref (q 15), .ref (q 16), .ref (q 17), .int (nI nc), .int sr, .int ik])), (q 3, .inl (ca 1, 4, .inr (.inr (.inr (.inr (fun zj => some (qn zj))))))), (q 4, .inr (7, [.ref (q 5), .ref (q 6), .ref (q 7), .ref (q 8), .long isl, .int (nI br), .int st, .int so, .int (nI se)])), (q 5, .inl (ca 2, 4, .inl (fun zj => nI (hm zj)))), (qn 0, .inr (kc (kd 0), [])), (qn 1, .inr (kc (kd 1), [])), (qn 2, .inr (kc (kd 2), [])), (qn 3, .inr (kc (kd 3), [])), (q 14, .inr (5, [.int ts1, .int tp1]))]) [0, 1, 2, 3, 4, 5, 6, 7, 8] (by decide) rfl
        exact W.iret (v := b) hx hb hr (fun t ht hW => ⟨⟨b, (ts1, tp1), rfl, hR, by rw [ht]; exact hP9, va_K.moved hW.alike hK, hD9⟩, hS.F ht⟩) hS.2.2 dX8_homingBits_45
      · exact absurd (nI_le (by omega) (by omega)) c_1
    | succ n ih4 =>
      intro i b ts1 tp1 hi hR H locs hP hD hS ls hl
      refine lv_iload_n hx hb dX8_homingBits_4 rfl (lv_at hl 0 rfl) ?_
      refine lv_aload_n hx hb dX8_homingBits_5 rfl (lv_at hl 2 rfl) ?_
      refine va_get (D := (dC, dI)) (ci := 8) (v := .int (nI nc)) (C := RX8) (T := TX8) (N := 11) hx hb htl iX8 hown hK hP 0 rfl rfl 8 (by decide) (htl _ wd_119) (fun _ h9 => h9) rfl dX8_homingBits_6 ?_
      refine lv_icmp_ge (tgt := 44) hx hb dX8_homingBits_9 (by decide) (fun c_2 => ?_) (fun c_2 => ?_)
      · exact absurd c_2 (nI_ge (by omega) (by omega))
      · refine lv_aload_n hx hb dX8_homingBits_12 rfl (lv_at hl 2 rfl) ?_
        refine lv_iload_n hx hb dX8_homingBits_13 rfl (lv_at hl 0 rfl) ?_
        refine efVr (As := [Value.int (nI i)]) (rest := []) (wr := []) (kX8_trailOf l dC dI ca _ i q qn kd nc sr ik isl br st so se hm ts1 tp1 (by omega) hbr hkd hhm) ⟨hx, hb, hml, hown, htl⟩ (cVg (C := RX8) 1 htl wd_380 wd_382 wp_4 wd_1 wd_383 rfl rfl (by decide +kernel) ⟨Nat.le_of_ble_eq_true rfl, Nat.le_of_ble_eq_true rfl⟩) hP hD hS hA hK [0, 1, 2, 3, 4, 5, 6, 7, 8] [] rfl rfl (by decide) (by decide) (by decide) (va_recv hK hP (ci := 8) (q0 := 0) rfl rfl) rfl hl.1 rfl (Nat.le_of_ble_eq_true rfl) dX8_homingBits_14 ⟨Nat.zero_le _, Nat.zero_le _⟩ (fun u H locs hw_14 hP hD hS => ?_)
        have hP : va_P (dC, dI) vwCl [(q 0, .inr (8, [.ref (q 1), .ref (q 3), .ref (q 4), .ref (q 9), .ref (q 14), .ref (q 15), .ref (q 16), .ref (q 17), .int (nI nc), .int sr, .int ik])), (q 3, .inl (ca 1, 4, .inr (.inr (.inr (.inr (fun zj => some (qn zj))))))), (q 4, .inr (7, [.ref (q 5), .ref (q 6), .ref (q 7), .ref (q 8), .long isl, .int (nI br), .int st, .int so, .int (nI se)])), (q 5, .inl (ca 2, 4, .inl (fun zj => nI (hm zj)))), (qn 0, .inr (kc (kd 0), [])), (qn 1, .inr (kc (kd 1), [])), (qn 2, .inr (kc (kd 2), [])), (qn 3, .inr (kc (kd 3), [])), (q 14, .inr (5, [.int (nI ((trailN (xb isl) (kd i) (hm i) 40 br 0).2)), .int (nI ((trailN (xb isl) (kd i) (hm i) 40 br 0).1))]))] H := hP
        have hD : va_D A [(q 0, .inr (8, [.ref (q 1), .ref (q 3), .ref (q 4), .ref (q 9), .ref (q 14), .ref (q 15), .ref (q 16), .ref (q 17), .int (nI nc), .int sr, .int ik])), (q 3, .inl (ca 1, 4, .inr (.inr (.inr (.inr (fun zj => some (qn zj))))))), (q 4, .inr (7, [.ref (q 5), .ref (q 6), .ref (q 7), .ref (q 8), .long isl, .int (nI br), .int st, .int so, .int (nI se)])), (q 5, .inl (ca 2, 4, .inl (fun zj => nI (hm zj)))), (qn 0, .inr (kc (kd 0), [])), (qn 1, .inr (kc (kd 1), [])), (qn 2, .inr (kc (kd 2), [])), (qn 3, .inr (kc (kd 3), [])), (q 14, .inr (5, [.int (nI ((trailN (xb isl) (kd i) (hm i) 40 br 0).2)), .int (nI ((trailN (xb isl) (kd i) (hm i) 40 br 0).1))]))] := hD
        refine va_get (D := (dC, dI)) (ci := 5) (v := .int (nI ((trailN (xb isl) (kd i) (hm i) 40 br 0).1))) (C := RX5) (T := TX5) (N := 2) hx hb htl iX5 hown hK hP 8 rfl rfl 1 (by decide) (htl _ wd_99) (fun _ h9 => h9) rfl dX8_homingBits_17 ?_
        refine lv_aload_n hx hb dX8_homingBits_20 rfl (lv_at hl 2 rfl) ?_
        refine va_get (D := (dC, dI)) (ci := 8) (v := .ref (q 4)) (C := RX8) (T := TX8) (N := 11) hx hb htl iX8 hown hK hP 0 rfl rfl 2 (by decide) (htl _ wd_113) (fun _ h9 => h9) rfl dX8_homingBits_21 ?_
        refine va_get (D := (dC, dI)) (ci := 7) (v := .ref (q 5)) (C := RX7) (T := TX7) (N := 9) hx hb htl iX7 hown hK hP 2 rfl rfl 0 (by decide) (htl _ wd_53) (fun _ h9 => h9) rfl dX8_homingBits_24 ?_
        refine lv_iload_n hx hb dX8_homingBits_27 rfl (lv_at hl 0 rfl) ?_
        refine va_iald hx hb hK hP 3 2 rfl rfl (vp_in_nI (by omega) (by decide)) dX8_homingBits_28 ?_
        refine lv_ri (y := nI (hm i)) (congrArg (fun zj => nI (hm zj)) (nI_clamp (by omega))) ?_
        refine lv_icmp_ne (tgt := 38) hx hb dX8_homingBits_29 (by decide) (fun c_4 => ?_) (fun c_4 => ?_)
        · rw [nI_eq (Nat.lt_trans (trailN_lt _ _ _ hbr) (by decide)) (Nat.lt_trans (hhm i (by omega)) (by decide))] at c_4
          refine lv_iinc (v := nI (i + 1)) (lv' := [(2, .int (nI (i + 1))), (1, .int b), (0, .ref (q 0))]) hx hb dX8_homingBits_38 hl (k := 0) rfl (nI_add i 1) (by decide) rfl (fun ls hl => ?_)
          refine lv_goto (tgt := 4) hx hb dX8_homingBits_41 (by decide) ?_
          exact ih4 (i + 1) b (nI (trailN (xb isl) (kd i) (hm i) 40 br 0).2) (nI (trailN (xb isl) (kd i) (hm i) 40 br 0).1) (by omega) (by rw [← hR]; simp only [homL, c_4, decide_true, decide_false, ↓reduceIte, Bool.false_eq_true]) _ _ (hP.sub [0, 1, 2, 3, 4, 5, 6, 7, 8] rfl) (hD.sub [0, 1, 2, 3, 4, 5, 6, 7, 8] (by decide) rfl) hS ls (lv_sub hl [0, 1, 2] rfl)
        · rw [nI_eq (Nat.lt_trans (trailN_lt _ _ _ hbr) (by decide)) (Nat.lt_trans (hhm i (by omega)) (by decide))] at c_4
          refine lv_iload_n hx hb dX8_homingBits_32 rfl (lv_at hl 1 rfl) ?_
          refine lv_iconst (v := nI 1) hx hb dX8_homingBits_33 (by decide) ?_
          refine lv_iload_n hx hb dX8_homingBits_34 rfl (lv_at hl 0 rfl) ?_
          refine lv_ishl hx hb dX8_homingBits_35 ?_
          refine lv_ior hx hb dX8_homingBits_36 ?_
          refine lv_istore_n (lv' := [(1, .int (b ||| ((nI 1) <<< (nI i &&& 31)))), (2, .int (nI i)), (0, .ref (q 0))]) hx hb dX8_homingBits_37 rfl hl (by decide) rfl (fun ls hl => ?_)
          refine lv_iinc (v := nI (i + 1)) (lv' := [(2, .int (nI (i + 1))), (1, .int (b ||| ((nI 1) <<< (nI i &&& 31)))), (0, .ref (q 0))]) hx hb dX8_homingBits_38 hl (k := 1) rfl (nI_add i 1) (by decide) rfl (fun ls hl => ?_)
          refine lv_goto (tgt := 4) hx hb dX8_homingBits_41 (by decide) ?_
          exact ih4 (i + 1) (b ||| (nI 1 <<< (nI i &&& 31))) (nI (trailN (xb isl) (kd i) (hm i) 40 br 0).2) (nI (trailN (xb isl) (kd i) (hm i) 40 br 0).1) (by omega) (by rw [← hR]; simp only [homL, c_4, decide_true, decide_false, ↓reduceIte, Bool.false_eq_true]) _ _ (hP.sub [0, 1, 2, 3, 4, 5, 6, 7, 8] rfl) (hD.sub [0, 1, 2, 3, 4, 5, 6, 7, 8] (by decide) rfl) hS ls (lv_sub hl [0, 1, 2] rfl)
  exact lp4 nc 0 (nI 0) ts tp (by omega) rfl _ _ hP hD hS ls (lv_sub hl [0, 1, 2] rfl)
set_option maxHeartbeats 4000000 in
set_option maxRecDepth 100000 in
theorem kX8_leftAtWorst (l : Launch) (dC : Nat → ClassId) (dI : Nat → Nat → Nat) (ca : Nat → ClassId) (sz : Nat) (i : Nat) (mk : Int64) (pp : Nat) (q : Nat → Nat) (qn : Nat → Nat) (kd : Nat → Nat) (nc : Nat) (sr : Int32) (ik : Int32) (lq0 : Nat → Nat) (hi : i < 4) (hk : kd i < 5) (hp : pp < 36) : Met l yX8_leftAtWorst (Cond.code yX8_leftAtWorst cX8_leftAtWorst 8 (some .int) :: gT) (rk 3) (EFp (dC, dI) [(q 0, .inr (8, [.ref (q 1), .ref (q 3), .ref (q 4), .ref (q 9), .ref (q 14), .ref (q 15), .ref (q 16), .ref (q 17), .int (nI nc), .int sr, .int ik])), (q 17, .inl (ca 12, 9, .inl (fun zj => nI (lq0 zj)))), (qn 0, .inr (kc (kd 0), [])), (qn 1, .inr (kc (kd 1), [])), (qn 2, .inr (kc (kd 2), [])), (qn 3, .inr (kc (kd 3), []))] (TY ca) sz [Value.ref (q 0), Value.ref (qn i), Value.long mk, Value.int (nI pp)]) (va_Qi (fun (r : Int32) (u : (Nat → Nat)) => match u with | (lq1) => r = nI (lwL (fun ho => pointN (kd i) ho pp) (mbit mk) 36 0 (fun _ => 0) 0)) (EFb (dC, dI) (fun (u : (Nat → Nat)) => match u with | (lq1) => [(q 0, .inr (8, [.ref (q 1), .ref (q 3), .ref (q 4), .ref (q 9), .ref (q 14), .ref (q 15), .ref (q 16), .ref (q 17), .int (nI nc), .int sr, .int ik])), (q 17, .inl (ca 12, 9, .inl (fun zj => nI (lq1 zj)))), (qn 0, .inr (kc (kd 0), [])), (qn 1, .inr (kc (kd 1), [])), (qn 2, .inr (kc (kd 2), [])), (qn 3, .inr (kc (kd 3), []))]) (TY ca) (va_A [(q 0, .inr (8, [.ref (q 1), .ref (q 3), .ref (q 4), .ref (q 9), .ref (q 14), .ref (q 15), .ref (q 16), .ref (q 17), .int (nI nc), .int sr, .int ik])), (q 17, .inl (ca 12, 9, .inl (fun zj => nI (lq0 zj)))), (qn 0, .inr (kc (kd 0), [])), (qn 1, .inr (kc (kd 1), [])), (qn 2, .inr (kc (kd 2), [])), (qn 3, .inr (kc (kd 3), []))] sz)) (va_A [(q 0, .inr (8, [.ref (q 1), .ref (q 3), .ref (q 4), .ref (q 9), .ref (q 14), .ref (q 15), .ref (q 16), .ref (q 17), .int (nI nc), .int sr, .int ik])), (q 17, .inl (ca 12, 9, .inl (fun zj => nI (lq0 zj)))), (qn 0, .inr (kc (kd 0), [])), (qn 1, .inr (kc (kd 1), [])), (qn 2, .inr (kc (kd 2), [])), (qn 3, .inr (kc (kd 3), []))] sz)) 0 0 (va_A [(q 0, .inr (8, [.ref (q 1), .ref (q 3), .ref (q 4), .ref (q 9), .ref (q 14), .ref (q 15), .ref (q 16), .ref (q 17), .int (nI nc), .int sr, .int ik])), (q 17, .inl (ca 12, 9, .inl (fun zj => nI (lq0 zj)))), (qn 0, .inr (kc (kd 0), [])), (qn 1, .inr (kc (kd 1), [])), (qn 2, .inr (kc (kd 2), [])), (qn 3, .inr (kc (kd 3), []))] sz) := by
  refine Met.ofW (cc := cX8_leftAtWorst) (maxL := 8) (ret := (some .int)) (by decide) rfl ?_
  intro p e s m args below meth c s₁ B hml hv
  obtain ⟨rfl, hsz, hP, hK, hD0⟩ := hv
  have hx := B.exec
  have hb := B.bytes
  have hr := B.returns
  have hts := atoms_spec (ws := (Cond.code yX8_leftAtWorst cX8_leftAtWorst 8 (some .int) :: gT)) B.pre
  have htl : ∀ w ∈ gT, w.before _ s = true := fun w h => hts w (List.mem_cons_of_mem _ h)
  have hown : s.vm.findClass RX8 = some m.cls := findClass_of_methodNamed B.named
  have hlocks := B.notSynchronized
  subst hsz
  have hD := hD0.self (sz := s.heap.size)
  generalize hAe : va_A [(q 0, .inr (8, [.ref (q 1), .ref (q 3), .ref (q 4), .ref (q 9), .ref (q 14), .ref (q 15), .ref (q 16), .ref (q 17), .int (nI nc), .int sr, .int ik])), (q 17, .inl (ca 12, 9, .inl (fun zj => nI (lq0 zj)))), (qn 0, .inr (kc (kd 0), [])), (qn 1, .inr (kc (kd 1), [])), (qn 2, .inr (kc (kd 2), [])), (qn 3, .inr (kc (kd 3), []))] s.heap.size = A at hD ⊢
  have hA : ∀ q : Nat, s.heap.size ≤ q → A q := fun q h => by rw [← hAe]; exact Or.inr h
  have hS : va_S A s.heap s.heap [] := va_S.rf
  have hl := lv_entry ([Value.ref (q 0), Value.ref (qn i), Value.long mk, Value.int (nI pp)]) (n := 8) (Nat.le_of_ble_eq_true rfl)
  rw [lg_entry_eq]
  generalize (lg_sl ([Value.ref (q 0), Value.ref (qn i), Value.long mk, Value.int (nI pp)]) ++ List.replicate (8 - (lg_sl ([Value.ref (q 0), Value.ref (qn i), Value.long mk, Value.int (nI pp)])).length) Slot.unset).toArray = ls at hl ⊢
  have hl : lv_has ls 8 [(0, .ref (q 0)), (1, .ref (qn i)), (2, .long mk), (4, .int (nI pp))] := hl
  refine lv_aload_n hx hb dX8_leftAtWorst_0 rfl (lv_at hl 0 rfl) ?_
  refine va_get (D := (dC, dI)) (ci := 8) (v := .ref (q 17)) (C := RX8) (T := TX8) (N := 11) hx hb htl iX8 hown hK hP 0 rfl rfl 7 (by decide) (htl _ wd_118) (fun _ h9 => h9) rfl dX8_leftAtWorst_1 ?_
  refine lv_iconst (v := nI 0) hx hb dX8_leftAtWorst_4 (by decide) ?_
  refine efSv (As := [Value.ref (q 17), Value.int (nI 0)]) (rest := []) (wr := [(q 0, .inr (8, [.ref (q 1), .ref (q 3), .ref (q 4), .ref (q 9), .ref (q 14), .ref (q 15), .ref (q 16), .ref (q 17), .int (nI nc), .int sr, .int ik])), (qn 0, .inr (kc (kd 0), [])), (qn 1, .inr (kc (kd 1), [])), (qn 2, .inr (kc (kd 2), [])), (qn 3, .inr (kc (kd 3), []))]) (kfill_lb l dC dI ca _ (nI 0) q (fun zj => nI (lq0 zj)) ) ⟨hx, hb, hml, hown, htl⟩ (cSg 2 htl wd_396 wd_397 wd_17 wd_398 rfl rfl (by decide +kernel) ⟨Nat.le_of_ble_eq_true rfl, Nat.le_of_ble_eq_true rfl⟩) hP hD hS hA hK [1] [0, 2, 3, 4, 5] rfl rfl (by decide) (by decide) (by decide) rfl hl.1 rfl (Nat.le_of_ble_eq_true rfl) dX8_leftAtWorst_5 ⟨Nat.zero_le _, Nat.zero_le _⟩ (fun u H locs hw_5 hP hD hS => ?_)
  have hP : va_P (dC, dI) vwCl [(q 0, .inr (8, [.ref (q 1), .ref (q 3), .ref (q 4), .ref (q 9), .ref (q 14), .ref (q 15), .ref (q 16), .ref (q 17), .int (nI nc), .int sr, .int ik])), (qn 0, .inr (kc (kd 0), [])), (qn 1, .inr (kc (kd 1), [])), (qn 2, .inr (kc (kd 2), [])), (qn 3, .inr (kc (kd 3), [])), (q 17, .inl (ca 12, 9, .inl (fun _ => (nI 0))))] H := hP
  have hD : va_D A [(q 0, .inr (8, [.ref (q 1), .ref (q 3), .ref (q 4), .ref (q 9), .ref (q 14), .ref (q 15), .ref (q 16), .ref (q 17), .int (nI nc), .int sr, .int ik])), (qn 0, .inr (kc (kd 0), [])), (qn 1, .inr (kc (kd 1), [])), (qn 2, .inr (kc (kd 2), [])), (qn 3, .inr (kc (kd 3), [])), (q 17, .inl (ca 12, 9, .inl (fun _ => (nI 0))))] := hD
  refine lv_iconst (v := nI 0) hx hb dX8_leftAtWorst_8 (by decide) ?_
  refine lv_istore (lv' := [(5, .int (nI 0)), (0, .ref (q 0)), (1, .ref (qn i)), (2, .long mk), (4, .int (nI pp))]) hx hb dX8_leftAtWorst_9 hl (by decide) rfl (fun ls hl => ?_)
  refine lv_iconst (v := nI 0) hx hb dX8_leftAtWorst_11 (by decide) ?_
  refine lv_istore (lv' := [(6, .int (nI 0)), (5, .int (nI 0)), (0, .ref (q 0)), (1, .ref (qn i)), (2, .long mk), (4, .int (nI pp))]) hx hb dX8_leftAtWorst_12 hl (by decide) rfl (fun ls hl => ?_)
  have lp14 : ∀ (n : Nat) (j : Nat) (lq : Nat → Nat) (w : Nat), (j + n = 36) → (∀ x, x < 9 → lq x ≤ j) → (w ≤ j) → (lwL (fun ho => pointN (kd i) ho pp) (mbit mk) n j lq w = lwL (fun ho => pointN (kd i) ho pp) (mbit mk) 36 0 (fun _ => 0) 0) → ∀ (H : Heap) (locs : List Loc), va_P (dC, dI) vwCl [(q 0, .inr (8, [.ref (q 1), .ref (q 3), .ref (q 4), .ref (q 9), .ref (q 14), .ref (q 15), .ref (q 16), .ref (q 17), .int (nI nc), .int sr, .int ik])), (qn 0, .inr (kc (kd 0), [])), (qn 1, .inr (kc (kd 1), [])), (qn 2, .inr (kc (kd 2), [])), (qn 3, .inr (kc (kd 3), [])), (q 17, .inl (ca 12, 9, .inl (fun zj => nI (lq zj))))] H → va_D A [(q 0, .inr (8, [.ref (q 1), .ref (q 3), .ref (q 4), .ref (q 9), .ref (q 14), .ref (q 15), .ref (q 16), .ref (q 17), .int (nI nc), .int sr, .int ik])), (qn 0, .inr (kc (kd 0), [])), (qn 1, .inr (kc (kd 1), [])), (qn 2, .inr (kc (kd 2), [])), (qn 3, .inr (kc (kd 3), [])), (q 17, .inl (ca 12, 9, .inl (fun zj => nI (lq zj))))] → va_S A s.heap H locs → ∀ (ls : Array Slot), lv_has ls 8 [(6, .int (nI j)), (5, .int (nI w)), (0, .ref (q 0)), (1, .ref (qn i)), (2, .long mk), (4, .int (nI pp))] → W p l e (headSpec (Cond.code yX8_leftAtWorst cX8_leftAtWorst 8 (some .int) :: gT) (rk 3)).room s m ([Value.ref (q 0), Value.ref (qn i), Value.long mk, Value.int (nI pp)] : List Value).toArray below meth c H locs 0 0 (MQ below (va_Qi (fun (r : Int32) (u : (Nat → Nat)) => match u with | (lq1) => r = nI (lwL (fun ho => pointN (kd i) ho pp) (mbit mk) 36 0 (fun _ => 0) 0)) (EFb (dC, dI) (fun (u : (Nat → Nat)) => match u with | (lq1) => [(q 0, .inr (8, [.ref (q 1), .ref (q 3), .ref (q 4), .ref (q 9), .ref (q 14), .ref (q 15), .ref (q 16), .ref (q 17), .int (nI nc), .int sr, .int ik])), (q 17, .inl (ca 12, 9, .inl (fun zj => nI (lq1 zj)))), (qn 0, .inr (kc (kd 0), [])), (qn 1, .inr (kc (kd 1), [])), (qn 2, .inr (kc (kd 2), [])), (qn 3, .inr (kc (kd 3), []))]) (TY ca) A) A) ([Value.ref (q 0), Value.ref (qn i), Value.long mk, Value.int (nI pp)] : List Value).toArray s 0 0 A) (F0 m 14 ls []) := by
    clear hS hP hD
    clear hl
    intro n
    induction n with
    | zero =>
      intro j lq w hj hlq hw9 hR H locs hP hD hS ls hl
      refine lv_iload hx hb dX8_leftAtWorst_14 (lv_at hl 0 rfl) ?_
      refine lv_bipush (v := nI 36) hx hb dX8_leftAtWorst_16 (by decide) ?_
      refine lv_icmp_ge (tgt := 73) hx hb dX8_leftAtWorst_18 (by decide) (fun c_2 => ?_) (fun c_2 => ?_)
      · refine lv_iload hx hb dX8_leftAtWorst_73 (lv_at hl 1 rfl) ?_
        have hP9 := hP.sub (ws' := [(q 0, .inr (8, [.ref (q 1), .ref (q 3), .ref (q 4), .ref (q 9), .ref (q 14), .ref (q 15), .ref (q 16), .ref (q 17), .int (nI nc), .int sr, .int ik])), (q 17, .inl (ca 12, 9, .inl (fun zj => nI (lq zj)))), (qn 0, .inr (kc (kd 0), [])), (qn 1, .inr (kc (kd 1), [])), (qn 2, .inr (kc (kd 2), [])), (qn 3, .inr (kc (kd 3), []))]) [0, 5, 1, 2, 3, 4] rfl
        have hD9 := hD.sub (ws' := [(q 0, .inr (8, [.ref (q 1), .ref (q 3), .ref (q 4), .ref (q 9), .ref (q 14), .ref (q 15), .ref (q 16), .ref (q 17), .int (nI nc), .int sr, .int ik])), (q 17, .inl (ca 12, 9, .inl (fun zj => nI (lq zj)))), (qn 0, .inr (kc (kd 0), [])), (qn 1, .inr (kc (kd 1), [])), (qn 2, .inr (kc (kd 2), [])), (qn 3, .inr (kc (kd 3), []))]) [0, 5, 1, 2, 3, 4] (by decide) rfl
        exact W.iret (v := nI w) hx hb hr (fun t ht hW => ⟨⟨nI w, lq, rfl, by show _ = _; rw [← hR]; rfl, by rw [ht]; exact hP9, va_K.moved hW.alike hK, hD9⟩, hS.F ht⟩) hS.2.2 dX8_leftAtWorst_75
      · exact absurd (nI_le (by omega) (by omega)) c_2
    | succ n ih14 =>
      intro j lq w hj hlq hw9 hR H locs hP hD hS ls hl
      refine lv_iload hx hb dX8_leftAtWorst_14 (lv_at hl 0 rfl) ?_
      refine lv_bipush (v := nI 36) hx hb dX8_leftAtWorst_16 (by decide) ?_
      refine lv_icmp_ge (tgt := 73) hx hb dX8_leftAtWorst_18 (by decide) (fun c_3 => ?_) (fun c_3 => ?_)
      · exact absurd c_3 (nI_ge (by omega) (by omega))
      · refine lv_lload_n hx hb dX8_leftAtWorst_21 rfl (lv_at hl 4 rfl) ?_
        refine lv_iload hx hb dX8_leftAtWorst_22 (lv_at hl 0 rfl) ?_
        refine lv_lshr (v := mk >>> ((nI j).toInt64 &&& 63)) hx hb dX8_leftAtWorst_24 rfl ?_
        refine lv_lconst (v := 1) hx hb dX8_leftAtWorst_25 (by decide) ?_
        refine lv_land hx hb dX8_leftAtWorst_26 ?_
        refine lv_lconst (v := 1) hx hb dX8_leftAtWorst_27 (by decide) ?_
        refine W.lcmp hx hb dX8_leftAtWorst_28 ?_
        refine lv_if_ne (tgt := 67) hx hb dX8_leftAtWorst_29 (by decide) (fun c_4 => ?_) (fun c_4 => ?_)
        · rw [lgE] at c_4
          refine lv_iinc (v := nI (j + 1)) (lv' := [(6, .int (nI (j + 1))), (5, .int (nI w)), (0, .ref (q 0)), (1, .ref (qn i)), (2, .long mk), (4, .int (nI pp))]) hx hb dX8_leftAtWorst_67 hl (k := 0) rfl (nI_add j 1) (by decide) rfl (fun ls hl => ?_)
          refine lv_goto (tgt := 14) hx hb dX8_leftAtWorst_70 (by decide) ?_
          exact ih14 (j + 1) lq w (by omega) (fun x hx => Nat.le_succ_of_le (hlq x hx)) (by omega) (by rw [← hR]; simp only [lwL, mbit, c_4, decide_false, ↓reduceIte, Bool.false_eq_true]) _ _ (hP.sub [0, 1, 2, 3, 4, 5] rfl) (hD.sub [0, 1, 2, 3, 4, 5] (by decide) rfl) hS ls (lv_sub hl [0, 1, 2, 3, 4, 5] rfl)
        · rw [lgE] at c_4
          refine lv_aload_n hx hb dX8_leftAtWorst_32 rfl (lv_at hl 3 rfl) ?_
          refine lv_iload hx hb dX8_leftAtWorst_33 (lv_at hl 0 rfl) ?_
          refine lv_iload hx hb dX8_leftAtWorst_35 (lv_at hl 5 rfl) ?_
          refine roS (As := [Value.ref (qn i), Value.int (nI j), Value.int (nI pp)]) (rest := []) (kX8_pointingHome l dC dI ca (qn i) (kd i) j pp hk (by omega) hp) ⟨hx, hb, hml, hown, htl⟩ (cSg 3 htl wd_357 wd_358 wd_1 wd_359 rfl rfl (by decide +kernel) ⟨Nat.le_of_ble_eq_true rfl, Nat.le_of_ble_eq_true rfl⟩) (va_P.app (hP.sub [] rfl) (nd4 hP i (by omega) 1 2 3 4 rfl rfl rfl rfl)) hK rfl hl.1 rfl (Nat.le_of_ble_eq_true rfl) dX8_leftAtWorst_37 ⟨Nat.zero_le _, Nat.zero_le _⟩ (fun r hr9 => ?_)
          subst hr9
          refine lv_istore (lv' := [(7, .int (nI (pointN (kd i) j pp))), (6, .int (nI j)), (5, .int (nI w)), (0, .ref (q 0)), (1, .ref (qn i)), (2, .long mk), (4, .int (nI pp))]) hx hb dX8_leftAtWorst_40 hl (by decide) rfl (fun ls hl => ?_)
          refine lv_aload_n hx hb dX8_leftAtWorst_42 rfl (lv_at hl 3 rfl) ?_
          refine va_get (D := (dC, dI)) (ci := 8) (v := .ref (q 17)) (C := RX8) (T := TX8) (N := 11) hx hb htl iX8 hown hK hP 0 rfl rfl 7 (by decide) (htl _ wd_118) (fun _ h9 => h9) rfl dX8_leftAtWorst_43 ?_
          refine lv_iload hx hb dX8_leftAtWorst_46 (lv_at hl 0 rfl) ?_
          refine lv_dup2_11 hx hb dX8_leftAtWorst_48 rfl rfl ?_
          have hpt := pointN_lt (kd i) j pp
          have hlt := hlq _ hpt
          refine va_iald hx hb hK hP 5 12 rfl rfl (vp_in_nI (pointN_lt _ _ _) (by decide)) dX8_leftAtWorst_49 ?_
          refine lv_ri (y := nI (lq (pointN (kd i) j pp))) (congrArg (fun zj => nI (lq zj)) (nI_clamp (by omega))) ?_
          refine lv_iconst (v := nI 1) hx hb dX8_leftAtWorst_50 (by decide) ?_
          refine lv_iadd hx hb dX8_leftAtWorst_51 ?_
          refine lv_ri (y := nI ((lq (pointN (kd i) j pp)) + 1)) (nI_add (lq (pointN (kd i) j pp)) 1) ?_
          refine va_iast hx hb hK hP hD hS 5 12 rfl rfl (vp_in_nI (pointN_lt _ _ _) (by decide)) dX8_leftAtWorst_52 (fun H locs hP hD hS => ?_)
          rw [nI_clamp (show pointN (kd i) j pp < 2 ^ 31 by omega)] at hP hD
          rw [show (upd (fun zj => nI (lq zj)) (pointN (kd i) j pp) (nI ((lq (pointN (kd i) j pp)) + 1))) = (fun zj => nI (va_up lq (pointN (kd i) j pp) ((lq (pointN (kd i) j pp)) + 1) zj)) from upd_nI _ _ _] at hP hD
          have hP : va_P (dC, dI) vwCl [(q 0, .inr (8, [.ref (q 1), .ref (q 3), .ref (q 4), .ref (q 9), .ref (q 14), .ref (q 15), .ref (q 16), .ref (q 17), .int (nI nc), .int sr, .int ik])), (qn 0, .inr (kc (kd 0), [])), (qn 1, .inr (kc (kd 1), [])), (qn 2, .inr (kc (kd 2), [])), (qn 3, .inr (kc (kd 3), [])), (q 17, .inl (ca 12, 9, .inl (fun zj => nI (va_up lq (pointN (kd i) j pp) ((lq (pointN (kd i) j pp)) + 1) zj))))] H := hP
          have hD : va_D A [(q 0, .inr (8, [.ref (q 1), .ref (q 3), .ref (q 4), .ref (q 9), .ref (q 14), .ref (q 15), .ref (q 16), .ref (q 17), .int (nI nc), .int sr, .int ik])), (qn 0, .inr (kc (kd 0), [])), (qn 1, .inr (kc (kd 1), [])), (qn 2, .inr (kc (kd 2), [])), (qn 3, .inr (kc (kd 3), [])), (q 17, .inl (ca 12, 9, .inl (fun zj => nI (va_up lq (pointN (kd i) j pp) ((lq (pointN (kd i) j pp)) + 1) zj))))] := hD
          refine lv_iload hx hb dX8_leftAtWorst_53 (lv_at hl 2 rfl) ?_
          refine lv_aload_n hx hb dX8_leftAtWorst_55 rfl (lv_at hl 3 rfl) ?_
          refine va_get (D := (dC, dI)) (ci := 8) (v := .ref (q 17)) (C := RX8) (T := TX8) (N := 11) hx hb htl iX8 hown hK hP 0 rfl rfl 7 (by decide) (htl _ wd_118) (fun _ h9 => h9) rfl dX8_leftAtWorst_56 ?_
          refine lv_iload hx hb dX8_leftAtWorst_59 (lv_at hl 0 rfl) ?_
          refine va_iald hx hb hK hP 5 12 rfl rfl (vp_in_nI (pointN_lt _ _ _) (by decide)) dX8_leftAtWorst_61 ?_
          refine lv_ri (y := nI (va_up lq (pointN (kd i) j pp) ((lq (pointN (kd i) j pp)) + 1) (pointN (kd i) j pp))) (congrArg (fun zj => nI (va_up lq (pointN (kd i) j pp) ((lq (pointN (kd i) j pp)) + 1) zj)) (nI_clamp (by omega))) ?_
          refine lv_ri (y := nI (lq (pointN (kd i) j pp) + 1)) (by unfold va_up; rw [if_pos rfl]) ?_
          refine va_mmax hx hb (by rw [hml]; exact hl.1.symm) hown (htl _ wd_424) (htl _ wd_207) (htl _ wd_9) (htl _ wd_208) (Nat.le_of_ble_eq_true rfl) (Nat.le_of_ble_eq_true rfl) (Nat.zero_le _) (Nat.zero_le _) dX8_leftAtWorst_62 ?_
          refine lv_ri (y := nI (if w < lq (pointN (kd i) j pp) + 1 then lq (pointN (kd i) j pp) + 1 else w)) (nI_max (by omega) (by omega)) ?_
          refine lv_istore (lv' := [(5, .int (nI (if w < lq (pointN (kd i) j pp) + 1 then lq (pointN (kd i) j pp) + 1 else w))), (7, .int (nI (pointN (kd i) j pp))), (6, .int (nI j)), (0, .ref (q 0)), (1, .ref (qn i)), (2, .long mk), (4, .int (nI pp))]) hx hb dX8_leftAtWorst_65 hl (by decide) rfl (fun ls hl => ?_)
          refine lv_iinc (v := nI (j + 1)) (lv' := [(6, .int (nI (j + 1))), (5, .int (nI (if w < lq (pointN (kd i) j pp) + 1 then lq (pointN (kd i) j pp) + 1 else w))), (7, .int (nI (pointN (kd i) j pp))), (0, .ref (q 0)), (1, .ref (qn i)), (2, .long mk), (4, .int (nI pp))]) hx hb dX8_leftAtWorst_67 hl (k := 2) rfl (nI_add j 1) (by decide) rfl (fun ls hl => ?_)
          refine lv_goto (tgt := 14) hx hb dX8_leftAtWorst_70 (by decide) ?_
          have hlq9 : ∀ x, x < 9 → va_up lq (pointN (kd i) j pp) (lq (pointN (kd i) j pp) + 1) x ≤ j + 1 := by
            intro x hx
            unfold va_up
            have h1 := hlq _ (pointN_lt (kd i) j pp)
            have h2 := hlq x hx
            split <;> omega
          exact ih14 (j + 1) (va_up lq (pointN (kd i) j pp) (lq (pointN (kd i) j pp) + 1)) (if w < lq (pointN (kd i) j pp) + 1 then lq (pointN (kd i) j pp) + 1 else w) (by omega) hlq9 (by have := hlq (pointN (kd i) j pp) (pointN_lt _ _ _); split <;> omega) (by rw [← hR]; simp only [lwL, mbit, c_4, decide_true, ↓reduceIte]) _ _ (hP.sub [0, 1, 2, 3, 4, 5] rfl) (hD.sub [0, 1, 2, 3, 4, 5] (by decide) rfl) hS ls (lv_sub hl [0, 1, 3, 4, 5, 6] rfl)
  exact lp14 36 0 (fun _ => 0) 0 (by omega) (fun _ _ => Nat.le_refl 0) (Nat.le_refl 0) rfl _ _ hP hD hS ls (lv_sub hl [0, 1, 2, 3, 4, 5] rfl)
