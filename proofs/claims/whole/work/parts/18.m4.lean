theorem add0 (x : Int32) : x + nI 0 = x := by
  rw [show nI 0 = 0 from rfl]
  exact Int32.add_zero x
theorem or0 (x : Int32) : x ||| nI 0 = x := by
  apply Int32.toBitVec_inj.mp
  show x.toBitVec ||| BitVec.ofNat 32 0 = x.toBitVec
  simp
set_option maxHeartbeats 4000000 in
set_option maxRecDepth 100000 in
theorem kX9_go (l : Launch) (dC : Nat → ClassId) (dI : Nat → Nat → Nat) (ca : Nat → ClassId) (sz : Nat) (d : Nat) (nc : Nat) (sr : Int32) (ps : Nat) (br : Nat) (st : Int32) (so : Int32) (se : Nat) (kbr : Nat) (kst : Int32) (kso : Int32) (kse : Nat) (mq : Nat → Nat) (ea : Int32) (fe : Int32) (fs : Int32) (sw : Int32) (ks : Int32) (ib : Nat → Bool) (hs : Int64) (hd : d < 9) (hbr : br < 36) : Met l yX9_go (Cond.code yX9_go cX9_go 3 (some .int) :: gT) (rk 3) (EFp (dC, dI) [(mq 0, .inr (9, [.ref (mq 1), .int (nI ps), .int ea, .int (nI nc), .int (nI br), .int st, .int so, .int sr, .ref (mq 2), .ref (mq 3), .int fe, .int fs, .ref (mq 4), .int (nI se), .ref (mq 5), .ref (mq 6), .int sw, .int ks, .int (nI kbr), .int kst, .int kso, .int (nI kse), .ref (mq 7), .ref (mq 8), .ref (mq 9), .long hs])), (mq 3, .inl (ca 15, 36, .inl (fun zj => bI (ib zj))))] (TY ca) sz [Value.ref (mq 0), Value.int (nI d)]) (va_Qi (fun (r : Int32) (_ : Unit) => r = nI (stepN ib br d)) (EFb (dC, dI) (fun (_ : Unit) => [(mq 0, .inr (9, [.ref (mq 1), .int (nI ps), .int ea, .int (nI nc), .int (nI (stepN ib br d)), .int (st + nI 1), .int (if stepN ib br d = br then so else so + nI 1), .int sr, .ref (mq 2), .ref (mq 3), .int fe, .int fs, .ref (mq 4), .int (nI se), .ref (mq 5), .ref (mq 6), .int sw, .int ks, .int (nI kbr), .int kst, .int kso, .int (nI kse), .ref (mq 7), .ref (mq 8), .ref (mq 9), .long hs])), (mq 3, .inl (ca 15, 36, .inl (fun zj => bI (ib zj))))]) (TY ca) (va_A [(mq 0, .inr (9, [.ref (mq 1), .int (nI ps), .int ea, .int (nI nc), .int (nI br), .int st, .int so, .int sr, .ref (mq 2), .ref (mq 3), .int fe, .int fs, .ref (mq 4), .int (nI se), .ref (mq 5), .ref (mq 6), .int sw, .int ks, .int (nI kbr), .int kst, .int kso, .int (nI kse), .ref (mq 7), .ref (mq 8), .ref (mq 9), .long hs])), (mq 3, .inl (ca 15, 36, .inl (fun zj => bI (ib zj))))] sz)) (va_A [(mq 0, .inr (9, [.ref (mq 1), .int (nI ps), .int ea, .int (nI nc), .int (nI br), .int st, .int so, .int sr, .ref (mq 2), .ref (mq 3), .int fe, .int fs, .ref (mq 4), .int (nI se), .ref (mq 5), .ref (mq 6), .int sw, .int ks, .int (nI kbr), .int kst, .int kso, .int (nI kse), .ref (mq 7), .ref (mq 8), .ref (mq 9), .long hs])), (mq 3, .inl (ca 15, 36, .inl (fun zj => bI (ib zj))))] sz)) 0 0 (va_A [(mq 0, .inr (9, [.ref (mq 1), .int (nI ps), .int ea, .int (nI nc), .int (nI br), .int st, .int so, .int sr, .ref (mq 2), .ref (mq 3), .int fe, .int fs, .ref (mq 4), .int (nI se), .ref (mq 5), .ref (mq 6), .int sw, .int ks, .int (nI kbr), .int kst, .int kso, .int (nI kse), .ref (mq 7), .ref (mq 8), .ref (mq 9), .long hs])), (mq 3, .inl (ca 15, 36, .inl (fun zj => bI (ib zj))))] sz) := by
  refine Met.ofW (cc := cX9_go) (maxL := 3) (ret := (some .int)) (by decide) rfl ?_
  intro p e s m args below meth c s₁ B hml hv
  obtain ⟨rfl, hsz, hP, hK, hD0⟩ := hv
  have hx := B.exec
  have hb := B.bytes
  have hr := B.returns
  have hts := atoms_spec (ws := (Cond.code yX9_go cX9_go 3 (some .int) :: gT)) B.pre
  have htl : ∀ w ∈ gT, w.before _ s = true := fun w h => hts w (List.mem_cons_of_mem _ h)
  have hown : s.vm.findClass RX9 = some m.cls := findClass_of_methodNamed B.named
  have hlocks := B.notSynchronized
  subst hsz
  have hD := hD0.self (sz := s.heap.size)
  generalize hAe : va_A [(mq 0, .inr (9, [.ref (mq 1), .int (nI ps), .int ea, .int (nI nc), .int (nI br), .int st, .int so, .int sr, .ref (mq 2), .ref (mq 3), .int fe, .int fs, .ref (mq 4), .int (nI se), .ref (mq 5), .ref (mq 6), .int sw, .int ks, .int (nI kbr), .int kst, .int kso, .int (nI kse), .ref (mq 7), .ref (mq 8), .ref (mq 9), .long hs])), (mq 3, .inl (ca 15, 36, .inl (fun zj => bI (ib zj))))] s.heap.size = A at hD ⊢
  have hA : ∀ q : Nat, s.heap.size ≤ q → A q := fun q h => by rw [← hAe]; exact Or.inr h
  have hS : va_S A s.heap s.heap [] := va_S.rf
  have hl := lv_entry ([Value.ref (mq 0), Value.int (nI d)]) (n := 3) (Nat.le_of_ble_eq_true rfl)
  rw [lg_entry_eq]
  generalize (lg_sl ([Value.ref (mq 0), Value.int (nI d)]) ++ List.replicate (3 - (lg_sl ([Value.ref (mq 0), Value.int (nI d)])).length) Slot.unset).toArray = ls at hl ⊢
  have hl : lv_has ls 3 [(0, .ref (mq 0)), (1, .int (nI d))] := hl
  refine lv_aload_n hx hb dX9_go_0 rfl (lv_at hl 0 rfl) ?_
  refine lv_aload_n hx hb dX9_go_1 rfl (lv_at hl 0 rfl) ?_
  refine va_get (D := (dC, dI)) (ci := 9) (v := .int (nI br)) (C := RX9) (T := TX9) (N := 26) hx hb htl iX9 hown hK hP 0 rfl rfl 4 (by decide) (htl _ wd_555) (fun _ h9 => h9) rfl dX9_go_2 ?_
  refine lv_iload_n hx hb dX9_go_5 rfl (lv_at hl 1 rfl) ?_
  refine roV (As := [Value.int (nI br), Value.int (nI d)]) (rest := []) (kX9_stepped l dC dI ca br d nc sr ps br st so se kbr kst kso kse mq ea fe fs sw ks ib hs hbr hd) ⟨hx, hb, hml, hown, htl⟩ (cVg (C := RX9) 2 htl wd_703 wd_705 wp_23 wd_6 wd_706 rfl rfl (by decide +kernel) ⟨Nat.le_of_ble_eq_true rfl, Nat.le_of_ble_eq_true rfl⟩) (hP.sub [0, 1] rfl) hK (va_recv hK hP (ci := 9) (q0 := 0) rfl rfl) rfl hl.1 rfl (Nat.le_of_ble_eq_true rfl) dX9_go_6 ⟨Nat.zero_le _, Nat.zero_le _⟩ (fun r hr9 => ?_)
  subst hr9
  refine lv_istore_n (lv' := [(2, .int (nI (stepN ib br d))), (0, .ref (mq 0)), (1, .int (nI d))]) hx hb dX9_go_9 rfl hl (by decide) rfl (fun ls hl => ?_)
  refine lv_aload_n hx hb dX9_go_10 rfl (lv_at hl 1 rfl) ?_
  refine lv_dup hx hb dX9_go_11 rfl ?_
  refine va_get (D := (dC, dI)) (ci := 9) (v := .int st) (C := RX9) (T := TX9) (N := 26) hx hb htl iX9 hown hK hP 0 rfl rfl 5 (by decide) (htl _ wd_556) (fun _ h9 => h9) rfl dX9_go_12 ?_
  refine lv_iconst (v := nI 1) hx hb dX9_go_15 (by decide) ?_
  refine lv_iadd hx hb dX9_go_16 ?_
  refine va_put (D := (dC, dI)) (ci := 9) (v := .int (st + (nI 1))) (ty := .int) (C := RX9) (T := TX9) (N := 26) hx hb htl iX9 tyX9 tyX9_ok nmX9 hown hK hP hD hS 0 rfl rfl 5 (by decide) (htl _ wd_556) (fun _ h9 => h9) rfl (by decide +kernel) rfl rfl (Nat.le_of_ble_eq_true rfl) dX9_go_17 (fun H locs hP hD hS => ?_)
  have hP : va_P (dC, dI) vwCl [(mq 0, .inr (9, [.ref (mq 1), .int (nI ps), .int ea, .int (nI nc), .int (nI br), .int (st + (nI 1)), .int so, .int sr, .ref (mq 2), .ref (mq 3), .int fe, .int fs, .ref (mq 4), .int (nI se), .ref (mq 5), .ref (mq 6), .int sw, .int ks, .int (nI kbr), .int kst, .int kso, .int (nI kse), .ref (mq 7), .ref (mq 8), .ref (mq 9), .long hs])), (mq 3, .inl (ca 15, 36, .inl (fun zj => bI (ib zj))))] H := hP
  have hD : va_D A [(mq 0, .inr (9, [.ref (mq 1), .int (nI ps), .int ea, .int (nI nc), .int (nI br), .int (st + (nI 1)), .int so, .int sr, .ref (mq 2), .ref (mq 3), .int fe, .int fs, .ref (mq 4), .int (nI se), .ref (mq 5), .ref (mq 6), .int sw, .int ks, .int (nI kbr), .int kst, .int kso, .int (nI kse), .ref (mq 7), .ref (mq 8), .ref (mq 9), .long hs])), (mq 3, .inl (ca 15, 36, .inl (fun zj => bI (ib zj))))] := hD
  refine lv_aload_n hx hb dX9_go_20 rfl (lv_at hl 1 rfl) ?_
  refine lv_dup hx hb dX9_go_21 rfl ?_
  refine va_get (D := (dC, dI)) (ci := 9) (v := .int so) (C := RX9) (T := TX9) (N := 26) hx hb htl iX9 hown hK hP 0 rfl rfl 6 (by decide) (htl _ wd_557) (fun _ h9 => h9) rfl dX9_go_22 ?_
  refine lv_iload_n hx hb dX9_go_25 rfl (lv_at hl 0 rfl) ?_
  refine lv_aload_n hx hb dX9_go_26 rfl (lv_at hl 1 rfl) ?_
  refine va_get (D := (dC, dI)) (ci := 9) (v := .int (nI br)) (C := RX9) (T := TX9) (N := 26) hx hb htl iX9 hown hK hP 0 rfl rfl 4 (by decide) (htl _ wd_555) (fun _ h9 => h9) rfl dX9_go_27 ?_
  refine lv_icmp_ne (tgt := 37) hx hb dX9_go_30 (by decide) (fun c_1 => ?_) (fun c_1 => ?_)
  · rw [nI_eq (Nat.lt_trans (stepN_lt hbr) (by decide)) (by omega)] at c_1
    refine lv_iconst (v := nI 1) hx hb dX9_go_37 (by decide) ?_
    refine lv_iadd hx hb dX9_go_38 ?_
    refine lv_ri (y := so + nI 1) (rfl) ?_
    refine va_put (D := (dC, dI)) (ci := 9) (v := .int (so + nI 1)) (ty := .int) (C := RX9) (T := TX9) (N := 26) hx hb htl iX9 tyX9 tyX9_ok nmX9 hown hK hP hD hS 0 rfl rfl 6 (by decide) (htl _ wd_557) (fun _ h9 => h9) rfl (by decide +kernel) rfl rfl (Nat.le_of_ble_eq_true rfl) dX9_go_39 (fun H locs hP hD hS => ?_)
    have hP : va_P (dC, dI) vwCl [(mq 0, .inr (9, [.ref (mq 1), .int (nI ps), .int ea, .int (nI nc), .int (nI br), .int (st + (nI 1)), .int (so + nI 1), .int sr, .ref (mq 2), .ref (mq 3), .int fe, .int fs, .ref (mq 4), .int (nI se), .ref (mq 5), .ref (mq 6), .int sw, .int ks, .int (nI kbr), .int kst, .int kso, .int (nI kse), .ref (mq 7), .ref (mq 8), .ref (mq 9), .long hs])), (mq 3, .inl (ca 15, 36, .inl (fun zj => bI (ib zj))))] H := hP
    have hD : va_D A [(mq 0, .inr (9, [.ref (mq 1), .int (nI ps), .int ea, .int (nI nc), .int (nI br), .int (st + (nI 1)), .int (so + nI 1), .int sr, .ref (mq 2), .ref (mq 3), .int fe, .int fs, .ref (mq 4), .int (nI se), .ref (mq 5), .ref (mq 6), .int sw, .int ks, .int (nI kbr), .int kst, .int kso, .int (nI kse), .ref (mq 7), .ref (mq 8), .ref (mq 9), .long hs])), (mq 3, .inl (ca 15, 36, .inl (fun zj => bI (ib zj))))] := hD
    refine lv_aload_n hx hb dX9_go_42 rfl (lv_at hl 1 rfl) ?_
    refine lv_iload_n hx hb dX9_go_43 rfl (lv_at hl 0 rfl) ?_
    refine va_put (D := (dC, dI)) (ci := 9) (v := .int (nI (stepN ib br d))) (ty := .int) (C := RX9) (T := TX9) (N := 26) hx hb htl iX9 tyX9 tyX9_ok nmX9 hown hK hP hD hS 0 rfl rfl 4 (by decide) (htl _ wd_555) (fun _ h9 => h9) rfl (by decide +kernel) rfl rfl (Nat.le_of_ble_eq_true rfl) dX9_go_44 (fun H locs hP hD hS => ?_)
    have hP : va_P (dC, dI) vwCl [(mq 0, .inr (9, [.ref (mq 1), .int (nI ps), .int ea, .int (nI nc), .int (nI (stepN ib br d)), .int (st + (nI 1)), .int (so + nI 1), .int sr, .ref (mq 2), .ref (mq 3), .int fe, .int fs, .ref (mq 4), .int (nI se), .ref (mq 5), .ref (mq 6), .int sw, .int ks, .int (nI kbr), .int kst, .int kso, .int (nI kse), .ref (mq 7), .ref (mq 8), .ref (mq 9), .long hs])), (mq 3, .inl (ca 15, 36, .inl (fun zj => bI (ib zj))))] H := hP
    have hD : va_D A [(mq 0, .inr (9, [.ref (mq 1), .int (nI ps), .int ea, .int (nI nc), .int (nI (stepN ib br d)), .int (st + (nI 1)), .int (so + nI 1), .int sr, .ref (mq 2), .ref (mq 3), .int fe, .int fs, .ref (mq 4), .int (nI se), .ref (mq 5), .ref (mq 6), .int sw, .int ks, .int (nI kbr), .int kst, .int kso, .int (nI kse), .ref (mq 7), .ref (mq 8), .ref (mq 9), .long hs])), (mq 3, .inl (ca 15, 36, .inl (fun zj => bI (ib zj))))] := hD
    refine lv_aload_n hx hb dX9_go_47 rfl (lv_at hl 1 rfl) ?_
    refine va_get (D := (dC, dI)) (ci := 9) (v := .int (nI (stepN ib br d))) (C := RX9) (T := TX9) (N := 26) hx hb htl iX9 hown hK hP 0 rfl rfl 4 (by decide) (htl _ wd_555) (fun _ h9 => h9) rfl dX9_go_48 ?_
    have hP9 := hP.sub (ws' := [(mq 0, .inr (9, [.ref (mq 1), .int (nI ps), .int ea, .int (nI nc), .int (nI (stepN ib br d)), .int (st + (nI 1)), .int (so + nI 1), .int sr, .ref (mq 2), .ref (mq 3), .int fe, .int fs, .ref (mq 4), .int (nI se), .ref (mq 5), .ref (mq 6), .int sw, .int ks, .int (nI kbr), .int kst, .int kso, .int (nI kse), .ref (mq 7), .ref (mq 8), .ref (mq 9), .long hs])), (mq 3, .inl (ca 15, 36, .inl (fun zj => bI (ib zj))))]) [0, 1] rfl
    have hD9 := hD.sub (ws' := [(mq 0, .inr (9, [.ref (mq 1), .int (nI ps), .int ea, .int (nI nc), .int (nI (stepN ib br d)), .int (st + (nI 1)), .int (so + nI 1), .int sr, .ref (mq 2), .ref (mq 3), .int fe, .int fs, .ref (mq 4), .int (nI se), .ref (mq 5), .ref (mq 6), .int sw, .int ks, .int (nI kbr), .int kst, .int kso, .int (nI kse), .ref (mq 7), .ref (mq 8), .ref (mq 9), .long hs])), (mq 3, .inl (ca 15, 36, .inl (fun zj => bI (ib zj))))]) [0, 1] (by decide) rfl
    exact W.iret (v := nI (stepN ib br d)) hx hb hr (fun t ht hW => ⟨⟨nI (stepN ib br d), (), rfl, by rfl, by rw [ht]; rw [if_neg c_1]; exact hP9, va_K.moved hW.alike hK, (by rw [if_neg c_1]; exact hD9)⟩, hS.F ht⟩) hS.2.2 dX9_go_51
  · rw [nI_eq (Nat.lt_trans (stepN_lt hbr) (by decide)) (by omega)] at c_1
    refine lv_iconst (v := nI 0) hx hb dX9_go_33 (by decide) ?_
    refine lv_goto (tgt := 38) hx hb dX9_go_34 (by decide) ?_
    refine lv_iadd hx hb dX9_go_38 ?_
    refine lv_ri (y := so) (add0 so) ?_
    refine va_put (D := (dC, dI)) (ci := 9) (v := .int so) (ty := .int) (C := RX9) (T := TX9) (N := 26) hx hb htl iX9 tyX9 tyX9_ok nmX9 hown hK hP hD hS 0 rfl rfl 6 (by decide) (htl _ wd_557) (fun _ h9 => h9) rfl (by decide +kernel) rfl rfl (Nat.le_of_ble_eq_true rfl) dX9_go_39 (fun H locs hP hD hS => ?_)
    have hP : va_P (dC, dI) vwCl [(mq 0, .inr (9, [.ref (mq 1), .int (nI ps), .int ea, .int (nI nc), .int (nI br), .int (st + (nI 1)), .int so, .int sr, .ref (mq 2), .ref (mq 3), .int fe, .int fs, .ref (mq 4), .int (nI se), .ref (mq 5), .ref (mq 6), .int sw, .int ks, .int (nI kbr), .int kst, .int kso, .int (nI kse), .ref (mq 7), .ref (mq 8), .ref (mq 9), .long hs])), (mq 3, .inl (ca 15, 36, .inl (fun zj => bI (ib zj))))] H := hP
    have hD : va_D A [(mq 0, .inr (9, [.ref (mq 1), .int (nI ps), .int ea, .int (nI nc), .int (nI br), .int (st + (nI 1)), .int so, .int sr, .ref (mq 2), .ref (mq 3), .int fe, .int fs, .ref (mq 4), .int (nI se), .ref (mq 5), .ref (mq 6), .int sw, .int ks, .int (nI kbr), .int kst, .int kso, .int (nI kse), .ref (mq 7), .ref (mq 8), .ref (mq 9), .long hs])), (mq 3, .inl (ca 15, 36, .inl (fun zj => bI (ib zj))))] := hD
    refine lv_aload_n hx hb dX9_go_42 rfl (lv_at hl 1 rfl) ?_
    refine lv_iload_n hx hb dX9_go_43 rfl (lv_at hl 0 rfl) ?_
    refine va_put (D := (dC, dI)) (ci := 9) (v := .int (nI (stepN ib br d))) (ty := .int) (C := RX9) (T := TX9) (N := 26) hx hb htl iX9 tyX9 tyX9_ok nmX9 hown hK hP hD hS 0 rfl rfl 4 (by decide) (htl _ wd_555) (fun _ h9 => h9) rfl (by decide +kernel) rfl rfl (Nat.le_of_ble_eq_true rfl) dX9_go_44 (fun H locs hP hD hS => ?_)
    have hP : va_P (dC, dI) vwCl [(mq 0, .inr (9, [.ref (mq 1), .int (nI ps), .int ea, .int (nI nc), .int (nI (stepN ib br d)), .int (st + (nI 1)), .int so, .int sr, .ref (mq 2), .ref (mq 3), .int fe, .int fs, .ref (mq 4), .int (nI se), .ref (mq 5), .ref (mq 6), .int sw, .int ks, .int (nI kbr), .int kst, .int kso, .int (nI kse), .ref (mq 7), .ref (mq 8), .ref (mq 9), .long hs])), (mq 3, .inl (ca 15, 36, .inl (fun zj => bI (ib zj))))] H := hP
    have hD : va_D A [(mq 0, .inr (9, [.ref (mq 1), .int (nI ps), .int ea, .int (nI nc), .int (nI (stepN ib br d)), .int (st + (nI 1)), .int so, .int sr, .ref (mq 2), .ref (mq 3), .int fe, .int fs, .ref (mq 4), .int (nI se), .ref (mq 5), .ref (mq 6), .int sw, .int ks, .int (nI kbr), .int kst, .int kso, .int (nI kse), .ref (mq 7), .ref (mq 8), .ref (mq 9), .long hs])), (mq 3, .inl (ca 15, 36, .inl (fun zj => bI (ib zj))))] := hD
    refine lv_aload_n hx hb dX9_go_47 rfl (lv_at hl 1 rfl) ?_
    refine va_get (D := (dC, dI)) (ci := 9) (v := .int (nI (stepN ib br d))) (C := RX9) (T := TX9) (N := 26) hx hb htl iX9 hown hK hP 0 rfl rfl 4 (by decide) (htl _ wd_555) (fun _ h9 => h9) rfl dX9_go_48 ?_
    have hP9 := hP.sub (ws' := [(mq 0, .inr (9, [.ref (mq 1), .int (nI ps), .int ea, .int (nI nc), .int (nI (stepN ib br d)), .int (st + (nI 1)), .int so, .int sr, .ref (mq 2), .ref (mq 3), .int fe, .int fs, .ref (mq 4), .int (nI se), .ref (mq 5), .ref (mq 6), .int sw, .int ks, .int (nI kbr), .int kst, .int kso, .int (nI kse), .ref (mq 7), .ref (mq 8), .ref (mq 9), .long hs])), (mq 3, .inl (ca 15, 36, .inl (fun zj => bI (ib zj))))]) [0, 1] rfl
    have hD9 := hD.sub (ws' := [(mq 0, .inr (9, [.ref (mq 1), .int (nI ps), .int ea, .int (nI nc), .int (nI (stepN ib br d)), .int (st + (nI 1)), .int so, .int sr, .ref (mq 2), .ref (mq 3), .int fe, .int fs, .ref (mq 4), .int (nI se), .ref (mq 5), .ref (mq 6), .int sw, .int ks, .int (nI kbr), .int kst, .int kso, .int (nI kse), .ref (mq 7), .ref (mq 8), .ref (mq 9), .long hs])), (mq 3, .inl (ca 15, 36, .inl (fun zj => bI (ib zj))))]) [0, 1] (by decide) rfl
    exact W.iret (v := nI (stepN ib br d)) hx hb hr (fun t ht hW => ⟨⟨nI (stepN ib br d), (), rfl, by rfl, by rw [ht]; rw [if_pos c_1]; exact hP9, va_K.moved hW.alike hK, (by rw [if_pos c_1]; exact hD9)⟩, hS.F ht⟩) hS.2.2 dX9_go_51
def tellM (kd hm : Nat → Nat) (ib : Nat → Bool) (br se : Nat) (sn sp sd : Nat → Nat) (i : Nat) (w : Int32) : Int32 :=
  if w = nI 0 then nI (kd i) else if w = nI 1 then nI (hm i) else if w = nI 2 then nI (pointN (kd i) (hm i) br) else if w = nI 3 then nI (trailN ib (kd i) (hm i) 40 br 0).2 else if w = nI 4 then nI (trailN ib (kd i) (hm i) 40 br 0).1 else if w = nI 5 then fewM ib br (hm i) else if w = nI 6 then nI (hmM (chN (kd i) i se sn sp sd) 36 0 (-1)).1 else if w = nI 7 then (hmM (chN (kd i) i se sn sp sd) 36 0 (-1)).2 else if w = nI 8 then lookM (kd i) (chN (kd i) i se sn sp sd) else -102
def needleM (nc : Nat) (kd hm : Nat → Nat) (ib : Nat → Bool) (br se : Nat) (sn sp sd : Nat → Nat) (x w : Int32) : Int32 := if rng x nc = true then tellM kd hm ib br se sn sp sd (tn x) w else -101
set_option maxHeartbeats 4000000 in
set_option maxRecDepth 100000 in
theorem kX9_tell (l : Launch) (dC : Nat → ClassId) (dI : Nat → Nat → Nat) (ca : Nat → ClassId) (sz : Nat) (i : Nat) (x2 : Int32) (kd : Nat → Nat) (nc : Nat) (sr : Int32) (ps : Nat) (br : Nat) (st : Int32) (so : Int32) (se : Nat) (hm : Nat → Nat) (sn : Nat → Nat) (sp : Nat → Nat) (sd : Nat → Nat) (kbr : Nat) (kst : Int32) (kso : Int32) (kse : Nat) (mq : Nat → Nat) (ea : Int32) (fe : Int32) (fs : Int32) (sw : Int32) (ks : Int32) (ib : Nat → Bool) (fa : Nat → Int32) (pa : Nat → Nat) (hs : Int64) (hi : i < 4) (hnc : nc ≤ 4) (hbr : br < 36) (hkd : ∀ j, j < 4 → kd j < 5) (hhm : ∀ j, j < 4 → hm j < 36) (hse : se ≤ 6) (hsn : ∀ j, j < 6 → sn j < 4) (hsp : ∀ j, j < 6 → sp j < 36) (hsd : ∀ j, j < 6 → sd j < 9) : Met l yX9_tell (Cond.code yX9_tell cX9_tell 3 (some .int) :: gT) (rk 6) (EFp (dC, dI) [(mq 0, .inr (9, [.ref (mq 1), .int (nI ps), .int ea, .int (nI nc), .int (nI br), .int st, .int so, .int sr, .ref (mq 2), .ref (mq 3), .int fe, .int fs, .ref (mq 4), .int (nI se), .ref (mq 5), .ref (mq 6), .int sw, .int ks, .int (nI kbr), .int kst, .int kso, .int (nI kse), .ref (mq 7), .ref (mq 8), .ref (mq 9), .long hs])), (mq 2, .inl (ca 14, 8, .inl (fun zj => nI (rwN kd hm zj)))), (mq 3, .inl (ca 15, 36, .inl (fun zj => bI (ib zj)))), (mq 5, .inl (ca 17, 18, .inl (fun zj => nI (sgN sn sp sd zj)))), (mq 4, .inl (ca 16, 36, .inl (fa))), (mq 6, .inl (ca 18, 9, .inl (fun zj => nI (pa zj))))] (TY ca) sz [Value.ref (mq 0), Value.int (nI i), Value.int x2]) (va_Qi (fun (r : Int32) (u : Int32 × Int32 × (Nat → Int32) × (Nat → Nat)) => match u with | (fe2, fs2, fa1, pa1) => r = tellM kd hm ib br se sn sp sd i x2) (EFb (dC, dI) (fun (u : Int32 × Int32 × (Nat → Int32) × (Nat → Nat)) => match u with | (fe2, fs2, fa1, pa1) => [(mq 0, .inr (9, [.ref (mq 1), .int (nI ps), .int ea, .int (nI nc), .int (nI br), .int st, .int so, .int sr, .ref (mq 2), .ref (mq 3), .int fe2, .int fs2, .ref (mq 4), .int (nI se), .ref (mq 5), .ref (mq 6), .int sw, .int ks, .int (nI kbr), .int kst, .int kso, .int (nI kse), .ref (mq 7), .ref (mq 8), .ref (mq 9), .long hs])), (mq 2, .inl (ca 14, 8, .inl (fun zj => nI (rwN kd hm zj)))), (mq 3, .inl (ca 15, 36, .inl (fun zj => bI (ib zj)))), (mq 5, .inl (ca 17, 18, .inl (fun zj => nI (sgN sn sp sd zj)))), (mq 4, .inl (ca 16, 36, .inl (fa1))), (mq 6, .inl (ca 18, 9, .inl (fun zj => nI (pa1 zj))))]) (TY ca) (va_A [(mq 0, .inr (9, [.ref (mq 1), .int (nI ps), .int ea, .int (nI nc), .int (nI br), .int st, .int so, .int sr, .ref (mq 2), .ref (mq 3), .int fe, .int fs, .ref (mq 4), .int (nI se), .ref (mq 5), .ref (mq 6), .int sw, .int ks, .int (nI kbr), .int kst, .int kso, .int (nI kse), .ref (mq 7), .ref (mq 8), .ref (mq 9), .long hs])), (mq 2, .inl (ca 14, 8, .inl (fun zj => nI (rwN kd hm zj)))), (mq 3, .inl (ca 15, 36, .inl (fun zj => bI (ib zj)))), (mq 5, .inl (ca 17, 18, .inl (fun zj => nI (sgN sn sp sd zj)))), (mq 4, .inl (ca 16, 36, .inl (fa))), (mq 6, .inl (ca 18, 9, .inl (fun zj => nI (pa zj))))] sz)) (va_A [(mq 0, .inr (9, [.ref (mq 1), .int (nI ps), .int ea, .int (nI nc), .int (nI br), .int st, .int so, .int sr, .ref (mq 2), .ref (mq 3), .int fe, .int fs, .ref (mq 4), .int (nI se), .ref (mq 5), .ref (mq 6), .int sw, .int ks, .int (nI kbr), .int kst, .int kso, .int (nI kse), .ref (mq 7), .ref (mq 8), .ref (mq 9), .long hs])), (mq 2, .inl (ca 14, 8, .inl (fun zj => nI (rwN kd hm zj)))), (mq 3, .inl (ca 15, 36, .inl (fun zj => bI (ib zj)))), (mq 5, .inl (ca 17, 18, .inl (fun zj => nI (sgN sn sp sd zj)))), (mq 4, .inl (ca 16, 36, .inl (fa))), (mq 6, .inl (ca 18, 9, .inl (fun zj => nI (pa zj))))] sz)) 0 0 (va_A [(mq 0, .inr (9, [.ref (mq 1), .int (nI ps), .int ea, .int (nI nc), .int (nI br), .int st, .int so, .int sr, .ref (mq 2), .ref (mq 3), .int fe, .int fs, .ref (mq 4), .int (nI se), .ref (mq 5), .ref (mq 6), .int sw, .int ks, .int (nI kbr), .int kst, .int kso, .int (nI kse), .ref (mq 7), .ref (mq 8), .ref (mq 9), .long hs])), (mq 2, .inl (ca 14, 8, .inl (fun zj => nI (rwN kd hm zj)))), (mq 3, .inl (ca 15, 36, .inl (fun zj => bI (ib zj)))), (mq 5, .inl (ca 17, 18, .inl (fun zj => nI (sgN sn sp sd zj)))), (mq 4, .inl (ca 16, 36, .inl (fa))), (mq 6, .inl (ca 18, 9, .inl (fun zj => nI (pa zj))))] sz) := by
  refine Met.ofW (cc := cX9_tell) (maxL := 3) (ret := (some .int)) (by decide) rfl ?_
  intro p e s m args below meth c s₁ B hml hv
  obtain ⟨rfl, hsz, hP, hK, hD0⟩ := hv
  have hx := B.exec
  have hb := B.bytes
  have hr := B.returns
  have hts := atoms_spec (ws := (Cond.code yX9_tell cX9_tell 3 (some .int) :: gT)) B.pre
  have htl : ∀ w ∈ gT, w.before _ s = true := fun w h => hts w (List.mem_cons_of_mem _ h)
  have hown : s.vm.findClass RX9 = some m.cls := findClass_of_methodNamed B.named
  have hlocks := B.notSynchronized
  subst hsz
  have hD := hD0.self (sz := s.heap.size)
  generalize hAe : va_A [(mq 0, .inr (9, [.ref (mq 1), .int (nI ps), .int ea, .int (nI nc), .int (nI br), .int st, .int so, .int sr, .ref (mq 2), .ref (mq 3), .int fe, .int fs, .ref (mq 4), .int (nI se), .ref (mq 5), .ref (mq 6), .int sw, .int ks, .int (nI kbr), .int kst, .int kso, .int (nI kse), .ref (mq 7), .ref (mq 8), .ref (mq 9), .long hs])), (mq 2, .inl (ca 14, 8, .inl (fun zj => nI (rwN kd hm zj)))), (mq 3, .inl (ca 15, 36, .inl (fun zj => bI (ib zj)))), (mq 5, .inl (ca 17, 18, .inl (fun zj => nI (sgN sn sp sd zj)))), (mq 4, .inl (ca 16, 36, .inl (fa))), (mq 6, .inl (ca 18, 9, .inl (fun zj => nI (pa zj))))] s.heap.size = A at hD ⊢
  have hA : ∀ q : Nat, s.heap.size ≤ q → A q := fun q h => by rw [← hAe]; exact Or.inr h
  have hS : va_S A s.heap s.heap [] := va_S.rf
  have hl := lv_entry ([Value.ref (mq 0), Value.int (nI i), Value.int x2]) (n := 3) (Nat.le_of_ble_eq_true rfl)
  rw [lg_entry_eq]
  generalize (lg_sl ([Value.ref (mq 0), Value.int (nI i), Value.int x2]) ++ List.replicate (3 - (lg_sl ([Value.ref (mq 0), Value.int (nI i), Value.int x2])).length) Slot.unset).toArray = ls at hl ⊢
  have hl : lv_has ls 3 [(0, .ref (mq 0)), (1, .int (nI i)), (2, .int x2)] := hl
  refine lv_iload_n hx hb dX9_tell_0 rfl (lv_at hl 2 rfl) ?_
  by_cases c_1 : x2 = nI 0
  · subst c_1
    refine lv_tableIn (off := 51) (tgt := 52) hx hb dX9_tell_1 (by decide) (by decide) rfl (by decide) ?_
    refine lv_aload_n hx hb dX9_tell_52 rfl (lv_at hl 0 rfl) ?_
    refine va_get (D := (dC, dI)) (ci := 9) (v := .ref (mq 2)) (C := RX9) (T := TX9) (N := 26) hx hb htl iX9 hown hK hP 0 rfl rfl 8 (by decide) (htl _ wd_559) (fun _ h9 => h9) rfl dX9_tell_53 ?_
    refine lv_iconst (v := nI 2) hx hb dX9_tell_56 (by decide) ?_
    refine lv_iload_n hx hb dX9_tell_57 rfl (lv_at hl 1 rfl) ?_
    refine lv_imul hx hb dX9_tell_58 ?_
    refine lv_ri (y := nI (2 * i)) (pk_mul 2 i) ?_
    refine lv_iload_n hx hb dX9_tell_59 rfl (lv_at hl 2 rfl) ?_
    refine lv_iadd hx hb dX9_tell_60 ?_
    refine lv_ri (y := nI ((2 * i) + 0)) (nI_add (2 * i) 0) ?_
    refine va_iald hx hb hK hP 1 14 rfl rfl (vp_in_nI (by omega) (by decide)) dX9_tell_61 ?_
    refine lv_ri (y := nI ((rwN kd hm) ((2 * i) + 0))) (congrArg (fun zj => nI (rwN kd hm zj)) (nI_clamp (by omega))) ?_
    refine lv_ri (y := nI (kd i)) (congrArg nI (rwN_e kd hm i)) ?_
    have hP9 := hP.sub (ws' := [(mq 0, .inr (9, [.ref (mq 1), .int (nI ps), .int ea, .int (nI nc), .int (nI br), .int st, .int so, .int sr, .ref (mq 2), .ref (mq 3), .int fe, .int fs, .ref (mq 4), .int (nI se), .ref (mq 5), .ref (mq 6), .int sw, .int ks, .int (nI kbr), .int kst, .int kso, .int (nI kse), .ref (mq 7), .ref (mq 8), .ref (mq 9), .long hs])), (mq 2, .inl (ca 14, 8, .inl (fun zj => nI (rwN kd hm zj)))), (mq 3, .inl (ca 15, 36, .inl (fun zj => bI (ib zj)))), (mq 5, .inl (ca 17, 18, .inl (fun zj => nI (sgN sn sp sd zj)))), (mq 4, .inl (ca 16, 36, .inl (fa))), (mq 6, .inl (ca 18, 9, .inl (fun zj => nI (pa zj))))]) [0, 1, 2, 3, 4, 5] rfl
    have hD9 := hD.sub (ws' := [(mq 0, .inr (9, [.ref (mq 1), .int (nI ps), .int ea, .int (nI nc), .int (nI br), .int st, .int so, .int sr, .ref (mq 2), .ref (mq 3), .int fe, .int fs, .ref (mq 4), .int (nI se), .ref (mq 5), .ref (mq 6), .int sw, .int ks, .int (nI kbr), .int kst, .int kso, .int (nI kse), .ref (mq 7), .ref (mq 8), .ref (mq 9), .long hs])), (mq 2, .inl (ca 14, 8, .inl (fun zj => nI (rwN kd hm zj)))), (mq 3, .inl (ca 15, 36, .inl (fun zj => bI (ib zj)))), (mq 5, .inl (ca 17, 18, .inl (fun zj => nI (sgN sn sp sd zj)))), (mq 4, .inl (ca 16, 36, .inl (fa))), (mq 6, .inl (ca 18, 9, .inl (fun zj => nI (pa zj))))]) [0, 1, 2, 3, 4, 5] (by decide) rfl
    exact W.iret (v := nI (kd i)) hx hb hr (fun t ht hW => ⟨⟨nI (kd i), (fe, fs, fa, pa), rfl, by show _ = _; unfold tellM; rw [if_pos rfl], by rw [ht]; exact hP9, va_K.moved hW.alike hK, hD9⟩, hS.F ht⟩) hS.2.2 dX9_tell_62
  by_cases c_2 : x2 = nI 1
  · subst c_2
    refine lv_tableIn (off := 51) (tgt := 52) hx hb dX9_tell_1 (by decide) (by decide) rfl (by decide) ?_
    refine lv_aload_n hx hb dX9_tell_52 rfl (lv_at hl 0 rfl) ?_
    refine va_get (D := (dC, dI)) (ci := 9) (v := .ref (mq 2)) (C := RX9) (T := TX9) (N := 26) hx hb htl iX9 hown hK hP 0 rfl rfl 8 (by decide) (htl _ wd_559) (fun _ h9 => h9) rfl dX9_tell_53 ?_
    refine lv_iconst (v := nI 2) hx hb dX9_tell_56 (by decide) ?_
    refine lv_iload_n hx hb dX9_tell_57 rfl (lv_at hl 1 rfl) ?_
    refine lv_imul hx hb dX9_tell_58 ?_
    refine lv_ri (y := nI (2 * i)) (pk_mul 2 i) ?_
    refine lv_iload_n hx hb dX9_tell_59 rfl (lv_at hl 2 rfl) ?_
    refine lv_iadd hx hb dX9_tell_60 ?_
    refine lv_ri (y := nI ((2 * i) + 1)) (nI_add (2 * i) 1) ?_
    refine va_iald hx hb hK hP 1 14 rfl rfl (vp_in_nI (by omega) (by decide)) dX9_tell_61 ?_
    refine lv_ri (y := nI ((rwN kd hm) ((2 * i) + 1))) (congrArg (fun zj => nI (rwN kd hm zj)) (nI_clamp (by omega))) ?_
    refine lv_ri (y := nI (hm i)) (congrArg nI (rwN_o kd hm i)) ?_
    have hP9 := hP.sub (ws' := [(mq 0, .inr (9, [.ref (mq 1), .int (nI ps), .int ea, .int (nI nc), .int (nI br), .int st, .int so, .int sr, .ref (mq 2), .ref (mq 3), .int fe, .int fs, .ref (mq 4), .int (nI se), .ref (mq 5), .ref (mq 6), .int sw, .int ks, .int (nI kbr), .int kst, .int kso, .int (nI kse), .ref (mq 7), .ref (mq 8), .ref (mq 9), .long hs])), (mq 2, .inl (ca 14, 8, .inl (fun zj => nI (rwN kd hm zj)))), (mq 3, .inl (ca 15, 36, .inl (fun zj => bI (ib zj)))), (mq 5, .inl (ca 17, 18, .inl (fun zj => nI (sgN sn sp sd zj)))), (mq 4, .inl (ca 16, 36, .inl (fa))), (mq 6, .inl (ca 18, 9, .inl (fun zj => nI (pa zj))))]) [0, 1, 2, 3, 4, 5] rfl
    have hD9 := hD.sub (ws' := [(mq 0, .inr (9, [.ref (mq 1), .int (nI ps), .int ea, .int (nI nc), .int (nI br), .int st, .int so, .int sr, .ref (mq 2), .ref (mq 3), .int fe, .int fs, .ref (mq 4), .int (nI se), .ref (mq 5), .ref (mq 6), .int sw, .int ks, .int (nI kbr), .int kst, .int kso, .int (nI kse), .ref (mq 7), .ref (mq 8), .ref (mq 9), .long hs])), (mq 2, .inl (ca 14, 8, .inl (fun zj => nI (rwN kd hm zj)))), (mq 3, .inl (ca 15, 36, .inl (fun zj => bI (ib zj)))), (mq 5, .inl (ca 17, 18, .inl (fun zj => nI (sgN sn sp sd zj)))), (mq 4, .inl (ca 16, 36, .inl (fa))), (mq 6, .inl (ca 18, 9, .inl (fun zj => nI (pa zj))))]) [0, 1, 2, 3, 4, 5] (by decide) rfl
    exact W.iret (v := nI (hm i)) hx hb hr (fun t ht hW => ⟨⟨nI (hm i), (fe, fs, fa, pa), rfl, by show _ = _; unfold tellM; rw [if_neg (by decide), if_pos rfl], by rw [ht]; exact hP9, va_K.moved hW.alike hK, hD9⟩, hS.F ht⟩) hS.2.2 dX9_tell_62
  by_cases c_3 : x2 = nI 2
  · subst c_3
    refine lv_tableIn (off := 62) (tgt := 63) hx hb dX9_tell_1 (by decide) (by decide) rfl (by decide) ?_
    refine lv_aload_n hx hb dX9_tell_63 rfl (lv_at hl 0 rfl) ?_
    refine lv_iload_n hx hb dX9_tell_64 rfl (lv_at hl 1 rfl) ?_
    refine lv_aload_n hx hb dX9_tell_65 rfl (lv_at hl 0 rfl) ?_
    refine va_get (D := (dC, dI)) (ci := 9) (v := .int (nI br)) (C := RX9) (T := TX9) (N := 26) hx hb htl iX9 hown hK hP 0 rfl rfl 4 (by decide) (htl _ wd_555) (fun _ h9 => h9) rfl dX9_tell_66 ?_
    refine roV (As := [Value.int (nI i), Value.int (nI br)]) (rest := []) (kX9_pointsOf l dC dI ca i br kd nc sr ps br st so se hm kbr kst kso kse mq ea fe fs sw ks hs hi hbr hkd hhm) ⟨hx, hb, hml, hown, htl⟩ (cVg (C := RX9) 2 htl wd_682 wd_684 wp_20 wd_6 wd_685 rfl rfl (by decide +kernel) ⟨Nat.le_of_ble_eq_true rfl, Nat.le_of_ble_eq_true rfl⟩) (hP.sub [0, 1] rfl) hK (va_recv hK hP (ci := 9) (q0 := 0) rfl rfl) rfl hl.1 rfl (Nat.le_of_ble_eq_true rfl) dX9_tell_69 ⟨Nat.zero_le _, Nat.zero_le _⟩ (fun r hr9 => ?_)
    subst hr9
    have hP9 := hP.sub (ws' := [(mq 0, .inr (9, [.ref (mq 1), .int (nI ps), .int ea, .int (nI nc), .int (nI br), .int st, .int so, .int sr, .ref (mq 2), .ref (mq 3), .int fe, .int fs, .ref (mq 4), .int (nI se), .ref (mq 5), .ref (mq 6), .int sw, .int ks, .int (nI kbr), .int kst, .int kso, .int (nI kse), .ref (mq 7), .ref (mq 8), .ref (mq 9), .long hs])), (mq 2, .inl (ca 14, 8, .inl (fun zj => nI (rwN kd hm zj)))), (mq 3, .inl (ca 15, 36, .inl (fun zj => bI (ib zj)))), (mq 5, .inl (ca 17, 18, .inl (fun zj => nI (sgN sn sp sd zj)))), (mq 4, .inl (ca 16, 36, .inl (fa))), (mq 6, .inl (ca 18, 9, .inl (fun zj => nI (pa zj))))]) [0, 1, 2, 3, 4, 5] rfl
    have hD9 := hD.sub (ws' := [(mq 0, .inr (9, [.ref (mq 1), .int (nI ps), .int ea, .int (nI nc), .int (nI br), .int st, .int so, .int sr, .ref (mq 2), .ref (mq 3), .int fe, .int fs, .ref (mq 4), .int (nI se), .ref (mq 5), .ref (mq 6), .int sw, .int ks, .int (nI kbr), .int kst, .int kso, .int (nI kse), .ref (mq 7), .ref (mq 8), .ref (mq 9), .long hs])), (mq 2, .inl (ca 14, 8, .inl (fun zj => nI (rwN kd hm zj)))), (mq 3, .inl (ca 15, 36, .inl (fun zj => bI (ib zj)))), (mq 5, .inl (ca 17, 18, .inl (fun zj => nI (sgN sn sp sd zj)))), (mq 4, .inl (ca 16, 36, .inl (fa))), (mq 6, .inl (ca 18, 9, .inl (fun zj => nI (pa zj))))]) [0, 1, 2, 3, 4, 5] (by decide) rfl
    exact W.iret (v := nI (pointN (kd i) (hm i) br)) hx hb hr (fun t ht hW => ⟨⟨nI (pointN (kd i) (hm i) br), (fe, fs, fa, pa), rfl, by show _ = _; unfold tellM; rw [if_neg (by decide), if_neg (by decide), if_pos rfl], by rw [ht]; exact hP9, va_K.moved hW.alike hK, hD9⟩, hS.F ht⟩) hS.2.2 dX9_tell_72
  by_cases c_4 : x2 = nI 3
  · subst c_4
    refine lv_tableIn (off := 72) (tgt := 73) hx hb dX9_tell_1 (by decide) (by decide) rfl (by decide) ?_
    refine lv_aload_n hx hb dX9_tell_73 rfl (lv_at hl 0 rfl) ?_
    refine lv_iload_n hx hb dX9_tell_74 rfl (lv_at hl 1 rfl) ?_
    refine lv_iload_n hx hb dX9_tell_75 rfl (lv_at hl 2 rfl) ?_
    refine efV (As := [Value.int (nI i), Value.int (nI 3)]) (rest := []) (wr := [(mq 5, .inl (ca 17, 18, .inl (fun zj => nI (sgN sn sp sd zj)))), (mq 4, .inl (ca 16, 36, .inl (fa))), (mq 6, .inl (ca 18, 9, .inl (fun zj => nI (pa zj))))]) (kX9_followOf l dC dI ca _ i (nI 3) kd nc sr ps br st so se hm kbr kst kso kse mq ea fe fs sw ks ib hs hi hbr hkd hhm) ⟨hx, hb, hml, hown, htl⟩ (cVg (C := RX9) 2 htl wd_695 wd_697 wp_21 wd_6 wd_698 rfl rfl (by decide +kernel) ⟨Nat.le_of_ble_eq_true rfl, Nat.le_of_ble_eq_true rfl⟩) hP hD hS hA hK [0, 1, 2] [3, 4, 5] rfl rfl (by decide) (by decide) (by decide) (va_recv hK hP (ci := 9) (q0 := 0) rfl rfl) rfl hl.1 rfl (Nat.le_of_ble_eq_true rfl) dX9_tell_76 ⟨Nat.zero_le _, Nat.zero_le _⟩ (fun r_5 u H locs hw_76 hP hD hS => ?_)
    have hP : va_P (dC, dI) vwCl [(mq 5, .inl (ca 17, 18, .inl (fun zj => nI (sgN sn sp sd zj)))), (mq 4, .inl (ca 16, 36, .inl (fa))), (mq 6, .inl (ca 18, 9, .inl (fun zj => nI (pa zj)))), (mq 0, .inr (9, [.ref (mq 1), .int (nI ps), .int ea, .int (nI nc), .int (nI br), .int st, .int so, .int sr, .ref (mq 2), .ref (mq 3), .int (nI ((trailN ib (kd i) (hm i) 40 br 0).1)), .int (nI ((trailN ib (kd i) (hm i) 40 br 0).2)), .ref (mq 4), .int (nI se), .ref (mq 5), .ref (mq 6), .int sw, .int ks, .int (nI kbr), .int kst, .int kso, .int (nI kse), .ref (mq 7), .ref (mq 8), .ref (mq 9), .long hs])), (mq 2, .inl (ca 14, 8, .inl (fun zj => nI (rwN kd hm zj)))), (mq 3, .inl (ca 15, 36, .inl (fun zj => bI (ib zj))))] H := hP
    have hD : va_D A [(mq 5, .inl (ca 17, 18, .inl (fun zj => nI (sgN sn sp sd zj)))), (mq 4, .inl (ca 16, 36, .inl (fa))), (mq 6, .inl (ca 18, 9, .inl (fun zj => nI (pa zj)))), (mq 0, .inr (9, [.ref (mq 1), .int (nI ps), .int ea, .int (nI nc), .int (nI br), .int st, .int so, .int sr, .ref (mq 2), .ref (mq 3), .int (nI ((trailN ib (kd i) (hm i) 40 br 0).1)), .int (nI ((trailN ib (kd i) (hm i) 40 br 0).2)), .ref (mq 4), .int (nI se), .ref (mq 5), .ref (mq 6), .int sw, .int ks, .int (nI kbr), .int kst, .int kso, .int (nI kse), .ref (mq 7), .ref (mq 8), .ref (mq 9), .long hs])), (mq 2, .inl (ca 14, 8, .inl (fun zj => nI (rwN kd hm zj)))), (mq 3, .inl (ca 15, 36, .inl (fun zj => bI (ib zj))))] := hD
    have hw_76 : r_5 = if (nI 3) = nI 3 then nI (trailN ib (kd i) (hm i) 40 br 0).2 else nI (trailN ib (kd i) (hm i) 40 br 0).1 := hw_76
    refine lv_ri (y := if (nI 3) = nI 3 then nI (trailN ib (kd i) (hm i) 40 br 0).2 else nI (trailN ib (kd i) (hm i) 40 br 0).1) hw_76 ?_
    refine lv_ri (y := nI ((trailN ib (kd i) (hm i) 40 br 0).2)) (if_pos rfl) ?_
    have hP9 := hP.sub (ws' := [(mq 0, .inr (9, [.ref (mq 1), .int (nI ps), .int ea, .int (nI nc), .int (nI br), .int st, .int so, .int sr, .ref (mq 2), .ref (mq 3), .int (nI ((trailN ib (kd i) (hm i) 40 br 0).1)), .int (nI ((trailN ib (kd i) (hm i) 40 br 0).2)), .ref (mq 4), .int (nI se), .ref (mq 5), .ref (mq 6), .int sw, .int ks, .int (nI kbr), .int kst, .int kso, .int (nI kse), .ref (mq 7), .ref (mq 8), .ref (mq 9), .long hs])), (mq 2, .inl (ca 14, 8, .inl (fun zj => nI (rwN kd hm zj)))), (mq 3, .inl (ca 15, 36, .inl (fun zj => bI (ib zj)))), (mq 5, .inl (ca 17, 18, .inl (fun zj => nI (sgN sn sp sd zj)))), (mq 4, .inl (ca 16, 36, .inl (fa))), (mq 6, .inl (ca 18, 9, .inl (fun zj => nI (pa zj))))]) [3, 4, 5, 0, 1, 2] rfl
    have hD9 := hD.sub (ws' := [(mq 0, .inr (9, [.ref (mq 1), .int (nI ps), .int ea, .int (nI nc), .int (nI br), .int st, .int so, .int sr, .ref (mq 2), .ref (mq 3), .int (nI ((trailN ib (kd i) (hm i) 40 br 0).1)), .int (nI ((trailN ib (kd i) (hm i) 40 br 0).2)), .ref (mq 4), .int (nI se), .ref (mq 5), .ref (mq 6), .int sw, .int ks, .int (nI kbr), .int kst, .int kso, .int (nI kse), .ref (mq 7), .ref (mq 8), .ref (mq 9), .long hs])), (mq 2, .inl (ca 14, 8, .inl (fun zj => nI (rwN kd hm zj)))), (mq 3, .inl (ca 15, 36, .inl (fun zj => bI (ib zj)))), (mq 5, .inl (ca 17, 18, .inl (fun zj => nI (sgN sn sp sd zj)))), (mq 4, .inl (ca 16, 36, .inl (fa))), (mq 6, .inl (ca 18, 9, .inl (fun zj => nI (pa zj))))]) [3, 4, 5, 0, 1, 2] (by decide) rfl
    exact W.iret (v := nI ((trailN ib (kd i) (hm i) 40 br 0).2)) hx hb hr (fun t ht hW => ⟨⟨nI ((trailN ib (kd i) (hm i) 40 br 0).2), (nI ((trailN ib (kd i) (hm i) 40 br 0).1), nI ((trailN ib (kd i) (hm i) 40 br 0).2), fa, pa), rfl, by show _ = _; unfold tellM; rw [if_neg (by decide), if_neg (by decide), if_neg (by decide), if_pos rfl], by rw [ht]; exact hP9, va_K.moved hW.alike hK, hD9⟩, hS.F ht⟩) hS.2.2 dX9_tell_79
  by_cases c_6 : x2 = nI 4
  · subst c_6
    refine lv_tableIn (off := 72) (tgt := 73) hx hb dX9_tell_1 (by decide) (by decide) rfl (by decide) ?_
    refine lv_aload_n hx hb dX9_tell_73 rfl (lv_at hl 0 rfl) ?_
    refine lv_iload_n hx hb dX9_tell_74 rfl (lv_at hl 1 rfl) ?_
    refine lv_iload_n hx hb dX9_tell_75 rfl (lv_at hl 2 rfl) ?_
    refine efV (As := [Value.int (nI i), Value.int (nI 4)]) (rest := []) (wr := [(mq 5, .inl (ca 17, 18, .inl (fun zj => nI (sgN sn sp sd zj)))), (mq 4, .inl (ca 16, 36, .inl (fa))), (mq 6, .inl (ca 18, 9, .inl (fun zj => nI (pa zj))))]) (kX9_followOf l dC dI ca _ i (nI 4) kd nc sr ps br st so se hm kbr kst kso kse mq ea fe fs sw ks ib hs hi hbr hkd hhm) ⟨hx, hb, hml, hown, htl⟩ (cVg (C := RX9) 2 htl wd_695 wd_697 wp_21 wd_6 wd_698 rfl rfl (by decide +kernel) ⟨Nat.le_of_ble_eq_true rfl, Nat.le_of_ble_eq_true rfl⟩) hP hD hS hA hK [0, 1, 2] [3, 4, 5] rfl rfl (by decide) (by decide) (by decide) (va_recv hK hP (ci := 9) (q0 := 0) rfl rfl) rfl hl.1 rfl (Nat.le_of_ble_eq_true rfl) dX9_tell_76 ⟨Nat.zero_le _, Nat.zero_le _⟩ (fun r_7 u H locs hw_76 hP hD hS => ?_)
    have hP : va_P (dC, dI) vwCl [(mq 5, .inl (ca 17, 18, .inl (fun zj => nI (sgN sn sp sd zj)))), (mq 4, .inl (ca 16, 36, .inl (fa))), (mq 6, .inl (ca 18, 9, .inl (fun zj => nI (pa zj)))), (mq 0, .inr (9, [.ref (mq 1), .int (nI ps), .int ea, .int (nI nc), .int (nI br), .int st, .int so, .int sr, .ref (mq 2), .ref (mq 3), .int (nI ((trailN ib (kd i) (hm i) 40 br 0).1)), .int (nI ((trailN ib (kd i) (hm i) 40 br 0).2)), .ref (mq 4), .int (nI se), .ref (mq 5), .ref (mq 6), .int sw, .int ks, .int (nI kbr), .int kst, .int kso, .int (nI kse), .ref (mq 7), .ref (mq 8), .ref (mq 9), .long hs])), (mq 2, .inl (ca 14, 8, .inl (fun zj => nI (rwN kd hm zj)))), (mq 3, .inl (ca 15, 36, .inl (fun zj => bI (ib zj))))] H := hP
    have hD : va_D A [(mq 5, .inl (ca 17, 18, .inl (fun zj => nI (sgN sn sp sd zj)))), (mq 4, .inl (ca 16, 36, .inl (fa))), (mq 6, .inl (ca 18, 9, .inl (fun zj => nI (pa zj)))), (mq 0, .inr (9, [.ref (mq 1), .int (nI ps), .int ea, .int (nI nc), .int (nI br), .int st, .int so, .int sr, .ref (mq 2), .ref (mq 3), .int (nI ((trailN ib (kd i) (hm i) 40 br 0).1)), .int (nI ((trailN ib (kd i) (hm i) 40 br 0).2)), .ref (mq 4), .int (nI se), .ref (mq 5), .ref (mq 6), .int sw, .int ks, .int (nI kbr), .int kst, .int kso, .int (nI kse), .ref (mq 7), .ref (mq 8), .ref (mq 9), .long hs])), (mq 2, .inl (ca 14, 8, .inl (fun zj => nI (rwN kd hm zj)))), (mq 3, .inl (ca 15, 36, .inl (fun zj => bI (ib zj))))] := hD
    have hw_76 : r_7 = if (nI 4) = nI 3 then nI (trailN ib (kd i) (hm i) 40 br 0).2 else nI (trailN ib (kd i) (hm i) 40 br 0).1 := hw_76
    refine lv_ri (y := if (nI 4) = nI 3 then nI (trailN ib (kd i) (hm i) 40 br 0).2 else nI (trailN ib (kd i) (hm i) 40 br 0).1) hw_76 ?_
    refine lv_ri (y := nI ((trailN ib (kd i) (hm i) 40 br 0).1)) (if_neg (by decide)) ?_
    have hP9 := hP.sub (ws' := [(mq 0, .inr (9, [.ref (mq 1), .int (nI ps), .int ea, .int (nI nc), .int (nI br), .int st, .int so, .int sr, .ref (mq 2), .ref (mq 3), .int (nI ((trailN ib (kd i) (hm i) 40 br 0).1)), .int (nI ((trailN ib (kd i) (hm i) 40 br 0).2)), .ref (mq 4), .int (nI se), .ref (mq 5), .ref (mq 6), .int sw, .int ks, .int (nI kbr), .int kst, .int kso, .int (nI kse), .ref (mq 7), .ref (mq 8), .ref (mq 9), .long hs])), (mq 2, .inl (ca 14, 8, .inl (fun zj => nI (rwN kd hm zj)))), (mq 3, .inl (ca 15, 36, .inl (fun zj => bI (ib zj)))), (mq 5, .inl (ca 17, 18, .inl (fun zj => nI (sgN sn sp sd zj)))), (mq 4, .inl (ca 16, 36, .inl (fa))), (mq 6, .inl (ca 18, 9, .inl (fun zj => nI (pa zj))))]) [3, 4, 5, 0, 1, 2] rfl
    have hD9 := hD.sub (ws' := [(mq 0, .inr (9, [.ref (mq 1), .int (nI ps), .int ea, .int (nI nc), .int (nI br), .int st, .int so, .int sr, .ref (mq 2), .ref (mq 3), .int (nI ((trailN ib (kd i) (hm i) 40 br 0).1)), .int (nI ((trailN ib (kd i) (hm i) 40 br 0).2)), .ref (mq 4), .int (nI se), .ref (mq 5), .ref (mq 6), .int sw, .int ks, .int (nI kbr), .int kst, .int kso, .int (nI kse), .ref (mq 7), .ref (mq 8), .ref (mq 9), .long hs])), (mq 2, .inl (ca 14, 8, .inl (fun zj => nI (rwN kd hm zj)))), (mq 3, .inl (ca 15, 36, .inl (fun zj => bI (ib zj)))), (mq 5, .inl (ca 17, 18, .inl (fun zj => nI (sgN sn sp sd zj)))), (mq 4, .inl (ca 16, 36, .inl (fa))), (mq 6, .inl (ca 18, 9, .inl (fun zj => nI (pa zj))))]) [3, 4, 5, 0, 1, 2] (by decide) rfl
    exact W.iret (v := nI ((trailN ib (kd i) (hm i) 40 br 0).1)) hx hb hr (fun t ht hW => ⟨⟨nI ((trailN ib (kd i) (hm i) 40 br 0).1), (nI ((trailN ib (kd i) (hm i) 40 br 0).1), nI ((trailN ib (kd i) (hm i) 40 br 0).2), fa, pa), rfl, by show _ = _; unfold tellM; rw [if_neg (by decide), if_neg (by decide), if_neg (by decide), if_neg (by decide), if_pos rfl], by rw [ht]; exact hP9, va_K.moved hW.alike hK, hD9⟩, hS.F ht⟩) hS.2.2 dX9_tell_79
  by_cases c_8 : x2 = nI 5
  · subst c_8
    refine lv_tableIn (off := 79) (tgt := 80) hx hb dX9_tell_1 (by decide) (by decide) rfl (by decide) ?_
    refine lv_aload_n hx hb dX9_tell_80 rfl (lv_at hl 0 rfl) ?_
    refine lv_aload_n hx hb dX9_tell_81 rfl (lv_at hl 0 rfl) ?_
    refine va_get (D := (dC, dI)) (ci := 9) (v := .ref (mq 2)) (C := RX9) (T := TX9) (N := 26) hx hb htl iX9 hown hK hP 0 rfl rfl 8 (by decide) (htl _ wd_559) (fun _ h9 => h9) rfl dX9_tell_82 ?_
    refine lv_iconst (v := nI 2) hx hb dX9_tell_85 (by decide) ?_
    refine lv_iload_n hx hb dX9_tell_86 rfl (lv_at hl 1 rfl) ?_
    refine lv_imul hx hb dX9_tell_87 ?_
    refine lv_ri (y := nI (2 * i)) (pk_mul 2 i) ?_
    refine lv_iconst (v := nI 1) hx hb dX9_tell_88 (by decide) ?_
    refine lv_iadd hx hb dX9_tell_89 ?_
    refine lv_ri (y := nI ((2 * i) + 1)) (nI_add (2 * i) 1) ?_
    refine va_iald hx hb hK hP 1 14 rfl rfl (vp_in_nI (by omega) (by decide)) dX9_tell_90 ?_
    refine lv_ri (y := nI ((rwN kd hm) ((2 * i) + 1))) (congrArg (fun zj => nI (rwN kd hm zj)) (nI_clamp (by omega))) ?_
    refine lv_ri (y := nI (hm i)) (congrArg nI (rwN_o kd hm i)) ?_
    refine efV (As := [Value.int (nI (hm i))]) (rest := []) (wr := [(mq 2, .inl (ca 14, 8, .inl (fun zj => nI (rwN kd hm zj)))), (mq 5, .inl (ca 17, 18, .inl (fun zj => nI (sgN sn sp sd zj)))), (mq 6, .inl (ca 18, 9, .inl (fun zj => nI (pa zj))))]) (kX9_fewOf l dC dI ca _ (hm i) nc sr ps br st so se kbr kst kso kse mq ea fe fs sw ks ib fa hs (hhm i hi) hbr) ⟨hx, hb, hml, hown, htl⟩ (cVg (C := RX9) 1 htl wd_708 wd_710 wp_24 wd_6 wd_711 rfl rfl (by decide +kernel) ⟨Nat.le_of_ble_eq_true rfl, Nat.le_of_ble_eq_true rfl⟩) hP hD hS hA hK [0, 2, 4] [1, 3, 5] rfl rfl (by decide) (by decide) (by decide) (va_recv hK hP (ci := 9) (q0 := 0) rfl rfl) rfl hl.1 rfl (Nat.le_of_ble_eq_true rfl) dX9_tell_91 ⟨Nat.zero_le _, Nat.zero_le _⟩ (fun r_10 u H locs hw_91 hP hD hS => ?_)
    obtain ⟨fa1_9, rfl⟩ : ∃ z, z = u := ⟨_, rfl⟩
    have hP : va_P (dC, dI) vwCl [(mq 2, .inl (ca 14, 8, .inl (fun zj => nI (rwN kd hm zj)))), (mq 5, .inl (ca 17, 18, .inl (fun zj => nI (sgN sn sp sd zj)))), (mq 6, .inl (ca 18, 9, .inl (fun zj => nI (pa zj)))), (mq 0, .inr (9, [.ref (mq 1), .int (nI ps), .int ea, .int (nI nc), .int (nI br), .int st, .int so, .int sr, .ref (mq 2), .ref (mq 3), .int fe, .int fs, .ref (mq 4), .int (nI se), .ref (mq 5), .ref (mq 6), .int sw, .int ks, .int (nI kbr), .int kst, .int kso, .int (nI kse), .ref (mq 7), .ref (mq 8), .ref (mq 9), .long hs])), (mq 3, .inl (ca 15, 36, .inl (fun zj => bI (ib zj)))), (mq 4, .inl (ca 16, 36, .inl (fa1_9)))] H := hP
    have hD : va_D A [(mq 2, .inl (ca 14, 8, .inl (fun zj => nI (rwN kd hm zj)))), (mq 5, .inl (ca 17, 18, .inl (fun zj => nI (sgN sn sp sd zj)))), (mq 6, .inl (ca 18, 9, .inl (fun zj => nI (pa zj)))), (mq 0, .inr (9, [.ref (mq 1), .int (nI ps), .int ea, .int (nI nc), .int (nI br), .int st, .int so, .int sr, .ref (mq 2), .ref (mq 3), .int fe, .int fs, .ref (mq 4), .int (nI se), .ref (mq 5), .ref (mq 6), .int sw, .int ks, .int (nI kbr), .int kst, .int kso, .int (nI kse), .ref (mq 7), .ref (mq 8), .ref (mq 9), .long hs])), (mq 3, .inl (ca 15, 36, .inl (fun zj => bI (ib zj)))), (mq 4, .inl (ca 16, 36, .inl (fa1_9)))] := hD
    have hw_91 : r_10 = fewM ib br (hm i) := hw_91
    refine lv_ri (y := fewM ib br (hm i)) hw_91 ?_
    have hP9 := hP.sub (ws' := [(mq 0, .inr (9, [.ref (mq 1), .int (nI ps), .int ea, .int (nI nc), .int (nI br), .int st, .int so, .int sr, .ref (mq 2), .ref (mq 3), .int fe, .int fs, .ref (mq 4), .int (nI se), .ref (mq 5), .ref (mq 6), .int sw, .int ks, .int (nI kbr), .int kst, .int kso, .int (nI kse), .ref (mq 7), .ref (mq 8), .ref (mq 9), .long hs])), (mq 2, .inl (ca 14, 8, .inl (fun zj => nI (rwN kd hm zj)))), (mq 3, .inl (ca 15, 36, .inl (fun zj => bI (ib zj)))), (mq 5, .inl (ca 17, 18, .inl (fun zj => nI (sgN sn sp sd zj)))), (mq 4, .inl (ca 16, 36, .inl (fa1_9))), (mq 6, .inl (ca 18, 9, .inl (fun zj => nI (pa zj))))]) [3, 0, 4, 1, 5, 2] rfl
    have hD9 := hD.sub (ws' := [(mq 0, .inr (9, [.ref (mq 1), .int (nI ps), .int ea, .int (nI nc), .int (nI br), .int st, .int so, .int sr, .ref (mq 2), .ref (mq 3), .int fe, .int fs, .ref (mq 4), .int (nI se), .ref (mq 5), .ref (mq 6), .int sw, .int ks, .int (nI kbr), .int kst, .int kso, .int (nI kse), .ref (mq 7), .ref (mq 8), .ref (mq 9), .long hs])), (mq 2, .inl (ca 14, 8, .inl (fun zj => nI (rwN kd hm zj)))), (mq 3, .inl (ca 15, 36, .inl (fun zj => bI (ib zj)))), (mq 5, .inl (ca 17, 18, .inl (fun zj => nI (sgN sn sp sd zj)))), (mq 4, .inl (ca 16, 36, .inl (fa1_9))), (mq 6, .inl (ca 18, 9, .inl (fun zj => nI (pa zj))))]) [3, 0, 4, 1, 5, 2] (by decide) rfl
    exact W.iret (v := fewM ib br (hm i)) hx hb hr (fun t ht hW => ⟨⟨fewM ib br (hm i), (fe, fs, fa1_9, pa), rfl, by show _ = _; unfold tellM; rw [if_neg (by decide), if_neg (by decide), if_neg (by decide), if_neg (by decide), if_neg (by decide), if_pos rfl], by rw [ht]; exact hP9, va_K.moved hW.alike hK, hD9⟩, hS.F ht⟩) hS.2.2 dX9_tell_94
  by_cases c_11 : x2 = nI 6
  · subst c_11
    refine lv_tableIn (off := 94) (tgt := 95) hx hb dX9_tell_1 (by decide) (by decide) rfl (by decide) ?_
    refine lv_aload_n hx hb dX9_tell_95 rfl (lv_at hl 0 rfl) ?_
    refine lv_iload_n hx hb dX9_tell_96 rfl (lv_at hl 1 rfl) ?_
    refine lv_iload_n hx hb dX9_tell_97 rfl (lv_at hl 2 rfl) ?_
    refine lv_bipush (v := nI 6) hx hb dX9_tell_98 (by decide) ?_
    refine lv_isub hx hb dX9_tell_100 ?_
    refine lv_ri (y := nI 0) (by decide) ?_
    refine roV (As := [Value.int (nI i), Value.int (nI 0)]) (rest := []) (kX9_homesOf l dC dI ca i (nI 0) kd nc sr ps br st so se hm sn sp sd kbr kst kso kse mq ea fe fs sw ks hs hi hse hsn hsp hsd hkd) ⟨hx, hb, hml, hown, htl⟩ (cVg (C := RX9) 2 htl wd_712 wd_714 wp_25 wd_6 wd_715 rfl rfl (by decide +kernel) ⟨Nat.le_of_ble_eq_true rfl, Nat.le_of_ble_eq_true rfl⟩) (hP.sub [0, 1, 3] rfl) hK (va_recv hK hP (ci := 9) (q0 := 0) rfl rfl) rfl hl.1 rfl (Nat.le_of_ble_eq_true rfl) dX9_tell_101 ⟨Nat.zero_le _, Nat.zero_le _⟩ (fun r hr9 => ?_)
    subst hr9
    refine lv_ri (y := nI ((hmM (chN (kd i) i se sn sp sd) 36 0 (-1)).1)) (if_pos (by decide)) ?_
    have hP9 := hP.sub (ws' := [(mq 0, .inr (9, [.ref (mq 1), .int (nI ps), .int ea, .int (nI nc), .int (nI br), .int st, .int so, .int sr, .ref (mq 2), .ref (mq 3), .int fe, .int fs, .ref (mq 4), .int (nI se), .ref (mq 5), .ref (mq 6), .int sw, .int ks, .int (nI kbr), .int kst, .int kso, .int (nI kse), .ref (mq 7), .ref (mq 8), .ref (mq 9), .long hs])), (mq 2, .inl (ca 14, 8, .inl (fun zj => nI (rwN kd hm zj)))), (mq 3, .inl (ca 15, 36, .inl (fun zj => bI (ib zj)))), (mq 5, .inl (ca 17, 18, .inl (fun zj => nI (sgN sn sp sd zj)))), (mq 4, .inl (ca 16, 36, .inl (fa))), (mq 6, .inl (ca 18, 9, .inl (fun zj => nI (pa zj))))]) [0, 1, 2, 3, 4, 5] rfl
    have hD9 := hD.sub (ws' := [(mq 0, .inr (9, [.ref (mq 1), .int (nI ps), .int ea, .int (nI nc), .int (nI br), .int st, .int so, .int sr, .ref (mq 2), .ref (mq 3), .int fe, .int fs, .ref (mq 4), .int (nI se), .ref (mq 5), .ref (mq 6), .int sw, .int ks, .int (nI kbr), .int kst, .int kso, .int (nI kse), .ref (mq 7), .ref (mq 8), .ref (mq 9), .long hs])), (mq 2, .inl (ca 14, 8, .inl (fun zj => nI (rwN kd hm zj)))), (mq 3, .inl (ca 15, 36, .inl (fun zj => bI (ib zj)))), (mq 5, .inl (ca 17, 18, .inl (fun zj => nI (sgN sn sp sd zj)))), (mq 4, .inl (ca 16, 36, .inl (fa))), (mq 6, .inl (ca 18, 9, .inl (fun zj => nI (pa zj))))]) [0, 1, 2, 3, 4, 5] (by decide) rfl
    exact W.iret (v := nI ((hmM (chN (kd i) i se sn sp sd) 36 0 (-1)).1)) hx hb hr (fun t ht hW => ⟨⟨nI ((hmM (chN (kd i) i se sn sp sd) 36 0 (-1)).1), (fe, fs, fa, pa), rfl, by show _ = _; unfold tellM; rw [if_neg (by decide), if_neg (by decide), if_neg (by decide), if_neg (by decide), if_neg (by decide), if_neg (by decide), if_pos rfl], by rw [ht]; exact hP9, va_K.moved hW.alike hK, hD9⟩, hS.F ht⟩) hS.2.2 dX9_tell_104
  by_cases c_12 : x2 = nI 7
  · subst c_12
    refine lv_tableIn (off := 94) (tgt := 95) hx hb dX9_tell_1 (by decide) (by decide) rfl (by decide) ?_
    refine lv_aload_n hx hb dX9_tell_95 rfl (lv_at hl 0 rfl) ?_
    refine lv_iload_n hx hb dX9_tell_96 rfl (lv_at hl 1 rfl) ?_
    refine lv_iload_n hx hb dX9_tell_97 rfl (lv_at hl 2 rfl) ?_
    refine lv_bipush (v := nI 6) hx hb dX9_tell_98 (by decide) ?_
    refine lv_isub hx hb dX9_tell_100 ?_
    refine lv_ri (y := nI 1) (by decide) ?_
    refine roV (As := [Value.int (nI i), Value.int (nI 1)]) (rest := []) (kX9_homesOf l dC dI ca i (nI 1) kd nc sr ps br st so se hm sn sp sd kbr kst kso kse mq ea fe fs sw ks hs hi hse hsn hsp hsd hkd) ⟨hx, hb, hml, hown, htl⟩ (cVg (C := RX9) 2 htl wd_712 wd_714 wp_25 wd_6 wd_715 rfl rfl (by decide +kernel) ⟨Nat.le_of_ble_eq_true rfl, Nat.le_of_ble_eq_true rfl⟩) (hP.sub [0, 1, 3] rfl) hK (va_recv hK hP (ci := 9) (q0 := 0) rfl rfl) rfl hl.1 rfl (Nat.le_of_ble_eq_true rfl) dX9_tell_101 ⟨Nat.zero_le _, Nat.zero_le _⟩ (fun r hr9 => ?_)
    subst hr9
    refine lv_ri (y := (hmM (chN (kd i) i se sn sp sd) 36 0 (-1)).2) (if_neg (by decide)) ?_
    have hP9 := hP.sub (ws' := [(mq 0, .inr (9, [.ref (mq 1), .int (nI ps), .int ea, .int (nI nc), .int (nI br), .int st, .int so, .int sr, .ref (mq 2), .ref (mq 3), .int fe, .int fs, .ref (mq 4), .int (nI se), .ref (mq 5), .ref (mq 6), .int sw, .int ks, .int (nI kbr), .int kst, .int kso, .int (nI kse), .ref (mq 7), .ref (mq 8), .ref (mq 9), .long hs])), (mq 2, .inl (ca 14, 8, .inl (fun zj => nI (rwN kd hm zj)))), (mq 3, .inl (ca 15, 36, .inl (fun zj => bI (ib zj)))), (mq 5, .inl (ca 17, 18, .inl (fun zj => nI (sgN sn sp sd zj)))), (mq 4, .inl (ca 16, 36, .inl (fa))), (mq 6, .inl (ca 18, 9, .inl (fun zj => nI (pa zj))))]) [0, 1, 2, 3, 4, 5] rfl
    have hD9 := hD.sub (ws' := [(mq 0, .inr (9, [.ref (mq 1), .int (nI ps), .int ea, .int (nI nc), .int (nI br), .int st, .int so, .int sr, .ref (mq 2), .ref (mq 3), .int fe, .int fs, .ref (mq 4), .int (nI se), .ref (mq 5), .ref (mq 6), .int sw, .int ks, .int (nI kbr), .int kst, .int kso, .int (nI kse), .ref (mq 7), .ref (mq 8), .ref (mq 9), .long hs])), (mq 2, .inl (ca 14, 8, .inl (fun zj => nI (rwN kd hm zj)))), (mq 3, .inl (ca 15, 36, .inl (fun zj => bI (ib zj)))), (mq 5, .inl (ca 17, 18, .inl (fun zj => nI (sgN sn sp sd zj)))), (mq 4, .inl (ca 16, 36, .inl (fa))), (mq 6, .inl (ca 18, 9, .inl (fun zj => nI (pa zj))))]) [0, 1, 2, 3, 4, 5] (by decide) rfl
    exact W.iret (v := (hmM (chN (kd i) i se sn sp sd) 36 0 (-1)).2) hx hb hr (fun t ht hW => ⟨⟨(hmM (chN (kd i) i se sn sp sd) 36 0 (-1)).2, (fe, fs, fa, pa), rfl, by show _ = _; unfold tellM; rw [if_neg (by decide), if_neg (by decide), if_neg (by decide), if_neg (by decide), if_neg (by decide), if_neg (by decide), if_neg (by decide), if_pos rfl], by rw [ht]; exact hP9, va_K.moved hW.alike hK, hD9⟩, hS.F ht⟩) hS.2.2 dX9_tell_104
  by_cases c_13 : x2 = nI 8
  · subst c_13
    refine lv_tableIn (off := 104) (tgt := 105) hx hb dX9_tell_1 (by decide) (by decide) rfl (by decide) ?_
    refine lv_aload_n hx hb dX9_tell_105 rfl (lv_at hl 0 rfl) ?_
    refine lv_iload_n hx hb dX9_tell_106 rfl (lv_at hl 1 rfl) ?_
    refine efV (As := [Value.int (nI i)]) (rest := []) (wr := [(mq 3, .inl (ca 15, 36, .inl (fun zj => bI (ib zj)))), (mq 4, .inl (ca 16, 36, .inl (fa)))]) (kX9_lookOf l dC dI ca _ i kd nc sr ps br st so se hm sn sp sd kbr kst kso kse mq ea fe fs sw ks pa hs hi hse hsn hsp hsd hkd) ⟨hx, hb, hml, hown, htl⟩ (cVg (C := RX9) 1 htl wd_720 wd_722 wp_27 wd_6 wd_723 rfl rfl (by decide +kernel) ⟨Nat.le_of_ble_eq_true rfl, Nat.le_of_ble_eq_true rfl⟩) hP hD hS hA hK [0, 1, 3, 5] [2, 4] rfl rfl (by decide) (by decide) (by decide) (va_recv hK hP (ci := 9) (q0 := 0) rfl rfl) rfl hl.1 rfl (Nat.le_of_ble_eq_true rfl) dX9_tell_107 ⟨Nat.zero_le _, Nat.zero_le _⟩ (fun r_15 u H locs hw_107 hP hD hS => ?_)
    obtain ⟨pa1_14, rfl⟩ : ∃ z, z = u := ⟨_, rfl⟩
    have hP : va_P (dC, dI) vwCl [(mq 3, .inl (ca 15, 36, .inl (fun zj => bI (ib zj)))), (mq 4, .inl (ca 16, 36, .inl (fa))), (mq 0, .inr (9, [.ref (mq 1), .int (nI ps), .int ea, .int (nI nc), .int (nI br), .int st, .int so, .int sr, .ref (mq 2), .ref (mq 3), .int fe, .int fs, .ref (mq 4), .int (nI se), .ref (mq 5), .ref (mq 6), .int sw, .int ks, .int (nI kbr), .int kst, .int kso, .int (nI kse), .ref (mq 7), .ref (mq 8), .ref (mq 9), .long hs])), (mq 2, .inl (ca 14, 8, .inl (fun zj => nI (rwN kd hm zj)))), (mq 5, .inl (ca 17, 18, .inl (fun zj => nI (sgN sn sp sd zj)))), (mq 6, .inl (ca 18, 9, .inl (fun zj => nI (pa1_14 zj))))] H := hP
    have hD : va_D A [(mq 3, .inl (ca 15, 36, .inl (fun zj => bI (ib zj)))), (mq 4, .inl (ca 16, 36, .inl (fa))), (mq 0, .inr (9, [.ref (mq 1), .int (nI ps), .int ea, .int (nI nc), .int (nI br), .int st, .int so, .int sr, .ref (mq 2), .ref (mq 3), .int fe, .int fs, .ref (mq 4), .int (nI se), .ref (mq 5), .ref (mq 6), .int sw, .int ks, .int (nI kbr), .int kst, .int kso, .int (nI kse), .ref (mq 7), .ref (mq 8), .ref (mq 9), .long hs])), (mq 2, .inl (ca 14, 8, .inl (fun zj => nI (rwN kd hm zj)))), (mq 5, .inl (ca 17, 18, .inl (fun zj => nI (sgN sn sp sd zj)))), (mq 6, .inl (ca 18, 9, .inl (fun zj => nI (pa1_14 zj))))] := hD
    have hw_107 : r_15 = lookM (kd i) (chN (kd i) i se sn sp sd) := hw_107
    refine lv_ri (y := lookM (kd i) (chN (kd i) i se sn sp sd)) hw_107 ?_
    have hP9 := hP.sub (ws' := [(mq 0, .inr (9, [.ref (mq 1), .int (nI ps), .int ea, .int (nI nc), .int (nI br), .int st, .int so, .int sr, .ref (mq 2), .ref (mq 3), .int fe, .int fs, .ref (mq 4), .int (nI se), .ref (mq 5), .ref (mq 6), .int sw, .int ks, .int (nI kbr), .int kst, .int kso, .int (nI kse), .ref (mq 7), .ref (mq 8), .ref (mq 9), .long hs])), (mq 2, .inl (ca 14, 8, .inl (fun zj => nI (rwN kd hm zj)))), (mq 3, .inl (ca 15, 36, .inl (fun zj => bI (ib zj)))), (mq 5, .inl (ca 17, 18, .inl (fun zj => nI (sgN sn sp sd zj)))), (mq 4, .inl (ca 16, 36, .inl (fa))), (mq 6, .inl (ca 18, 9, .inl (fun zj => nI (pa1_14 zj))))]) [2, 3, 0, 4, 1, 5] rfl
    have hD9 := hD.sub (ws' := [(mq 0, .inr (9, [.ref (mq 1), .int (nI ps), .int ea, .int (nI nc), .int (nI br), .int st, .int so, .int sr, .ref (mq 2), .ref (mq 3), .int fe, .int fs, .ref (mq 4), .int (nI se), .ref (mq 5), .ref (mq 6), .int sw, .int ks, .int (nI kbr), .int kst, .int kso, .int (nI kse), .ref (mq 7), .ref (mq 8), .ref (mq 9), .long hs])), (mq 2, .inl (ca 14, 8, .inl (fun zj => nI (rwN kd hm zj)))), (mq 3, .inl (ca 15, 36, .inl (fun zj => bI (ib zj)))), (mq 5, .inl (ca 17, 18, .inl (fun zj => nI (sgN sn sp sd zj)))), (mq 4, .inl (ca 16, 36, .inl (fa))), (mq 6, .inl (ca 18, 9, .inl (fun zj => nI (pa1_14 zj))))]) [2, 3, 0, 4, 1, 5] (by decide) rfl
    exact W.iret (v := lookM (kd i) (chN (kd i) i se sn sp sd)) hx hb hr (fun t ht hW => ⟨⟨lookM (kd i) (chN (kd i) i se sn sp sd), (fe, fs, fa, pa1_14), rfl, by show _ = _; unfold tellM; rw [if_neg (by decide), if_neg (by decide), if_neg (by decide), if_neg (by decide), if_neg (by decide), if_neg (by decide), if_neg (by decide), if_neg (by decide), if_pos rfl], by rw [ht]; exact hP9, va_K.moved hW.alike hK, hD9⟩, hS.F ht⟩) hS.2.2 dX9_tell_110
  have ho_1 : x2.toInt < 0 ∨ 8 < x2.toInt := by
    have q0 := lv_neT (k := nI 0) (a := 0) c_1 (by decide)
    have q1 := lv_neT (k := nI 1) (a := 1) c_2 (by decide)
    have q2 := lv_neT (k := nI 2) (a := 2) c_3 (by decide)
    have q3 := lv_neT (k := nI 3) (a := 3) c_4 (by decide)
    have q4 := lv_neT (k := nI 4) (a := 4) c_6 (by decide)
    have q5 := lv_neT (k := nI 5) (a := 5) c_8 (by decide)
    have q6 := lv_neT (k := nI 6) (a := 6) c_11 (by decide)
    have q7 := lv_neT (k := nI 7) (a := 7) c_12 (by decide)
    have q8 := lv_neT (k := nI 8) (a := 8) c_13 (by decide)
    omega
  refine lv_tableOut (tgt := 111) hx hb dX9_tell_1 ho_1 (by decide) ?_
  refine lv_bipush (v := (-102)) hx hb dX9_tell_111 (by decide) ?_
  have hP9 := hP.sub (ws' := [(mq 0, .inr (9, [.ref (mq 1), .int (nI ps), .int ea, .int (nI nc), .int (nI br), .int st, .int so, .int sr, .ref (mq 2), .ref (mq 3), .int fe, .int fs, .ref (mq 4), .int (nI se), .ref (mq 5), .ref (mq 6), .int sw, .int ks, .int (nI kbr), .int kst, .int kso, .int (nI kse), .ref (mq 7), .ref (mq 8), .ref (mq 9), .long hs])), (mq 2, .inl (ca 14, 8, .inl (fun zj => nI (rwN kd hm zj)))), (mq 3, .inl (ca 15, 36, .inl (fun zj => bI (ib zj)))), (mq 5, .inl (ca 17, 18, .inl (fun zj => nI (sgN sn sp sd zj)))), (mq 4, .inl (ca 16, 36, .inl (fa))), (mq 6, .inl (ca 18, 9, .inl (fun zj => nI (pa zj))))]) [0, 1, 2, 3, 4, 5] rfl
  have hD9 := hD.sub (ws' := [(mq 0, .inr (9, [.ref (mq 1), .int (nI ps), .int ea, .int (nI nc), .int (nI br), .int st, .int so, .int sr, .ref (mq 2), .ref (mq 3), .int fe, .int fs, .ref (mq 4), .int (nI se), .ref (mq 5), .ref (mq 6), .int sw, .int ks, .int (nI kbr), .int kst, .int kso, .int (nI kse), .ref (mq 7), .ref (mq 8), .ref (mq 9), .long hs])), (mq 2, .inl (ca 14, 8, .inl (fun zj => nI (rwN kd hm zj)))), (mq 3, .inl (ca 15, 36, .inl (fun zj => bI (ib zj)))), (mq 5, .inl (ca 17, 18, .inl (fun zj => nI (sgN sn sp sd zj)))), (mq 4, .inl (ca 16, 36, .inl (fa))), (mq 6, .inl (ca 18, 9, .inl (fun zj => nI (pa zj))))]) [0, 1, 2, 3, 4, 5] (by decide) rfl
  exact W.iret (v := (-102)) hx hb hr (fun t ht hW => ⟨⟨(-102), (fe, fs, fa, pa), rfl, by show _ = _; unfold tellM; rw [if_neg c_1, if_neg c_2, if_neg c_3, if_neg c_4, if_neg c_6, if_neg c_8, if_neg c_11, if_neg c_12, if_neg c_13], by rw [ht]; exact hP9, va_K.moved hW.alike hK, hD9⟩, hS.F ht⟩) hS.2.2 dX9_tell_113
set_option maxHeartbeats 4000000 in
set_option maxRecDepth 100000 in
theorem kX9_needle (l : Launch) (dC : Nat → ClassId) (dI : Nat → Nat → Nat) (ca : Nat → ClassId) (sz : Nat) (x1 : Int32) (x2 : Int32) (kd : Nat → Nat) (nc : Nat) (sr : Int32) (ps : Nat) (br : Nat) (st : Int32) (so : Int32) (se : Nat) (hm : Nat → Nat) (sn : Nat → Nat) (sp : Nat → Nat) (sd : Nat → Nat) (kbr : Nat) (kst : Int32) (kso : Int32) (kse : Nat) (mq : Nat → Nat) (ea : Int32) (fe : Int32) (fs : Int32) (sw : Int32) (ks : Int32) (ib : Nat → Bool) (fa : Nat → Int32) (pa : Nat → Nat) (hs : Int64) (hnc : nc ≤ 4) (hbr : br < 36) (hkd : ∀ j, j < 4 → kd j < 5) (hhm : ∀ j, j < 4 → hm j < 36) (hse : se ≤ 6) (hsn : ∀ j, j < 6 → sn j < 4) (hsp : ∀ j, j < 6 → sp j < 36) (hsd : ∀ j, j < 6 → sd j < 9) : Met l yX9_needle (Cond.code yX9_needle cX9_needle 3 (some .int) :: gT) (rk 7) (EFp (dC, dI) [(mq 0, .inr (9, [.ref (mq 1), .int (nI ps), .int ea, .int (nI nc), .int (nI br), .int st, .int so, .int sr, .ref (mq 2), .ref (mq 3), .int fe, .int fs, .ref (mq 4), .int (nI se), .ref (mq 5), .ref (mq 6), .int sw, .int ks, .int (nI kbr), .int kst, .int kso, .int (nI kse), .ref (mq 7), .ref (mq 8), .ref (mq 9), .long hs])), (mq 2, .inl (ca 14, 8, .inl (fun zj => nI (rwN kd hm zj)))), (mq 3, .inl (ca 15, 36, .inl (fun zj => bI (ib zj)))), (mq 5, .inl (ca 17, 18, .inl (fun zj => nI (sgN sn sp sd zj)))), (mq 4, .inl (ca 16, 36, .inl (fa))), (mq 6, .inl (ca 18, 9, .inl (fun zj => nI (pa zj))))] (TY ca) sz [Value.ref (mq 0), Value.int x1, Value.int x2]) (va_Qi (fun (r : Int32) (u : Int32 × Int32 × (Nat → Int32) × (Nat → Nat)) => match u with | (fe2, fs2, fa1, pa1) => r = needleM nc kd hm ib br se sn sp sd x1 x2) (EFb (dC, dI) (fun (u : Int32 × Int32 × (Nat → Int32) × (Nat → Nat)) => match u with | (fe2, fs2, fa1, pa1) => [(mq 0, .inr (9, [.ref (mq 1), .int (nI ps), .int ea, .int (nI nc), .int (nI br), .int st, .int so, .int sr, .ref (mq 2), .ref (mq 3), .int fe2, .int fs2, .ref (mq 4), .int (nI se), .ref (mq 5), .ref (mq 6), .int sw, .int ks, .int (nI kbr), .int kst, .int kso, .int (nI kse), .ref (mq 7), .ref (mq 8), .ref (mq 9), .long hs])), (mq 2, .inl (ca 14, 8, .inl (fun zj => nI (rwN kd hm zj)))), (mq 3, .inl (ca 15, 36, .inl (fun zj => bI (ib zj)))), (mq 5, .inl (ca 17, 18, .inl (fun zj => nI (sgN sn sp sd zj)))), (mq 4, .inl (ca 16, 36, .inl (fa1))), (mq 6, .inl (ca 18, 9, .inl (fun zj => nI (pa1 zj))))]) (TY ca) (va_A [(mq 0, .inr (9, [.ref (mq 1), .int (nI ps), .int ea, .int (nI nc), .int (nI br), .int st, .int so, .int sr, .ref (mq 2), .ref (mq 3), .int fe, .int fs, .ref (mq 4), .int (nI se), .ref (mq 5), .ref (mq 6), .int sw, .int ks, .int (nI kbr), .int kst, .int kso, .int (nI kse), .ref (mq 7), .ref (mq 8), .ref (mq 9), .long hs])), (mq 2, .inl (ca 14, 8, .inl (fun zj => nI (rwN kd hm zj)))), (mq 3, .inl (ca 15, 36, .inl (fun zj => bI (ib zj)))), (mq 5, .inl (ca 17, 18, .inl (fun zj => nI (sgN sn sp sd zj)))), (mq 4, .inl (ca 16, 36, .inl (fa))), (mq 6, .inl (ca 18, 9, .inl (fun zj => nI (pa zj))))] sz)) (va_A [(mq 0, .inr (9, [.ref (mq 1), .int (nI ps), .int ea, .int (nI nc), .int (nI br), .int st, .int so, .int sr, .ref (mq 2), .ref (mq 3), .int fe, .int fs, .ref (mq 4), .int (nI se), .ref (mq 5), .ref (mq 6), .int sw, .int ks, .int (nI kbr), .int kst, .int kso, .int (nI kse), .ref (mq 7), .ref (mq 8), .ref (mq 9), .long hs])), (mq 2, .inl (ca 14, 8, .inl (fun zj => nI (rwN kd hm zj)))), (mq 3, .inl (ca 15, 36, .inl (fun zj => bI (ib zj)))), (mq 5, .inl (ca 17, 18, .inl (fun zj => nI (sgN sn sp sd zj)))), (mq 4, .inl (ca 16, 36, .inl (fa))), (mq 6, .inl (ca 18, 9, .inl (fun zj => nI (pa zj))))] sz)) 0 0 (va_A [(mq 0, .inr (9, [.ref (mq 1), .int (nI ps), .int ea, .int (nI nc), .int (nI br), .int st, .int so, .int sr, .ref (mq 2), .ref (mq 3), .int fe, .int fs, .ref (mq 4), .int (nI se), .ref (mq 5), .ref (mq 6), .int sw, .int ks, .int (nI kbr), .int kst, .int kso, .int (nI kse), .ref (mq 7), .ref (mq 8), .ref (mq 9), .long hs])), (mq 2, .inl (ca 14, 8, .inl (fun zj => nI (rwN kd hm zj)))), (mq 3, .inl (ca 15, 36, .inl (fun zj => bI (ib zj)))), (mq 5, .inl (ca 17, 18, .inl (fun zj => nI (sgN sn sp sd zj)))), (mq 4, .inl (ca 16, 36, .inl (fa))), (mq 6, .inl (ca 18, 9, .inl (fun zj => nI (pa zj))))] sz) := by
  refine Met.ofW (cc := cX9_needle) (maxL := 3) (ret := (some .int)) (by decide) rfl ?_
  intro p e s m args below meth c s₁ B hml hv
  obtain ⟨rfl, hsz, hP, hK, hD0⟩ := hv
  have hx := B.exec
  have hb := B.bytes
  have hr := B.returns
  have hts := atoms_spec (ws := (Cond.code yX9_needle cX9_needle 3 (some .int) :: gT)) B.pre
  have htl : ∀ w ∈ gT, w.before _ s = true := fun w h => hts w (List.mem_cons_of_mem _ h)
  have hown : s.vm.findClass RX9 = some m.cls := findClass_of_methodNamed B.named
  have hlocks := B.notSynchronized
  subst hsz
  have hD := hD0.self (sz := s.heap.size)
  generalize hAe : va_A [(mq 0, .inr (9, [.ref (mq 1), .int (nI ps), .int ea, .int (nI nc), .int (nI br), .int st, .int so, .int sr, .ref (mq 2), .ref (mq 3), .int fe, .int fs, .ref (mq 4), .int (nI se), .ref (mq 5), .ref (mq 6), .int sw, .int ks, .int (nI kbr), .int kst, .int kso, .int (nI kse), .ref (mq 7), .ref (mq 8), .ref (mq 9), .long hs])), (mq 2, .inl (ca 14, 8, .inl (fun zj => nI (rwN kd hm zj)))), (mq 3, .inl (ca 15, 36, .inl (fun zj => bI (ib zj)))), (mq 5, .inl (ca 17, 18, .inl (fun zj => nI (sgN sn sp sd zj)))), (mq 4, .inl (ca 16, 36, .inl (fa))), (mq 6, .inl (ca 18, 9, .inl (fun zj => nI (pa zj))))] s.heap.size = A at hD ⊢
  have hA : ∀ q : Nat, s.heap.size ≤ q → A q := fun q h => by rw [← hAe]; exact Or.inr h
  have hS : va_S A s.heap s.heap [] := va_S.rf
  have hl := lv_entry ([Value.ref (mq 0), Value.int x1, Value.int x2]) (n := 3) (Nat.le_of_ble_eq_true rfl)
  rw [lg_entry_eq]
  generalize (lg_sl ([Value.ref (mq 0), Value.int x1, Value.int x2]) ++ List.replicate (3 - (lg_sl ([Value.ref (mq 0), Value.int x1, Value.int x2])).length) Slot.unset).toArray = ls at hl ⊢
  have hl : lv_has ls 3 [(0, .ref (mq 0)), (1, .int x1), (2, .int x2)] := hl
  refine lv_aload_n hx hb dX9_needle_0 rfl (lv_at hl 0 rfl) ?_
  refine lv_iload_n hx hb dX9_needle_1 rfl (lv_at hl 1 rfl) ?_
  refine roV (As := [Value.int x1]) (rest := []) (kX9_isNeedle l dC dI ca x1 nc sr ps br st so se kbr kst kso kse mq ea fe fs sw ks hs hnc) ⟨hx, hb, hml, hown, htl⟩ (cVg (C := RX9) 1 htl wd_674 wd_676 wp_18 wd_6 wd_677 rfl rfl (by decide +kernel) ⟨Nat.le_of_ble_eq_true rfl, Nat.le_of_ble_eq_true rfl⟩) (hP.sub [0] rfl) hK (va_recv hK hP (ci := 9) (q0 := 0) rfl rfl) rfl hl.1 rfl (Nat.le_of_ble_eq_true rfl) dX9_needle_2 ⟨Nat.zero_le _, Nat.zero_le _⟩ (fun r hr9 => ?_)
  subst hr9
  refine lv_if_eq (tgt := 17) hx hb dX9_needle_5 (by decide) (fun c_1 => ?_) (fun c_1 => ?_)
  · replace c_1 := bI_f c_1
    refine lv_bipush (v := (-101)) hx hb dX9_needle_17 (by decide) ?_
    have hP9 := hP.sub (ws' := [(mq 0, .inr (9, [.ref (mq 1), .int (nI ps), .int ea, .int (nI nc), .int (nI br), .int st, .int so, .int sr, .ref (mq 2), .ref (mq 3), .int fe, .int fs, .ref (mq 4), .int (nI se), .ref (mq 5), .ref (mq 6), .int sw, .int ks, .int (nI kbr), .int kst, .int kso, .int (nI kse), .ref (mq 7), .ref (mq 8), .ref (mq 9), .long hs])), (mq 2, .inl (ca 14, 8, .inl (fun zj => nI (rwN kd hm zj)))), (mq 3, .inl (ca 15, 36, .inl (fun zj => bI (ib zj)))), (mq 5, .inl (ca 17, 18, .inl (fun zj => nI (sgN sn sp sd zj)))), (mq 4, .inl (ca 16, 36, .inl (fa))), (mq 6, .inl (ca 18, 9, .inl (fun zj => nI (pa zj))))]) [0, 1, 2, 3, 4, 5] rfl
    have hD9 := hD.sub (ws' := [(mq 0, .inr (9, [.ref (mq 1), .int (nI ps), .int ea, .int (nI nc), .int (nI br), .int st, .int so, .int sr, .ref (mq 2), .ref (mq 3), .int fe, .int fs, .ref (mq 4), .int (nI se), .ref (mq 5), .ref (mq 6), .int sw, .int ks, .int (nI kbr), .int kst, .int kso, .int (nI kse), .ref (mq 7), .ref (mq 8), .ref (mq 9), .long hs])), (mq 2, .inl (ca 14, 8, .inl (fun zj => nI (rwN kd hm zj)))), (mq 3, .inl (ca 15, 36, .inl (fun zj => bI (ib zj)))), (mq 5, .inl (ca 17, 18, .inl (fun zj => nI (sgN sn sp sd zj)))), (mq 4, .inl (ca 16, 36, .inl (fa))), (mq 6, .inl (ca 18, 9, .inl (fun zj => nI (pa zj))))]) [0, 1, 2, 3, 4, 5] (by decide) rfl
    exact W.iret (v := (-101)) hx hb hr (fun t ht hW => ⟨⟨(-101), (fe, fs, fa, pa), rfl, by show _ = _; simp [needleM, c_1], by rw [ht]; exact hP9, va_K.moved hW.alike hK, hD9⟩, hS.F ht⟩) hS.2.2 dX9_needle_19
  · replace c_1 := bI_t c_1
    obtain ⟨i, hi, rfl⟩ := rng_ex c_1 (by omega)
    refine lv_aload_n hx hb dX9_needle_8 rfl (lv_at hl 0 rfl) ?_
    refine lv_iload_n hx hb dX9_needle_9 rfl (lv_at hl 1 rfl) ?_
    refine lv_iload_n hx hb dX9_needle_10 rfl (lv_at hl 2 rfl) ?_
    refine efV (As := [Value.int (nI i), Value.int x2]) (rest := []) (wr := []) (kX9_tell l dC dI ca _ i x2 kd nc sr ps br st so se hm sn sp sd kbr kst kso kse mq ea fe fs sw ks ib fa pa hs (by omega) hnc hbr hkd hhm hse hsn hsp hsd) ⟨hx, hb, hml, hown, htl⟩ (cVg (C := RX9) 2 htl wd_678 wd_680 wp_19 wd_6 wd_681 rfl rfl (by decide +kernel) ⟨Nat.le_of_ble_eq_true rfl, Nat.le_of_ble_eq_true rfl⟩) hP hD hS hA hK [0, 1, 2, 3, 4, 5] [] rfl rfl (by decide) (by decide) (by decide) (va_recv hK hP (ci := 9) (q0 := 0) rfl rfl) rfl hl.1 rfl (Nat.le_of_ble_eq_true rfl) dX9_needle_11 ⟨Nat.zero_le _, Nat.zero_le _⟩ (fun r_6 u H locs hw_11 hP hD hS => ?_)
    obtain ⟨fe2_2, fs2_3, fa1_4, pa1_5⟩ := u
    have hP : va_P (dC, dI) vwCl [(mq 0, .inr (9, [.ref (mq 1), .int (nI ps), .int ea, .int (nI nc), .int (nI br), .int st, .int so, .int sr, .ref (mq 2), .ref (mq 3), .int fe2_2, .int fs2_3, .ref (mq 4), .int (nI se), .ref (mq 5), .ref (mq 6), .int sw, .int ks, .int (nI kbr), .int kst, .int kso, .int (nI kse), .ref (mq 7), .ref (mq 8), .ref (mq 9), .long hs])), (mq 2, .inl (ca 14, 8, .inl (fun zj => nI (rwN kd hm zj)))), (mq 3, .inl (ca 15, 36, .inl (fun zj => bI (ib zj)))), (mq 5, .inl (ca 17, 18, .inl (fun zj => nI (sgN sn sp sd zj)))), (mq 4, .inl (ca 16, 36, .inl (fa1_4))), (mq 6, .inl (ca 18, 9, .inl (fun zj => nI (pa1_5 zj))))] H := hP
    have hD : va_D A [(mq 0, .inr (9, [.ref (mq 1), .int (nI ps), .int ea, .int (nI nc), .int (nI br), .int st, .int so, .int sr, .ref (mq 2), .ref (mq 3), .int fe2_2, .int fs2_3, .ref (mq 4), .int (nI se), .ref (mq 5), .ref (mq 6), .int sw, .int ks, .int (nI kbr), .int kst, .int kso, .int (nI kse), .ref (mq 7), .ref (mq 8), .ref (mq 9), .long hs])), (mq 2, .inl (ca 14, 8, .inl (fun zj => nI (rwN kd hm zj)))), (mq 3, .inl (ca 15, 36, .inl (fun zj => bI (ib zj)))), (mq 5, .inl (ca 17, 18, .inl (fun zj => nI (sgN sn sp sd zj)))), (mq 4, .inl (ca 16, 36, .inl (fa1_4))), (mq 6, .inl (ca 18, 9, .inl (fun zj => nI (pa1_5 zj))))] := hD
    have hw_11 : r_6 = tellM kd hm ib br se sn sp sd i x2 := hw_11
    refine lv_ri (y := tellM kd hm ib br se sn sp sd i x2) hw_11 ?_
    refine lv_goto (tgt := 19) hx hb dX9_needle_14 (by decide) ?_
    have hP9 := hP.sub (ws' := [(mq 0, .inr (9, [.ref (mq 1), .int (nI ps), .int ea, .int (nI nc), .int (nI br), .int st, .int so, .int sr, .ref (mq 2), .ref (mq 3), .int fe2_2, .int fs2_3, .ref (mq 4), .int (nI se), .ref (mq 5), .ref (mq 6), .int sw, .int ks, .int (nI kbr), .int kst, .int kso, .int (nI kse), .ref (mq 7), .ref (mq 8), .ref (mq 9), .long hs])), (mq 2, .inl (ca 14, 8, .inl (fun zj => nI (rwN kd hm zj)))), (mq 3, .inl (ca 15, 36, .inl (fun zj => bI (ib zj)))), (mq 5, .inl (ca 17, 18, .inl (fun zj => nI (sgN sn sp sd zj)))), (mq 4, .inl (ca 16, 36, .inl (fa1_4))), (mq 6, .inl (ca 18, 9, .inl (fun zj => nI (pa1_5 zj))))]) [0, 1, 2, 3, 4, 5] rfl
    have hD9 := hD.sub (ws' := [(mq 0, .inr (9, [.ref (mq 1), .int (nI ps), .int ea, .int (nI nc), .int (nI br), .int st, .int so, .int sr, .ref (mq 2), .ref (mq 3), .int fe2_2, .int fs2_3, .ref (mq 4), .int (nI se), .ref (mq 5), .ref (mq 6), .int sw, .int ks, .int (nI kbr), .int kst, .int kso, .int (nI kse), .ref (mq 7), .ref (mq 8), .ref (mq 9), .long hs])), (mq 2, .inl (ca 14, 8, .inl (fun zj => nI (rwN kd hm zj)))), (mq 3, .inl (ca 15, 36, .inl (fun zj => bI (ib zj)))), (mq 5, .inl (ca 17, 18, .inl (fun zj => nI (sgN sn sp sd zj)))), (mq 4, .inl (ca 16, 36, .inl (fa1_4))), (mq 6, .inl (ca 18, 9, .inl (fun zj => nI (pa1_5 zj))))]) [0, 1, 2, 3, 4, 5] (by decide) rfl
    exact W.iret (v := tellM kd hm ib br se sn sp sd i x2) hx hb hr (fun t ht hW => ⟨⟨tellM kd hm ib br se sn sp sd i x2, (fe2_2, fs2_3, fa1_4, pa1_5), rfl, by show _ = _; unfold needleM; rw [if_pos c_1, show tn (nI i) = i from nI_clamp (by omega)], by rw [ht]; exact hP9, va_K.moved hW.alike hK, hD9⟩, hS.F ht⟩) hS.2.2 dX9_needle_19
def asB (of kind : Nat) : Bool := decide (kind = 0) || (decide (kind = of) || (decide (kind = 2) && decide (of = 4)))
def asR (nc : Nat) (kd : Nat → Nat) (x y : Int32) : Int32 := if rng x nc = true then (if rng y 5 = true then (if asB (kd (tn x)) (tn y) = true then x else -1) else -102) else -101
theorem in_4 (x : Int32) : inB x.toInt64 0 4 = rng x 5 := by
  rw [show (4 : Int64) = (nI 4).toInt64 by decide, in_R x 4 (by decide)]
theorem in_8 (x : Int32) : inB x.toInt64 0 8 = rng x 9 := by
  rw [show (8 : Int64) = (nI 8).toInt64 by decide, in_R x 8 (by decide)]
set_option maxHeartbeats 4000000 in
set_option maxRecDepth 100000 in
theorem kX9_as (l : Launch) (dC : Nat → ClassId) (dI : Nat → Nat → Nat) (ca : Nat → ClassId) (x1 : Int32) (x2 : Int32) (kd : Nat → Nat) (nc : Nat) (sr : Int32) (ps : Nat) (br : Nat) (st : Int32) (so : Int32) (se : Nat) (hm : Nat → Nat) (kbr : Nat) (kst : Int32) (kso : Int32) (kse : Nat) (mq : Nat → Nat) (ea : Int32) (fe : Int32) (fs : Int32) (sw : Int32) (ks : Int32) (hs : Int64) (hnc : nc ≤ 4) (hkd : ∀ j, j < 4 → kd j < 5) : Met l yX9_as (Cond.code yX9_as cX9_as 5 (some .int) :: gT) (rk 3) (ROp (dC, dI) [(mq 0, .inr (9, [.ref (mq 1), .int (nI ps), .int ea, .int (nI nc), .int (nI br), .int st, .int so, .int sr, .ref (mq 2), .ref (mq 3), .int fe, .int fs, .ref (mq 4), .int (nI se), .ref (mq 5), .ref (mq 6), .int sw, .int ks, .int (nI kbr), .int kst, .int kso, .int (nI kse), .ref (mq 7), .ref (mq 8), .ref (mq 9), .long hs])), (mq 2, .inl (ca 14, 8, .inl (fun zj => nI (rwN kd hm zj))))] (TY ca) [Value.ref (mq 0), Value.int x1, Value.int x2]) (vp_Si (fun r => r = asR nc kd x1 x2)) 0 0 (fun _ => False) := by
  refine Met.ofW (cc := cX9_as) (maxL := 5) (ret := (some .int)) (by decide) rfl ?_
  intro p e s m args below meth c s₁ B hml hv
  obtain ⟨rfl, hP, hK⟩ := hv
  have hx := B.exec
  have hb := B.bytes
  have hr := B.returns
  have hts := atoms_spec (ws := (Cond.code yX9_as cX9_as 5 (some .int) :: gT)) B.pre
  have htl : ∀ w ∈ gT, w.before _ s = true := fun w h => hts w (List.mem_cons_of_mem _ h)
  have hown : s.vm.findClass RX9 = some m.cls := findClass_of_methodNamed B.named
  have hlocks := B.notSynchronized
  have hl := lv_entry ([Value.ref (mq 0), Value.int x1, Value.int x2]) (n := 5) (Nat.le_of_ble_eq_true rfl)
  rw [lg_entry_eq]
  generalize (lg_sl ([Value.ref (mq 0), Value.int x1, Value.int x2]) ++ List.replicate (5 - (lg_sl ([Value.ref (mq 0), Value.int x1, Value.int x2])).length) Slot.unset).toArray = ls at hl ⊢
  have hl : lv_has ls 5 [(0, .ref (mq 0)), (1, .int x1), (2, .int x2)] := hl
  refine lv_aload_n hx hb dX9_as_0 rfl (lv_at hl 0 rfl) ?_
  refine lv_iload_n hx hb dX9_as_1 rfl (lv_at hl 1 rfl) ?_
  refine roV (As := [Value.int x1]) (rest := []) (kX9_isNeedle l dC dI ca x1 nc sr ps br st so se kbr kst kso kse mq ea fe fs sw ks hs hnc) ⟨hx, hb, hml, hown, htl⟩ (cVg (C := RX9) 1 htl wd_674 wd_676 wp_18 wd_6 wd_677 rfl rfl (by decide +kernel) ⟨Nat.le_of_ble_eq_true rfl, Nat.le_of_ble_eq_true rfl⟩) (hP.sub [0] rfl) hK (va_recv hK hP (ci := 9) (q0 := 0) rfl rfl) rfl hl.1 rfl (Nat.le_of_ble_eq_true rfl) dX9_as_2 ⟨Nat.zero_le _, Nat.zero_le _⟩ (fun r hr9 => ?_)
  subst hr9
  refine lv_if_ne (tgt := 11) hx hb dX9_as_5 (by decide) (fun c_1 => ?_) (fun c_1 => ?_)
  · replace c_1 := bI_t c_1
    refine lv_iload_n hx hb dX9_as_11 rfl (lv_at hl 2 rfl) ?_
    refine lv_i2l (v := x2.toInt64) hx hb dX9_as_12 rfl ?_
    refine lv_lconst (v := 0) hx hb dX9_as_13 (by decide) ?_
    refine lv_ldc2 (v := 4) hx hb hown (htl _ wd_728) dX9_as_14 ?_
    refine roS (As := [Value.long x2.toInt64, Value.long 0, Value.long 4]) (rest := []) (kX9_in l dC dI ca x2.toInt64 0 4 ) ⟨hx, hb, hml, hown, htl⟩ (cSg 3 htl wd_635 wd_636 wd_6 wd_637 rfl rfl (by decide +kernel) ⟨Nat.le_of_ble_eq_true rfl, Nat.le_of_ble_eq_true rfl⟩) (hP.sub [] rfl) hK rfl hl.1 rfl (Nat.le_of_ble_eq_true rfl) dX9_as_17 ⟨Nat.zero_le _, Nat.zero_le _⟩ (fun r hr9 => ?_)
    subst hr9
    refine lv_if_ne (tgt := 26) hx hb dX9_as_20 (by decide) (fun c_2 => ?_) (fun c_2 => ?_)
    · rw [in_4] at c_2
      replace c_2 := bI_t c_2
      obtain ⟨i, hi, rfl⟩ := rng_ex c_1 (by omega)
      obtain ⟨kk, hkk, rfl⟩ := rng_ex c_2 (by decide)
      refine lv_aload_n hx hb dX9_as_26 rfl (lv_at hl 0 rfl) ?_
      refine va_get (D := (dC, dI)) (ci := 9) (v := .ref (mq 2)) (C := RX9) (T := TX9) (N := 26) hx hb htl iX9 hown hK hP 0 rfl rfl 8 (by decide) (htl _ wd_559) (fun _ h9 => h9) rfl dX9_as_27 ?_
      refine lv_iconst (v := nI 2) hx hb dX9_as_30 (by decide) ?_
      refine lv_iload_n hx hb dX9_as_31 rfl (lv_at hl 1 rfl) ?_
      refine lv_imul hx hb dX9_as_32 ?_
      refine lv_ri (y := nI (2 * i)) (pk_mul 2 i) ?_
      refine va_iald hx hb hK hP 1 14 rfl rfl (vp_in_nI (by omega) (by decide)) dX9_as_33 ?_
      refine lv_ri (y := nI ((rwN kd hm) (2 * i))) (congrArg (fun zj => nI (rwN kd hm zj)) (nI_clamp (by omega))) ?_
      refine lv_ri (y := nI (kd i)) (congrArg nI (rwN_e kd hm i)) ?_
      have hkdi := hkd i (by omega)
      refine lv_istore_n (lv' := [(3, .int (nI (kd i))), (0, .ref (mq 0)), (1, .int (nI i)), (2, .int (nI kk))]) hx hb dX9_as_34 rfl hl (by decide) rfl (fun ls hl => ?_)
      refine lv_iload_n hx hb dX9_as_35 rfl (lv_at hl 3 rfl) ?_
      refine lv_if_eq (tgt := 54) hx hb dX9_as_36 (by decide) (fun c_3 => ?_) (fun c_3 => ?_)
      · rw [nI_z (by omega)] at c_3
        refine lv_iconst (v := nI 1) hx hb dX9_as_54 (by decide) ?_
        refine lv_goto (tgt := 59) hx hb dX9_as_55 (by decide) ?_
        refine lv_istore (lv' := [(4, .int (nI 1)), (3, .int (nI (kd i))), (0, .ref (mq 0)), (1, .int (nI i)), (2, .int (nI kk))]) hx hb dX9_as_59 hl (by decide) rfl (fun ls hl => ?_)
        refine lv_iload hx hb dX9_as_61 (lv_at hl 0 rfl) ?_
        refine lv_if_eq (tgt := 70) hx hb dX9_as_63 (by decide) (fun c_4 => ?_) (fun c_4 => ?_)
        · exact absurd c_4 (by decide)
        · refine lv_iload_n hx hb dX9_as_66 rfl (lv_at hl 3 rfl) ?_
          refine lv_goto (tgt := 71) hx hb dX9_as_67 (by decide) ?_
          exact W.iret (v := nI i) hx hb hr (fun t ht hW => ⟨nI i, rfl, by show _ = _; unfold asR; rw [if_pos c_1, if_pos c_2, show tn (nI i) = i from nI_clamp (by omega), show tn (nI kk) = kk from nI_clamp (by omega), show asB (kd i) kk = true by unfold asB; simp; omega]; rfl, ht⟩) (fun q h => by cases h) dX9_as_71
      · rw [nI_z (by omega)] at c_3
        refine lv_iload_n hx hb dX9_as_39 rfl (lv_at hl 3 rfl) ?_
        refine lv_iload_n hx hb dX9_as_40 rfl (lv_at hl 0 rfl) ?_
        refine lv_icmp_eq (tgt := 54) hx hb dX9_as_41 (by decide) (fun c_5 => ?_) (fun c_5 => ?_)
        · rw [nI_eq (by omega) (by omega)] at c_5
          refine lv_iconst (v := nI 1) hx hb dX9_as_54 (by decide) ?_
          refine lv_goto (tgt := 59) hx hb dX9_as_55 (by decide) ?_
          refine lv_istore (lv' := [(4, .int (nI 1)), (3, .int (nI (kd i))), (0, .ref (mq 0)), (1, .int (nI i)), (2, .int (nI kk))]) hx hb dX9_as_59 hl (by decide) rfl (fun ls hl => ?_)
          refine lv_iload hx hb dX9_as_61 (lv_at hl 0 rfl) ?_
          refine lv_if_eq (tgt := 70) hx hb dX9_as_63 (by decide) (fun c_6 => ?_) (fun c_6 => ?_)
          · exact absurd c_6 (by decide)
          · refine lv_iload_n hx hb dX9_as_66 rfl (lv_at hl 3 rfl) ?_
            refine lv_goto (tgt := 71) hx hb dX9_as_67 (by decide) ?_
            exact W.iret (v := nI i) hx hb hr (fun t ht hW => ⟨nI i, rfl, by show _ = _; unfold asR; rw [if_pos c_1, if_pos c_2, show tn (nI i) = i from nI_clamp (by omega), show tn (nI kk) = kk from nI_clamp (by omega), show asB (kd i) kk = true by unfold asB; simp; omega]; rfl, ht⟩) (fun q h => by cases h) dX9_as_71
        · rw [nI_eq (by omega) (by omega)] at c_5
          refine lv_iload_n hx hb dX9_as_44 rfl (lv_at hl 3 rfl) ?_
          refine lv_iconst (v := nI 2) hx hb dX9_as_45 (by decide) ?_
          refine lv_icmp_ne (tgt := 58) hx hb dX9_as_46 (by decide) (fun c_7 => ?_) (fun c_7 => ?_)
          · rw [nI_eq (by omega) (by decide)] at c_7
            refine lv_iconst (v := nI 0) hx hb dX9_as_58 (by decide) ?_
            refine lv_istore (lv' := [(4, .int (nI 0)), (3, .int (nI (kd i))), (0, .ref (mq 0)), (1, .int (nI i)), (2, .int (nI kk))]) hx hb dX9_as_59 hl (by decide) rfl (fun ls hl => ?_)
            refine lv_iload hx hb dX9_as_61 (lv_at hl 0 rfl) ?_
            refine lv_if_eq (tgt := 70) hx hb dX9_as_63 (by decide) (fun c_8 => ?_) (fun c_8 => ?_)
            · refine lv_iconst (v := (-1)) hx hb dX9_as_70 (by decide) ?_
              exact W.iret (v := (-1)) hx hb hr (fun t ht hW => ⟨(-1), rfl, by show _ = _; unfold asR; rw [if_pos c_1, if_pos c_2, show tn (nI i) = i from nI_clamp (by omega), show tn (nI kk) = kk from nI_clamp (by omega), show asB (kd i) kk = false by unfold asB; simp; omega]; rfl, ht⟩) (fun q h => by cases h) dX9_as_71
            · exact absurd c_8 (by decide)
          · rw [nI_eq (by omega) (by decide)] at c_7
            refine lv_iload_n hx hb dX9_as_49 rfl (lv_at hl 0 rfl) ?_
            refine lv_iconst (v := nI 4) hx hb dX9_as_50 (by decide) ?_
            refine lv_icmp_ne (tgt := 58) hx hb dX9_as_51 (by decide) (fun c_9 => ?_) (fun c_9 => ?_)
            · rw [nI_eq (by omega) (by decide)] at c_9
              refine lv_iconst (v := nI 0) hx hb dX9_as_58 (by decide) ?_
              refine lv_istore (lv' := [(4, .int (nI 0)), (3, .int (nI (kd i))), (0, .ref (mq 0)), (1, .int (nI i)), (2, .int (nI kk))]) hx hb dX9_as_59 hl (by decide) rfl (fun ls hl => ?_)
              refine lv_iload hx hb dX9_as_61 (lv_at hl 0 rfl) ?_
              refine lv_if_eq (tgt := 70) hx hb dX9_as_63 (by decide) (fun c_10 => ?_) (fun c_10 => ?_)
              · refine lv_iconst (v := (-1)) hx hb dX9_as_70 (by decide) ?_
                exact W.iret (v := (-1)) hx hb hr (fun t ht hW => ⟨(-1), rfl, by show _ = _; unfold asR; rw [if_pos c_1, if_pos c_2, show tn (nI i) = i from nI_clamp (by omega), show tn (nI kk) = kk from nI_clamp (by omega), show asB (kd i) kk = false by unfold asB; simp; omega]; rfl, ht⟩) (fun q h => by cases h) dX9_as_71
              · exact absurd c_10 (by decide)
            · rw [nI_eq (by omega) (by decide)] at c_9
              refine lv_iconst (v := nI 1) hx hb dX9_as_54 (by decide) ?_
              refine lv_goto (tgt := 59) hx hb dX9_as_55 (by decide) ?_
              refine lv_istore (lv' := [(4, .int (nI 1)), (3, .int (nI (kd i))), (0, .ref (mq 0)), (1, .int (nI i)), (2, .int (nI kk))]) hx hb dX9_as_59 hl (by decide) rfl (fun ls hl => ?_)
              refine lv_iload hx hb dX9_as_61 (lv_at hl 0 rfl) ?_
              refine lv_if_eq (tgt := 70) hx hb dX9_as_63 (by decide) (fun c_11 => ?_) (fun c_11 => ?_)
              · exact absurd c_11 (by decide)
              · refine lv_iload_n hx hb dX9_as_66 rfl (lv_at hl 3 rfl) ?_
                refine lv_goto (tgt := 71) hx hb dX9_as_67 (by decide) ?_
                exact W.iret (v := nI i) hx hb hr (fun t ht hW => ⟨nI i, rfl, by show _ = _; unfold asR; rw [if_pos c_1, if_pos c_2, show tn (nI i) = i from nI_clamp (by omega), show tn (nI kk) = kk from nI_clamp (by omega), show asB (kd i) kk = true by unfold asB; simp; omega]; rfl, ht⟩) (fun q h => by cases h) dX9_as_71
    · rw [in_4] at c_2
      replace c_2 := bI_f c_2
      refine lv_bipush (v := (-102)) hx hb dX9_as_23 (by decide) ?_
      exact W.iret (v := (-102)) hx hb hr (fun t ht hW => ⟨(-102), rfl, by show _ = _; simp [asR, c_1, c_2], ht⟩) (fun q h => by cases h) dX9_as_25
  · replace c_1 := bI_f c_1
    refine lv_bipush (v := (-101)) hx hb dX9_as_8 (by decide) ?_
    exact W.iret (v := (-101)) hx hb hr (fun t ht hW => ⟨(-101), rfl, by show _ = _; simp [asR, c_1], ht⟩) (fun q h => by cases h) dX9_as_10
set_option maxHeartbeats 4000000 in
set_option maxRecDepth 100000 in
theorem kX9_points (l : Launch) (dC : Nat → ClassId) (dI : Nat → Nat → Nat) (ca : Nat → ClassId) (x1 : Int32) (x2 : Int32) (kd : Nat → Nat) (nc : Nat) (sr : Int32) (ps : Nat) (br : Nat) (st : Int32) (so : Int32) (se : Nat) (hm : Nat → Nat) (kbr : Nat) (kst : Int32) (kso : Int32) (kse : Nat) (mq : Nat → Nat) (ea : Int32) (fe : Int32) (fs : Int32) (sw : Int32) (ks : Int32) (hs : Int64) (hnc : nc ≤ 4) (hkd : ∀ j, j < 4 → kd j < 5) (hhm : ∀ j, j < 4 → hm j < 36) : Met l yX9_points (Cond.code yX9_points cX9_points 3 (some .int) :: gT) (rk 4) (ROp (dC, dI) [(mq 0, .inr (9, [.ref (mq 1), .int (nI ps), .int ea, .int (nI nc), .int (nI br), .int st, .int so, .int sr, .ref (mq 2), .ref (mq 3), .int fe, .int fs, .ref (mq 4), .int (nI se), .ref (mq 5), .ref (mq 6), .int sw, .int ks, .int (nI kbr), .int kst, .int kso, .int (nI kse), .ref (mq 7), .ref (mq 8), .ref (mq 9), .long hs])), (mq 2, .inl (ca 14, 8, .inl (fun zj => nI (rwN kd hm zj))))] (TY ca) [Value.ref (mq 0), Value.int x1, Value.int x2]) (vp_Si (fun r => r = pointsR nc kd hm x1 x2)) 0 0 (fun _ => False) := by
  refine Met.ofW (cc := cX9_points) (maxL := 3) (ret := (some .int)) (by decide) rfl ?_
  intro p e s m args below meth c s₁ B hml hv
  obtain ⟨rfl, hP, hK⟩ := hv
  have hx := B.exec
  have hb := B.bytes
  have hr := B.returns
  have hts := atoms_spec (ws := (Cond.code yX9_points cX9_points 3 (some .int) :: gT)) B.pre
  have htl : ∀ w ∈ gT, w.before _ s = true := fun w h => hts w (List.mem_cons_of_mem _ h)
  have hown : s.vm.findClass RX9 = some m.cls := findClass_of_methodNamed B.named
  have hlocks := B.notSynchronized
  have hl := lv_entry ([Value.ref (mq 0), Value.int x1, Value.int x2]) (n := 3) (Nat.le_of_ble_eq_true rfl)
  rw [lg_entry_eq]
  generalize (lg_sl ([Value.ref (mq 0), Value.int x1, Value.int x2]) ++ List.replicate (3 - (lg_sl ([Value.ref (mq 0), Value.int x1, Value.int x2])).length) Slot.unset).toArray = ls at hl ⊢
  have hl : lv_has ls 3 [(0, .ref (mq 0)), (1, .int x1), (2, .int x2)] := hl
  refine lv_aload_n hx hb dX9_points_0 rfl (lv_at hl 0 rfl) ?_
  refine lv_iload_n hx hb dX9_points_1 rfl (lv_at hl 1 rfl) ?_
  refine roV (As := [Value.int x1]) (rest := []) (kX9_isNeedle l dC dI ca x1 nc sr ps br st so se kbr kst kso kse mq ea fe fs sw ks hs hnc) ⟨hx, hb, hml, hown, htl⟩ (cVg (C := RX9) 1 htl wd_674 wd_676 wp_18 wd_6 wd_677 rfl rfl (by decide +kernel) ⟨Nat.le_of_ble_eq_true rfl, Nat.le_of_ble_eq_true rfl⟩) (hP.sub [0] rfl) hK (va_recv hK hP (ci := 9) (q0 := 0) rfl rfl) rfl hl.1 rfl (Nat.le_of_ble_eq_true rfl) dX9_points_2 ⟨Nat.zero_le _, Nat.zero_le _⟩ (fun r hr9 => ?_)
  subst hr9
  refine lv_if_eq (tgt := 25) hx hb dX9_points_5 (by decide) (fun c_1 => ?_) (fun c_1 => ?_)
  · replace c_1 := bI_f c_1
    refine lv_bipush (v := (-101)) hx hb dX9_points_25 (by decide) ?_
    exact W.iret (v := (-101)) hx hb hr (fun t ht hW => ⟨(-101), rfl, by show _ = _; simp at *; simp [pointsR, c_1]; try omega, ht⟩) (fun q h => by cases h) dX9_points_27
  · replace c_1 := bI_t c_1
    refine lv_aload_n hx hb dX9_points_8 rfl (lv_at hl 0 rfl) ?_
    refine lv_iload_n hx hb dX9_points_9 rfl (lv_at hl 2 rfl) ?_
    refine roV (As := [Value.int x2]) (rest := []) (kX9_isPlace l dC dI ca x2 nc sr ps br st so se kbr kst kso kse mq ea fe fs sw ks hs hnc) ⟨hx, hb, hml, hown, htl⟩ (cVg (C := RX9) 1 htl wd_733 wd_735 wp_28 wd_6 wd_736 rfl rfl (by decide +kernel) ⟨Nat.le_of_ble_eq_true rfl, Nat.le_of_ble_eq_true rfl⟩) (hP.sub [0] rfl) hK (va_recv hK hP (ci := 9) (q0 := 0) rfl rfl) rfl hl.1 rfl (Nat.le_of_ble_eq_true rfl) dX9_points_10 ⟨Nat.zero_le _, Nat.zero_le _⟩ (fun r hr9 => ?_)
    subst hr9
    refine lv_if_eq (tgt := 25) hx hb dX9_points_13 (by decide) (fun c_2 => ?_) (fun c_2 => ?_)
    · replace c_2 := bI_f c_2
      have hpl9 : rng x1 nc = true → rng x2 36 = false := by
        intro h8
        obtain ⟨z9, hz9, rfl⟩ := rng_ex h8 (by omega)
        simp at c_2
        exact c_2 (by omega)
      refine lv_bipush (v := (-101)) hx hb dX9_points_25 (by decide) ?_
      exact W.iret (v := (-101)) hx hb hr (fun t ht hW => ⟨(-101), rfl, by show _ = _; unfold pointsR; rw [if_neg]; intro h9; simp at h9 hpl9; exact absurd h9.2 (by simp [hpl9 h9.1]), ht⟩) (fun q h => by cases h) dX9_points_27
    · replace c_2 := bI_t c_2
      have hpl9 : rng x2 36 = true := by simp at c_2; exact c_2.2
      obtain ⟨i, hi, rfl⟩ := rng_ex c_1 (by omega)
      obtain ⟨pp, hp, rfl⟩ := rng_ex hpl9 (by decide)
      refine lv_aload_n hx hb dX9_points_16 rfl (lv_at hl 0 rfl) ?_
      refine lv_iload_n hx hb dX9_points_17 rfl (lv_at hl 1 rfl) ?_
      refine lv_iload_n hx hb dX9_points_18 rfl (lv_at hl 2 rfl) ?_
      refine roV (As := [Value.int (nI i), Value.int (nI pp)]) (rest := []) (kX9_pointsOf l dC dI ca i pp kd nc sr ps br st so se hm kbr kst kso kse mq ea fe fs sw ks hs (by omega) hp hkd hhm) ⟨hx, hb, hml, hown, htl⟩ (cVg (C := RX9) 2 htl wd_682 wd_684 wp_20 wd_6 wd_685 rfl rfl (by decide +kernel) ⟨Nat.le_of_ble_eq_true rfl, Nat.le_of_ble_eq_true rfl⟩) (hP.sub [0, 1] rfl) hK (va_recv hK hP (ci := 9) (q0 := 0) rfl rfl) rfl hl.1 rfl (Nat.le_of_ble_eq_true rfl) dX9_points_19 ⟨Nat.zero_le _, Nat.zero_le _⟩ (fun r hr9 => ?_)
      subst hr9
      refine lv_goto (tgt := 27) hx hb dX9_points_22 (by decide) ?_
      exact W.iret (v := nI (pointN (kd i) (hm i) pp)) hx hb hr (fun t ht hW => ⟨nI (pointN (kd i) (hm i) pp), rfl, by show _ = _; simp [pointsR, c_1, hpl9, nI_clamp (show i < 2 ^ 31 by omega), nI_clamp (show pp < 2 ^ 31 by omega)], ht⟩) (fun q h => by cases h) dX9_points_27
set_option maxHeartbeats 4000000 in
set_option maxRecDepth 100000 in
theorem kX9_swing (l : Launch) (dC : Nat → ClassId) (dI : Nat → Nat → Nat) (ca : Nat → ClassId) (sz : Nat) (x1 : Int32) (x2 : Int32) (kd : Nat → Nat) (nc : Nat) (sr : Int32) (ps : Nat) (br : Nat) (st : Int32) (so : Int32) (se : Nat) (hm : Nat → Nat) (kbr : Nat) (kst : Int32) (kso : Int32) (kse : Nat) (mq : Nat → Nat) (ea : Int32) (fe : Int32) (fs : Int32) (sw : Int32) (ks : Int32) (hs : Int64) (hnc : nc ≤ 4) : Met l yX9_swing (Cond.code yX9_swing cX9_swing 4 (some .int) :: gT) (rk 3) (EFp (dC, dI) [(mq 0, .inr (9, [.ref (mq 1), .int (nI ps), .int ea, .int (nI nc), .int (nI br), .int st, .int so, .int sr, .ref (mq 2), .ref (mq 3), .int fe, .int fs, .ref (mq 4), .int (nI se), .ref (mq 5), .ref (mq 6), .int sw, .int ks, .int (nI kbr), .int kst, .int kso, .int (nI kse), .ref (mq 7), .ref (mq 8), .ref (mq 9), .long hs])), (mq 2, .inl (ca 14, 8, .inl (fun zj => nI (rwN kd hm zj))))] (TY ca) sz [Value.ref (mq 0), Value.int x1, Value.int x2]) (va_Qi (fun (r : Int32) (_ : Unit) => r = swingR nc hm x1 x2) (EFb (dC, dI) (fun (_ : Unit) => [(mq 0, .inr (9, [.ref (mq 1), .int (nI ps), .int ea, .int (nI nc), .int (nI br), .int st, .int so, .int sr, .ref (mq 2), .ref (mq 3), .int fe, .int fs, .ref (mq 4), .int (nI se), .ref (mq 5), .ref (mq 6), .int sw, .int ks, .int (nI kbr), .int kst, .int kso, .int (nI kse), .ref (mq 7), .ref (mq 8), .ref (mq 9), .long hs])), (mq 2, .inl (ca 14, 8, .inl (fun zj => nI (rwN kd (if (rng x1 nc && rng x2 36) = true then va_up hm (tn x1) (tn x2) else hm) zj))))]) (TY ca) (va_A [(mq 0, .inr (9, [.ref (mq 1), .int (nI ps), .int ea, .int (nI nc), .int (nI br), .int st, .int so, .int sr, .ref (mq 2), .ref (mq 3), .int fe, .int fs, .ref (mq 4), .int (nI se), .ref (mq 5), .ref (mq 6), .int sw, .int ks, .int (nI kbr), .int kst, .int kso, .int (nI kse), .ref (mq 7), .ref (mq 8), .ref (mq 9), .long hs])), (mq 2, .inl (ca 14, 8, .inl (fun zj => nI (rwN kd hm zj))))] sz)) (va_A [(mq 0, .inr (9, [.ref (mq 1), .int (nI ps), .int ea, .int (nI nc), .int (nI br), .int st, .int so, .int sr, .ref (mq 2), .ref (mq 3), .int fe, .int fs, .ref (mq 4), .int (nI se), .ref (mq 5), .ref (mq 6), .int sw, .int ks, .int (nI kbr), .int kst, .int kso, .int (nI kse), .ref (mq 7), .ref (mq 8), .ref (mq 9), .long hs])), (mq 2, .inl (ca 14, 8, .inl (fun zj => nI (rwN kd hm zj))))] sz)) 0 0 (va_A [(mq 0, .inr (9, [.ref (mq 1), .int (nI ps), .int ea, .int (nI nc), .int (nI br), .int st, .int so, .int sr, .ref (mq 2), .ref (mq 3), .int fe, .int fs, .ref (mq 4), .int (nI se), .ref (mq 5), .ref (mq 6), .int sw, .int ks, .int (nI kbr), .int kst, .int kso, .int (nI kse), .ref (mq 7), .ref (mq 8), .ref (mq 9), .long hs])), (mq 2, .inl (ca 14, 8, .inl (fun zj => nI (rwN kd hm zj))))] sz) := by
  refine Met.ofW (cc := cX9_swing) (maxL := 4) (ret := (some .int)) (by decide) rfl ?_
  intro p e s m args below meth c s₁ B hml hv
  obtain ⟨rfl, hsz, hP, hK, hD0⟩ := hv
  have hx := B.exec
  have hb := B.bytes
  have hr := B.returns
  have hts := atoms_spec (ws := (Cond.code yX9_swing cX9_swing 4 (some .int) :: gT)) B.pre
  have htl : ∀ w ∈ gT, w.before _ s = true := fun w h => hts w (List.mem_cons_of_mem _ h)
  have hown : s.vm.findClass RX9 = some m.cls := findClass_of_methodNamed B.named
  have hlocks := B.notSynchronized
  subst hsz
  have hD := hD0.self (sz := s.heap.size)
  generalize hAe : va_A [(mq 0, .inr (9, [.ref (mq 1), .int (nI ps), .int ea, .int (nI nc), .int (nI br), .int st, .int so, .int sr, .ref (mq 2), .ref (mq 3), .int fe, .int fs, .ref (mq 4), .int (nI se), .ref (mq 5), .ref (mq 6), .int sw, .int ks, .int (nI kbr), .int kst, .int kso, .int (nI kse), .ref (mq 7), .ref (mq 8), .ref (mq 9), .long hs])), (mq 2, .inl (ca 14, 8, .inl (fun zj => nI (rwN kd hm zj))))] s.heap.size = A at hD ⊢
  have hA : ∀ q : Nat, s.heap.size ≤ q → A q := fun q h => by rw [← hAe]; exact Or.inr h
  have hS : va_S A s.heap s.heap [] := va_S.rf
  have hl := lv_entry ([Value.ref (mq 0), Value.int x1, Value.int x2]) (n := 4) (Nat.le_of_ble_eq_true rfl)
  rw [lg_entry_eq]
  generalize (lg_sl ([Value.ref (mq 0), Value.int x1, Value.int x2]) ++ List.replicate (4 - (lg_sl ([Value.ref (mq 0), Value.int x1, Value.int x2])).length) Slot.unset).toArray = ls at hl ⊢
  have hl : lv_has ls 4 [(0, .ref (mq 0)), (1, .int x1), (2, .int x2)] := hl
  refine lv_aload_n hx hb dX9_swing_0 rfl (lv_at hl 0 rfl) ?_
  refine lv_iload_n hx hb dX9_swing_1 rfl (lv_at hl 1 rfl) ?_
  refine roV (As := [Value.int x1]) (rest := []) (kX9_isNeedle l dC dI ca x1 nc sr ps br st so se kbr kst kso kse mq ea fe fs sw ks hs hnc) ⟨hx, hb, hml, hown, htl⟩ (cVg (C := RX9) 1 htl wd_674 wd_676 wp_18 wd_6 wd_677 rfl rfl (by decide +kernel) ⟨Nat.le_of_ble_eq_true rfl, Nat.le_of_ble_eq_true rfl⟩) (hP.sub [0] rfl) hK (va_recv hK hP (ci := 9) (q0 := 0) rfl rfl) rfl hl.1 rfl (Nat.le_of_ble_eq_true rfl) dX9_swing_2 ⟨Nat.zero_le _, Nat.zero_le _⟩ (fun r hr9 => ?_)
  subst hr9
  refine lv_if_eq (tgt := 16) hx hb dX9_swing_5 (by decide) (fun c_1 => ?_) (fun c_1 => ?_)
  · replace c_1 := bI_f c_1
    refine lv_bipush (v := (-101)) hx hb dX9_swing_16 (by decide) ?_
    have hP9 := hP.sub (ws' := [(mq 0, .inr (9, [.ref (mq 1), .int (nI ps), .int ea, .int (nI nc), .int (nI br), .int st, .int so, .int sr, .ref (mq 2), .ref (mq 3), .int fe, .int fs, .ref (mq 4), .int (nI se), .ref (mq 5), .ref (mq 6), .int sw, .int ks, .int (nI kbr), .int kst, .int kso, .int (nI kse), .ref (mq 7), .ref (mq 8), .ref (mq 9), .long hs])), (mq 2, .inl (ca 14, 8, .inl (fun zj => nI (rwN kd hm zj))))]) [0, 1] rfl
    have hD9 := hD.sub (ws' := [(mq 0, .inr (9, [.ref (mq 1), .int (nI ps), .int ea, .int (nI nc), .int (nI br), .int st, .int so, .int sr, .ref (mq 2), .ref (mq 3), .int fe, .int fs, .ref (mq 4), .int (nI se), .ref (mq 5), .ref (mq 6), .int sw, .int ks, .int (nI kbr), .int kst, .int kso, .int (nI kse), .ref (mq 7), .ref (mq 8), .ref (mq 9), .long hs])), (mq 2, .inl (ca 14, 8, .inl (fun zj => nI (rwN kd hm zj))))]) [0, 1] (by decide) rfl
    have hk : (rng x1 nc && rng x2 36) = false := by simp [c_1]
    exact W.iret (v := (-101)) hx hb hr (fun t ht hW => ⟨⟨(-101), (), rfl, by show _ = _; simp only [swingR, hk, Bool.false_eq_true, ↓reduceIte], by rw [ht]; simp only [hk, Bool.false_eq_true, ↓reduceIte]; exact hP9, va_K.moved hW.alike hK, (by simp only [hk, Bool.false_eq_true, ↓reduceIte]; exact hD9)⟩, hS.F ht⟩) hS.2.2 dX9_swing_18
  · replace c_1 := bI_t c_1
    refine lv_aload_n hx hb dX9_swing_8 rfl (lv_at hl 0 rfl) ?_
    refine lv_iload_n hx hb dX9_swing_9 rfl (lv_at hl 2 rfl) ?_
    refine roV (As := [Value.int x2]) (rest := []) (kX9_isPlace l dC dI ca x2 nc sr ps br st so se kbr kst kso kse mq ea fe fs sw ks hs hnc) ⟨hx, hb, hml, hown, htl⟩ (cVg (C := RX9) 1 htl wd_733 wd_735 wp_28 wd_6 wd_736 rfl rfl (by decide +kernel) ⟨Nat.le_of_ble_eq_true rfl, Nat.le_of_ble_eq_true rfl⟩) (hP.sub [0] rfl) hK (va_recv hK hP (ci := 9) (q0 := 0) rfl rfl) rfl hl.1 rfl (Nat.le_of_ble_eq_true rfl) dX9_swing_10 ⟨Nat.zero_le _, Nat.zero_le _⟩ (fun r hr9 => ?_)
    subst hr9
    refine lv_if_ne (tgt := 19) hx hb dX9_swing_13 (by decide) (fun c_2 => ?_) (fun c_2 => ?_)
    · replace c_2 := bI_t c_2
      have hpl9 : rng x2 36 = true := by simp at c_2; exact c_2.2
      obtain ⟨i, hi, rfl⟩ := rng_ex c_1 (by omega)
      obtain ⟨pp, hp, rfl⟩ := rng_ex hpl9 (by decide)
      refine lv_aload_n hx hb dX9_swing_19 rfl (lv_at hl 0 rfl) ?_
      refine va_get (D := (dC, dI)) (ci := 9) (v := .ref (mq 2)) (C := RX9) (T := TX9) (N := 26) hx hb htl iX9 hown hK hP 0 rfl rfl 8 (by decide) (htl _ wd_559) (fun _ h9 => h9) rfl dX9_swing_20 ?_
      refine lv_iconst (v := nI 2) hx hb dX9_swing_23 (by decide) ?_
      refine lv_iload_n hx hb dX9_swing_24 rfl (lv_at hl 1 rfl) ?_
      refine lv_imul hx hb dX9_swing_25 ?_
      refine lv_ri (y := nI (2 * i)) (pk_mul 2 i) ?_
      refine lv_iconst (v := nI 1) hx hb dX9_swing_26 (by decide) ?_
      refine lv_iadd hx hb dX9_swing_27 ?_
      refine lv_ri (y := nI ((2 * i) + 1)) (nI_add (2 * i) 1) ?_
      refine va_iald hx hb hK hP 1 14 rfl rfl (vp_in_nI (by omega) (by decide)) dX9_swing_28 ?_
      refine lv_ri (y := nI ((rwN kd hm) ((2 * i) + 1))) (congrArg (fun zj => nI (rwN kd hm zj)) (nI_clamp (by omega))) ?_
      refine lv_ri (y := nI (hm i)) (congrArg nI (rwN_o kd hm i)) ?_
      refine lv_istore_n (lv' := [(3, .int (nI (hm i))), (0, .ref (mq 0)), (1, .int (nI i)), (2, .int (nI pp))]) hx hb dX9_swing_29 rfl hl (by decide) rfl (fun ls hl => ?_)
      refine lv_aload_n hx hb dX9_swing_30 rfl (lv_at hl 1 rfl) ?_
      refine va_get (D := (dC, dI)) (ci := 9) (v := .ref (mq 2)) (C := RX9) (T := TX9) (N := 26) hx hb htl iX9 hown hK hP 0 rfl rfl 8 (by decide) (htl _ wd_559) (fun _ h9 => h9) rfl dX9_swing_31 ?_
      refine lv_iconst (v := nI 2) hx hb dX9_swing_34 (by decide) ?_
      refine lv_iload_n hx hb dX9_swing_35 rfl (lv_at hl 2 rfl) ?_
      refine lv_imul hx hb dX9_swing_36 ?_
      refine lv_ri (y := nI (2 * i)) (pk_mul 2 i) ?_
      refine lv_iconst (v := nI 1) hx hb dX9_swing_37 (by decide) ?_
      refine lv_iadd hx hb dX9_swing_38 ?_
      refine lv_ri (y := nI ((2 * i) + 1)) (nI_add (2 * i) 1) ?_
      refine lv_iload_n hx hb dX9_swing_39 rfl (lv_at hl 3 rfl) ?_
      refine va_iast hx hb hK hP hD hS 1 14 rfl rfl (vp_in_nI (by omega) (by decide)) dX9_swing_40 (fun H locs hP hD hS => ?_)
      rw [nI_clamp (show (2 * i) + 1 < 2 ^ 31 by omega)] at hP hD
      rw [show (upd (fun zj => nI (rwN kd hm zj)) ((2 * i) + 1) (nI pp)) = (fun zj => nI (va_up (rwN kd hm) ((2 * i) + 1) pp zj)) from upd_nI _ _ _] at hP hD
      have hP : va_P (dC, dI) vwCl [(mq 0, .inr (9, [.ref (mq 1), .int (nI ps), .int ea, .int (nI nc), .int (nI br), .int st, .int so, .int sr, .ref (mq 2), .ref (mq 3), .int fe, .int fs, .ref (mq 4), .int (nI se), .ref (mq 5), .ref (mq 6), .int sw, .int ks, .int (nI kbr), .int kst, .int kso, .int (nI kse), .ref (mq 7), .ref (mq 8), .ref (mq 9), .long hs])), (mq 2, .inl (ca 14, 8, .inl (fun zj => nI (va_up (rwN kd hm) ((2 * i) + 1) pp zj))))] H := hP
      have hD : va_D A [(mq 0, .inr (9, [.ref (mq 1), .int (nI ps), .int ea, .int (nI nc), .int (nI br), .int st, .int so, .int sr, .ref (mq 2), .ref (mq 3), .int fe, .int fs, .ref (mq 4), .int (nI se), .ref (mq 5), .ref (mq 6), .int sw, .int ks, .int (nI kbr), .int kst, .int kso, .int (nI kse), .ref (mq 7), .ref (mq 8), .ref (mq 9), .long hs])), (mq 2, .inl (ca 14, 8, .inl (fun zj => nI (va_up (rwN kd hm) ((2 * i) + 1) pp zj))))] := hD
      refine lv_iload_n hx hb dX9_swing_41 rfl (lv_at hl 0 rfl) ?_
      have hP9 := hP.sub (ws' := [(mq 0, .inr (9, [.ref (mq 1), .int (nI ps), .int ea, .int (nI nc), .int (nI br), .int st, .int so, .int sr, .ref (mq 2), .ref (mq 3), .int fe, .int fs, .ref (mq 4), .int (nI se), .ref (mq 5), .ref (mq 6), .int sw, .int ks, .int (nI kbr), .int kst, .int kso, .int (nI kse), .ref (mq 7), .ref (mq 8), .ref (mq 9), .long hs])), (mq 2, .inl (ca 14, 8, .inl (fun zj => nI (va_up (rwN kd hm) ((2 * i) + 1) pp zj))))]) [0, 1] rfl
      have hD9 := hD.sub (ws' := [(mq 0, .inr (9, [.ref (mq 1), .int (nI ps), .int ea, .int (nI nc), .int (nI br), .int st, .int so, .int sr, .ref (mq 2), .ref (mq 3), .int fe, .int fs, .ref (mq 4), .int (nI se), .ref (mq 5), .ref (mq 6), .int sw, .int ks, .int (nI kbr), .int kst, .int kso, .int (nI kse), .ref (mq 7), .ref (mq 8), .ref (mq 9), .long hs])), (mq 2, .inl (ca 14, 8, .inl (fun zj => nI (va_up (rwN kd hm) ((2 * i) + 1) pp zj))))]) [0, 1] (by decide) rfl
      have hk : (rng (nI i) nc && rng (nI pp) 36) = true := by simp [c_1, hpl9]
      exact W.iret (v := nI (hm i)) hx hb hr (fun t ht hW => ⟨⟨nI (hm i), (), rfl, by show _ = _; simp only [swingR, hk, ↓reduceIte, nI_clamp (show i < 2 ^ 31 by omega)], by rw [ht]; simp only [hk, ↓reduceIte, nI_clamp (show i < 2 ^ 31 by omega), nI_clamp (show pp < 2 ^ 31 by omega), ← rwN_up]; exact hP9, va_K.moved hW.alike hK, (by simp only [hk, ↓reduceIte, nI_clamp (show i < 2 ^ 31 by omega), nI_clamp (show pp < 2 ^ 31 by omega), ← rwN_up]; exact hD9)⟩, hS.F ht⟩) hS.2.2 dX9_swing_42
    · replace c_2 := bI_f c_2
      have hpl9 : rng x1 nc = true → rng x2 36 = false := by
        intro h8
        obtain ⟨z9, hz9, rfl⟩ := rng_ex h8 (by omega)
        simp at c_2
        exact c_2 (by omega)
      refine lv_bipush (v := (-101)) hx hb dX9_swing_16 (by decide) ?_
      have hP9 := hP.sub (ws' := [(mq 0, .inr (9, [.ref (mq 1), .int (nI ps), .int ea, .int (nI nc), .int (nI br), .int st, .int so, .int sr, .ref (mq 2), .ref (mq 3), .int fe, .int fs, .ref (mq 4), .int (nI se), .ref (mq 5), .ref (mq 6), .int sw, .int ks, .int (nI kbr), .int kst, .int kso, .int (nI kse), .ref (mq 7), .ref (mq 8), .ref (mq 9), .long hs])), (mq 2, .inl (ca 14, 8, .inl (fun zj => nI (rwN kd hm zj))))]) [0, 1] rfl
      have hD9 := hD.sub (ws' := [(mq 0, .inr (9, [.ref (mq 1), .int (nI ps), .int ea, .int (nI nc), .int (nI br), .int st, .int so, .int sr, .ref (mq 2), .ref (mq 3), .int fe, .int fs, .ref (mq 4), .int (nI se), .ref (mq 5), .ref (mq 6), .int sw, .int ks, .int (nI kbr), .int kst, .int kso, .int (nI kse), .ref (mq 7), .ref (mq 8), .ref (mq 9), .long hs])), (mq 2, .inl (ca 14, 8, .inl (fun zj => nI (rwN kd hm zj))))]) [0, 1] (by decide) rfl
      have hk : (rng x1 nc && rng x2 36) = false := by
        by_cases h8 : rng x1 nc = true
        · simp [h8, hpl9 h8]
        · simp [Bool.eq_false_iff.mpr h8]
      exact W.iret (v := (-101)) hx hb hr (fun t ht hW => ⟨⟨(-101), (), rfl, by show _ = _; simp only [swingR, hk, Bool.false_eq_true, ↓reduceIte], by rw [ht]; simp only [hk, Bool.false_eq_true, ↓reduceIte]; exact hP9, va_K.moved hW.alike hK, (by simp only [hk, Bool.false_eq_true, ↓reduceIte]; exact hD9)⟩, hS.F ht⟩) hS.2.2 dX9_swing_18
set_option maxHeartbeats 4000000 in
set_option maxRecDepth 100000 in
theorem kX9_island (l : Launch) (dC : Nat → ClassId) (dI : Nat → Nat → Nat) (ca : Nat → ClassId) (x1 : Int32) (nc : Nat) (sr : Int32) (ps : Nat) (br : Nat) (st : Int32) (so : Int32) (se : Nat) (kbr : Nat) (kst : Int32) (kso : Int32) (kse : Nat) (mq : Nat → Nat) (ea : Int32) (fe : Int32) (fs : Int32) (sw : Int32) (ks : Int32) (ib : Nat → Bool) (hs : Int64) (hnc : nc ≤ 4) : Met l yX9_island (Cond.code yX9_island cX9_island 2 (some .int) :: gT) (rk 3) (ROp (dC, dI) [(mq 0, .inr (9, [.ref (mq 1), .int (nI ps), .int ea, .int (nI nc), .int (nI br), .int st, .int so, .int sr, .ref (mq 2), .ref (mq 3), .int fe, .int fs, .ref (mq 4), .int (nI se), .ref (mq 5), .ref (mq 6), .int sw, .int ks, .int (nI kbr), .int kst, .int kso, .int (nI kse), .ref (mq 7), .ref (mq 8), .ref (mq 9), .long hs])), (mq 3, .inl (ca 15, 36, .inl (fun zj => bI (ib zj))))] (TY ca) [Value.ref (mq 0), Value.int x1]) (vp_Si (fun r => r = islandR nc ib x1)) 0 0 (fun _ => False) := by
  refine Met.ofW (cc := cX9_island) (maxL := 2) (ret := (some .int)) (by decide) rfl ?_
  intro p e s m args below meth c s₁ B hml hv
  obtain ⟨rfl, hP, hK⟩ := hv
  have hx := B.exec
  have hb := B.bytes
  have hr := B.returns
  have hts := atoms_spec (ws := (Cond.code yX9_island cX9_island 2 (some .int) :: gT)) B.pre
  have htl : ∀ w ∈ gT, w.before _ s = true := fun w h => hts w (List.mem_cons_of_mem _ h)
  have hown : s.vm.findClass RX9 = some m.cls := findClass_of_methodNamed B.named
  have hlocks := B.notSynchronized
  have hl := lv_entry ([Value.ref (mq 0), Value.int x1]) (n := 2) (Nat.le_of_ble_eq_true rfl)
  rw [lg_entry_eq]
  generalize (lg_sl ([Value.ref (mq 0), Value.int x1]) ++ List.replicate (2 - (lg_sl ([Value.ref (mq 0), Value.int x1])).length) Slot.unset).toArray = ls at hl ⊢
  have hl : lv_has ls 2 [(0, .ref (mq 0)), (1, .int x1)] := hl
  refine lv_aload_n hx hb dX9_island_0 rfl (lv_at hl 0 rfl) ?_
  refine lv_iload_n hx hb dX9_island_1 rfl (lv_at hl 1 rfl) ?_
  refine roV (As := [Value.int x1]) (rest := []) (kX9_isPlace l dC dI ca x1 nc sr ps br st so se kbr kst kso kse mq ea fe fs sw ks hs hnc) ⟨hx, hb, hml, hown, htl⟩ (cVg (C := RX9) 1 htl wd_733 wd_735 wp_28 wd_6 wd_736 rfl rfl (by decide +kernel) ⟨Nat.le_of_ble_eq_true rfl, Nat.le_of_ble_eq_true rfl⟩) (hP.sub [0] rfl) hK (va_recv hK hP (ci := 9) (q0 := 0) rfl rfl) rfl hl.1 rfl (Nat.le_of_ble_eq_true rfl) dX9_island_2 ⟨Nat.zero_le _, Nat.zero_le _⟩ (fun r hr9 => ?_)
  subst hr9
  refine lv_if_eq (tgt := 17) hx hb dX9_island_5 (by decide) (fun c_1 => ?_) (fun c_1 => ?_)
  · replace c_1 := bI_f c_1
    refine lv_bipush (v := (-101)) hx hb dX9_island_17 (by decide) ?_
    exact W.iret (v := (-101)) hx hb hr (fun t ht hW => ⟨(-101), rfl, by show _ = _; simp only [islandR, c_1, Bool.false_eq_true, ↓reduceIte], ht⟩) (fun q h => by cases h) dX9_island_19
  · replace c_1 := bI_t c_1
    have hpl9 : rng x1 36 = true := by have h9 := c_1; simp at h9; exact h9.2
    obtain ⟨j, hj, rfl⟩ := rng_ex hpl9 (by decide)
    refine lv_aload_n hx hb dX9_island_8 rfl (lv_at hl 0 rfl) ?_
    refine va_get (D := (dC, dI)) (ci := 9) (v := .ref (mq 3)) (C := RX9) (T := TX9) (N := 26) hx hb htl iX9 hown hK hP 0 rfl rfl 9 (by decide) (htl _ wd_560) (fun _ h9 => h9) rfl dX9_island_9 ?_
    refine lv_iload_n hx hb dX9_island_12 rfl (lv_at hl 1 rfl) ?_
    refine va_iald hx hb hK hP 1 15 rfl rfl (vp_in_nI (by omega) (by decide)) dX9_island_13 ?_
    refine lv_ri (y := bI (ib j)) (congrArg (fun zj => bI (ib zj)) (nI_clamp (by omega))) ?_
    refine lv_goto (tgt := 19) hx hb dX9_island_14 (by decide) ?_
    exact W.iret (v := bI (ib j)) hx hb hr (fun t ht hW => ⟨bI (ib j), rfl, by show _ = _; simp only [islandR, c_1, ↓reduceIte, nI_clamp (show j < 2 ^ 31 by omega)], ht⟩) (fun q h => by cases h) dX9_island_19
set_option maxHeartbeats 4000000 in
set_option maxRecDepth 100000 in
theorem kX9_raise (l : Launch) (dC : Nat → ClassId) (dI : Nat → Nat → Nat) (ca : Nat → ClassId) (sz : Nat) (x1 : Int32) (x2 : Int32) (nc : Nat) (sr : Int32) (ps : Nat) (br : Nat) (st : Int32) (so : Int32) (se : Nat) (kbr : Nat) (kst : Int32) (kso : Int32) (kse : Nat) (mq : Nat → Nat) (ea : Int32) (fe : Int32) (fs : Int32) (sw : Int32) (ks : Int32) (ib : Nat → Bool) (hs : Int64) (hnc : nc ≤ 4) : Met l yX9_raise (Cond.code yX9_raise cX9_raise 4 (some .int) :: gT) (rk 3) (EFp (dC, dI) [(mq 0, .inr (9, [.ref (mq 1), .int (nI ps), .int ea, .int (nI nc), .int (nI br), .int st, .int so, .int sr, .ref (mq 2), .ref (mq 3), .int fe, .int fs, .ref (mq 4), .int (nI se), .ref (mq 5), .ref (mq 6), .int sw, .int ks, .int (nI kbr), .int kst, .int kso, .int (nI kse), .ref (mq 7), .ref (mq 8), .ref (mq 9), .long hs])), (mq 3, .inl (ca 15, 36, .inl (fun zj => bI (ib zj))))] (TY ca) sz [Value.ref (mq 0), Value.int x1, Value.int x2]) (va_Qi (fun (r : Int32) (_ : Unit) => r = islandR nc ib x1) (EFb (dC, dI) (fun (_ : Unit) => [(mq 0, .inr (9, [.ref (mq 1), .int (nI ps), .int ea, .int (nI nc), .int (nI br), .int st, .int so, .int sr, .ref (mq 2), .ref (mq 3), .int fe, .int fs, .ref (mq 4), .int (nI se), .ref (mq 5), .ref (mq 6), .int sw, .int ks, .int (nI kbr), .int kst, .int kso, .int (nI kse), .ref (mq 7), .ref (mq 8), .ref (mq 9), .long hs])), (mq 3, .inl (ca 15, 36, .inl (fun zj => bI ((if (!decide (nc = 0) && rng x1 36) = true then va_up ib (tn x1) (!decide (x2 = 0)) else ib) zj))))]) (TY ca) (va_A [(mq 0, .inr (9, [.ref (mq 1), .int (nI ps), .int ea, .int (nI nc), .int (nI br), .int st, .int so, .int sr, .ref (mq 2), .ref (mq 3), .int fe, .int fs, .ref (mq 4), .int (nI se), .ref (mq 5), .ref (mq 6), .int sw, .int ks, .int (nI kbr), .int kst, .int kso, .int (nI kse), .ref (mq 7), .ref (mq 8), .ref (mq 9), .long hs])), (mq 3, .inl (ca 15, 36, .inl (fun zj => bI (ib zj))))] sz)) (va_A [(mq 0, .inr (9, [.ref (mq 1), .int (nI ps), .int ea, .int (nI nc), .int (nI br), .int st, .int so, .int sr, .ref (mq 2), .ref (mq 3), .int fe, .int fs, .ref (mq 4), .int (nI se), .ref (mq 5), .ref (mq 6), .int sw, .int ks, .int (nI kbr), .int kst, .int kso, .int (nI kse), .ref (mq 7), .ref (mq 8), .ref (mq 9), .long hs])), (mq 3, .inl (ca 15, 36, .inl (fun zj => bI (ib zj))))] sz)) 0 0 (va_A [(mq 0, .inr (9, [.ref (mq 1), .int (nI ps), .int ea, .int (nI nc), .int (nI br), .int st, .int so, .int sr, .ref (mq 2), .ref (mq 3), .int fe, .int fs, .ref (mq 4), .int (nI se), .ref (mq 5), .ref (mq 6), .int sw, .int ks, .int (nI kbr), .int kst, .int kso, .int (nI kse), .ref (mq 7), .ref (mq 8), .ref (mq 9), .long hs])), (mq 3, .inl (ca 15, 36, .inl (fun zj => bI (ib zj))))] sz) := by
  refine Met.ofW (cc := cX9_raise) (maxL := 4) (ret := (some .int)) (by decide) rfl ?_
  intro p e s m args below meth c s₁ B hml hv
  obtain ⟨rfl, hsz, hP, hK, hD0⟩ := hv
  have hx := B.exec
  have hb := B.bytes
  have hr := B.returns
  have hts := atoms_spec (ws := (Cond.code yX9_raise cX9_raise 4 (some .int) :: gT)) B.pre
  have htl : ∀ w ∈ gT, w.before _ s = true := fun w h => hts w (List.mem_cons_of_mem _ h)
  have hown : s.vm.findClass RX9 = some m.cls := findClass_of_methodNamed B.named
  have hlocks := B.notSynchronized
  subst hsz
  have hD := hD0.self (sz := s.heap.size)
  generalize hAe : va_A [(mq 0, .inr (9, [.ref (mq 1), .int (nI ps), .int ea, .int (nI nc), .int (nI br), .int st, .int so, .int sr, .ref (mq 2), .ref (mq 3), .int fe, .int fs, .ref (mq 4), .int (nI se), .ref (mq 5), .ref (mq 6), .int sw, .int ks, .int (nI kbr), .int kst, .int kso, .int (nI kse), .ref (mq 7), .ref (mq 8), .ref (mq 9), .long hs])), (mq 3, .inl (ca 15, 36, .inl (fun zj => bI (ib zj))))] s.heap.size = A at hD ⊢
  have hA : ∀ q : Nat, s.heap.size ≤ q → A q := fun q h => by rw [← hAe]; exact Or.inr h
  have hS : va_S A s.heap s.heap [] := va_S.rf
  have hl := lv_entry ([Value.ref (mq 0), Value.int x1, Value.int x2]) (n := 4) (Nat.le_of_ble_eq_true rfl)
  rw [lg_entry_eq]
  generalize (lg_sl ([Value.ref (mq 0), Value.int x1, Value.int x2]) ++ List.replicate (4 - (lg_sl ([Value.ref (mq 0), Value.int x1, Value.int x2])).length) Slot.unset).toArray = ls at hl ⊢
  have hl : lv_has ls 4 [(0, .ref (mq 0)), (1, .int x1), (2, .int x2)] := hl
  refine lv_aload_n hx hb dX9_raise_0 rfl (lv_at hl 0 rfl) ?_
  refine lv_iload_n hx hb dX9_raise_1 rfl (lv_at hl 1 rfl) ?_
  refine roV (As := [Value.int x1]) (rest := []) (kX9_isPlace l dC dI ca x1 nc sr ps br st so se kbr kst kso kse mq ea fe fs sw ks hs hnc) ⟨hx, hb, hml, hown, htl⟩ (cVg (C := RX9) 1 htl wd_733 wd_735 wp_28 wd_6 wd_736 rfl rfl (by decide +kernel) ⟨Nat.le_of_ble_eq_true rfl, Nat.le_of_ble_eq_true rfl⟩) (hP.sub [0] rfl) hK (va_recv hK hP (ci := 9) (q0 := 0) rfl rfl) rfl hl.1 rfl (Nat.le_of_ble_eq_true rfl) dX9_raise_2 ⟨Nat.zero_le _, Nat.zero_le _⟩ (fun r hr9 => ?_)
  subst hr9
  refine lv_if_ne (tgt := 11) hx hb dX9_raise_5 (by decide) (fun c_1 => ?_) (fun c_1 => ?_)
  · replace c_1 := bI_t c_1
    have hpl9 : rng x1 36 = true := by have h9 := c_1; simp at h9; exact h9.2
    obtain ⟨j, hj, rfl⟩ := rng_ex hpl9 (by decide)
    refine lv_aload_n hx hb dX9_raise_11 rfl (lv_at hl 0 rfl) ?_
    refine va_get (D := (dC, dI)) (ci := 9) (v := .ref (mq 3)) (C := RX9) (T := TX9) (N := 26) hx hb htl iX9 hown hK hP 0 rfl rfl 9 (by decide) (htl _ wd_560) (fun _ h9 => h9) rfl dX9_raise_12 ?_
    refine lv_iload_n hx hb dX9_raise_15 rfl (lv_at hl 1 rfl) ?_
    refine va_iald hx hb hK hP 1 15 rfl rfl (vp_in_nI (by omega) (by decide)) dX9_raise_16 ?_
    refine lv_ri (y := bI (ib j)) (congrArg (fun zj => bI (ib zj)) (nI_clamp (by omega))) ?_
    refine lv_istore_n (lv' := [(3, .int (bI (ib j))), (0, .ref (mq 0)), (1, .int (nI j)), (2, .int x2)]) hx hb dX9_raise_17 rfl hl (by decide) rfl (fun ls hl => ?_)
    refine lv_aload_n hx hb dX9_raise_18 rfl (lv_at hl 1 rfl) ?_
    refine va_get (D := (dC, dI)) (ci := 9) (v := .ref (mq 3)) (C := RX9) (T := TX9) (N := 26) hx hb htl iX9 hown hK hP 0 rfl rfl 9 (by decide) (htl _ wd_560) (fun _ h9 => h9) rfl dX9_raise_19 ?_
    refine lv_iload_n hx hb dX9_raise_22 rfl (lv_at hl 2 rfl) ?_
    refine lv_iload_n hx hb dX9_raise_23 rfl (lv_at hl 3 rfl) ?_
    refine lv_if_eq (tgt := 31) hx hb dX9_raise_24 (by decide) (fun c_2 => ?_) (fun c_2 => ?_)
    · refine lv_iconst (v := nI 0) hx hb dX9_raise_31 (by decide) ?_
      refine va_iast hx hb hK hP hD hS 1 15 rfl rfl (vp_in_nI (by omega) (by decide)) dX9_raise_32 (fun H locs hP hD hS => ?_)
      rw [nI_clamp (show j < 2 ^ 31 by omega)] at hP hD
      rw [show (upd (fun zj => bI (ib zj)) j (nI 0)) = (fun zj => bI (va_up ib j false zj)) from upd_bI _ _ false] at hP hD
      have hP : va_P (dC, dI) vwCl [(mq 0, .inr (9, [.ref (mq 1), .int (nI ps), .int ea, .int (nI nc), .int (nI br), .int st, .int so, .int sr, .ref (mq 2), .ref (mq 3), .int fe, .int fs, .ref (mq 4), .int (nI se), .ref (mq 5), .ref (mq 6), .int sw, .int ks, .int (nI kbr), .int kst, .int kso, .int (nI kse), .ref (mq 7), .ref (mq 8), .ref (mq 9), .long hs])), (mq 3, .inl (ca 15, 36, .inl (fun zj => bI (va_up ib j false zj))))] H := hP
      have hD : va_D A [(mq 0, .inr (9, [.ref (mq 1), .int (nI ps), .int ea, .int (nI nc), .int (nI br), .int st, .int so, .int sr, .ref (mq 2), .ref (mq 3), .int fe, .int fs, .ref (mq 4), .int (nI se), .ref (mq 5), .ref (mq 6), .int sw, .int ks, .int (nI kbr), .int kst, .int kso, .int (nI kse), .ref (mq 7), .ref (mq 8), .ref (mq 9), .long hs])), (mq 3, .inl (ca 15, 36, .inl (fun zj => bI (va_up ib j false zj))))] := hD
      refine lv_iload_n hx hb dX9_raise_33 rfl (lv_at hl 0 rfl) ?_
      have hP9 := hP.sub (ws' := [(mq 0, .inr (9, [.ref (mq 1), .int (nI ps), .int ea, .int (nI nc), .int (nI br), .int st, .int so, .int sr, .ref (mq 2), .ref (mq 3), .int fe, .int fs, .ref (mq 4), .int (nI se), .ref (mq 5), .ref (mq 6), .int sw, .int ks, .int (nI kbr), .int kst, .int kso, .int (nI kse), .ref (mq 7), .ref (mq 8), .ref (mq 9), .long hs])), (mq 3, .inl (ca 15, 36, .inl (fun zj => bI (va_up ib j false zj))))]) [0, 1] rfl
      have hD9 := hD.sub (ws' := [(mq 0, .inr (9, [.ref (mq 1), .int (nI ps), .int ea, .int (nI nc), .int (nI br), .int st, .int so, .int sr, .ref (mq 2), .ref (mq 3), .int fe, .int fs, .ref (mq 4), .int (nI se), .ref (mq 5), .ref (mq 6), .int sw, .int ks, .int (nI kbr), .int kst, .int kso, .int (nI kse), .ref (mq 7), .ref (mq 8), .ref (mq 9), .long hs])), (mq 3, .inl (ca 15, 36, .inl (fun zj => bI (va_up ib j false zj))))]) [0, 1] (by decide) rfl
      have hk : (!decide (nc = 0) && rng (nI j) 36) = true := c_1
      have hz : (!decide (x2 = 0)) = false := by simp [c_2]
      exact W.iret (v := bI (ib j)) hx hb hr (fun t ht hW => ⟨⟨bI (ib j), (), rfl, by show _ = _; simp only [islandR, c_1, ↓reduceIte, nI_clamp (show j < 2 ^ 31 by omega)], by rw [ht]; simp only [hk, ↓reduceIte, hz, nI_clamp (show j < 2 ^ 31 by omega)]; exact hP9, va_K.moved hW.alike hK, (by simp only [hk, ↓reduceIte, hz, nI_clamp (show j < 2 ^ 31 by omega)]; exact hD9)⟩, hS.F ht⟩) hS.2.2 dX9_raise_34
    · refine lv_iconst (v := nI 1) hx hb dX9_raise_27 (by decide) ?_
      refine lv_goto (tgt := 32) hx hb dX9_raise_28 (by decide) ?_
      refine va_iast hx hb hK hP hD hS 1 15 rfl rfl (vp_in_nI (by omega) (by decide)) dX9_raise_32 (fun H locs hP hD hS => ?_)
      rw [nI_clamp (show j < 2 ^ 31 by omega)] at hP hD
      rw [show (upd (fun zj => bI (ib zj)) j (nI 1)) = (fun zj => bI (va_up ib j true zj)) from upd_bI _ _ true] at hP hD
      have hP : va_P (dC, dI) vwCl [(mq 0, .inr (9, [.ref (mq 1), .int (nI ps), .int ea, .int (nI nc), .int (nI br), .int st, .int so, .int sr, .ref (mq 2), .ref (mq 3), .int fe, .int fs, .ref (mq 4), .int (nI se), .ref (mq 5), .ref (mq 6), .int sw, .int ks, .int (nI kbr), .int kst, .int kso, .int (nI kse), .ref (mq 7), .ref (mq 8), .ref (mq 9), .long hs])), (mq 3, .inl (ca 15, 36, .inl (fun zj => bI (va_up ib j true zj))))] H := hP
      have hD : va_D A [(mq 0, .inr (9, [.ref (mq 1), .int (nI ps), .int ea, .int (nI nc), .int (nI br), .int st, .int so, .int sr, .ref (mq 2), .ref (mq 3), .int fe, .int fs, .ref (mq 4), .int (nI se), .ref (mq 5), .ref (mq 6), .int sw, .int ks, .int (nI kbr), .int kst, .int kso, .int (nI kse), .ref (mq 7), .ref (mq 8), .ref (mq 9), .long hs])), (mq 3, .inl (ca 15, 36, .inl (fun zj => bI (va_up ib j true zj))))] := hD
      refine lv_iload_n hx hb dX9_raise_33 rfl (lv_at hl 0 rfl) ?_
      have hP9 := hP.sub (ws' := [(mq 0, .inr (9, [.ref (mq 1), .int (nI ps), .int ea, .int (nI nc), .int (nI br), .int st, .int so, .int sr, .ref (mq 2), .ref (mq 3), .int fe, .int fs, .ref (mq 4), .int (nI se), .ref (mq 5), .ref (mq 6), .int sw, .int ks, .int (nI kbr), .int kst, .int kso, .int (nI kse), .ref (mq 7), .ref (mq 8), .ref (mq 9), .long hs])), (mq 3, .inl (ca 15, 36, .inl (fun zj => bI (va_up ib j true zj))))]) [0, 1] rfl
      have hD9 := hD.sub (ws' := [(mq 0, .inr (9, [.ref (mq 1), .int (nI ps), .int ea, .int (nI nc), .int (nI br), .int st, .int so, .int sr, .ref (mq 2), .ref (mq 3), .int fe, .int fs, .ref (mq 4), .int (nI se), .ref (mq 5), .ref (mq 6), .int sw, .int ks, .int (nI kbr), .int kst, .int kso, .int (nI kse), .ref (mq 7), .ref (mq 8), .ref (mq 9), .long hs])), (mq 3, .inl (ca 15, 36, .inl (fun zj => bI (va_up ib j true zj))))]) [0, 1] (by decide) rfl
      have hk : (!decide (nc = 0) && rng (nI j) 36) = true := c_1
      have hz : (!decide (x2 = 0)) = true := by simp [c_2]
      exact W.iret (v := bI (ib j)) hx hb hr (fun t ht hW => ⟨⟨bI (ib j), (), rfl, by show _ = _; simp only [islandR, c_1, ↓reduceIte, nI_clamp (show j < 2 ^ 31 by omega)], by rw [ht]; simp only [hk, ↓reduceIte, hz, nI_clamp (show j < 2 ^ 31 by omega)]; exact hP9, va_K.moved hW.alike hK, (by simp only [hk, ↓reduceIte, hz, nI_clamp (show j < 2 ^ 31 by omega)]; exact hD9)⟩, hS.F ht⟩) hS.2.2 dX9_raise_34
  · replace c_1 := bI_f c_1
    refine lv_bipush (v := (-101)) hx hb dX9_raise_8 (by decide) ?_
    have hP9 := hP.sub (ws' := [(mq 0, .inr (9, [.ref (mq 1), .int (nI ps), .int ea, .int (nI nc), .int (nI br), .int st, .int so, .int sr, .ref (mq 2), .ref (mq 3), .int fe, .int fs, .ref (mq 4), .int (nI se), .ref (mq 5), .ref (mq 6), .int sw, .int ks, .int (nI kbr), .int kst, .int kso, .int (nI kse), .ref (mq 7), .ref (mq 8), .ref (mq 9), .long hs])), (mq 3, .inl (ca 15, 36, .inl (fun zj => bI (ib zj))))]) [0, 1] rfl
    have hD9 := hD.sub (ws' := [(mq 0, .inr (9, [.ref (mq 1), .int (nI ps), .int ea, .int (nI nc), .int (nI br), .int st, .int so, .int sr, .ref (mq 2), .ref (mq 3), .int fe, .int fs, .ref (mq 4), .int (nI se), .ref (mq 5), .ref (mq 6), .int sw, .int ks, .int (nI kbr), .int kst, .int kso, .int (nI kse), .ref (mq 7), .ref (mq 8), .ref (mq 9), .long hs])), (mq 3, .inl (ca 15, 36, .inl (fun zj => bI (ib zj))))]) [0, 1] (by decide) rfl
    have hk : (!decide (nc = 0) && rng x1 36) = false := c_1
    exact W.iret (v := (-101)) hx hb hr (fun t ht hW => ⟨⟨(-101), (), rfl, by show _ = _; simp only [islandR, c_1, Bool.false_eq_true, ↓reduceIte], by rw [ht]; simp only [hk, Bool.false_eq_true, ↓reduceIte]; exact hP9, va_K.moved hW.alike hK, (by simp only [hk, Bool.false_eq_true, ↓reduceIte]; exact hD9)⟩, hS.F ht⟩) hS.2.2 dX9_raise_10
set_option maxHeartbeats 4000000 in
set_option maxRecDepth 100000 in
theorem kX9_step (l : Launch) (dC : Nat → ClassId) (dI : Nat → Nat → Nat) (ca : Nat → ClassId) (sz : Nat) (x1 : Int32) (nc : Nat) (sr : Int32) (ps : Nat) (br : Nat) (st : Int32) (so : Int32) (se : Nat) (kbr : Nat) (kst : Int32) (kso : Int32) (kse : Nat) (mq : Nat → Nat) (ea : Int32) (fe : Int32) (fs : Int32) (sw : Int32) (ks : Int32) (ib : Nat → Bool) (hs : Int64) (hnc : nc ≤ 4) (hbr : br < 36) : Met l yX9_step (Cond.code yX9_step cX9_step 2 (some .int) :: gT) (rk 4) (EFp (dC, dI) [(mq 0, .inr (9, [.ref (mq 1), .int (nI ps), .int ea, .int (nI nc), .int (nI br), .int st, .int so, .int sr, .ref (mq 2), .ref (mq 3), .int fe, .int fs, .ref (mq 4), .int (nI se), .ref (mq 5), .ref (mq 6), .int sw, .int ks, .int (nI kbr), .int kst, .int kso, .int (nI kse), .ref (mq 7), .ref (mq 8), .ref (mq 9), .long hs])), (mq 3, .inl (ca 15, 36, .inl (fun zj => bI (ib zj))))] (TY ca) sz [Value.ref (mq 0), Value.int x1]) (va_Qi (fun (r : Int32) (_ : Unit) => r = stepR nc ib br x1) (EFb (dC, dI) (fun (_ : Unit) => [(mq 0, .inr (9, [.ref (mq 1), .int (nI ps), .int ea, .int (nI nc), .int (nI (if okT nc x1 = true then stepN ib br (tn x1) else br)), .int (if okT nc x1 = true then st + nI 1 else st), .int (if okT nc x1 = true then (if stepN ib br (tn x1) = br then so else so + nI 1) else so), .int sr, .ref (mq 2), .ref (mq 3), .int fe, .int fs, .ref (mq 4), .int (nI se), .ref (mq 5), .ref (mq 6), .int sw, .int ks, .int (nI kbr), .int kst, .int kso, .int (nI kse), .ref (mq 7), .ref (mq 8), .ref (mq 9), .long hs])), (mq 3, .inl (ca 15, 36, .inl (fun zj => bI (ib zj))))]) (TY ca) (va_A [(mq 0, .inr (9, [.ref (mq 1), .int (nI ps), .int ea, .int (nI nc), .int (nI br), .int st, .int so, .int sr, .ref (mq 2), .ref (mq 3), .int fe, .int fs, .ref (mq 4), .int (nI se), .ref (mq 5), .ref (mq 6), .int sw, .int ks, .int (nI kbr), .int kst, .int kso, .int (nI kse), .ref (mq 7), .ref (mq 8), .ref (mq 9), .long hs])), (mq 3, .inl (ca 15, 36, .inl (fun zj => bI (ib zj))))] sz)) (va_A [(mq 0, .inr (9, [.ref (mq 1), .int (nI ps), .int ea, .int (nI nc), .int (nI br), .int st, .int so, .int sr, .ref (mq 2), .ref (mq 3), .int fe, .int fs, .ref (mq 4), .int (nI se), .ref (mq 5), .ref (mq 6), .int sw, .int ks, .int (nI kbr), .int kst, .int kso, .int (nI kse), .ref (mq 7), .ref (mq 8), .ref (mq 9), .long hs])), (mq 3, .inl (ca 15, 36, .inl (fun zj => bI (ib zj))))] sz)) 0 0 (va_A [(mq 0, .inr (9, [.ref (mq 1), .int (nI ps), .int ea, .int (nI nc), .int (nI br), .int st, .int so, .int sr, .ref (mq 2), .ref (mq 3), .int fe, .int fs, .ref (mq 4), .int (nI se), .ref (mq 5), .ref (mq 6), .int sw, .int ks, .int (nI kbr), .int kst, .int kso, .int (nI kse), .ref (mq 7), .ref (mq 8), .ref (mq 9), .long hs])), (mq 3, .inl (ca 15, 36, .inl (fun zj => bI (ib zj))))] sz) := by
  refine Met.ofW (cc := cX9_step) (maxL := 2) (ret := (some .int)) (by decide) rfl ?_
  intro p e s m args below meth c s₁ B hml hv
  obtain ⟨rfl, hsz, hP, hK, hD0⟩ := hv
  have hx := B.exec
  have hb := B.bytes
  have hr := B.returns
  have hts := atoms_spec (ws := (Cond.code yX9_step cX9_step 2 (some .int) :: gT)) B.pre
  have htl : ∀ w ∈ gT, w.before _ s = true := fun w h => hts w (List.mem_cons_of_mem _ h)
  have hown : s.vm.findClass RX9 = some m.cls := findClass_of_methodNamed B.named
  have hlocks := B.notSynchronized
  subst hsz
  have hD := hD0.self (sz := s.heap.size)
  generalize hAe : va_A [(mq 0, .inr (9, [.ref (mq 1), .int (nI ps), .int ea, .int (nI nc), .int (nI br), .int st, .int so, .int sr, .ref (mq 2), .ref (mq 3), .int fe, .int fs, .ref (mq 4), .int (nI se), .ref (mq 5), .ref (mq 6), .int sw, .int ks, .int (nI kbr), .int kst, .int kso, .int (nI kse), .ref (mq 7), .ref (mq 8), .ref (mq 9), .long hs])), (mq 3, .inl (ca 15, 36, .inl (fun zj => bI (ib zj))))] s.heap.size = A at hD ⊢
  have hA : ∀ q : Nat, s.heap.size ≤ q → A q := fun q h => by rw [← hAe]; exact Or.inr h
  have hS : va_S A s.heap s.heap [] := va_S.rf
  have hl := lv_entry ([Value.ref (mq 0), Value.int x1]) (n := 2) (Nat.le_of_ble_eq_true rfl)
  rw [lg_entry_eq]
  generalize (lg_sl ([Value.ref (mq 0), Value.int x1]) ++ List.replicate (2 - (lg_sl ([Value.ref (mq 0), Value.int x1])).length) Slot.unset).toArray = ls at hl ⊢
  have hl : lv_has ls 2 [(0, .ref (mq 0)), (1, .int x1)] := hl
  refine lv_iload_n hx hb dX9_step_0 rfl (lv_at hl 1 rfl) ?_
  refine lv_i2l (v := x1.toInt64) hx hb dX9_step_1 rfl ?_
  refine lv_lconst (v := 0) hx hb dX9_step_2 (by decide) ?_
  refine lv_ldc2 (v := 8) hx hb hown (htl _ wd_758) dX9_step_3 ?_
  refine roS (As := [Value.long x1.toInt64, Value.long 0, Value.long 8]) (rest := []) (kX9_in l dC dI ca x1.toInt64 0 8 ) ⟨hx, hb, hml, hown, htl⟩ (cSg 3 htl wd_635 wd_636 wd_6 wd_637 rfl rfl (by decide +kernel) ⟨Nat.le_of_ble_eq_true rfl, Nat.le_of_ble_eq_true rfl⟩) (hP.sub [] rfl) hK rfl hl.1 rfl (Nat.le_of_ble_eq_true rfl) dX9_step_6 ⟨Nat.zero_le _, Nat.zero_le _⟩ (fun r hr9 => ?_)
  subst hr9
  refine lv_if_ne (tgt := 15) hx hb dX9_step_9 (by decide) (fun c_1 => ?_) (fun c_1 => ?_)
  · rw [in_8] at c_1
    replace c_1 := bI_t c_1
    refine lv_aload_n hx hb dX9_step_15 rfl (lv_at hl 0 rfl) ?_
    refine roV (As := []) (rest := []) (kX9_lacks l dC dI ca nc sr ps br st so se kbr kst kso kse mq ea fe fs sw ks hs hnc) ⟨hx, hb, hml, hown, htl⟩ (cVg (C := RX9) 0 htl wd_737 wd_739 wp_29 wd_6 wd_740 rfl rfl (by decide +kernel) ⟨Nat.le_of_ble_eq_true rfl, Nat.le_of_ble_eq_true rfl⟩) (hP.sub [0] rfl) hK (va_recv hK hP (ci := 9) (q0 := 0) rfl rfl) rfl hl.1 rfl (Nat.le_of_ble_eq_true rfl) dX9_step_16 ⟨Nat.zero_le _, Nat.zero_le _⟩ (fun r hr9 => ?_)
    subst hr9
    refine lv_if_eq (tgt := 27) hx hb dX9_step_19 (by decide) (fun c_2 => ?_) (fun c_2 => ?_)
    · replace c_2 := bI_f c_2
      obtain ⟨d, hd, rfl⟩ := rng_ex c_1 (by decide)
      refine lv_aload_n hx hb dX9_step_27 rfl (lv_at hl 0 rfl) ?_
      refine lv_iload_n hx hb dX9_step_28 rfl (lv_at hl 1 rfl) ?_
      refine efV (As := [Value.int (nI d)]) (rest := []) (wr := []) (kX9_go l dC dI ca _ d nc sr ps br st so se kbr kst kso kse mq ea fe fs sw ks ib hs hd hbr) ⟨hx, hb, hml, hown, htl⟩ (cVg (C := RX9) 1 htl wd_759 wd_761 wp_30 wd_6 wd_762 rfl rfl (by decide +kernel) ⟨Nat.le_of_ble_eq_true rfl, Nat.le_of_ble_eq_true rfl⟩) hP hD hS hA hK [0, 1] [] rfl rfl (by decide) (by decide) (by decide) (va_recv hK hP (ci := 9) (q0 := 0) rfl rfl) rfl hl.1 rfl (Nat.le_of_ble_eq_true rfl) dX9_step_29 ⟨Nat.zero_le _, Nat.zero_le _⟩ (fun r_3 u H locs hw_29 hP hD hS => ?_)
      have hP : va_P (dC, dI) vwCl [(mq 0, .inr (9, [.ref (mq 1), .int (nI ps), .int ea, .int (nI nc), .int (nI (stepN ib br d)), .int (st + nI 1), .int (if stepN ib br d = br then so else so + nI 1), .int sr, .ref (mq 2), .ref (mq 3), .int fe, .int fs, .ref (mq 4), .int (nI se), .ref (mq 5), .ref (mq 6), .int sw, .int ks, .int (nI kbr), .int kst, .int kso, .int (nI kse), .ref (mq 7), .ref (mq 8), .ref (mq 9), .long hs])), (mq 3, .inl (ca 15, 36, .inl (fun zj => bI (ib zj))))] H := hP
      have hD : va_D A [(mq 0, .inr (9, [.ref (mq 1), .int (nI ps), .int ea, .int (nI nc), .int (nI (stepN ib br d)), .int (st + nI 1), .int (if stepN ib br d = br then so else so + nI 1), .int sr, .ref (mq 2), .ref (mq 3), .int fe, .int fs, .ref (mq 4), .int (nI se), .ref (mq 5), .ref (mq 6), .int sw, .int ks, .int (nI kbr), .int kst, .int kso, .int (nI kse), .ref (mq 7), .ref (mq 8), .ref (mq 9), .long hs])), (mq 3, .inl (ca 15, 36, .inl (fun zj => bI (ib zj))))] := hD
      have hw_29 : r_3 = nI (stepN ib br d) := hw_29
      refine lv_ri (y := nI (stepN ib br d)) hw_29 ?_
      have hP9 := hP.sub (ws' := [(mq 0, .inr (9, [.ref (mq 1), .int (nI ps), .int ea, .int (nI nc), .int (nI (stepN ib br d)), .int (st + nI 1), .int (if stepN ib br d = br then so else so + nI 1), .int sr, .ref (mq 2), .ref (mq 3), .int fe, .int fs, .ref (mq 4), .int (nI se), .ref (mq 5), .ref (mq 6), .int sw, .int ks, .int (nI kbr), .int kst, .int kso, .int (nI kse), .ref (mq 7), .ref (mq 8), .ref (mq 9), .long hs])), (mq 3, .inl (ca 15, 36, .inl (fun zj => bI (ib zj))))]) [0, 1] rfl
      have hD9 := hD.sub (ws' := [(mq 0, .inr (9, [.ref (mq 1), .int (nI ps), .int ea, .int (nI nc), .int (nI (stepN ib br d)), .int (st + nI 1), .int (if stepN ib br d = br then so else so + nI 1), .int sr, .ref (mq 2), .ref (mq 3), .int fe, .int fs, .ref (mq 4), .int (nI se), .ref (mq 5), .ref (mq 6), .int sw, .int ks, .int (nI kbr), .int kst, .int kso, .int (nI kse), .ref (mq 7), .ref (mq 8), .ref (mq 9), .long hs])), (mq 3, .inl (ca 15, 36, .inl (fun zj => bI (ib zj))))]) [0, 1] (by decide) rfl
      have hk : okT nc (nI d) = true := by simp at c_2; simp [okT, c_1, c_2]
      exact W.iret (v := nI (stepN ib br d)) hx hb hr (fun t ht hW => ⟨⟨nI (stepN ib br d), (), rfl, by show _ = _; simp at c_2; simp [stepR, c_1, c_2, nI_clamp (show d < 2 ^ 31 by omega)], by rw [ht]; simp only [hk, ↓reduceIte, nI_clamp (show d < 2 ^ 31 by omega)]; exact hP9, va_K.moved hW.alike hK, (by simp only [hk, ↓reduceIte, nI_clamp (show d < 2 ^ 31 by omega)]; exact hD9)⟩, hS.F ht⟩) hS.2.2 dX9_step_32
    · replace c_2 := bI_t c_2
      refine lv_bipush (v := (-103)) hx hb dX9_step_22 (by decide) ?_
      refine lv_goto (tgt := 32) hx hb dX9_step_24 (by decide) ?_
      have hP9 := hP.sub (ws' := [(mq 0, .inr (9, [.ref (mq 1), .int (nI ps), .int ea, .int (nI nc), .int (nI br), .int st, .int so, .int sr, .ref (mq 2), .ref (mq 3), .int fe, .int fs, .ref (mq 4), .int (nI se), .ref (mq 5), .ref (mq 6), .int sw, .int ks, .int (nI kbr), .int kst, .int kso, .int (nI kse), .ref (mq 7), .ref (mq 8), .ref (mq 9), .long hs])), (mq 3, .inl (ca 15, 36, .inl (fun zj => bI (ib zj))))]) [0, 1] rfl
      have hD9 := hD.sub (ws' := [(mq 0, .inr (9, [.ref (mq 1), .int (nI ps), .int ea, .int (nI nc), .int (nI br), .int st, .int so, .int sr, .ref (mq 2), .ref (mq 3), .int fe, .int fs, .ref (mq 4), .int (nI se), .ref (mq 5), .ref (mq 6), .int sw, .int ks, .int (nI kbr), .int kst, .int kso, .int (nI kse), .ref (mq 7), .ref (mq 8), .ref (mq 9), .long hs])), (mq 3, .inl (ca 15, 36, .inl (fun zj => bI (ib zj))))]) [0, 1] (by decide) rfl
      have hk : okT nc x1 = false := by simp at *; simp [okT, c_1, c_2]
      exact W.iret (v := (-103)) hx hb hr (fun t ht hW => ⟨⟨(-103), (), rfl, by show _ = _; simp at *; simp [stepR, c_1, c_2], by rw [ht]; simp only [hk, Bool.false_eq_true, ↓reduceIte]; exact hP9, va_K.moved hW.alike hK, (by simp only [hk, Bool.false_eq_true, ↓reduceIte]; exact hD9)⟩, hS.F ht⟩) hS.2.2 dX9_step_32
  · rw [in_8] at c_1
    replace c_1 := bI_f c_1
    refine lv_bipush (v := (-102)) hx hb dX9_step_12 (by decide) ?_
    have hP9 := hP.sub (ws' := [(mq 0, .inr (9, [.ref (mq 1), .int (nI ps), .int ea, .int (nI nc), .int (nI br), .int st, .int so, .int sr, .ref (mq 2), .ref (mq 3), .int fe, .int fs, .ref (mq 4), .int (nI se), .ref (mq 5), .ref (mq 6), .int sw, .int ks, .int (nI kbr), .int kst, .int kso, .int (nI kse), .ref (mq 7), .ref (mq 8), .ref (mq 9), .long hs])), (mq 3, .inl (ca 15, 36, .inl (fun zj => bI (ib zj))))]) [0, 1] rfl
    have hD9 := hD.sub (ws' := [(mq 0, .inr (9, [.ref (mq 1), .int (nI ps), .int ea, .int (nI nc), .int (nI br), .int st, .int so, .int sr, .ref (mq 2), .ref (mq 3), .int fe, .int fs, .ref (mq 4), .int (nI se), .ref (mq 5), .ref (mq 6), .int sw, .int ks, .int (nI kbr), .int kst, .int kso, .int (nI kse), .ref (mq 7), .ref (mq 8), .ref (mq 9), .long hs])), (mq 3, .inl (ca 15, 36, .inl (fun zj => bI (ib zj))))]) [0, 1] (by decide) rfl
    have hk : okT nc x1 = false := by simp at *; simp [okT, c_1]
    exact W.iret (v := (-102)) hx hb hr (fun t ht hW => ⟨⟨(-102), (), rfl, by show _ = _; simp at *; simp [stepR, c_1], by rw [ht]; simp only [hk, Bool.false_eq_true, ↓reduceIte]; exact hP9, va_K.moved hW.alike hK, (by simp only [hk, Bool.false_eq_true, ↓reduceIte]; exact hD9)⟩, hS.F ht⟩) hS.2.2 dX9_step_14
set_option maxHeartbeats 4000000 in
set_option maxRecDepth 100000 in
theorem kX9_follow (l : Launch) (dC : Nat → ClassId) (dI : Nat → Nat → Nat) (ca : Nat → ClassId) (sz : Nat) (x1 : Int32) (kd : Nat → Nat) (nc : Nat) (sr : Int32) (ps : Nat) (br : Nat) (st : Int32) (so : Int32) (se : Nat) (hm : Nat → Nat) (kbr : Nat) (kst : Int32) (kso : Int32) (kse : Nat) (mq : Nat → Nat) (ea : Int32) (fe : Int32) (fs : Int32) (sw : Int32) (ks : Int32) (ib : Nat → Bool) (hs : Int64) (hnc : nc ≤ 4) (hbr : br < 36) (hkd : ∀ j, j < 4 → kd j < 5) (hhm : ∀ j, j < 4 → hm j < 36) : Met l yX9_follow (Cond.code yX9_follow cX9_follow 2 (some .int) :: gT) (rk 4) (EFp (dC, dI) [(mq 0, .inr (9, [.ref (mq 1), .int (nI ps), .int ea, .int (nI nc), .int (nI br), .int st, .int so, .int sr, .ref (mq 2), .ref (mq 3), .int fe, .int fs, .ref (mq 4), .int (nI se), .ref (mq 5), .ref (mq 6), .int sw, .int ks, .int (nI kbr), .int kst, .int kso, .int (nI kse), .ref (mq 7), .ref (mq 8), .ref (mq 9), .long hs])), (mq 2, .inl (ca 14, 8, .inl (fun zj => nI (rwN kd hm zj)))), (mq 3, .inl (ca 15, 36, .inl (fun zj => bI (ib zj))))] (TY ca) sz [Value.ref (mq 0), Value.int x1]) (va_Qi (fun (r : Int32) (_ : Unit) => r = followR nc kd hm ib br x1) (EFb (dC, dI) (fun (_ : Unit) => [(mq 0, .inr (9, [.ref (mq 1), .int (nI ps), .int ea, .int (nI nc), .int (nI (if rng x1 nc = true then stepN ib br (pointN (kd (tn x1)) (hm (tn x1)) br) else br)), .int (if rng x1 nc = true then st + nI 1 else st), .int (if rng x1 nc = true then (if stepN ib br (pointN (kd (tn x1)) (hm (tn x1)) br) = br then so else so + nI 1) else so), .int sr, .ref (mq 2), .ref (mq 3), .int fe, .int fs, .ref (mq 4), .int (nI se), .ref (mq 5), .ref (mq 6), .int sw, .int ks, .int (nI kbr), .int kst, .int kso, .int (nI kse), .ref (mq 7), .ref (mq 8), .ref (mq 9), .long hs])), (mq 2, .inl (ca 14, 8, .inl (fun zj => nI (rwN kd hm zj)))), (mq 3, .inl (ca 15, 36, .inl (fun zj => bI (ib zj))))]) (TY ca) (va_A [(mq 0, .inr (9, [.ref (mq 1), .int (nI ps), .int ea, .int (nI nc), .int (nI br), .int st, .int so, .int sr, .ref (mq 2), .ref (mq 3), .int fe, .int fs, .ref (mq 4), .int (nI se), .ref (mq 5), .ref (mq 6), .int sw, .int ks, .int (nI kbr), .int kst, .int kso, .int (nI kse), .ref (mq 7), .ref (mq 8), .ref (mq 9), .long hs])), (mq 2, .inl (ca 14, 8, .inl (fun zj => nI (rwN kd hm zj)))), (mq 3, .inl (ca 15, 36, .inl (fun zj => bI (ib zj))))] sz)) (va_A [(mq 0, .inr (9, [.ref (mq 1), .int (nI ps), .int ea, .int (nI nc), .int (nI br), .int st, .int so, .int sr, .ref (mq 2), .ref (mq 3), .int fe, .int fs, .ref (mq 4), .int (nI se), .ref (mq 5), .ref (mq 6), .int sw, .int ks, .int (nI kbr), .int kst, .int kso, .int (nI kse), .ref (mq 7), .ref (mq 8), .ref (mq 9), .long hs])), (mq 2, .inl (ca 14, 8, .inl (fun zj => nI (rwN kd hm zj)))), (mq 3, .inl (ca 15, 36, .inl (fun zj => bI (ib zj))))] sz)) 0 0 (va_A [(mq 0, .inr (9, [.ref (mq 1), .int (nI ps), .int ea, .int (nI nc), .int (nI br), .int st, .int so, .int sr, .ref (mq 2), .ref (mq 3), .int fe, .int fs, .ref (mq 4), .int (nI se), .ref (mq 5), .ref (mq 6), .int sw, .int ks, .int (nI kbr), .int kst, .int kso, .int (nI kse), .ref (mq 7), .ref (mq 8), .ref (mq 9), .long hs])), (mq 2, .inl (ca 14, 8, .inl (fun zj => nI (rwN kd hm zj)))), (mq 3, .inl (ca 15, 36, .inl (fun zj => bI (ib zj))))] sz) := by
  refine Met.ofW (cc := cX9_follow) (maxL := 2) (ret := (some .int)) (by decide) rfl ?_
  intro p e s m args below meth c s₁ B hml hv
  obtain ⟨rfl, hsz, hP, hK, hD0⟩ := hv
  have hx := B.exec
  have hb := B.bytes
  have hr := B.returns
  have hts := atoms_spec (ws := (Cond.code yX9_follow cX9_follow 2 (some .int) :: gT)) B.pre
  have htl : ∀ w ∈ gT, w.before _ s = true := fun w h => hts w (List.mem_cons_of_mem _ h)
  have hown : s.vm.findClass RX9 = some m.cls := findClass_of_methodNamed B.named
  have hlocks := B.notSynchronized
  subst hsz
  have hD := hD0.self (sz := s.heap.size)
  generalize hAe : va_A [(mq 0, .inr (9, [.ref (mq 1), .int (nI ps), .int ea, .int (nI nc), .int (nI br), .int st, .int so, .int sr, .ref (mq 2), .ref (mq 3), .int fe, .int fs, .ref (mq 4), .int (nI se), .ref (mq 5), .ref (mq 6), .int sw, .int ks, .int (nI kbr), .int kst, .int kso, .int (nI kse), .ref (mq 7), .ref (mq 8), .ref (mq 9), .long hs])), (mq 2, .inl (ca 14, 8, .inl (fun zj => nI (rwN kd hm zj)))), (mq 3, .inl (ca 15, 36, .inl (fun zj => bI (ib zj))))] s.heap.size = A at hD ⊢
  have hA : ∀ q : Nat, s.heap.size ≤ q → A q := fun q h => by rw [← hAe]; exact Or.inr h
  have hS : va_S A s.heap s.heap [] := va_S.rf
  have hl := lv_entry ([Value.ref (mq 0), Value.int x1]) (n := 2) (Nat.le_of_ble_eq_true rfl)
  rw [lg_entry_eq]
  generalize (lg_sl ([Value.ref (mq 0), Value.int x1]) ++ List.replicate (2 - (lg_sl ([Value.ref (mq 0), Value.int x1])).length) Slot.unset).toArray = ls at hl ⊢
  have hl : lv_has ls 2 [(0, .ref (mq 0)), (1, .int x1)] := hl
  refine lv_aload_n hx hb dX9_follow_0 rfl (lv_at hl 0 rfl) ?_
  refine lv_iload_n hx hb dX9_follow_1 rfl (lv_at hl 1 rfl) ?_
  refine roV (As := [Value.int x1]) (rest := []) (kX9_isNeedle l dC dI ca x1 nc sr ps br st so se kbr kst kso kse mq ea fe fs sw ks hs hnc) ⟨hx, hb, hml, hown, htl⟩ (cVg (C := RX9) 1 htl wd_674 wd_676 wp_18 wd_6 wd_677 rfl rfl (by decide +kernel) ⟨Nat.le_of_ble_eq_true rfl, Nat.le_of_ble_eq_true rfl⟩) (hP.sub [0] rfl) hK (va_recv hK hP (ci := 9) (q0 := 0) rfl rfl) rfl hl.1 rfl (Nat.le_of_ble_eq_true rfl) dX9_follow_2 ⟨Nat.zero_le _, Nat.zero_le _⟩ (fun r hr9 => ?_)
  subst hr9
  refine lv_if_eq (tgt := 24) hx hb dX9_follow_5 (by decide) (fun c_1 => ?_) (fun c_1 => ?_)
  · replace c_1 := bI_f c_1
    refine lv_bipush (v := (-101)) hx hb dX9_follow_24 (by decide) ?_
    have hP9 := hP.sub (ws' := [(mq 0, .inr (9, [.ref (mq 1), .int (nI ps), .int ea, .int (nI nc), .int (nI br), .int st, .int so, .int sr, .ref (mq 2), .ref (mq 3), .int fe, .int fs, .ref (mq 4), .int (nI se), .ref (mq 5), .ref (mq 6), .int sw, .int ks, .int (nI kbr), .int kst, .int kso, .int (nI kse), .ref (mq 7), .ref (mq 8), .ref (mq 9), .long hs])), (mq 2, .inl (ca 14, 8, .inl (fun zj => nI (rwN kd hm zj)))), (mq 3, .inl (ca 15, 36, .inl (fun zj => bI (ib zj))))]) [0, 1, 2] rfl
    have hD9 := hD.sub (ws' := [(mq 0, .inr (9, [.ref (mq 1), .int (nI ps), .int ea, .int (nI nc), .int (nI br), .int st, .int so, .int sr, .ref (mq 2), .ref (mq 3), .int fe, .int fs, .ref (mq 4), .int (nI se), .ref (mq 5), .ref (mq 6), .int sw, .int ks, .int (nI kbr), .int kst, .int kso, .int (nI kse), .ref (mq 7), .ref (mq 8), .ref (mq 9), .long hs])), (mq 2, .inl (ca 14, 8, .inl (fun zj => nI (rwN kd hm zj)))), (mq 3, .inl (ca 15, 36, .inl (fun zj => bI (ib zj))))]) [0, 1, 2] (by decide) rfl
    have hk : rng x1 nc = false := c_1
    exact W.iret (v := (-101)) hx hb hr (fun t ht hW => ⟨⟨(-101), (), rfl, by show _ = _; simp [followR, c_1], by rw [ht]; simp only [hk, Bool.false_eq_true, ↓reduceIte]; exact hP9, va_K.moved hW.alike hK, (by simp only [hk, Bool.false_eq_true, ↓reduceIte]; exact hD9)⟩, hS.F ht⟩) hS.2.2 dX9_follow_26
  · replace c_1 := bI_t c_1
    obtain ⟨i, hi, rfl⟩ := rng_ex c_1 (by omega)
    refine lv_aload_n hx hb dX9_follow_8 rfl (lv_at hl 0 rfl) ?_
    refine lv_aload_n hx hb dX9_follow_9 rfl (lv_at hl 0 rfl) ?_
    refine lv_iload_n hx hb dX9_follow_10 rfl (lv_at hl 1 rfl) ?_
    refine lv_aload_n hx hb dX9_follow_11 rfl (lv_at hl 0 rfl) ?_
    refine va_get (D := (dC, dI)) (ci := 9) (v := .int (nI br)) (C := RX9) (T := TX9) (N := 26) hx hb htl iX9 hown hK hP 0 rfl rfl 4 (by decide) (htl _ wd_555) (fun _ h9 => h9) rfl dX9_follow_12 ?_
    refine roV (As := [Value.int (nI i), Value.int (nI br)]) (rest := [.ref (mq 0)]) (kX9_pointsOf l dC dI ca i br kd nc sr ps br st so se hm kbr kst kso kse mq ea fe fs sw ks hs (by omega) hbr hkd hhm) ⟨hx, hb, hml, hown, htl⟩ (cVg (C := RX9) 2 htl wd_682 wd_684 wp_20 wd_6 wd_685 rfl rfl (by decide +kernel) ⟨Nat.le_of_ble_eq_true rfl, Nat.le_of_ble_eq_true rfl⟩) (hP.sub [0, 1] rfl) hK (va_recv hK hP (ci := 9) (q0 := 0) rfl rfl) rfl hl.1 rfl (Nat.le_of_ble_eq_true rfl) dX9_follow_15 ⟨Nat.zero_le _, Nat.zero_le _⟩ (fun r hr9 => ?_)
    subst hr9
    refine efV (As := [Value.int (nI (pointN (kd i) (hm i) br))]) (rest := []) (wr := [(mq 2, .inl (ca 14, 8, .inl (fun zj => nI (rwN kd hm zj))))]) (kX9_go l dC dI ca _ (pointN (kd i) (hm i) br) nc sr ps br st so se kbr kst kso kse mq ea fe fs sw ks ib hs (pointN_lt _ _ _) hbr) ⟨hx, hb, hml, hown, htl⟩ (cVg (C := RX9) 1 htl wd_759 wd_761 wp_30 wd_6 wd_762 rfl rfl (by decide +kernel) ⟨Nat.le_of_ble_eq_true rfl, Nat.le_of_ble_eq_true rfl⟩) hP hD hS hA hK [0, 2] [1] rfl rfl (by decide) (by decide) (by decide) (va_recv hK hP (ci := 9) (q0 := 0) rfl rfl) rfl hl.1 rfl (Nat.le_of_ble_eq_true rfl) dX9_follow_18 ⟨Nat.zero_le _, Nat.zero_le _⟩ (fun r_2 u H locs hw_18 hP hD hS => ?_)
    have hP : va_P (dC, dI) vwCl [(mq 2, .inl (ca 14, 8, .inl (fun zj => nI (rwN kd hm zj)))), (mq 0, .inr (9, [.ref (mq 1), .int (nI ps), .int ea, .int (nI nc), .int (nI (stepN ib br (pointN (kd i) (hm i) br))), .int (st + nI 1), .int (if stepN ib br (pointN (kd i) (hm i) br) = br then so else so + nI 1), .int sr, .ref (mq 2), .ref (mq 3), .int fe, .int fs, .ref (mq 4), .int (nI se), .ref (mq 5), .ref (mq 6), .int sw, .int ks, .int (nI kbr), .int kst, .int kso, .int (nI kse), .ref (mq 7), .ref (mq 8), .ref (mq 9), .long hs])), (mq 3, .inl (ca 15, 36, .inl (fun zj => bI (ib zj))))] H := hP
    have hD : va_D A [(mq 2, .inl (ca 14, 8, .inl (fun zj => nI (rwN kd hm zj)))), (mq 0, .inr (9, [.ref (mq 1), .int (nI ps), .int ea, .int (nI nc), .int (nI (stepN ib br (pointN (kd i) (hm i) br))), .int (st + nI 1), .int (if stepN ib br (pointN (kd i) (hm i) br) = br then so else so + nI 1), .int sr, .ref (mq 2), .ref (mq 3), .int fe, .int fs, .ref (mq 4), .int (nI se), .ref (mq 5), .ref (mq 6), .int sw, .int ks, .int (nI kbr), .int kst, .int kso, .int (nI kse), .ref (mq 7), .ref (mq 8), .ref (mq 9), .long hs])), (mq 3, .inl (ca 15, 36, .inl (fun zj => bI (ib zj))))] := hD
    have hw_18 : r_2 = nI (stepN ib br (pointN (kd i) (hm i) br)) := hw_18
    refine lv_ri (y := nI (stepN ib br (pointN (kd i) (hm i) br))) hw_18 ?_
    refine lv_goto (tgt := 26) hx hb dX9_follow_21 (by decide) ?_
    have hP9 := hP.sub (ws' := [(mq 0, .inr (9, [.ref (mq 1), .int (nI ps), .int ea, .int (nI nc), .int (nI (stepN ib br (pointN (kd i) (hm i) br))), .int (st + nI 1), .int (if stepN ib br (pointN (kd i) (hm i) br) = br then so else so + nI 1), .int sr, .ref (mq 2), .ref (mq 3), .int fe, .int fs, .ref (mq 4), .int (nI se), .ref (mq 5), .ref (mq 6), .int sw, .int ks, .int (nI kbr), .int kst, .int kso, .int (nI kse), .ref (mq 7), .ref (mq 8), .ref (mq 9), .long hs])), (mq 2, .inl (ca 14, 8, .inl (fun zj => nI (rwN kd hm zj)))), (mq 3, .inl (ca 15, 36, .inl (fun zj => bI (ib zj))))]) [1, 0, 2] rfl
    have hD9 := hD.sub (ws' := [(mq 0, .inr (9, [.ref (mq 1), .int (nI ps), .int ea, .int (nI nc), .int (nI (stepN ib br (pointN (kd i) (hm i) br))), .int (st + nI 1), .int (if stepN ib br (pointN (kd i) (hm i) br) = br then so else so + nI 1), .int sr, .ref (mq 2), .ref (mq 3), .int fe, .int fs, .ref (mq 4), .int (nI se), .ref (mq 5), .ref (mq 6), .int sw, .int ks, .int (nI kbr), .int kst, .int kso, .int (nI kse), .ref (mq 7), .ref (mq 8), .ref (mq 9), .long hs])), (mq 2, .inl (ca 14, 8, .inl (fun zj => nI (rwN kd hm zj)))), (mq 3, .inl (ca 15, 36, .inl (fun zj => bI (ib zj))))]) [1, 0, 2] (by decide) rfl
    have hk : rng (nI i) nc = true := c_1
    exact W.iret (v := nI (stepN ib br (pointN (kd i) (hm i) br))) hx hb hr (fun t ht hW => ⟨⟨nI (stepN ib br (pointN (kd i) (hm i) br)), (), rfl, by show _ = _; simp [followR, c_1, nI_clamp (show i < 2 ^ 31 by omega)], by rw [ht]; simp only [hk, ↓reduceIte, nI_clamp (show i < 2 ^ 31 by omega)]; exact hP9, va_K.moved hW.alike hK, (by simp only [hk, ↓reduceIte, nI_clamp (show i < 2 ^ 31 by omega)]; exact hD9)⟩, hS.F ht⟩) hS.2.2 dX9_follow_26
set_option maxHeartbeats 4000000 in
set_option maxRecDepth 100000 in
theorem kX9_homingOf (l : Launch) (dC : Nat → ClassId) (dI : Nat → Nat → Nat) (ca : Nat → ClassId) (sz : Nat) (kd : Nat → Nat) (nc : Nat) (sr : Int32) (ps : Nat) (br : Nat) (st : Int32) (so : Int32) (se : Nat) (hm : Nat → Nat) (kbr : Nat) (kst : Int32) (kso : Int32) (kse : Nat) (mq : Nat → Nat) (ea : Int32) (fe : Int32) (fs : Int32) (sw : Int32) (ks : Int32) (ib : Nat → Bool) (hs : Int64) (hnc : nc ≤ 4) (hbr : br < 36) (hkd : ∀ j, j < 4 → kd j < 5) (hhm : ∀ j, j < 4 → hm j < 36) : Met l yX9_homingOf (Cond.code yX9_homingOf cX9_homingOf 3 (some .int) :: gT) (rk 5) (EFp (dC, dI) [(mq 0, .inr (9, [.ref (mq 1), .int (nI ps), .int ea, .int (nI nc), .int (nI br), .int st, .int so, .int sr, .ref (mq 2), .ref (mq 3), .int fe, .int fs, .ref (mq 4), .int (nI se), .ref (mq 5), .ref (mq 6), .int sw, .int ks, .int (nI kbr), .int kst, .int kso, .int (nI kse), .ref (mq 7), .ref (mq 8), .ref (mq 9), .long hs])), (mq 2, .inl (ca 14, 8, .inl (fun zj => nI (rwN kd hm zj)))), (mq 3, .inl (ca 15, 36, .inl (fun zj => bI (ib zj))))] (TY ca) sz [Value.ref (mq 0)]) (va_Qi (fun (r : Int32) (u : Int32 × Int32) => match u with | (fe2, fs2) => r = homL (fun i => decide ((trailN ib (kd i) (hm i) 40 br 0).1 = hm i)) nc 0 (nI 0)) (EFb (dC, dI) (fun (u : Int32 × Int32) => match u with | (fe2, fs2) => [(mq 0, .inr (9, [.ref (mq 1), .int (nI ps), .int ea, .int (nI nc), .int (nI br), .int st, .int so, .int sr, .ref (mq 2), .ref (mq 3), .int fe2, .int fs2, .ref (mq 4), .int (nI se), .ref (mq 5), .ref (mq 6), .int sw, .int ks, .int (nI kbr), .int kst, .int kso, .int (nI kse), .ref (mq 7), .ref (mq 8), .ref (mq 9), .long hs])), (mq 2, .inl (ca 14, 8, .inl (fun zj => nI (rwN kd hm zj)))), (mq 3, .inl (ca 15, 36, .inl (fun zj => bI (ib zj))))]) (TY ca) (va_A [(mq 0, .inr (9, [.ref (mq 1), .int (nI ps), .int ea, .int (nI nc), .int (nI br), .int st, .int so, .int sr, .ref (mq 2), .ref (mq 3), .int fe, .int fs, .ref (mq 4), .int (nI se), .ref (mq 5), .ref (mq 6), .int sw, .int ks, .int (nI kbr), .int kst, .int kso, .int (nI kse), .ref (mq 7), .ref (mq 8), .ref (mq 9), .long hs])), (mq 2, .inl (ca 14, 8, .inl (fun zj => nI (rwN kd hm zj)))), (mq 3, .inl (ca 15, 36, .inl (fun zj => bI (ib zj))))] sz)) (va_A [(mq 0, .inr (9, [.ref (mq 1), .int (nI ps), .int ea, .int (nI nc), .int (nI br), .int st, .int so, .int sr, .ref (mq 2), .ref (mq 3), .int fe, .int fs, .ref (mq 4), .int (nI se), .ref (mq 5), .ref (mq 6), .int sw, .int ks, .int (nI kbr), .int kst, .int kso, .int (nI kse), .ref (mq 7), .ref (mq 8), .ref (mq 9), .long hs])), (mq 2, .inl (ca 14, 8, .inl (fun zj => nI (rwN kd hm zj)))), (mq 3, .inl (ca 15, 36, .inl (fun zj => bI (ib zj))))] sz)) 0 0 (va_A [(mq 0, .inr (9, [.ref (mq 1), .int (nI ps), .int ea, .int (nI nc), .int (nI br), .int st, .int so, .int sr, .ref (mq 2), .ref (mq 3), .int fe, .int fs, .ref (mq 4), .int (nI se), .ref (mq 5), .ref (mq 6), .int sw, .int ks, .int (nI kbr), .int kst, .int kso, .int (nI kse), .ref (mq 7), .ref (mq 8), .ref (mq 9), .long hs])), (mq 2, .inl (ca 14, 8, .inl (fun zj => nI (rwN kd hm zj)))), (mq 3, .inl (ca 15, 36, .inl (fun zj => bI (ib zj))))] sz) := by
  refine Met.ofW (cc := cX9_homingOf) (maxL := 3) (ret := (some .int)) (by decide) rfl ?_
  intro p e s m args below meth c s₁ B hml hv
  obtain ⟨rfl, hsz, hP, hK, hD0⟩ := hv
  have hx := B.exec
  have hb := B.bytes
  have hr := B.returns
  have hts := atoms_spec (ws := (Cond.code yX9_homingOf cX9_homingOf 3 (some .int) :: gT)) B.pre
  have htl : ∀ w ∈ gT, w.before _ s = true := fun w h => hts w (List.mem_cons_of_mem _ h)
  have hown : s.vm.findClass RX9 = some m.cls := findClass_of_methodNamed B.named
  have hlocks := B.notSynchronized
  subst hsz
  have hD := hD0.self (sz := s.heap.size)
  generalize hAe : va_A [(mq 0, .inr (9, [.ref (mq 1), .int (nI ps), .int ea, .int (nI nc), .int (nI br), .int st, .int so, .int sr, .ref (mq 2), .ref (mq 3), .int fe, .int fs, .ref (mq 4), .int (nI se), .ref (mq 5), .ref (mq 6), .int sw, .int ks, .int (nI kbr), .int kst, .int kso, .int (nI kse), .ref (mq 7), .ref (mq 8), .ref (mq 9), .long hs])), (mq 2, .inl (ca 14, 8, .inl (fun zj => nI (rwN kd hm zj)))), (mq 3, .inl (ca 15, 36, .inl (fun zj => bI (ib zj))))] s.heap.size = A at hD ⊢
  have hA : ∀ q : Nat, s.heap.size ≤ q → A q := fun q h => by rw [← hAe]; exact Or.inr h
  have hS : va_S A s.heap s.heap [] := va_S.rf
  have hl := lv_entry ([Value.ref (mq 0)]) (n := 3) (Nat.le_of_ble_eq_true rfl)
  rw [lg_entry_eq]
  generalize (lg_sl ([Value.ref (mq 0)]) ++ List.replicate (3 - (lg_sl ([Value.ref (mq 0)])).length) Slot.unset).toArray = ls at hl ⊢
  have hl : lv_has ls 3 [(0, .ref (mq 0))] := hl
  refine lv_iconst (v := nI 0) hx hb dX9_homingOf_0 (by decide) ?_
  refine lv_istore_n (lv' := [(1, .int (nI 0)), (0, .ref (mq 0))]) hx hb dX9_homingOf_1 rfl hl (by decide) rfl (fun ls hl => ?_)
  refine lv_iconst (v := nI 0) hx hb dX9_homingOf_2 (by decide) ?_
  refine lv_istore_n (lv' := [(2, .int (nI 0)), (1, .int (nI 0)), (0, .ref (mq 0))]) hx hb dX9_homingOf_3 rfl hl (by decide) rfl (fun ls hl => ?_)
  have lp4 : ∀ (n : Nat) (i : Nat) (b : Int32) (fe1 : Int32) (fs1 : Int32), (i + n = nc) → (homL (fun i => decide ((trailN ib (kd i) (hm i) 40 br 0).1 = hm i)) n i b = homL (fun i => decide ((trailN ib (kd i) (hm i) 40 br 0).1 = hm i)) nc 0 (nI 0)) → ∀ (H : Heap) (locs : List Loc), va_P (dC, dI) vwCl [(mq 0, .inr (9, [.ref (mq 1), .int (nI ps), .int ea, .int (nI nc), .int (nI br), .int st, .int so, .int sr, .ref (mq 2), .ref (mq 3), .int fe1, .int fs1, .ref (mq 4), .int (nI se), .ref (mq 5), .ref (mq 6), .int sw, .int ks, .int (nI kbr), .int kst, .int kso, .int (nI kse), .ref (mq 7), .ref (mq 8), .ref (mq 9), .long hs])), (mq 2, .inl (ca 14, 8, .inl (fun zj => nI (rwN kd hm zj)))), (mq 3, .inl (ca 15, 36, .inl (fun zj => bI (ib zj))))] H → va_D A [(mq 0, .inr (9, [.ref (mq 1), .int (nI ps), .int ea, .int (nI nc), .int (nI br), .int st, .int so, .int sr, .ref (mq 2), .ref (mq 3), .int fe1, .int fs1, .ref (mq 4), .int (nI se), .ref (mq 5), .ref (mq 6), .int sw, .int ks, .int (nI kbr), .int kst, .int kso, .int (nI kse), .ref (mq 7), .ref (mq 8), .ref (mq 9), .long hs])), (mq 2, .inl (ca 14, 8, .inl (fun zj => nI (rwN kd hm zj)))), (mq 3, .inl (ca 15, 36, .inl (fun zj => bI (ib zj))))] → va_S A s.heap H locs → ∀ (ls : Array Slot), lv_has ls 3 [(2, .int (nI i)), (1, .int b), (0, .ref (mq 0))] → W p l e (headSpec (Cond.code yX9_homingOf cX9_homingOf 3 (some .int) :: gT) (rk 5)).room s m ([Value.ref (mq 0)] : List Value).toArray below meth c H locs 0 0 (MQ below (va_Qi (fun (r : Int32) (u : Int32 × Int32) => match u with | (fe2, fs2) => r = homL (fun i => decide ((trailN ib (kd i) (hm i) 40 br 0).1 = hm i)) nc 0 (nI 0)) (EFb (dC, dI) (fun (u : Int32 × Int32) => match u with | (fe2, fs2) => [(mq 0, .inr (9, [.ref (mq 1), .int (nI ps), .int ea, .int (nI nc), .int (nI br), .int st, .int so, .int sr, .ref (mq 2), .ref (mq 3), .int fe2, .int fs2, .ref (mq 4), .int (nI se), .ref (mq 5), .ref (mq 6), .int sw, .int ks, .int (nI kbr), .int kst, .int kso, .int (nI kse), .ref (mq 7), .ref (mq 8), .ref (mq 9), .long hs])), (mq 2, .inl (ca 14, 8, .inl (fun zj => nI (rwN kd hm zj)))), (mq 3, .inl (ca 15, 36, .inl (fun zj => bI (ib zj))))]) (TY ca) A) A) ([Value.ref (mq 0)] : List Value).toArray s 0 0 A) (F0 m 4 ls []) := by
    clear hS hP hD
    clear hl
    intro n
    induction n with
    | zero =>
      intro i b fe1 fs1 hi hR H locs hP hD hS ls hl
      refine lv_iload_n hx hb dX9_homingOf_4 rfl (lv_at hl 0 rfl) ?_
      refine lv_aload_n hx hb dX9_homingOf_5 rfl (lv_at hl 2 rfl) ?_
      refine va_get (D := (dC, dI)) (ci := 9) (v := .int (nI nc)) (C := RX9) (T := TX9) (N := 26) hx hb htl iX9 hown hK hP 0 rfl rfl 3 (by decide) (htl _ wd_554) (fun _ h9 => h9) rfl dX9_homingOf_6 ?_
      refine lv_icmp_ge (tgt := 50) hx hb dX9_homingOf_9 (by decide) (fun c_1 => ?_) (fun c_1 => ?_)
      · refine lv_iload_n hx hb dX9_homingOf_50 rfl (lv_at hl 1 rfl) ?_
        have hP9 := hP.sub (ws' := [(mq 0, .inr (9, [.ref (mq 1), .int (nI ps), .int ea, .int (nI nc), .int (nI br), .int st, .int so, .int sr, .ref (mq 2), .ref (mq 3), .int fe1, .int fs1, .ref (mq 4), .int (nI se), .ref (mq 5), .ref (mq 6), .int sw, .int ks, .int (nI kbr), .int kst, .int kso, .int (nI kse), .ref (mq 7), .ref (mq 8), .ref (mq 9), .long hs])), (mq 2, .inl (ca 14, 8, .inl (fun zj => nI (rwN kd hm zj)))), (mq 3, .inl (ca 15, 36, .inl (fun zj => bI (ib zj))))]) [0, 1, 2] rfl
        have hD9 := hD.sub (ws' := [(mq 0, .inr (9, [.ref (mq 1), .int (nI ps), .int ea, .int (nI nc), .int (nI br), .int st, .int so, .int sr, .ref (mq 2), .ref (mq 3), .int fe1, .int fs1, .ref (mq 4), .int (nI se), .ref (mq 5), .ref (mq 6), .int sw, .int ks, .int (nI kbr), .int kst, .int kso, .int (nI kse), .ref (mq 7), .ref (mq 8), .ref (mq 9), .long hs])), (mq 2, .inl (ca 14, 8, .inl (fun zj => nI (rwN kd hm zj)))), (mq 3, .inl (ca 15, 36, .inl (fun zj => bI (ib zj))))]) [0, 1, 2] (by decide) rfl
        exact W.iret (v := b) hx hb hr (fun t ht hW => ⟨⟨b, (fe1, fs1), rfl, hR, by rw [ht]; exact hP9, va_K.moved hW.alike hK, hD9⟩, hS.F ht⟩) hS.2.2 dX9_homingOf_51
      · exact absurd (nI_le (by omega) (by omega)) c_1
    | succ n ih4 =>
      intro i b fe1 fs1 hi hR H locs hP hD hS ls hl
      refine lv_iload_n hx hb dX9_homingOf_4 rfl (lv_at hl 0 rfl) ?_
      refine lv_aload_n hx hb dX9_homingOf_5 rfl (lv_at hl 2 rfl) ?_
      refine va_get (D := (dC, dI)) (ci := 9) (v := .int (nI nc)) (C := RX9) (T := TX9) (N := 26) hx hb htl iX9 hown hK hP 0 rfl rfl 3 (by decide) (htl _ wd_554) (fun _ h9 => h9) rfl dX9_homingOf_6 ?_
      refine lv_icmp_ge (tgt := 50) hx hb dX9_homingOf_9 (by decide) (fun c_2 => ?_) (fun c_2 => ?_)
      · exact absurd c_2 (nI_ge (by omega) (by omega))
      · refine lv_aload_n hx hb dX9_homingOf_12 rfl (lv_at hl 2 rfl) ?_
        refine lv_iload_n hx hb dX9_homingOf_13 rfl (lv_at hl 0 rfl) ?_
        refine efVv (As := [Value.int (nI i)]) (rest := []) (wr := []) (kX9_layFollow l dC dI ca _ i kd nc sr ps br st so se hm kbr kst kso kse mq ea fe1 fs1 sw ks ib hs (by omega) hbr hkd hhm) ⟨hx, hb, hml, hown, htl⟩ (cVg (C := RX9) 1 htl wd_699 wd_701 wp_22 wd_6 wd_702 rfl rfl (by decide +kernel) ⟨Nat.le_of_ble_eq_true rfl, Nat.le_of_ble_eq_true rfl⟩) hP hD hS hA hK [0, 1, 2] [] rfl rfl (by decide) (by decide) (by decide) (va_recv hK hP (ci := 9) (q0 := 0) rfl rfl) rfl hl.1 rfl (Nat.le_of_ble_eq_true rfl) dX9_homingOf_14 ⟨Nat.zero_le _, Nat.zero_le _⟩ (fun u H locs hw_14 hP hD hS => ?_)
        have hP : va_P (dC, dI) vwCl [(mq 0, .inr (9, [.ref (mq 1), .int (nI ps), .int ea, .int (nI nc), .int (nI br), .int st, .int so, .int sr, .ref (mq 2), .ref (mq 3), .int (nI ((trailN ib (kd i) (hm i) 40 br 0).1)), .int (nI ((trailN ib (kd i) (hm i) 40 br 0).2)), .ref (mq 4), .int (nI se), .ref (mq 5), .ref (mq 6), .int sw, .int ks, .int (nI kbr), .int kst, .int kso, .int (nI kse), .ref (mq 7), .ref (mq 8), .ref (mq 9), .long hs])), (mq 2, .inl (ca 14, 8, .inl (fun zj => nI (rwN kd hm zj)))), (mq 3, .inl (ca 15, 36, .inl (fun zj => bI (ib zj))))] H := hP
        have hD : va_D A [(mq 0, .inr (9, [.ref (mq 1), .int (nI ps), .int ea, .int (nI nc), .int (nI br), .int st, .int so, .int sr, .ref (mq 2), .ref (mq 3), .int (nI ((trailN ib (kd i) (hm i) 40 br 0).1)), .int (nI ((trailN ib (kd i) (hm i) 40 br 0).2)), .ref (mq 4), .int (nI se), .ref (mq 5), .ref (mq 6), .int sw, .int ks, .int (nI kbr), .int kst, .int kso, .int (nI kse), .ref (mq 7), .ref (mq 8), .ref (mq 9), .long hs])), (mq 2, .inl (ca 14, 8, .inl (fun zj => nI (rwN kd hm zj)))), (mq 3, .inl (ca 15, 36, .inl (fun zj => bI (ib zj))))] := hD
        refine lv_iload_n hx hb dX9_homingOf_17 rfl (lv_at hl 1 rfl) ?_
        refine lv_aload_n hx hb dX9_homingOf_18 rfl (lv_at hl 2 rfl) ?_
        refine va_get (D := (dC, dI)) (ci := 9) (v := .int (nI ((trailN ib (kd i) (hm i) 40 br 0).1))) (C := RX9) (T := TX9) (N := 26) hx hb htl iX9 hown hK hP 0 rfl rfl 10 (by decide) (htl _ wd_561) (fun _ h9 => h9) rfl dX9_homingOf_19 ?_
        refine lv_aload_n hx hb dX9_homingOf_22 rfl (lv_at hl 2 rfl) ?_
        refine va_get (D := (dC, dI)) (ci := 9) (v := .ref (mq 2)) (C := RX9) (T := TX9) (N := 26) hx hb htl iX9 hown hK hP 0 rfl rfl 8 (by decide) (htl _ wd_559) (fun _ h9 => h9) rfl dX9_homingOf_23 ?_
        refine lv_iconst (v := nI 2) hx hb dX9_homingOf_26 (by decide) ?_
        refine lv_iload_n hx hb dX9_homingOf_27 rfl (lv_at hl 0 rfl) ?_
        refine lv_imul hx hb dX9_homingOf_28 ?_
        refine lv_ri (y := nI (2 * i)) (pk_mul 2 i) ?_
        refine lv_iconst (v := nI 1) hx hb dX9_homingOf_29 (by decide) ?_
        refine lv_iadd hx hb dX9_homingOf_30 ?_
        refine lv_ri (y := nI ((2 * i) + 1)) (nI_add (2 * i) 1) ?_
        refine va_iald hx hb hK hP 1 14 rfl rfl (vp_in_nI (by omega) (by decide)) dX9_homingOf_31 ?_
        refine lv_ri (y := nI (rwN kd hm ((2 * i) + 1))) (congrArg (fun zj => nI (rwN kd hm zj)) (nI_clamp (by omega))) ?_
        refine lv_ri (y := nI (hm i)) (congrArg nI (rwN_o kd hm i)) ?_
        refine lv_icmp_ne (tgt := 41) hx hb dX9_homingOf_32 (by decide) (fun c_4 => ?_) (fun c_4 => ?_)
        · rw [nI_eq (Nat.lt_trans (trailN_lt _ _ _ hbr) (by decide)) (Nat.lt_trans (hhm i (by omega)) (by decide))] at c_4
          refine lv_iconst (v := nI 0) hx hb dX9_homingOf_41 (by decide) ?_
          refine lv_ior hx hb dX9_homingOf_42 ?_
          refine lv_ri (y := b) (or0 b) ?_
          refine lv_istore_n (lv' := [(1, .int b), (2, .int (nI i)), (0, .ref (mq 0))]) hx hb dX9_homingOf_43 rfl hl (by decide) rfl (fun ls hl => ?_)
          refine lv_iinc (v := nI (i + 1)) (lv' := [(2, .int (nI (i + 1))), (1, .int b), (0, .ref (mq 0))]) hx hb dX9_homingOf_44 hl (k := 1) rfl (nI_add i 1) (by decide) rfl (fun ls hl => ?_)
          refine lv_goto (tgt := 4) hx hb dX9_homingOf_47 (by decide) ?_
          exact ih4 (i + 1) b (nI ((trailN ib (kd i) (hm i) 40 br 0).1)) (nI ((trailN ib (kd i) (hm i) 40 br 0).2)) (by omega) (by rw [← hR]; simp only [homL, c_4, decide_true, decide_false, ↓reduceIte, Bool.false_eq_true]) _ _ (hP.sub [0, 1, 2] rfl) (hD.sub [0, 1, 2] (by decide) rfl) hS ls (lv_sub hl [0, 1, 2] rfl)
        · rw [nI_eq (Nat.lt_trans (trailN_lt _ _ _ hbr) (by decide)) (Nat.lt_trans (hhm i (by omega)) (by decide))] at c_4
          refine lv_iconst (v := nI 1) hx hb dX9_homingOf_35 (by decide) ?_
          refine lv_iload_n hx hb dX9_homingOf_36 rfl (lv_at hl 0 rfl) ?_
          refine lv_ishl hx hb dX9_homingOf_37 ?_
          refine lv_goto (tgt := 42) hx hb dX9_homingOf_38 (by decide) ?_
          refine lv_ior hx hb dX9_homingOf_42 ?_
          refine lv_ri (y := b ||| (nI 1 <<< (nI i &&& 31))) (rfl) ?_
          refine lv_istore_n (lv' := [(1, .int (b ||| (nI 1 <<< (nI i &&& 31)))), (2, .int (nI i)), (0, .ref (mq 0))]) hx hb dX9_homingOf_43 rfl hl (by decide) rfl (fun ls hl => ?_)
          refine lv_iinc (v := nI (i + 1)) (lv' := [(2, .int (nI (i + 1))), (1, .int (b ||| (nI 1 <<< (nI i &&& 31)))), (0, .ref (mq 0))]) hx hb dX9_homingOf_44 hl (k := 1) rfl (nI_add i 1) (by decide) rfl (fun ls hl => ?_)
          refine lv_goto (tgt := 4) hx hb dX9_homingOf_47 (by decide) ?_
          exact ih4 (i + 1) (b ||| (nI 1 <<< (nI i &&& 31))) (nI ((trailN ib (kd i) (hm i) 40 br 0).1)) (nI ((trailN ib (kd i) (hm i) 40 br 0).2)) (by omega) (by rw [← hR]; simp only [homL, c_4, decide_true, decide_false, ↓reduceIte, Bool.false_eq_true]) _ _ (hP.sub [0, 1, 2] rfl) (hD.sub [0, 1, 2] (by decide) rfl) hS ls (lv_sub hl [0, 1, 2] rfl)
  exact lp4 nc 0 (nI 0) fe fs (by omega) rfl _ _ hP hD hS ls (lv_sub hl [0, 1, 2] rfl)
set_option maxHeartbeats 4000000 in
set_option maxRecDepth 100000 in
theorem kX9_homing (l : Launch) (dC : Nat → ClassId) (dI : Nat → Nat → Nat) (ca : Nat → ClassId) (sz : Nat) (kd : Nat → Nat) (nc : Nat) (sr : Int32) (ps : Nat) (br : Nat) (st : Int32) (so : Int32) (se : Nat) (hm : Nat → Nat) (kbr : Nat) (kst : Int32) (kso : Int32) (kse : Nat) (mq : Nat → Nat) (ea : Int32) (fe : Int32) (fs : Int32) (sw : Int32) (ks : Int32) (ib : Nat → Bool) (hs : Int64) (hnc : nc ≤ 4) (hbr : br < 36) (hkd : ∀ j, j < 4 → kd j < 5) (hhm : ∀ j, j < 4 → hm j < 36) : Met l yX9_homing (Cond.code yX9_homing cX9_homing 1 (some .int) :: gT) (rk 6) (EFp (dC, dI) [(mq 0, .inr (9, [.ref (mq 1), .int (nI ps), .int ea, .int (nI nc), .int (nI br), .int st, .int so, .int sr, .ref (mq 2), .ref (mq 3), .int fe, .int fs, .ref (mq 4), .int (nI se), .ref (mq 5), .ref (mq 6), .int sw, .int ks, .int (nI kbr), .int kst, .int kso, .int (nI kse), .ref (mq 7), .ref (mq 8), .ref (mq 9), .long hs])), (mq 2, .inl (ca 14, 8, .inl (fun zj => nI (rwN kd hm zj)))), (mq 3, .inl (ca 15, 36, .inl (fun zj => bI (ib zj))))] (TY ca) sz [Value.ref (mq 0)]) (va_Qi (fun (r : Int32) (u : Int32 × Int32) => match u with | (fe2, fs2) => r = homingR nc (fun i => decide ((trailN ib (kd i) (hm i) 40 br 0).1 = hm i))) (EFb (dC, dI) (fun (u : Int32 × Int32) => match u with | (fe2, fs2) => [(mq 0, .inr (9, [.ref (mq 1), .int (nI ps), .int ea, .int (nI nc), .int (nI br), .int st, .int so, .int sr, .ref (mq 2), .ref (mq 3), .int fe2, .int fs2, .ref (mq 4), .int (nI se), .ref (mq 5), .ref (mq 6), .int sw, .int ks, .int (nI kbr), .int kst, .int kso, .int (nI kse), .ref (mq 7), .ref (mq 8), .ref (mq 9), .long hs])), (mq 2, .inl (ca 14, 8, .inl (fun zj => nI (rwN kd hm zj)))), (mq 3, .inl (ca 15, 36, .inl (fun zj => bI (ib zj))))]) (TY ca) (va_A [(mq 0, .inr (9, [.ref (mq 1), .int (nI ps), .int ea, .int (nI nc), .int (nI br), .int st, .int so, .int sr, .ref (mq 2), .ref (mq 3), .int fe, .int fs, .ref (mq 4), .int (nI se), .ref (mq 5), .ref (mq 6), .int sw, .int ks, .int (nI kbr), .int kst, .int kso, .int (nI kse), .ref (mq 7), .ref (mq 8), .ref (mq 9), .long hs])), (mq 2, .inl (ca 14, 8, .inl (fun zj => nI (rwN kd hm zj)))), (mq 3, .inl (ca 15, 36, .inl (fun zj => bI (ib zj))))] sz)) (va_A [(mq 0, .inr (9, [.ref (mq 1), .int (nI ps), .int ea, .int (nI nc), .int (nI br), .int st, .int so, .int sr, .ref (mq 2), .ref (mq 3), .int fe, .int fs, .ref (mq 4), .int (nI se), .ref (mq 5), .ref (mq 6), .int sw, .int ks, .int (nI kbr), .int kst, .int kso, .int (nI kse), .ref (mq 7), .ref (mq 8), .ref (mq 9), .long hs])), (mq 2, .inl (ca 14, 8, .inl (fun zj => nI (rwN kd hm zj)))), (mq 3, .inl (ca 15, 36, .inl (fun zj => bI (ib zj))))] sz)) 0 0 (va_A [(mq 0, .inr (9, [.ref (mq 1), .int (nI ps), .int ea, .int (nI nc), .int (nI br), .int st, .int so, .int sr, .ref (mq 2), .ref (mq 3), .int fe, .int fs, .ref (mq 4), .int (nI se), .ref (mq 5), .ref (mq 6), .int sw, .int ks, .int (nI kbr), .int kst, .int kso, .int (nI kse), .ref (mq 7), .ref (mq 8), .ref (mq 9), .long hs])), (mq 2, .inl (ca 14, 8, .inl (fun zj => nI (rwN kd hm zj)))), (mq 3, .inl (ca 15, 36, .inl (fun zj => bI (ib zj))))] sz) := by
  refine Met.ofW (cc := cX9_homing) (maxL := 1) (ret := (some .int)) (by decide) rfl ?_
  intro p e s m args below meth c s₁ B hml hv
  obtain ⟨rfl, hsz, hP, hK, hD0⟩ := hv
  have hx := B.exec
  have hb := B.bytes
  have hr := B.returns
  have hts := atoms_spec (ws := (Cond.code yX9_homing cX9_homing 1 (some .int) :: gT)) B.pre
  have htl : ∀ w ∈ gT, w.before _ s = true := fun w h => hts w (List.mem_cons_of_mem _ h)
  have hown : s.vm.findClass RX9 = some m.cls := findClass_of_methodNamed B.named
  have hlocks := B.notSynchronized
  subst hsz
  have hD := hD0.self (sz := s.heap.size)
  generalize hAe : va_A [(mq 0, .inr (9, [.ref (mq 1), .int (nI ps), .int ea, .int (nI nc), .int (nI br), .int st, .int so, .int sr, .ref (mq 2), .ref (mq 3), .int fe, .int fs, .ref (mq 4), .int (nI se), .ref (mq 5), .ref (mq 6), .int sw, .int ks, .int (nI kbr), .int kst, .int kso, .int (nI kse), .ref (mq 7), .ref (mq 8), .ref (mq 9), .long hs])), (mq 2, .inl (ca 14, 8, .inl (fun zj => nI (rwN kd hm zj)))), (mq 3, .inl (ca 15, 36, .inl (fun zj => bI (ib zj))))] s.heap.size = A at hD ⊢
  have hA : ∀ q : Nat, s.heap.size ≤ q → A q := fun q h => by rw [← hAe]; exact Or.inr h
  have hS : va_S A s.heap s.heap [] := va_S.rf
  have hl := lv_entry ([Value.ref (mq 0)]) (n := 1) (Nat.le_of_ble_eq_true rfl)
  rw [lg_entry_eq]
  generalize (lg_sl ([Value.ref (mq 0)]) ++ List.replicate (1 - (lg_sl ([Value.ref (mq 0)])).length) Slot.unset).toArray = ls at hl ⊢
  have hl : lv_has ls 1 [(0, .ref (mq 0))] := hl
  refine lv_aload_n hx hb dX9_homing_0 rfl (lv_at hl 0 rfl) ?_
  refine roV (As := []) (rest := []) (kX9_lacks l dC dI ca nc sr ps br st so se kbr kst kso kse mq ea fe fs sw ks hs hnc) ⟨hx, hb, hml, hown, htl⟩ (cVg (C := RX9) 0 htl wd_737 wd_739 wp_29 wd_6 wd_740 rfl rfl (by decide +kernel) ⟨Nat.le_of_ble_eq_true rfl, Nat.le_of_ble_eq_true rfl⟩) (hP.sub [0] rfl) hK (va_recv hK hP (ci := 9) (q0 := 0) rfl rfl) rfl hl.1 rfl (Nat.le_of_ble_eq_true rfl) dX9_homing_1 ⟨Nat.zero_le _, Nat.zero_le _⟩ (fun r hr9 => ?_)
  subst hr9
  refine lv_if_eq (tgt := 12) hx hb dX9_homing_4 (by decide) (fun c_1 => ?_) (fun c_1 => ?_)
  · replace c_1 := bI_f c_1
    refine lv_aload_n hx hb dX9_homing_12 rfl (lv_at hl 0 rfl) ?_
    refine efV (As := []) (rest := []) (wr := []) (kX9_homingOf l dC dI ca _ kd nc sr ps br st so se hm kbr kst kso kse mq ea fe fs sw ks ib hs hnc hbr hkd hhm) ⟨hx, hb, hml, hown, htl⟩ (cVg (C := RX9) 0 htl wd_771 wd_773 wp_31 wd_6 wd_774 rfl rfl (by decide +kernel) ⟨Nat.le_of_ble_eq_true rfl, Nat.le_of_ble_eq_true rfl⟩) hP hD hS hA hK [0, 1, 2] [] rfl rfl (by decide) (by decide) (by decide) (va_recv hK hP (ci := 9) (q0 := 0) rfl rfl) rfl hl.1 rfl (Nat.le_of_ble_eq_true rfl) dX9_homing_13 ⟨Nat.zero_le _, Nat.zero_le _⟩ (fun r_4 u H locs hw_13 hP hD hS => ?_)
    obtain ⟨fe2_2, fs2_3⟩ := u
    have hP : va_P (dC, dI) vwCl [(mq 0, .inr (9, [.ref (mq 1), .int (nI ps), .int ea, .int (nI nc), .int (nI br), .int st, .int so, .int sr, .ref (mq 2), .ref (mq 3), .int fe2_2, .int fs2_3, .ref (mq 4), .int (nI se), .ref (mq 5), .ref (mq 6), .int sw, .int ks, .int (nI kbr), .int kst, .int kso, .int (nI kse), .ref (mq 7), .ref (mq 8), .ref (mq 9), .long hs])), (mq 2, .inl (ca 14, 8, .inl (fun zj => nI (rwN kd hm zj)))), (mq 3, .inl (ca 15, 36, .inl (fun zj => bI (ib zj))))] H := hP
    have hD : va_D A [(mq 0, .inr (9, [.ref (mq 1), .int (nI ps), .int ea, .int (nI nc), .int (nI br), .int st, .int so, .int sr, .ref (mq 2), .ref (mq 3), .int fe2_2, .int fs2_3, .ref (mq 4), .int (nI se), .ref (mq 5), .ref (mq 6), .int sw, .int ks, .int (nI kbr), .int kst, .int kso, .int (nI kse), .ref (mq 7), .ref (mq 8), .ref (mq 9), .long hs])), (mq 2, .inl (ca 14, 8, .inl (fun zj => nI (rwN kd hm zj)))), (mq 3, .inl (ca 15, 36, .inl (fun zj => bI (ib zj))))] := hD
    have hw_13 : r_4 = homL (fun i => decide ((trailN ib (kd i) (hm i) 40 br 0).1 = hm i)) nc 0 (nI 0) := hw_13
    refine lv_ri (y := homL (fun i => decide ((trailN ib (kd i) (hm i) 40 br 0).1 = hm i)) nc 0 (nI 0)) hw_13 ?_
    have hP9 := hP.sub (ws' := [(mq 0, .inr (9, [.ref (mq 1), .int (nI ps), .int ea, .int (nI nc), .int (nI br), .int st, .int so, .int sr, .ref (mq 2), .ref (mq 3), .int fe2_2, .int fs2_3, .ref (mq 4), .int (nI se), .ref (mq 5), .ref (mq 6), .int sw, .int ks, .int (nI kbr), .int kst, .int kso, .int (nI kse), .ref (mq 7), .ref (mq 8), .ref (mq 9), .long hs])), (mq 2, .inl (ca 14, 8, .inl (fun zj => nI (rwN kd hm zj)))), (mq 3, .inl (ca 15, 36, .inl (fun zj => bI (ib zj))))]) [0, 1, 2] rfl
    have hD9 := hD.sub (ws' := [(mq 0, .inr (9, [.ref (mq 1), .int (nI ps), .int ea, .int (nI nc), .int (nI br), .int st, .int so, .int sr, .ref (mq 2), .ref (mq 3), .int fe2_2, .int fs2_3, .ref (mq 4), .int (nI se), .ref (mq 5), .ref (mq 6), .int sw, .int ks, .int (nI kbr), .int kst, .int kso, .int (nI kse), .ref (mq 7), .ref (mq 8), .ref (mq 9), .long hs])), (mq 2, .inl (ca 14, 8, .inl (fun zj => nI (rwN kd hm zj)))), (mq 3, .inl (ca 15, 36, .inl (fun zj => bI (ib zj))))]) [0, 1, 2] (by decide) rfl
    exact W.iret (v := homL (fun i => decide ((trailN ib (kd i) (hm i) 40 br 0).1 = hm i)) nc 0 (nI 0)) hx hb hr (fun t ht hW => ⟨⟨homL (fun i => decide ((trailN ib (kd i) (hm i) 40 br 0).1 = hm i)) nc 0 (nI 0), (fe2_2, fs2_3), rfl, by show _ = _; simp at *; simp [homingR, c_1], by rw [ht]; exact hP9, va_K.moved hW.alike hK, hD9⟩, hS.F ht⟩) hS.2.2 dX9_homing_16
  · replace c_1 := bI_t c_1
    refine lv_bipush (v := (-103)) hx hb dX9_homing_7 (by decide) ?_
    refine lv_goto (tgt := 16) hx hb dX9_homing_9 (by decide) ?_
    have hP9 := hP.sub (ws' := [(mq 0, .inr (9, [.ref (mq 1), .int (nI ps), .int ea, .int (nI nc), .int (nI br), .int st, .int so, .int sr, .ref (mq 2), .ref (mq 3), .int fe, .int fs, .ref (mq 4), .int (nI se), .ref (mq 5), .ref (mq 6), .int sw, .int ks, .int (nI kbr), .int kst, .int kso, .int (nI kse), .ref (mq 7), .ref (mq 8), .ref (mq 9), .long hs])), (mq 2, .inl (ca 14, 8, .inl (fun zj => nI (rwN kd hm zj)))), (mq 3, .inl (ca 15, 36, .inl (fun zj => bI (ib zj))))]) [0, 1, 2] rfl
    have hD9 := hD.sub (ws' := [(mq 0, .inr (9, [.ref (mq 1), .int (nI ps), .int ea, .int (nI nc), .int (nI br), .int st, .int so, .int sr, .ref (mq 2), .ref (mq 3), .int fe, .int fs, .ref (mq 4), .int (nI se), .ref (mq 5), .ref (mq 6), .int sw, .int ks, .int (nI kbr), .int kst, .int kso, .int (nI kse), .ref (mq 7), .ref (mq 8), .ref (mq 9), .long hs])), (mq 2, .inl (ca 14, 8, .inl (fun zj => nI (rwN kd hm zj)))), (mq 3, .inl (ca 15, 36, .inl (fun zj => bI (ib zj))))]) [0, 1, 2] (by decide) rfl
    exact W.iret (v := (-103)) hx hb hr (fun t ht hW => ⟨⟨(-103), (fe, fs), rfl, by show _ = _; simp at *; simp [homingR, c_1], by rw [ht]; exact hP9, va_K.moved hW.alike hK, hD9⟩, hS.F ht⟩) hS.2.2 dX9_homing_16
