def lookI (k : Nat) (mk : Int64) : Int32 := if mk = 0 then -1 else blL (fun pp => lwL (fun ho => pointN k ho pp) (mbit mk) 36 0 (fun _ => 0) 0) 36 0 (-1) 37
theorem lwL_le {f : Nat → Nat} {b : Nat → Bool} : ∀ (n j : Nat) (lq : Nat → Nat) (w : Nat), (∀ x, lq x ≤ j) → w ≤ j → lwL f b n j lq w ≤ j + n
  | 0, _, _, _, _, h => h
  | n + 1, j, lq, w, h1, h2 => by
    unfold lwL
    split
    · have h3 := h1 (f j)
      have h := lwL_le (f := f) (b := b) n (j + 1) (va_up lq (f j) (lq (f j) + 1)) (if w < lq (f j) + 1 then lq (f j) + 1 else w) (fun x => by unfold va_up; have := h1 x; split <;> omega) (by split <;> omega)
      omega
    · have h := lwL_le (f := f) (b := b) n (j + 1) lq w (fun x => by have := h1 x; omega) (by omega)
      omega
set_option maxHeartbeats 4000000 in
set_option maxRecDepth 100000 in
theorem kX8_bestLook (l : Launch) (dC : Nat → ClassId) (dI : Nat → Nat → Nat) (ca : Nat → ClassId) (sz : Nat) (i : Nat) (mk : Int64) (q : Nat → Nat) (qn : Nat → Nat) (kd : Nat → Nat) (nc : Nat) (sr : Int32) (ik : Int32) (lq0 : Nat → Nat) (hi : i < 4) (hkd : ∀ j, j < 4 → kd j < 5) : Met l yX8_bestLook (Cond.code yX8_bestLook cX8_bestLook 8 (some .int) :: gT) (rk 4) (EFp (dC, dI) [(q 0, .inr (8, [.ref (q 1), .ref (q 3), .ref (q 4), .ref (q 9), .ref (q 14), .ref (q 15), .ref (q 16), .ref (q 17), .int (nI nc), .int sr, .int ik])), (q 3, .inl (ca 1, 4, .inr (.inr (.inr (.inr (fun zj => some (qn zj))))))), (q 17, .inl (ca 12, 9, .inl (fun zj => nI (lq0 zj)))), (qn 0, .inr (kc (kd 0), [])), (qn 1, .inr (kc (kd 1), [])), (qn 2, .inr (kc (kd 2), [])), (qn 3, .inr (kc (kd 3), []))] (TY ca) sz [Value.ref (q 0), Value.int (nI i), Value.long mk]) (va_Qi (fun (r : Int32) (u : (Nat → Nat)) => match u with | (lq1) => r = lookI (kd i) mk) (EFb (dC, dI) (fun (u : (Nat → Nat)) => match u with | (lq1) => [(q 0, .inr (8, [.ref (q 1), .ref (q 3), .ref (q 4), .ref (q 9), .ref (q 14), .ref (q 15), .ref (q 16), .ref (q 17), .int (nI nc), .int sr, .int ik])), (q 3, .inl (ca 1, 4, .inr (.inr (.inr (.inr (fun zj => some (qn zj))))))), (q 17, .inl (ca 12, 9, .inl (fun zj => nI (lq1 zj)))), (qn 0, .inr (kc (kd 0), [])), (qn 1, .inr (kc (kd 1), [])), (qn 2, .inr (kc (kd 2), [])), (qn 3, .inr (kc (kd 3), []))]) (TY ca) (va_A [(q 0, .inr (8, [.ref (q 1), .ref (q 3), .ref (q 4), .ref (q 9), .ref (q 14), .ref (q 15), .ref (q 16), .ref (q 17), .int (nI nc), .int sr, .int ik])), (q 3, .inl (ca 1, 4, .inr (.inr (.inr (.inr (fun zj => some (qn zj))))))), (q 17, .inl (ca 12, 9, .inl (fun zj => nI (lq0 zj)))), (qn 0, .inr (kc (kd 0), [])), (qn 1, .inr (kc (kd 1), [])), (qn 2, .inr (kc (kd 2), [])), (qn 3, .inr (kc (kd 3), []))] sz)) (va_A [(q 0, .inr (8, [.ref (q 1), .ref (q 3), .ref (q 4), .ref (q 9), .ref (q 14), .ref (q 15), .ref (q 16), .ref (q 17), .int (nI nc), .int sr, .int ik])), (q 3, .inl (ca 1, 4, .inr (.inr (.inr (.inr (fun zj => some (qn zj))))))), (q 17, .inl (ca 12, 9, .inl (fun zj => nI (lq0 zj)))), (qn 0, .inr (kc (kd 0), [])), (qn 1, .inr (kc (kd 1), [])), (qn 2, .inr (kc (kd 2), [])), (qn 3, .inr (kc (kd 3), []))] sz)) 0 0 (va_A [(q 0, .inr (8, [.ref (q 1), .ref (q 3), .ref (q 4), .ref (q 9), .ref (q 14), .ref (q 15), .ref (q 16), .ref (q 17), .int (nI nc), .int sr, .int ik])), (q 3, .inl (ca 1, 4, .inr (.inr (.inr (.inr (fun zj => some (qn zj))))))), (q 17, .inl (ca 12, 9, .inl (fun zj => nI (lq0 zj)))), (qn 0, .inr (kc (kd 0), [])), (qn 1, .inr (kc (kd 1), [])), (qn 2, .inr (kc (kd 2), [])), (qn 3, .inr (kc (kd 3), []))] sz) := by
  refine Met.ofW (cc := cX8_bestLook) (maxL := 8) (ret := (some .int)) (by decide) rfl ?_
  intro p e s m args below meth c s₁ B hml hv
  obtain ⟨rfl, hsz, hP, hK, hD0⟩ := hv
  have hx := B.exec
  have hb := B.bytes
  have hr := B.returns
  have hts := atoms_spec (ws := (Cond.code yX8_bestLook cX8_bestLook 8 (some .int) :: gT)) B.pre
  have htl : ∀ w ∈ gT, w.before _ s = true := fun w h => hts w (List.mem_cons_of_mem _ h)
  have hown : s.vm.findClass RX8 = some m.cls := findClass_of_methodNamed B.named
  have hlocks := B.notSynchronized
  subst hsz
  have hD := hD0.self (sz := s.heap.size)
  generalize hAe : va_A [(q 0, .inr (8, [.ref (q 1), .ref (q 3), .ref (q 4), .ref (q 9), .ref (q 14), .ref (q 15), .ref (q 16), .ref (q 17), .int (nI nc), .int sr, .int ik])), (q 3, .inl (ca 1, 4, .inr (.inr (.inr (.inr (fun zj => some (qn zj))))))), (q 17, .inl (ca 12, 9, .inl (fun zj => nI (lq0 zj)))), (qn 0, .inr (kc (kd 0), [])), (qn 1, .inr (kc (kd 1), [])), (qn 2, .inr (kc (kd 2), [])), (qn 3, .inr (kc (kd 3), []))] s.heap.size = A at hD ⊢
  have hA : ∀ q : Nat, s.heap.size ≤ q → A q := fun q h => by rw [← hAe]; exact Or.inr h
  have hS : va_S A s.heap s.heap [] := va_S.rf
  have hl := lv_entry ([Value.ref (q 0), Value.int (nI i), Value.long mk]) (n := 8) (Nat.le_of_ble_eq_true rfl)
  rw [lg_entry_eq]
  generalize (lg_sl ([Value.ref (q 0), Value.int (nI i), Value.long mk]) ++ List.replicate (8 - (lg_sl ([Value.ref (q 0), Value.int (nI i), Value.long mk])).length) Slot.unset).toArray = ls at hl ⊢
  have hl : lv_has ls 8 [(0, .ref (q 0)), (1, .int (nI i)), (2, .long mk)] := hl
  refine lv_lload_n hx hb dX8_bestLook_0 rfl (lv_at hl 2 rfl) ?_
  refine lv_lconst (v := 0) hx hb dX8_bestLook_1 (by decide) ?_
  refine W.lcmp hx hb dX8_bestLook_2 ?_
  refine lv_if_ne (tgt := 8) hx hb dX8_bestLook_3 (by decide) (fun c_1 => ?_) (fun c_1 => ?_)
  · rw [lgE] at c_1
    refine lv_iconst (v := (-1)) hx hb dX8_bestLook_8 (by decide) ?_
    refine lv_istore (lv' := [(4, .int (-1)), (0, .ref (q 0)), (1, .int (nI i)), (2, .long mk)]) hx hb dX8_bestLook_9 hl (by decide) rfl (fun ls hl => ?_)
    refine lv_bipush (v := nI 37) hx hb dX8_bestLook_11 (by decide) ?_
    refine lv_istore (lv' := [(5, .int (nI 37)), (4, .int (-1)), (0, .ref (q 0)), (1, .int (nI i)), (2, .long mk)]) hx hb dX8_bestLook_13 hl (by decide) rfl (fun ls hl => ?_)
    refine lv_iconst (v := nI 0) hx hb dX8_bestLook_15 (by decide) ?_
    refine lv_istore (lv' := [(6, .int (nI 0)), (5, .int (nI 37)), (4, .int (-1)), (0, .ref (q 0)), (1, .int (nI i)), (2, .long mk)]) hx hb dX8_bestLook_16 hl (by decide) rfl (fun ls hl => ?_)
    have lp18 : ∀ (n : Nat) (j : Nat) (b : Int32) (w : Nat) (lq : Nat → Nat), (j + n = 36) → (w ≤ 37) → (blL (fun pp => lwL (fun ho => pointN (kd i) ho pp) (mbit mk) 36 0 (fun _ => 0) 0) n j b w = blL (fun pp => lwL (fun ho => pointN (kd i) ho pp) (mbit mk) 36 0 (fun _ => 0) 0) 36 0 (-1) 37) → ∀ (H : Heap) (locs : List Loc), va_P (dC, dI) vwCl [(q 0, .inr (8, [.ref (q 1), .ref (q 3), .ref (q 4), .ref (q 9), .ref (q 14), .ref (q 15), .ref (q 16), .ref (q 17), .int (nI nc), .int sr, .int ik])), (q 3, .inl (ca 1, 4, .inr (.inr (.inr (.inr (fun zj => some (qn zj))))))), (q 17, .inl (ca 12, 9, .inl (fun zj => nI (lq zj)))), (qn 0, .inr (kc (kd 0), [])), (qn 1, .inr (kc (kd 1), [])), (qn 2, .inr (kc (kd 2), [])), (qn 3, .inr (kc (kd 3), []))] H → va_D A [(q 0, .inr (8, [.ref (q 1), .ref (q 3), .ref (q 4), .ref (q 9), .ref (q 14), .ref (q 15), .ref (q 16), .ref (q 17), .int (nI nc), .int sr, .int ik])), (q 3, .inl (ca 1, 4, .inr (.inr (.inr (.inr (fun zj => some (qn zj))))))), (q 17, .inl (ca 12, 9, .inl (fun zj => nI (lq zj)))), (qn 0, .inr (kc (kd 0), [])), (qn 1, .inr (kc (kd 1), [])), (qn 2, .inr (kc (kd 2), [])), (qn 3, .inr (kc (kd 3), []))] → va_S A s.heap H locs → ∀ (ls : Array Slot), lv_has ls 8 [(6, .int (nI j)), (5, .int (nI w)), (4, .int b), (0, .ref (q 0)), (1, .int (nI i)), (2, .long mk)] → W p l e (headSpec (Cond.code yX8_bestLook cX8_bestLook 8 (some .int) :: gT) (rk 4)).room s m ([Value.ref (q 0), Value.int (nI i), Value.long mk] : List Value).toArray below meth c H locs 0 0 (MQ below (va_Qi (fun (r : Int32) (u : (Nat → Nat)) => match u with | (lq1) => r = lookI (kd i) mk) (EFb (dC, dI) (fun (u : (Nat → Nat)) => match u with | (lq1) => [(q 0, .inr (8, [.ref (q 1), .ref (q 3), .ref (q 4), .ref (q 9), .ref (q 14), .ref (q 15), .ref (q 16), .ref (q 17), .int (nI nc), .int sr, .int ik])), (q 3, .inl (ca 1, 4, .inr (.inr (.inr (.inr (fun zj => some (qn zj))))))), (q 17, .inl (ca 12, 9, .inl (fun zj => nI (lq1 zj)))), (qn 0, .inr (kc (kd 0), [])), (qn 1, .inr (kc (kd 1), [])), (qn 2, .inr (kc (kd 2), [])), (qn 3, .inr (kc (kd 3), []))]) (TY ca) A) A) ([Value.ref (q 0), Value.int (nI i), Value.long mk] : List Value).toArray s 0 0 A) (F0 m 18 ls []) := by
      clear hS hP hD
      clear hl
      intro n
      induction n with
      | zero =>
        intro j b w lq hj hw9 hR H locs hP hD hS ls hl
        refine lv_iload hx hb dX8_bestLook_18 (lv_at hl 0 rfl) ?_
        refine lv_bipush (v := nI 36) hx hb dX8_bestLook_20 (by decide) ?_
        refine lv_icmp_ge (tgt := 61) hx hb dX8_bestLook_22 (by decide) (fun c_2 => ?_) (fun c_2 => ?_)
        · refine lv_iload hx hb dX8_bestLook_61 (lv_at hl 2 rfl) ?_
          have hP9 := hP.sub (ws' := [(q 0, .inr (8, [.ref (q 1), .ref (q 3), .ref (q 4), .ref (q 9), .ref (q 14), .ref (q 15), .ref (q 16), .ref (q 17), .int (nI nc), .int sr, .int ik])), (q 3, .inl (ca 1, 4, .inr (.inr (.inr (.inr (fun zj => some (qn zj))))))), (q 17, .inl (ca 12, 9, .inl (fun zj => nI (lq zj)))), (qn 0, .inr (kc (kd 0), [])), (qn 1, .inr (kc (kd 1), [])), (qn 2, .inr (kc (kd 2), [])), (qn 3, .inr (kc (kd 3), []))]) [0, 1, 2, 3, 4, 5, 6] rfl
          have hD9 := hD.sub (ws' := [(q 0, .inr (8, [.ref (q 1), .ref (q 3), .ref (q 4), .ref (q 9), .ref (q 14), .ref (q 15), .ref (q 16), .ref (q 17), .int (nI nc), .int sr, .int ik])), (q 3, .inl (ca 1, 4, .inr (.inr (.inr (.inr (fun zj => some (qn zj))))))), (q 17, .inl (ca 12, 9, .inl (fun zj => nI (lq zj)))), (qn 0, .inr (kc (kd 0), [])), (qn 1, .inr (kc (kd 1), [])), (qn 2, .inr (kc (kd 2), [])), (qn 3, .inr (kc (kd 3), []))]) [0, 1, 2, 3, 4, 5, 6] (by decide) rfl
          exact W.iret (v := b) hx hb hr (fun t ht hW => ⟨⟨b, lq, rfl, by show _ = _; unfold lookI; rw [if_neg c_1, ← hR]; rfl, by rw [ht]; exact hP9, va_K.moved hW.alike hK, hD9⟩, hS.F ht⟩) hS.2.2 dX8_bestLook_63
        · exact absurd (nI_le (by omega) (by omega)) c_2
      | succ n ih18 =>
        intro j b w lq hj hw9 hR H locs hP hD hS ls hl
        refine lv_iload hx hb dX8_bestLook_18 (lv_at hl 0 rfl) ?_
        refine lv_bipush (v := nI 36) hx hb dX8_bestLook_20 (by decide) ?_
        refine lv_icmp_ge (tgt := 61) hx hb dX8_bestLook_22 (by decide) (fun c_3 => ?_) (fun c_3 => ?_)
        · exact absurd c_3 (nI_ge (by omega) (by omega))
        · refine lv_aload_n hx hb dX8_bestLook_25 rfl (lv_at hl 3 rfl) ?_
          refine lv_aload_n hx hb dX8_bestLook_26 rfl (lv_at hl 3 rfl) ?_
          refine va_get (D := (dC, dI)) (ci := 8) (v := .ref (q 3)) (C := RX8) (T := TX8) (N := 11) hx hb htl iX8 hown hK hP 0 rfl rfl 1 (by decide) (htl _ wd_112) (fun _ h9 => h9) rfl dX8_bestLook_27 ?_
          refine lv_iload_n hx hb dX8_bestLook_30 rfl (lv_at hl 4 rfl) ?_
          refine va_aldq hx hb hK hP 1 1 rfl rfl (vp_in_nI (by omega) (by decide)) dX8_bestLook_31 ?_
          refine lv_rv (y := .ref (qn i)) (congrArg (fun zj => va_rf (some (qn zj))) (nI_clamp (by omega))) ?_
          refine lv_lload_n hx hb dX8_bestLook_32 rfl (lv_at hl 5 rfl) ?_
          refine lv_iload hx hb dX8_bestLook_33 (lv_at hl 0 rfl) ?_
          refine efV (As := [Value.ref (qn i), Value.long mk, Value.int (nI j)]) (rest := []) (wr := [(q 3, .inl (ca 1, 4, .inr (.inr (.inr (.inr (fun zj => some (qn zj)))))))]) (kX8_leftAtWorst l dC dI ca _ i mk j q qn kd nc sr ik lq hi (hkd i hi) (by omega)) ⟨hx, hb, hml, hown, htl⟩ (cVg (C := RX8) 3 htl wd_420 wd_422 wp_9 wd_1 wd_423 rfl rfl (by decide +kernel) ⟨Nat.le_of_ble_eq_true rfl, Nat.le_of_ble_eq_true rfl⟩) hP hD hS hA hK [0, 2, 3, 4, 5, 6] [1] rfl rfl (by decide) (by decide) (by decide) (va_recv hK hP (ci := 8) (q0 := 0) rfl rfl) rfl hl.1 rfl (Nat.le_of_ble_eq_true rfl) dX8_bestLook_35 ⟨Nat.zero_le _, Nat.zero_le _⟩ (fun r_5 u H locs hw_35 hP hD hS => ?_)
          obtain ⟨lq1_4, rfl⟩ : ∃ z, z = u := ⟨_, rfl⟩
          have hP : va_P (dC, dI) vwCl [(q 3, .inl (ca 1, 4, .inr (.inr (.inr (.inr (fun zj => some (qn zj))))))), (q 0, .inr (8, [.ref (q 1), .ref (q 3), .ref (q 4), .ref (q 9), .ref (q 14), .ref (q 15), .ref (q 16), .ref (q 17), .int (nI nc), .int sr, .int ik])), (q 17, .inl (ca 12, 9, .inl (fun zj => nI (lq1_4 zj)))), (qn 0, .inr (kc (kd 0), [])), (qn 1, .inr (kc (kd 1), [])), (qn 2, .inr (kc (kd 2), [])), (qn 3, .inr (kc (kd 3), []))] H := hP
          have hD : va_D A [(q 3, .inl (ca 1, 4, .inr (.inr (.inr (.inr (fun zj => some (qn zj))))))), (q 0, .inr (8, [.ref (q 1), .ref (q 3), .ref (q 4), .ref (q 9), .ref (q 14), .ref (q 15), .ref (q 16), .ref (q 17), .int (nI nc), .int sr, .int ik])), (q 17, .inl (ca 12, 9, .inl (fun zj => nI (lq1_4 zj)))), (qn 0, .inr (kc (kd 0), [])), (qn 1, .inr (kc (kd 1), [])), (qn 2, .inr (kc (kd 2), [])), (qn 3, .inr (kc (kd 3), []))] := hD
          have hw_35 : r_5 = nI (lwL (fun ho => pointN (kd i) ho j) (mbit mk) 36 0 (fun _ => 0) 0) := hw_35
          refine lv_ri (y := nI (lwL (fun ho => pointN (kd i) ho j) (mbit mk) 36 0 (fun _ => 0) 0)) hw_35 ?_
          refine lv_istore (lv' := [(7, .int (nI (lwL (fun ho => pointN (kd i) ho j) (mbit mk) 36 0 (fun _ => 0) 0))), (6, .int (nI j)), (5, .int (nI w)), (4, .int b), (0, .ref (q 0)), (1, .int (nI i)), (2, .long mk)]) hx hb dX8_bestLook_38 hl (by decide) rfl (fun ls hl => ?_)
          have hwj := lwL_le (f := fun ho => pointN (kd i) ho j) (b := mbit mk) 36 0 (fun _ => 0) 0 (fun _ => Nat.le_refl 0) (Nat.le_refl 0)
          refine lv_iload hx hb dX8_bestLook_40 (lv_at hl 0 rfl) ?_
          refine lv_iload hx hb dX8_bestLook_42 (lv_at hl 2 rfl) ?_
          refine lv_icmp_ge (tgt := 55) hx hb dX8_bestLook_44 (by decide) (fun c_6 => ?_) (fun c_6 => ?_)
          · rw [nI_leI (by omega) (by omega)] at c_6
            refine lv_iinc (v := nI (j + 1)) (lv' := [(6, .int (nI (j + 1))), (7, .int (nI (lwL (fun ho => pointN (kd i) ho j) (mbit mk) 36 0 (fun _ => 0) 0))), (5, .int (nI w)), (4, .int b), (0, .ref (q 0)), (1, .int (nI i)), (2, .long mk)]) hx hb dX8_bestLook_55 hl (k := 1) rfl (nI_add j 1) (by decide) rfl (fun ls hl => ?_)
            refine lv_goto (tgt := 18) hx hb dX8_bestLook_58 (by decide) ?_
            exact ih18 (j + 1) b w lq1_4 (by omega) hw9 (by rw [← hR]; simp only [blL]; rw [if_neg (by omega)]) _ _ (hP.sub [1, 0, 2, 3, 4, 5, 6] rfl) (hD.sub [1, 0, 2, 3, 4, 5, 6] (by decide) rfl) hS ls (lv_sub hl [0, 2, 3, 4, 5, 6] rfl)
          · rw [nI_leI (by omega) (by omega)] at c_6
            refine lv_iload hx hb dX8_bestLook_47 (lv_at hl 0 rfl) ?_
            refine lv_istore (lv' := [(5, .int (nI (lwL (fun ho => pointN (kd i) ho j) (mbit mk) 36 0 (fun _ => 0) 0))), (7, .int (nI (lwL (fun ho => pointN (kd i) ho j) (mbit mk) 36 0 (fun _ => 0) 0))), (6, .int (nI j)), (4, .int b), (0, .ref (q 0)), (1, .int (nI i)), (2, .long mk)]) hx hb dX8_bestLook_49 hl (by decide) rfl (fun ls hl => ?_)
            refine lv_iload hx hb dX8_bestLook_51 (lv_at hl 2 rfl) ?_
            refine lv_istore (lv' := [(4, .int (nI j)), (5, .int (nI (lwL (fun ho => pointN (kd i) ho j) (mbit mk) 36 0 (fun _ => 0) 0))), (7, .int (nI (lwL (fun ho => pointN (kd i) ho j) (mbit mk) 36 0 (fun _ => 0) 0))), (6, .int (nI j)), (0, .ref (q 0)), (1, .int (nI i)), (2, .long mk)]) hx hb dX8_bestLook_53 hl (by decide) rfl (fun ls hl => ?_)
            refine lv_iinc (v := nI (j + 1)) (lv' := [(6, .int (nI (j + 1))), (4, .int (nI j)), (5, .int (nI (lwL (fun ho => pointN (kd i) ho j) (mbit mk) 36 0 (fun _ => 0) 0))), (7, .int (nI (lwL (fun ho => pointN (kd i) ho j) (mbit mk) 36 0 (fun _ => 0) 0))), (0, .ref (q 0)), (1, .int (nI i)), (2, .long mk)]) hx hb dX8_bestLook_55 hl (k := 3) rfl (nI_add j 1) (by decide) rfl (fun ls hl => ?_)
            refine lv_goto (tgt := 18) hx hb dX8_bestLook_58 (by decide) ?_
            exact ih18 (j + 1) (nI j) ((fun pp => lwL (fun ho => pointN (kd i) ho pp) (mbit mk) 36 0 (fun _ => 0) 0) j) lq1_4 (by omega) (Nat.le_trans hwj (Nat.le_of_ble_eq_true rfl)) (by rw [← hR]; simp only [blL]; rw [if_pos (by omega)]) _ _ (hP.sub [1, 0, 2, 3, 4, 5, 6] rfl) (hD.sub [1, 0, 2, 3, 4, 5, 6] (by decide) rfl) hS ls (lv_sub hl [0, 2, 1, 4, 5, 6] rfl)
    exact lp18 36 0 (-1) 37 lq0 (by omega) (Nat.le_refl 37) rfl _ _ hP hD hS ls (lv_sub hl [0, 1, 2, 3, 4, 5] rfl)
  · rw [lgE] at c_1
    refine lv_iconst (v := (-1)) hx hb dX8_bestLook_6 (by decide) ?_
    have hP9 := hP.sub (ws' := [(q 0, .inr (8, [.ref (q 1), .ref (q 3), .ref (q 4), .ref (q 9), .ref (q 14), .ref (q 15), .ref (q 16), .ref (q 17), .int (nI nc), .int sr, .int ik])), (q 3, .inl (ca 1, 4, .inr (.inr (.inr (.inr (fun zj => some (qn zj))))))), (q 17, .inl (ca 12, 9, .inl (fun zj => nI (lq0 zj)))), (qn 0, .inr (kc (kd 0), [])), (qn 1, .inr (kc (kd 1), [])), (qn 2, .inr (kc (kd 2), [])), (qn 3, .inr (kc (kd 3), []))]) [0, 1, 2, 3, 4, 5, 6] rfl
    have hD9 := hD.sub (ws' := [(q 0, .inr (8, [.ref (q 1), .ref (q 3), .ref (q 4), .ref (q 9), .ref (q 14), .ref (q 15), .ref (q 16), .ref (q 17), .int (nI nc), .int sr, .int ik])), (q 3, .inl (ca 1, 4, .inr (.inr (.inr (.inr (fun zj => some (qn zj))))))), (q 17, .inl (ca 12, 9, .inl (fun zj => nI (lq0 zj)))), (qn 0, .inr (kc (kd 0), [])), (qn 1, .inr (kc (kd 1), [])), (qn 2, .inr (kc (kd 2), [])), (qn 3, .inr (kc (kd 3), []))]) [0, 1, 2, 3, 4, 5, 6] (by decide) rfl
    exact W.iret (v := (-1)) hx hb hr (fun t ht hW => ⟨⟨(-1), lq0, rfl, by show _ = _; unfold lookI; rw [if_pos c_1], by rw [ht]; exact hP9, va_K.moved hW.alike hK, hD9⟩, hS.F ht⟩) hS.2.2 dX8_bestLook_7
/-- the search outward: over the nine directions of a place, over the places that wait -/
def bfI (ib : Nat → Bool) (pl : Nat) : Nat → Nat → (Nat → Int32) → (Nat → Nat) → Nat → (Nat → Int32) × (Nat → Nat) × Nat
  | 0, _, sa, wq, en => (sa, wq, en)
  | n + 1, d, sa, wq, en => if sa (stepN ib pl d) = -1 ∧ en < 36 then bfI ib pl n (d + 1) (upd sa (stepN ib pl d) (sa pl + nI 1)) (va_up wq en (stepN ib pl d)) (en + 1) else bfI ib pl n (d + 1) sa wq en
def bfO (ib : Nat → Bool) : Nat → Nat → (Nat → Int32) → (Nat → Nat) → Nat → Nat → Int32
  | 0, _, sa, _, _ => sa
  | n + 1, i, sa, wq, en => if i < en then bfO ib n (i + 1) (bfI ib (wq i) 9 0 sa wq en).1 (bfI ib (wq i) 9 0 sa wq en).2.1 (bfI ib (wq i) 9 0 sa wq en).2.2 else sa
set_option maxHeartbeats 4000000 in
set_option maxRecDepth 100000 in
theorem kX8_fewestSteps (l : Launch) (dC : Nat → ClassId) (dI : Nat → Nat → Nat) (ca : Nat → ClassId) (sz : Nat) (ho : Nat) (q : Nat → Nat) (nc : Nat) (sr : Int32) (ik : Int32) (isl : Int64) (br : Nat) (st : Int32) (so : Int32) (se : Nat) (sa : Nat → Int32) (wq0 : Nat → Nat) (hho : ho < 36) (hbr : br < 36) : Met l yX8_fewestSteps (Cond.code yX8_fewestSteps cX8_fewestSteps 7 (some .int) :: gT) (rk 3) (EFp (dC, dI) [(q 0, .inr (8, [.ref (q 1), .ref (q 3), .ref (q 4), .ref (q 9), .ref (q 14), .ref (q 15), .ref (q 16), .ref (q 17), .int (nI nc), .int sr, .int ik])), (q 4, .inr (7, [.ref (q 5), .ref (q 6), .ref (q 7), .ref (q 8), .long isl, .int (nI br), .int st, .int so, .int (nI se)])), (q 15, .inl (ca 10, 36, .inl (sa))), (q 16, .inl (ca 11, 36, .inl (fun zj => nI (wq0 zj))))] (TY ca) sz [Value.ref (q 0), Value.int (nI ho)]) (va_Qi (fun (r : Int32) (u : (Nat → Int32) × (Nat → Nat)) => match u with | (sa1, wq1) => r = bfO (xb isl) 36 0 (upd (fun _ => (-1)) br (nI 0)) (va_up wq0 0 br) 1 ho) (EFb (dC, dI) (fun (u : (Nat → Int32) × (Nat → Nat)) => match u with | (sa1, wq1) => [(q 0, .inr (8, [.ref (q 1), .ref (q 3), .ref (q 4), .ref (q 9), .ref (q 14), .ref (q 15), .ref (q 16), .ref (q 17), .int (nI nc), .int sr, .int ik])), (q 4, .inr (7, [.ref (q 5), .ref (q 6), .ref (q 7), .ref (q 8), .long isl, .int (nI br), .int st, .int so, .int (nI se)])), (q 15, .inl (ca 10, 36, .inl (sa1))), (q 16, .inl (ca 11, 36, .inl (fun zj => nI (wq1 zj))))]) (TY ca) (va_A [(q 0, .inr (8, [.ref (q 1), .ref (q 3), .ref (q 4), .ref (q 9), .ref (q 14), .ref (q 15), .ref (q 16), .ref (q 17), .int (nI nc), .int sr, .int ik])), (q 4, .inr (7, [.ref (q 5), .ref (q 6), .ref (q 7), .ref (q 8), .long isl, .int (nI br), .int st, .int so, .int (nI se)])), (q 15, .inl (ca 10, 36, .inl (sa))), (q 16, .inl (ca 11, 36, .inl (fun zj => nI (wq0 zj))))] sz)) (va_A [(q 0, .inr (8, [.ref (q 1), .ref (q 3), .ref (q 4), .ref (q 9), .ref (q 14), .ref (q 15), .ref (q 16), .ref (q 17), .int (nI nc), .int sr, .int ik])), (q 4, .inr (7, [.ref (q 5), .ref (q 6), .ref (q 7), .ref (q 8), .long isl, .int (nI br), .int st, .int so, .int (nI se)])), (q 15, .inl (ca 10, 36, .inl (sa))), (q 16, .inl (ca 11, 36, .inl (fun zj => nI (wq0 zj))))] sz)) 0 0 (va_A [(q 0, .inr (8, [.ref (q 1), .ref (q 3), .ref (q 4), .ref (q 9), .ref (q 14), .ref (q 15), .ref (q 16), .ref (q 17), .int (nI nc), .int sr, .int ik])), (q 4, .inr (7, [.ref (q 5), .ref (q 6), .ref (q 7), .ref (q 8), .long isl, .int (nI br), .int st, .int so, .int (nI se)])), (q 15, .inl (ca 10, 36, .inl (sa))), (q 16, .inl (ca 11, 36, .inl (fun zj => nI (wq0 zj))))] sz) := by
  refine Met.ofW (cc := cX8_fewestSteps) (maxL := 7) (ret := (some .int)) (by decide) rfl ?_
  intro p e s m args below meth c s₁ B hml hv
  obtain ⟨rfl, hsz, hP, hK, hD0⟩ := hv
  have hx := B.exec
  have hb := B.bytes
  have hr := B.returns
  have hts := atoms_spec (ws := (Cond.code yX8_fewestSteps cX8_fewestSteps 7 (some .int) :: gT)) B.pre
  have htl : ∀ w ∈ gT, w.before _ s = true := fun w h => hts w (List.mem_cons_of_mem _ h)
  have hown : s.vm.findClass RX8 = some m.cls := findClass_of_methodNamed B.named
  have hlocks := B.notSynchronized
  subst hsz
  have hD := hD0.self (sz := s.heap.size)
  generalize hAe : va_A [(q 0, .inr (8, [.ref (q 1), .ref (q 3), .ref (q 4), .ref (q 9), .ref (q 14), .ref (q 15), .ref (q 16), .ref (q 17), .int (nI nc), .int sr, .int ik])), (q 4, .inr (7, [.ref (q 5), .ref (q 6), .ref (q 7), .ref (q 8), .long isl, .int (nI br), .int st, .int so, .int (nI se)])), (q 15, .inl (ca 10, 36, .inl (sa))), (q 16, .inl (ca 11, 36, .inl (fun zj => nI (wq0 zj))))] s.heap.size = A at hD ⊢
  have hA : ∀ q : Nat, s.heap.size ≤ q → A q := fun q h => by rw [← hAe]; exact Or.inr h
  have hS : va_S A s.heap s.heap [] := va_S.rf
  have hl := lv_entry ([Value.ref (q 0), Value.int (nI ho)]) (n := 7) (Nat.le_of_ble_eq_true rfl)
  rw [lg_entry_eq]
  generalize (lg_sl ([Value.ref (q 0), Value.int (nI ho)]) ++ List.replicate (7 - (lg_sl ([Value.ref (q 0), Value.int (nI ho)])).length) Slot.unset).toArray = ls at hl ⊢
  have hl : lv_has ls 7 [(0, .ref (q 0)), (1, .int (nI ho))] := hl
  refine lv_aload_n hx hb dX8_fewestSteps_0 rfl (lv_at hl 0 rfl) ?_
  refine va_get (D := (dC, dI)) (ci := 8) (v := .ref (q 15)) (C := RX8) (T := TX8) (N := 11) hx hb htl iX8 hown hK hP 0 rfl rfl 5 (by decide) (htl _ wd_116) (fun _ h9 => h9) rfl dX8_fewestSteps_1 ?_
  refine lv_iconst (v := (-1)) hx hb dX8_fewestSteps_4 (by decide) ?_
  refine efSv (As := [Value.ref (q 15), Value.int (-1)]) (rest := []) (wr := [(q 0, .inr (8, [.ref (q 1), .ref (q 3), .ref (q 4), .ref (q 9), .ref (q 14), .ref (q 15), .ref (q 16), .ref (q 17), .int (nI nc), .int sr, .int ik])), (q 4, .inr (7, [.ref (q 5), .ref (q 6), .ref (q 7), .ref (q 8), .long isl, .int (nI br), .int st, .int so, .int (nI se)])), (q 16, .inl (ca 11, 36, .inl (fun zj => nI (wq0 zj))))]) (kfill_sa l dC dI ca _ (-1) q sa ) ⟨hx, hb, hml, hown, htl⟩ (cSg 2 htl wd_396 wd_397 wd_17 wd_398 rfl rfl (by decide +kernel) ⟨Nat.le_of_ble_eq_true rfl, Nat.le_of_ble_eq_true rfl⟩) hP hD hS hA hK [2] [0, 1, 3] rfl rfl (by decide) (by decide) (by decide) rfl hl.1 rfl (Nat.le_of_ble_eq_true rfl) dX8_fewestSteps_5 ⟨Nat.zero_le _, Nat.zero_le _⟩ (fun u H locs hw_5 hP hD hS => ?_)
  have hP : va_P (dC, dI) vwCl [(q 0, .inr (8, [.ref (q 1), .ref (q 3), .ref (q 4), .ref (q 9), .ref (q 14), .ref (q 15), .ref (q 16), .ref (q 17), .int (nI nc), .int sr, .int ik])), (q 4, .inr (7, [.ref (q 5), .ref (q 6), .ref (q 7), .ref (q 8), .long isl, .int (nI br), .int st, .int so, .int (nI se)])), (q 16, .inl (ca 11, 36, .inl (fun zj => nI (wq0 zj)))), (q 15, .inl (ca 10, 36, .inl (fun _ => (-1))))] H := hP
  have hD : va_D A [(q 0, .inr (8, [.ref (q 1), .ref (q 3), .ref (q 4), .ref (q 9), .ref (q 14), .ref (q 15), .ref (q 16), .ref (q 17), .int (nI nc), .int sr, .int ik])), (q 4, .inr (7, [.ref (q 5), .ref (q 6), .ref (q 7), .ref (q 8), .long isl, .int (nI br), .int st, .int so, .int (nI se)])), (q 16, .inl (ca 11, 36, .inl (fun zj => nI (wq0 zj)))), (q 15, .inl (ca 10, 36, .inl (fun _ => (-1))))] := hD
  refine lv_aload_n hx hb dX8_fewestSteps_8 rfl (lv_at hl 0 rfl) ?_
  refine va_get (D := (dC, dI)) (ci := 8) (v := .ref (q 15)) (C := RX8) (T := TX8) (N := 11) hx hb htl iX8 hown hK hP 0 rfl rfl 5 (by decide) (htl _ wd_116) (fun _ h9 => h9) rfl dX8_fewestSteps_9 ?_
  refine lv_aload_n hx hb dX8_fewestSteps_12 rfl (lv_at hl 0 rfl) ?_
  refine va_get (D := (dC, dI)) (ci := 8) (v := .ref (q 4)) (C := RX8) (T := TX8) (N := 11) hx hb htl iX8 hown hK hP 0 rfl rfl 2 (by decide) (htl _ wd_113) (fun _ h9 => h9) rfl dX8_fewestSteps_13 ?_
  refine va_get (D := (dC, dI)) (ci := 7) (v := .int (nI br)) (C := RX7) (T := TX7) (N := 9) hx hb htl iX7 hown hK hP 1 rfl rfl 5 (by decide) (htl _ wd_63) (fun _ h9 => h9) rfl dX8_fewestSteps_16 ?_
  refine lv_iconst (v := nI 0) hx hb dX8_fewestSteps_19 (by decide) ?_
  refine va_iast hx hb hK hP hD hS 3 10 rfl rfl (vp_in_nI (by omega) (by decide)) dX8_fewestSteps_20 (fun H locs hP hD hS => ?_)
  rw [nI_clamp (show br < 2 ^ 31 by omega)] at hP hD
  have hP : va_P (dC, dI) vwCl [(q 0, .inr (8, [.ref (q 1), .ref (q 3), .ref (q 4), .ref (q 9), .ref (q 14), .ref (q 15), .ref (q 16), .ref (q 17), .int (nI nc), .int sr, .int ik])), (q 4, .inr (7, [.ref (q 5), .ref (q 6), .ref (q 7), .ref (q 8), .long isl, .int (nI br), .int st, .int so, .int (nI se)])), (q 16, .inl (ca 11, 36, .inl (fun zj => nI (wq0 zj)))), (q 15, .inl (ca 10, 36, .inl (upd (fun _ => (-1)) br (nI 0))))] H := hP
  have hD : va_D A [(q 0, .inr (8, [.ref (q 1), .ref (q 3), .ref (q 4), .ref (q 9), .ref (q 14), .ref (q 15), .ref (q 16), .ref (q 17), .int (nI nc), .int sr, .int ik])), (q 4, .inr (7, [.ref (q 5), .ref (q 6), .ref (q 7), .ref (q 8), .long isl, .int (nI br), .int st, .int so, .int (nI se)])), (q 16, .inl (ca 11, 36, .inl (fun zj => nI (wq0 zj)))), (q 15, .inl (ca 10, 36, .inl (upd (fun _ => (-1)) br (nI 0))))] := hD
  refine lv_aload_n hx hb dX8_fewestSteps_21 rfl (lv_at hl 0 rfl) ?_
  refine va_get (D := (dC, dI)) (ci := 8) (v := .ref (q 16)) (C := RX8) (T := TX8) (N := 11) hx hb htl iX8 hown hK hP 0 rfl rfl 6 (by decide) (htl _ wd_117) (fun _ h9 => h9) rfl dX8_fewestSteps_22 ?_
  refine lv_iconst (v := nI 0) hx hb dX8_fewestSteps_25 (by decide) ?_
  refine lv_aload_n hx hb dX8_fewestSteps_26 rfl (lv_at hl 0 rfl) ?_
  refine va_get (D := (dC, dI)) (ci := 8) (v := .ref (q 4)) (C := RX8) (T := TX8) (N := 11) hx hb htl iX8 hown hK hP 0 rfl rfl 2 (by decide) (htl _ wd_113) (fun _ h9 => h9) rfl dX8_fewestSteps_27 ?_
  refine va_get (D := (dC, dI)) (ci := 7) (v := .int (nI br)) (C := RX7) (T := TX7) (N := 9) hx hb htl iX7 hown hK hP 1 rfl rfl 5 (by decide) (htl _ wd_63) (fun _ h9 => h9) rfl dX8_fewestSteps_30 ?_
  refine va_iast hx hb hK hP hD hS 2 11 rfl rfl (vp_in_nI (by omega) (by decide)) dX8_fewestSteps_33 (fun H locs hP hD hS => ?_)
  rw [nI_clamp (show 0 < 2 ^ 31 by omega)] at hP hD
  rw [show (upd (fun zj => nI (wq0 zj)) 0 (nI br)) = (fun zj => nI (va_up wq0 0 br zj)) from upd_nI _ _ _] at hP hD
  have hP : va_P (dC, dI) vwCl [(q 0, .inr (8, [.ref (q 1), .ref (q 3), .ref (q 4), .ref (q 9), .ref (q 14), .ref (q 15), .ref (q 16), .ref (q 17), .int (nI nc), .int sr, .int ik])), (q 4, .inr (7, [.ref (q 5), .ref (q 6), .ref (q 7), .ref (q 8), .long isl, .int (nI br), .int st, .int so, .int (nI se)])), (q 16, .inl (ca 11, 36, .inl (fun zj => nI (va_up wq0 0 br zj)))), (q 15, .inl (ca 10, 36, .inl (upd (fun _ => (-1)) br (nI 0))))] H := hP
  have hD : va_D A [(q 0, .inr (8, [.ref (q 1), .ref (q 3), .ref (q 4), .ref (q 9), .ref (q 14), .ref (q 15), .ref (q 16), .ref (q 17), .int (nI nc), .int sr, .int ik])), (q 4, .inr (7, [.ref (q 5), .ref (q 6), .ref (q 7), .ref (q 8), .long isl, .int (nI br), .int st, .int so, .int (nI se)])), (q 16, .inl (ca 11, 36, .inl (fun zj => nI (va_up wq0 0 br zj)))), (q 15, .inl (ca 10, 36, .inl (upd (fun _ => (-1)) br (nI 0))))] := hD
  refine lv_iconst (v := nI 1) hx hb dX8_fewestSteps_34 (by decide) ?_
  refine lv_istore_n (lv' := [(2, .int (nI 1)), (0, .ref (q 0)), (1, .int (nI ho))]) hx hb dX8_fewestSteps_35 rfl hl (by decide) rfl (fun ls hl => ?_)
  refine lv_iconst (v := nI 0) hx hb dX8_fewestSteps_36 (by decide) ?_
  refine lv_istore_n (lv' := [(3, .int (nI 0)), (2, .int (nI 1)), (0, .ref (q 0)), (1, .int (nI ho))]) hx hb dX8_fewestSteps_37 rfl hl (by decide) rfl (fun ls hl => ?_)
  have lp38 : ∀ (n : Nat) (ii : Nat) (en : Nat) (sA : Nat → Int32) (wQ : Nat → Nat), (ii + n = 36) → (en ≤ 36) → (∀ x, x < en → wQ x < 36) → (bfO (xb isl) n ii sA wQ en = bfO (xb isl) 36 0 (upd (fun _ => (-1)) br (nI 0)) (va_up wq0 0 br) 1) → ∀ (H : Heap) (locs : List Loc), va_P (dC, dI) vwCl [(q 0, .inr (8, [.ref (q 1), .ref (q 3), .ref (q 4), .ref (q 9), .ref (q 14), .ref (q 15), .ref (q 16), .ref (q 17), .int (nI nc), .int sr, .int ik])), (q 4, .inr (7, [.ref (q 5), .ref (q 6), .ref (q 7), .ref (q 8), .long isl, .int (nI br), .int st, .int so, .int (nI se)])), (q 16, .inl (ca 11, 36, .inl (fun zj => nI (wQ zj)))), (q 15, .inl (ca 10, 36, .inl (sA)))] H → va_D A [(q 0, .inr (8, [.ref (q 1), .ref (q 3), .ref (q 4), .ref (q 9), .ref (q 14), .ref (q 15), .ref (q 16), .ref (q 17), .int (nI nc), .int sr, .int ik])), (q 4, .inr (7, [.ref (q 5), .ref (q 6), .ref (q 7), .ref (q 8), .long isl, .int (nI br), .int st, .int so, .int (nI se)])), (q 16, .inl (ca 11, 36, .inl (fun zj => nI (wQ zj)))), (q 15, .inl (ca 10, 36, .inl (sA)))] → va_S A s.heap H locs → ∀ (ls : Array Slot), lv_has ls 7 [(3, .int (nI ii)), (2, .int (nI en)), (0, .ref (q 0)), (1, .int (nI ho))] → W p l e (headSpec (Cond.code yX8_fewestSteps cX8_fewestSteps 7 (some .int) :: gT) (rk 3)).room s m ([Value.ref (q 0), Value.int (nI ho)] : List Value).toArray below meth c H locs 0 0 (MQ below (va_Qi (fun (r : Int32) (u : (Nat → Int32) × (Nat → Nat)) => match u with | (sa1, wq1) => r = bfO (xb isl) 36 0 (upd (fun _ => (-1)) br (nI 0)) (va_up wq0 0 br) 1 ho) (EFb (dC, dI) (fun (u : (Nat → Int32) × (Nat → Nat)) => match u with | (sa1, wq1) => [(q 0, .inr (8, [.ref (q 1), .ref (q 3), .ref (q 4), .ref (q 9), .ref (q 14), .ref (q 15), .ref (q 16), .ref (q 17), .int (nI nc), .int sr, .int ik])), (q 4, .inr (7, [.ref (q 5), .ref (q 6), .ref (q 7), .ref (q 8), .long isl, .int (nI br), .int st, .int so, .int (nI se)])), (q 15, .inl (ca 10, 36, .inl (sa1))), (q 16, .inl (ca 11, 36, .inl (fun zj => nI (wq1 zj))))]) (TY ca) A) A) ([Value.ref (q 0), Value.int (nI ho)] : List Value).toArray s 0 0 A) (F0 m 38 ls []) := by
    clear hS hP hD
    clear hl
    intro n
    induction n with
    | zero =>
      intro ii en sA wQ hii hen hwq hR H locs hP hD hS ls hl
      refine lv_iload_n hx hb dX8_fewestSteps_38 rfl (lv_at hl 0 rfl) ?_
      refine lv_iload_n hx hb dX8_fewestSteps_39 rfl (lv_at hl 1 rfl) ?_
      refine lv_icmp_ge (tgt := 136) hx hb dX8_fewestSteps_40 (by decide) (fun c_2 => ?_) (fun c_2 => ?_)
      · rw [nI_leI (by omega) (by omega)] at c_2
        refine lv_aload_n hx hb dX8_fewestSteps_136 rfl (lv_at hl 2 rfl) ?_
        refine va_get (D := (dC, dI)) (ci := 8) (v := .ref (q 15)) (C := RX8) (T := TX8) (N := 11) hx hb htl iX8 hown hK hP 0 rfl rfl 5 (by decide) (htl _ wd_116) (fun _ h9 => h9) rfl dX8_fewestSteps_137 ?_
        refine lv_iload_n hx hb dX8_fewestSteps_140 rfl (lv_at hl 3 rfl) ?_
        refine va_iald hx hb hK hP 3 10 rfl rfl (vp_in_nI (by omega) (by decide)) dX8_fewestSteps_141 ?_
        refine lv_ri (y := sA ho) (congrArg (sA) (nI_clamp (by omega))) ?_
        have hP9 := hP.sub (ws' := [(q 0, .inr (8, [.ref (q 1), .ref (q 3), .ref (q 4), .ref (q 9), .ref (q 14), .ref (q 15), .ref (q 16), .ref (q 17), .int (nI nc), .int sr, .int ik])), (q 4, .inr (7, [.ref (q 5), .ref (q 6), .ref (q 7), .ref (q 8), .long isl, .int (nI br), .int st, .int so, .int (nI se)])), (q 15, .inl (ca 10, 36, .inl (sA))), (q 16, .inl (ca 11, 36, .inl (fun zj => nI (wQ zj))))]) [0, 1, 3, 2] rfl
        have hD9 := hD.sub (ws' := [(q 0, .inr (8, [.ref (q 1), .ref (q 3), .ref (q 4), .ref (q 9), .ref (q 14), .ref (q 15), .ref (q 16), .ref (q 17), .int (nI nc), .int sr, .int ik])), (q 4, .inr (7, [.ref (q 5), .ref (q 6), .ref (q 7), .ref (q 8), .long isl, .int (nI br), .int st, .int so, .int (nI se)])), (q 15, .inl (ca 10, 36, .inl (sA))), (q 16, .inl (ca 11, 36, .inl (fun zj => nI (wQ zj))))]) [0, 1, 3, 2] (by decide) rfl
        exact W.iret (v := sA ho) hx hb hr (fun t ht hW => ⟨⟨sA ho, (sA, wQ), rfl, by show _ = _; rw [← hR]; first | rfl | (simp only [bfO]; rw [if_neg (by omega)]), by rw [ht]; exact hP9, va_K.moved hW.alike hK, hD9⟩, hS.F ht⟩) hS.2.2 dX8_fewestSteps_142
      · rw [nI_leI (by omega) (by omega)] at c_2
        refine lv_iload_n hx hb dX8_fewestSteps_43 rfl (lv_at hl 0 rfl) ?_
        refine lv_bipush (v := nI 36) hx hb dX8_fewestSteps_44 (by decide) ?_
        refine lv_icmp_ge (tgt := 136) hx hb dX8_fewestSteps_46 (by decide) (fun c_3 => ?_) (fun c_3 => ?_)
        · refine lv_aload_n hx hb dX8_fewestSteps_136 rfl (lv_at hl 2 rfl) ?_
          refine va_get (D := (dC, dI)) (ci := 8) (v := .ref (q 15)) (C := RX8) (T := TX8) (N := 11) hx hb htl iX8 hown hK hP 0 rfl rfl 5 (by decide) (htl _ wd_116) (fun _ h9 => h9) rfl dX8_fewestSteps_137 ?_
          refine lv_iload_n hx hb dX8_fewestSteps_140 rfl (lv_at hl 3 rfl) ?_
          refine va_iald hx hb hK hP 3 10 rfl rfl (vp_in_nI (by omega) (by decide)) dX8_fewestSteps_141 ?_
          refine lv_ri (y := sA ho) (congrArg (sA) (nI_clamp (by omega))) ?_
          have hP9 := hP.sub (ws' := [(q 0, .inr (8, [.ref (q 1), .ref (q 3), .ref (q 4), .ref (q 9), .ref (q 14), .ref (q 15), .ref (q 16), .ref (q 17), .int (nI nc), .int sr, .int ik])), (q 4, .inr (7, [.ref (q 5), .ref (q 6), .ref (q 7), .ref (q 8), .long isl, .int (nI br), .int st, .int so, .int (nI se)])), (q 15, .inl (ca 10, 36, .inl (sA))), (q 16, .inl (ca 11, 36, .inl (fun zj => nI (wQ zj))))]) [0, 1, 3, 2] rfl
          have hD9 := hD.sub (ws' := [(q 0, .inr (8, [.ref (q 1), .ref (q 3), .ref (q 4), .ref (q 9), .ref (q 14), .ref (q 15), .ref (q 16), .ref (q 17), .int (nI nc), .int sr, .int ik])), (q 4, .inr (7, [.ref (q 5), .ref (q 6), .ref (q 7), .ref (q 8), .long isl, .int (nI br), .int st, .int so, .int (nI se)])), (q 15, .inl (ca 10, 36, .inl (sA))), (q 16, .inl (ca 11, 36, .inl (fun zj => nI (wQ zj))))]) [0, 1, 3, 2] (by decide) rfl
          exact W.iret (v := sA ho) hx hb hr (fun t ht hW => ⟨⟨sA ho, (sA, wQ), rfl, by show _ = _; rw [← hR]; rfl, by rw [ht]; exact hP9, va_K.moved hW.alike hK, hD9⟩, hS.F ht⟩) hS.2.2 dX8_fewestSteps_142
        · exact absurd (nI_le (by omega) (by omega)) c_3
    | succ n ih38 =>
      intro ii en sA wQ hii hen hwq hR H locs hP hD hS ls hl
      refine lv_iload_n hx hb dX8_fewestSteps_38 rfl (lv_at hl 0 rfl) ?_
      refine lv_iload_n hx hb dX8_fewestSteps_39 rfl (lv_at hl 1 rfl) ?_
      refine lv_icmp_ge (tgt := 136) hx hb dX8_fewestSteps_40 (by decide) (fun c_4 => ?_) (fun c_4 => ?_)
      · rw [nI_leI (by omega) (by omega)] at c_4
        refine lv_aload_n hx hb dX8_fewestSteps_136 rfl (lv_at hl 2 rfl) ?_
        refine va_get (D := (dC, dI)) (ci := 8) (v := .ref (q 15)) (C := RX8) (T := TX8) (N := 11) hx hb htl iX8 hown hK hP 0 rfl rfl 5 (by decide) (htl _ wd_116) (fun _ h9 => h9) rfl dX8_fewestSteps_137 ?_
        refine lv_iload_n hx hb dX8_fewestSteps_140 rfl (lv_at hl 3 rfl) ?_
        refine va_iald hx hb hK hP 3 10 rfl rfl (vp_in_nI (by omega) (by decide)) dX8_fewestSteps_141 ?_
        refine lv_ri (y := sA ho) (congrArg (sA) (nI_clamp (by omega))) ?_
        have hP9 := hP.sub (ws' := [(q 0, .inr (8, [.ref (q 1), .ref (q 3), .ref (q 4), .ref (q 9), .ref (q 14), .ref (q 15), .ref (q 16), .ref (q 17), .int (nI nc), .int sr, .int ik])), (q 4, .inr (7, [.ref (q 5), .ref (q 6), .ref (q 7), .ref (q 8), .long isl, .int (nI br), .int st, .int so, .int (nI se)])), (q 15, .inl (ca 10, 36, .inl (sA))), (q 16, .inl (ca 11, 36, .inl (fun zj => nI (wQ zj))))]) [0, 1, 3, 2] rfl
        have hD9 := hD.sub (ws' := [(q 0, .inr (8, [.ref (q 1), .ref (q 3), .ref (q 4), .ref (q 9), .ref (q 14), .ref (q 15), .ref (q 16), .ref (q 17), .int (nI nc), .int sr, .int ik])), (q 4, .inr (7, [.ref (q 5), .ref (q 6), .ref (q 7), .ref (q 8), .long isl, .int (nI br), .int st, .int so, .int (nI se)])), (q 15, .inl (ca 10, 36, .inl (sA))), (q 16, .inl (ca 11, 36, .inl (fun zj => nI (wQ zj))))]) [0, 1, 3, 2] (by decide) rfl
        exact W.iret (v := sA ho) hx hb hr (fun t ht hW => ⟨⟨sA ho, (sA, wQ), rfl, by show _ = _; rw [← hR]; first | rfl | (simp only [bfO]; rw [if_neg (by omega)]), by rw [ht]; exact hP9, va_K.moved hW.alike hK, hD9⟩, hS.F ht⟩) hS.2.2 dX8_fewestSteps_142
      · rw [nI_leI (by omega) (by omega)] at c_4
        refine lv_iload_n hx hb dX8_fewestSteps_43 rfl (lv_at hl 0 rfl) ?_
        refine lv_bipush (v := nI 36) hx hb dX8_fewestSteps_44 (by decide) ?_
        refine lv_icmp_ge (tgt := 136) hx hb dX8_fewestSteps_46 (by decide) (fun c_5 => ?_) (fun c_5 => ?_)
        · exact absurd c_5 (nI_ge (by omega) (by omega))
        · refine lv_aload_n hx hb dX8_fewestSteps_49 rfl (lv_at hl 2 rfl) ?_
          refine va_get (D := (dC, dI)) (ci := 8) (v := .ref (q 16)) (C := RX8) (T := TX8) (N := 11) hx hb htl iX8 hown hK hP 0 rfl rfl 6 (by decide) (htl _ wd_117) (fun _ h9 => h9) rfl dX8_fewestSteps_50 ?_
          refine lv_iload_n hx hb dX8_fewestSteps_53 rfl (lv_at hl 0 rfl) ?_
          refine va_iald hx hb hK hP 2 11 rfl rfl (vp_in_nI (by omega) (by decide)) dX8_fewestSteps_54 ?_
          refine lv_ri (y := nI (wQ ii)) (congrArg (fun zj => nI (wQ zj)) (nI_clamp (by omega))) ?_
          refine lv_istore (lv' := [(4, .int (nI (wQ ii))), (3, .int (nI ii)), (2, .int (nI en)), (0, .ref (q 0)), (1, .int (nI ho))]) hx hb dX8_fewestSteps_55 hl (by decide) rfl (fun ls hl => ?_)
          have hpl : wQ ii < 36 := hwq ii (by omega)
          refine lv_iconst (v := nI 0) hx hb dX8_fewestSteps_57 (by decide) ?_
          refine lv_istore (lv' := [(5, .int (nI 0)), (4, .int (nI (wQ ii))), (3, .int (nI ii)), (2, .int (nI en)), (0, .ref (q 0)), (1, .int (nI ho))]) hx hb dX8_fewestSteps_58 hl (by decide) rfl (fun ls hl => ?_)
          have lp60 : ∀ (nd : Nat) (d : Nat) (en2 : Nat) (sA2 : Nat → Int32) (wQ2 : Nat → Nat), (d + nd = 9) → (en2 ≤ 36) → (∀ x, x < en2 → wQ2 x < 36) → (bfI (xb isl) (wQ ii) nd d sA2 wQ2 en2 = bfI (xb isl) (wQ ii) 9 0 sA wQ en) → ∀ (H : Heap) (locs : List Loc), va_P (dC, dI) vwCl [(q 0, .inr (8, [.ref (q 1), .ref (q 3), .ref (q 4), .ref (q 9), .ref (q 14), .ref (q 15), .ref (q 16), .ref (q 17), .int (nI nc), .int sr, .int ik])), (q 4, .inr (7, [.ref (q 5), .ref (q 6), .ref (q 7), .ref (q 8), .long isl, .int (nI br), .int st, .int so, .int (nI se)])), (q 16, .inl (ca 11, 36, .inl (fun zj => nI (wQ2 zj)))), (q 15, .inl (ca 10, 36, .inl (sA2)))] H → va_D A [(q 0, .inr (8, [.ref (q 1), .ref (q 3), .ref (q 4), .ref (q 9), .ref (q 14), .ref (q 15), .ref (q 16), .ref (q 17), .int (nI nc), .int sr, .int ik])), (q 4, .inr (7, [.ref (q 5), .ref (q 6), .ref (q 7), .ref (q 8), .long isl, .int (nI br), .int st, .int so, .int (nI se)])), (q 16, .inl (ca 11, 36, .inl (fun zj => nI (wQ2 zj)))), (q 15, .inl (ca 10, 36, .inl (sA2)))] → va_S A s.heap H locs → ∀ (ls : Array Slot), lv_has ls 7 [(5, .int (nI d)), (4, .int (nI (wQ ii))), (3, .int (nI ii)), (2, .int (nI en2)), (0, .ref (q 0)), (1, .int (nI ho))] → W p l e (headSpec (Cond.code yX8_fewestSteps cX8_fewestSteps 7 (some .int) :: gT) (rk 3)).room s m ([Value.ref (q 0), Value.int (nI ho)] : List Value).toArray below meth c H locs 0 0 (MQ below (va_Qi (fun (r : Int32) (u : (Nat → Int32) × (Nat → Nat)) => match u with | (sa1, wq1) => r = bfO (xb isl) 36 0 (upd (fun _ => (-1)) br (nI 0)) (va_up wq0 0 br) 1 ho) (EFb (dC, dI) (fun (u : (Nat → Int32) × (Nat → Nat)) => match u with | (sa1, wq1) => [(q 0, .inr (8, [.ref (q 1), .ref (q 3), .ref (q 4), .ref (q 9), .ref (q 14), .ref (q 15), .ref (q 16), .ref (q 17), .int (nI nc), .int sr, .int ik])), (q 4, .inr (7, [.ref (q 5), .ref (q 6), .ref (q 7), .ref (q 8), .long isl, .int (nI br), .int st, .int so, .int (nI se)])), (q 15, .inl (ca 10, 36, .inl (sa1))), (q 16, .inl (ca 11, 36, .inl (fun zj => nI (wq1 zj))))]) (TY ca) A) A) ([Value.ref (q 0), Value.int (nI ho)] : List Value).toArray s 0 0 A) (F0 m 60 ls []) := by
            clear hS hP hD
            clear hl
            intro nd
            induction nd with
            | zero =>
              intro d en2 sA2 wQ2 hd hen2 hwq2 hR2 H locs hP hD hS ls hl
              refine lv_iload hx hb dX8_fewestSteps_60 (lv_at hl 0 rfl) ?_
              refine lv_bipush (v := nI 9) hx hb dX8_fewestSteps_62 (by decide) ?_
              refine lv_icmp_ge (tgt := 130) hx hb dX8_fewestSteps_64 (by decide) (fun c_6 => ?_) (fun c_6 => ?_)
              · refine lv_iinc (v := nI (ii + 1)) (lv' := [(3, .int (nI (ii + 1))), (5, .int (nI d)), (4, .int (nI (wQ ii))), (2, .int (nI en2)), (0, .ref (q 0)), (1, .int (nI ho))]) hx hb dX8_fewestSteps_130 hl (k := 2) rfl (nI_add ii 1) (by decide) rfl (fun ls hl => ?_)
                refine lv_goto (tgt := 38) hx hb dX8_fewestSteps_133 (by decide) ?_
                exact ih38 (ii + 1) en2 sA2 wQ2 (by omega) hen2 hwq2 (by rw [← hR]; simp only [bfO]; rw [if_pos (by omega), ← hR2]; rfl) _ _ (hP.sub [0, 1, 2, 3] rfl) (hD.sub [0, 1, 2, 3] (by decide) rfl) hS ls (lv_sub hl [0, 3, 4, 5] rfl)
              · exact absurd (nI_le (by omega) (by omega)) c_6
            | succ nd ih60 =>
              intro d en2 sA2 wQ2 hd hen2 hwq2 hR2 H locs hP hD hS ls hl
              refine lv_iload hx hb dX8_fewestSteps_60 (lv_at hl 0 rfl) ?_
              refine lv_bipush (v := nI 9) hx hb dX8_fewestSteps_62 (by decide) ?_
              refine lv_icmp_ge (tgt := 130) hx hb dX8_fewestSteps_64 (by decide) (fun c_7 => ?_) (fun c_7 => ?_)
              · exact absurd c_7 (nI_ge (by omega) (by omega))
              · refine lv_aload_n hx hb dX8_fewestSteps_67 rfl (lv_at hl 4 rfl) ?_
                refine va_get (D := (dC, dI)) (ci := 8) (v := .ref (q 4)) (C := RX8) (T := TX8) (N := 11) hx hb htl iX8 hown hK hP 0 rfl rfl 2 (by decide) (htl _ wd_113) (fun _ h9 => h9) rfl dX8_fewestSteps_68 ?_
                refine lv_iload hx hb dX8_fewestSteps_71 (lv_at hl 1 rfl) ?_
                refine lv_iload hx hb dX8_fewestSteps_73 (lv_at hl 0 rfl) ?_
                refine roV (As := [Value.int (nI (wQ ii)), Value.int (nI d)]) (rest := []) (kX7_placeBehind l dC dI ca (wQ ii) d q isl br st so se hpl (by omega)) ⟨hx, hb, hml, hown, htl⟩ (cVg (C := RX7) 2 htl wd_384 wd_385 wd_386 wd_3 wd_387 rfl rfl (by decide +kernel) ⟨Nat.le_of_ble_eq_true rfl, Nat.le_of_ble_eq_true rfl⟩) (hP.sub [1] rfl) hK (va_recv hK hP (ci := 7) (q0 := 1) rfl rfl) rfl hl.1 rfl (Nat.le_of_ble_eq_true rfl) dX8_fewestSteps_75 ⟨Nat.zero_le _, Nat.zero_le _⟩ (fun r hr9 => ?_)
                subst hr9
                refine lv_istore (lv' := [(6, .int (nI (stepN (xb isl) (wQ ii) d))), (5, .int (nI d)), (4, .int (nI (wQ ii))), (3, .int (nI ii)), (2, .int (nI en2)), (0, .ref (q 0)), (1, .int (nI ho))]) hx hb dX8_fewestSteps_78 hl (by decide) rfl (fun ls hl => ?_)
                have hnx : stepN (xb isl) (wQ ii) d < 36 := stepN_lt hpl
                refine lv_aload_n hx hb dX8_fewestSteps_80 rfl (lv_at hl 5 rfl) ?_
                refine va_get (D := (dC, dI)) (ci := 8) (v := .ref (q 15)) (C := RX8) (T := TX8) (N := 11) hx hb htl iX8 hown hK hP 0 rfl rfl 5 (by decide) (htl _ wd_116) (fun _ h9 => h9) rfl dX8_fewestSteps_81 ?_
                refine lv_iload hx hb dX8_fewestSteps_84 (lv_at hl 0 rfl) ?_
                refine va_iald hx hb hK hP 3 10 rfl rfl (vp_in_nI (by omega) (by decide)) dX8_fewestSteps_86 ?_
                refine lv_ri (y := sA2 (stepN (xb isl) (wQ ii) d)) (congrArg (sA2) (nI_clamp (by omega))) ?_
                refine lv_iconst (v := (-1)) hx hb dX8_fewestSteps_87 (by decide) ?_
                refine lv_icmp_ne (tgt := 124) hx hb dX8_fewestSteps_88 (by decide) (fun c_8 => ?_) (fun c_8 => ?_)
                · refine lv_iinc (v := nI (d + 1)) (lv' := [(5, .int (nI (d + 1))), (6, .int (nI (stepN (xb isl) (wQ ii) d))), (4, .int (nI (wQ ii))), (3, .int (nI ii)), (2, .int (nI en2)), (0, .ref (q 0)), (1, .int (nI ho))]) hx hb dX8_fewestSteps_124 hl (k := 1) rfl (nI_add d 1) (by decide) rfl (fun ls hl => ?_)
                  refine lv_goto (tgt := 60) hx hb dX8_fewestSteps_127 (by decide) ?_
                  exact ih60 (d + 1) en2 sA2 wQ2 (by omega) hen2 hwq2 (by rw [← hR2]; simp only [bfI]; rw [if_neg (fun h => c_8 h.1)]) _ _ (hP.sub [0, 1, 2, 3] rfl) (hD.sub [0, 1, 2, 3] (by decide) rfl) hS ls (lv_sub hl [0, 2, 3, 4, 5, 6] rfl)
                · refine lv_iload_n hx hb dX8_fewestSteps_91 rfl (lv_at hl 4 rfl) ?_
                  refine lv_bipush (v := nI 36) hx hb dX8_fewestSteps_92 (by decide) ?_
                  refine lv_icmp_ge (tgt := 124) hx hb dX8_fewestSteps_94 (by decide) (fun c_9 => ?_) (fun c_9 => ?_)
                  · rw [nI_leI (by omega) (by omega)] at c_9
                    refine lv_iinc (v := nI (d + 1)) (lv' := [(5, .int (nI (d + 1))), (6, .int (nI (stepN (xb isl) (wQ ii) d))), (4, .int (nI (wQ ii))), (3, .int (nI ii)), (2, .int (nI en2)), (0, .ref (q 0)), (1, .int (nI ho))]) hx hb dX8_fewestSteps_124 hl (k := 1) rfl (nI_add d 1) (by decide) rfl (fun ls hl => ?_)
                    refine lv_goto (tgt := 60) hx hb dX8_fewestSteps_127 (by decide) ?_
                    exact ih60 (d + 1) en2 sA2 wQ2 (by omega) hen2 hwq2 (by rw [← hR2]; simp only [bfI]; rw [if_neg (by omega)]) _ _ (hP.sub [0, 1, 2, 3] rfl) (hD.sub [0, 1, 2, 3] (by decide) rfl) hS ls (lv_sub hl [0, 2, 3, 4, 5, 6] rfl)
                  · rw [nI_leI (by omega) (by omega)] at c_9
                    refine lv_aload_n hx hb dX8_fewestSteps_97 rfl (lv_at hl 5 rfl) ?_
                    refine va_get (D := (dC, dI)) (ci := 8) (v := .ref (q 15)) (C := RX8) (T := TX8) (N := 11) hx hb htl iX8 hown hK hP 0 rfl rfl 5 (by decide) (htl _ wd_116) (fun _ h9 => h9) rfl dX8_fewestSteps_98 ?_
                    refine lv_iload hx hb dX8_fewestSteps_101 (lv_at hl 0 rfl) ?_
                    refine lv_aload_n hx hb dX8_fewestSteps_103 rfl (lv_at hl 5 rfl) ?_
                    refine va_get (D := (dC, dI)) (ci := 8) (v := .ref (q 15)) (C := RX8) (T := TX8) (N := 11) hx hb htl iX8 hown hK hP 0 rfl rfl 5 (by decide) (htl _ wd_116) (fun _ h9 => h9) rfl dX8_fewestSteps_104 ?_
                    refine lv_iload hx hb dX8_fewestSteps_107 (lv_at hl 2 rfl) ?_
                    refine va_iald hx hb hK hP 3 10 rfl rfl (vp_in_nI (by omega) (by decide)) dX8_fewestSteps_109 ?_
                    refine lv_ri (y := sA2 (wQ ii)) (congrArg (sA2) (nI_clamp (by omega))) ?_
                    refine lv_iconst (v := nI 1) hx hb dX8_fewestSteps_110 (by decide) ?_
                    refine lv_iadd hx hb dX8_fewestSteps_111 ?_
                    refine va_iast hx hb hK hP hD hS 3 10 rfl rfl (vp_in_nI (by omega) (by decide)) dX8_fewestSteps_112 (fun H locs hP hD hS => ?_)
                    rw [nI_clamp (show stepN (xb isl) (wQ ii) d < 2 ^ 31 by omega)] at hP hD
                    have hP : va_P (dC, dI) vwCl [(q 0, .inr (8, [.ref (q 1), .ref (q 3), .ref (q 4), .ref (q 9), .ref (q 14), .ref (q 15), .ref (q 16), .ref (q 17), .int (nI nc), .int sr, .int ik])), (q 4, .inr (7, [.ref (q 5), .ref (q 6), .ref (q 7), .ref (q 8), .long isl, .int (nI br), .int st, .int so, .int (nI se)])), (q 16, .inl (ca 11, 36, .inl (fun zj => nI (wQ2 zj)))), (q 15, .inl (ca 10, 36, .inl (upd (sA2) (stepN (xb isl) (wQ ii) d) ((sA2 (wQ ii)) + (nI 1)))))] H := hP
                    have hD : va_D A [(q 0, .inr (8, [.ref (q 1), .ref (q 3), .ref (q 4), .ref (q 9), .ref (q 14), .ref (q 15), .ref (q 16), .ref (q 17), .int (nI nc), .int sr, .int ik])), (q 4, .inr (7, [.ref (q 5), .ref (q 6), .ref (q 7), .ref (q 8), .long isl, .int (nI br), .int st, .int so, .int (nI se)])), (q 16, .inl (ca 11, 36, .inl (fun zj => nI (wQ2 zj)))), (q 15, .inl (ca 10, 36, .inl (upd (sA2) (stepN (xb isl) (wQ ii) d) ((sA2 (wQ ii)) + (nI 1)))))] := hD
                    refine lv_aload_n hx hb dX8_fewestSteps_113 rfl (lv_at hl 5 rfl) ?_
                    refine va_get (D := (dC, dI)) (ci := 8) (v := .ref (q 16)) (C := RX8) (T := TX8) (N := 11) hx hb htl iX8 hown hK hP 0 rfl rfl 6 (by decide) (htl _ wd_117) (fun _ h9 => h9) rfl dX8_fewestSteps_114 ?_
                    refine lv_iload_n hx hb dX8_fewestSteps_117 rfl (lv_at hl 4 rfl) ?_
                    refine lv_iload hx hb dX8_fewestSteps_118 (lv_at hl 0 rfl) ?_
                    refine va_iast hx hb hK hP hD hS 2 11 rfl rfl (vp_in_nI (by omega) (by decide)) dX8_fewestSteps_120 (fun H locs hP hD hS => ?_)
                    rw [nI_clamp (show en2 < 2 ^ 31 by omega)] at hP hD
                    rw [show (upd (fun zj => nI (wQ2 zj)) en2 (nI (stepN (xb isl) (wQ ii) d))) = (fun zj => nI (va_up wQ2 en2 (stepN (xb isl) (wQ ii) d) zj)) from upd_nI _ _ _] at hP hD
                    have hP : va_P (dC, dI) vwCl [(q 0, .inr (8, [.ref (q 1), .ref (q 3), .ref (q 4), .ref (q 9), .ref (q 14), .ref (q 15), .ref (q 16), .ref (q 17), .int (nI nc), .int sr, .int ik])), (q 4, .inr (7, [.ref (q 5), .ref (q 6), .ref (q 7), .ref (q 8), .long isl, .int (nI br), .int st, .int so, .int (nI se)])), (q 16, .inl (ca 11, 36, .inl (fun zj => nI (va_up wQ2 en2 (stepN (xb isl) (wQ ii) d) zj)))), (q 15, .inl (ca 10, 36, .inl (upd (sA2) (stepN (xb isl) (wQ ii) d) ((sA2 (wQ ii)) + (nI 1)))))] H := hP
                    have hD : va_D A [(q 0, .inr (8, [.ref (q 1), .ref (q 3), .ref (q 4), .ref (q 9), .ref (q 14), .ref (q 15), .ref (q 16), .ref (q 17), .int (nI nc), .int sr, .int ik])), (q 4, .inr (7, [.ref (q 5), .ref (q 6), .ref (q 7), .ref (q 8), .long isl, .int (nI br), .int st, .int so, .int (nI se)])), (q 16, .inl (ca 11, 36, .inl (fun zj => nI (va_up wQ2 en2 (stepN (xb isl) (wQ ii) d) zj)))), (q 15, .inl (ca 10, 36, .inl (upd (sA2) (stepN (xb isl) (wQ ii) d) ((sA2 (wQ ii)) + (nI 1)))))] := hD
                    refine lv_iinc (v := nI (en2 + 1)) (lv' := [(2, .int (nI (en2 + 1))), (6, .int (nI (stepN (xb isl) (wQ ii) d))), (5, .int (nI d)), (4, .int (nI (wQ ii))), (3, .int (nI ii)), (0, .ref (q 0)), (1, .int (nI ho))]) hx hb dX8_fewestSteps_121 hl (k := 4) rfl (nI_add en2 1) (by decide) rfl (fun ls hl => ?_)
                    refine lv_iinc (v := nI (d + 1)) (lv' := [(5, .int (nI (d + 1))), (2, .int (nI (en2 + 1))), (6, .int (nI (stepN (xb isl) (wQ ii) d))), (4, .int (nI (wQ ii))), (3, .int (nI ii)), (0, .ref (q 0)), (1, .int (nI ho))]) hx hb dX8_fewestSteps_124 hl (k := 2) rfl (nI_add d 1) (by decide) rfl (fun ls hl => ?_)
                    refine lv_goto (tgt := 60) hx hb dX8_fewestSteps_127 (by decide) ?_
                    have hwq9 : ∀ x, x < en2 + 1 → va_up wQ2 en2 (stepN (xb isl) (wQ ii) d) x < 36 := by
                      intro x hx
                      unfold va_up
                      by_cases h : x = en2
                      · rw [if_pos h]; exact hnx
                      · rw [if_neg h]; exact hwq2 x (by omega)
                    exact ih60 (d + 1) (en2 + 1) (upd sA2 (stepN (xb isl) (wQ ii) d) (sA2 (wQ ii) + nI 1)) (va_up wQ2 en2 (stepN (xb isl) (wQ ii) d)) (by omega) (by omega) hwq9 (by rw [← hR2]; simp only [bfI]; rw [if_pos ⟨c_8, by omega⟩]) _ _ (hP.sub [0, 1, 2, 3] rfl) (hD.sub [0, 1, 2, 3] (by decide) rfl) hS ls (lv_sub hl [0, 3, 4, 1, 5, 6] rfl)
          exact lp60 9 0 en sA wQ (by omega) hen hwq rfl _ _ hP hD hS ls (lv_sub hl [0, 1, 2, 3, 4, 5] rfl)
  exact lp38 36 0 1 (upd (fun _ => (-1)) br (nI 0)) (va_up wq0 0 br) (by omega) (by omega) (by intro x hx; rw [show x = 0 by omega]; unfold va_up; rw [if_pos rfl]; exact hbr) rfl _ _ hP hD hS ls (lv_sub hl [0, 1, 2, 3] rfl)
set_option maxHeartbeats 4000000 in
set_option maxRecDepth 100000 in
theorem kX7_move (l : Launch) (dC : Nat → ClassId) (dI : Nat → Nat → Nat) (ca : Nat → ClassId) (sz : Nat) (d : Nat) (q : Nat → Nat) (isl : Int64) (br : Nat) (st : Int32) (so : Int32) (se : Nat) (hd : d < 9) (hbr : br < 36) : Met l yX7_move (Cond.code yX7_move cX7_move 3 (some .int) :: gT) (rk 3) (EFp (dC, dI) [(q 4, .inr (7, [.ref (q 5), .ref (q 6), .ref (q 7), .ref (q 8), .long isl, .int (nI br), .int st, .int so, .int (nI se)]))] (TY ca) sz [Value.ref (q 4), Value.int (nI d)]) (va_Qi (fun (r : Int32) (_ : Unit) => r = nI (stepN (xb isl) br d)) (EFb (dC, dI) (fun (_ : Unit) => [(q 4, .inr (7, [.ref (q 5), .ref (q 6), .ref (q 7), .ref (q 8), .long isl, .int (nI (stepN (xb isl) br d)), .int (st + nI 1), .int (if stepN (xb isl) br d = br then so else so + nI 1), .int (nI se)]))]) (TY ca) (va_A [(q 4, .inr (7, [.ref (q 5), .ref (q 6), .ref (q 7), .ref (q 8), .long isl, .int (nI br), .int st, .int so, .int (nI se)]))] sz)) (va_A [(q 4, .inr (7, [.ref (q 5), .ref (q 6), .ref (q 7), .ref (q 8), .long isl, .int (nI br), .int st, .int so, .int (nI se)]))] sz)) 0 0 (va_A [(q 4, .inr (7, [.ref (q 5), .ref (q 6), .ref (q 7), .ref (q 8), .long isl, .int (nI br), .int st, .int so, .int (nI se)]))] sz) := by
  refine Met.ofW (cc := cX7_move) (maxL := 3) (ret := (some .int)) (by decide) rfl ?_
  intro p e s m args below meth c s₁ B hml hv
  obtain ⟨rfl, hsz, hP, hK, hD0⟩ := hv
  have hx := B.exec
  have hb := B.bytes
  have hr := B.returns
  have hts := atoms_spec (ws := (Cond.code yX7_move cX7_move 3 (some .int) :: gT)) B.pre
  have htl : ∀ w ∈ gT, w.before _ s = true := fun w h => hts w (List.mem_cons_of_mem _ h)
  have hown : s.vm.findClass RX7 = some m.cls := findClass_of_methodNamed B.named
  have hlocks := B.notSynchronized
  subst hsz
  have hD := hD0.self (sz := s.heap.size)
  generalize hAe : va_A [(q 4, .inr (7, [.ref (q 5), .ref (q 6), .ref (q 7), .ref (q 8), .long isl, .int (nI br), .int st, .int so, .int (nI se)]))] s.heap.size = A at hD ⊢
  have hA : ∀ q : Nat, s.heap.size ≤ q → A q := fun q h => by rw [← hAe]; exact Or.inr h
  have hS : va_S A s.heap s.heap [] := va_S.rf
  have hl := lv_entry ([Value.ref (q 4), Value.int (nI d)]) (n := 3) (Nat.le_of_ble_eq_true rfl)
  rw [lg_entry_eq]
  generalize (lg_sl ([Value.ref (q 4), Value.int (nI d)]) ++ List.replicate (3 - (lg_sl ([Value.ref (q 4), Value.int (nI d)])).length) Slot.unset).toArray = ls at hl ⊢
  have hl : lv_has ls 3 [(0, .ref (q 4)), (1, .int (nI d))] := hl
  refine lv_aload_n hx hb dX7_move_0 rfl (lv_at hl 0 rfl) ?_
  refine lv_aload_n hx hb dX7_move_1 rfl (lv_at hl 0 rfl) ?_
  refine va_get (D := (dC, dI)) (ci := 7) (v := .int (nI br)) (C := RX7) (T := TX7) (N := 9) hx hb htl iX7 hown hK hP 0 rfl rfl 5 (by decide) (htl _ wd_62) (fun _ h9 => h9) rfl dX7_move_2 ?_
  refine lv_iload_n hx hb dX7_move_5 rfl (lv_at hl 1 rfl) ?_
  refine roV (As := [Value.int (nI br), Value.int (nI d)]) (rest := []) (kX7_placeBehind l dC dI ca br d q isl br st so se hbr hd) ⟨hx, hb, hml, hown, htl⟩ (cVg (C := RX7) 2 htl wd_467 wd_385 wd_386 wd_3 wd_387 rfl rfl (by decide +kernel) ⟨Nat.le_of_ble_eq_true rfl, Nat.le_of_ble_eq_true rfl⟩) (hP.sub [0] rfl) hK (va_recv hK hP (ci := 7) (q0 := 0) rfl rfl) rfl hl.1 rfl (Nat.le_of_ble_eq_true rfl) dX7_move_6 ⟨Nat.zero_le _, Nat.zero_le _⟩ (fun r hr9 => ?_)
  subst hr9
  refine lv_istore_n (lv' := [(2, .int (nI (stepN (xb isl) br d))), (0, .ref (q 4)), (1, .int (nI d))]) hx hb dX7_move_9 rfl hl (by decide) rfl (fun ls hl => ?_)
  refine lv_aload_n hx hb dX7_move_10 rfl (lv_at hl 1 rfl) ?_
  refine lv_dup hx hb dX7_move_11 rfl ?_
  refine va_get (D := (dC, dI)) (ci := 7) (v := .int st) (C := RX7) (T := TX7) (N := 9) hx hb htl iX7 hown hK hP 0 rfl rfl 6 (by decide) (htl _ wd_64) (fun _ h9 => h9) rfl dX7_move_12 ?_
  refine lv_iconst (v := nI 1) hx hb dX7_move_15 (by decide) ?_
  refine lv_iadd hx hb dX7_move_16 ?_
  refine va_put (D := (dC, dI)) (ci := 7) (v := .int (st + (nI 1))) (ty := .int) (C := RX7) (T := TX7) (N := 9) hx hb htl iX7 tyX7 tyX7_ok nmX7 hown hK hP hD hS 0 rfl rfl 6 (by decide) (htl _ wd_64) (fun _ h9 => h9) rfl (by decide +kernel) rfl rfl (Nat.le_of_ble_eq_true rfl) dX7_move_17 (fun H locs hP hD hS => ?_)
  have hP : va_P (dC, dI) vwCl [(q 4, .inr (7, [.ref (q 5), .ref (q 6), .ref (q 7), .ref (q 8), .long isl, .int (nI br), .int (st + (nI 1)), .int so, .int (nI se)]))] H := hP
  have hD : va_D A [(q 4, .inr (7, [.ref (q 5), .ref (q 6), .ref (q 7), .ref (q 8), .long isl, .int (nI br), .int (st + (nI 1)), .int so, .int (nI se)]))] := hD
  refine lv_iload_n hx hb dX7_move_20 rfl (lv_at hl 0 rfl) ?_
  refine lv_aload_n hx hb dX7_move_21 rfl (lv_at hl 1 rfl) ?_
  refine va_get (D := (dC, dI)) (ci := 7) (v := .int (nI br)) (C := RX7) (T := TX7) (N := 9) hx hb htl iX7 hown hK hP 0 rfl rfl 5 (by decide) (htl _ wd_62) (fun _ h9 => h9) rfl dX7_move_22 ?_
  refine lv_icmp_eq (tgt := 38) hx hb dX7_move_25 (by decide) (fun c_1 => ?_) (fun c_1 => ?_)
  · rw [nI_eq (Nat.lt_trans (stepN_lt hbr) (by decide)) (by omega)] at c_1
    refine lv_aload_n hx hb dX7_move_38 rfl (lv_at hl 1 rfl) ?_
    refine lv_iload_n hx hb dX7_move_39 rfl (lv_at hl 0 rfl) ?_
    refine va_put (D := (dC, dI)) (ci := 7) (v := .int (nI (stepN (xb isl) br d))) (ty := .int) (C := RX7) (T := TX7) (N := 9) hx hb htl iX7 tyX7 tyX7_ok nmX7 hown hK hP hD hS 0 rfl rfl 5 (by decide) (htl _ wd_62) (fun _ h9 => h9) rfl (by decide +kernel) rfl rfl (Nat.le_of_ble_eq_true rfl) dX7_move_40 (fun H locs hP hD hS => ?_)
    have hP : va_P (dC, dI) vwCl [(q 4, .inr (7, [.ref (q 5), .ref (q 6), .ref (q 7), .ref (q 8), .long isl, .int (nI (stepN (xb isl) br d)), .int (st + (nI 1)), .int so, .int (nI se)]))] H := hP
    have hD : va_D A [(q 4, .inr (7, [.ref (q 5), .ref (q 6), .ref (q 7), .ref (q 8), .long isl, .int (nI (stepN (xb isl) br d)), .int (st + (nI 1)), .int so, .int (nI se)]))] := hD
    refine lv_aload_n hx hb dX7_move_43 rfl (lv_at hl 1 rfl) ?_
    refine va_get (D := (dC, dI)) (ci := 7) (v := .int (nI (stepN (xb isl) br d))) (C := RX7) (T := TX7) (N := 9) hx hb htl iX7 hown hK hP 0 rfl rfl 5 (by decide) (htl _ wd_62) (fun _ h9 => h9) rfl dX7_move_44 ?_
    have hP9 := hP.sub (ws' := [(q 4, .inr (7, [.ref (q 5), .ref (q 6), .ref (q 7), .ref (q 8), .long isl, .int (nI (stepN (xb isl) br d)), .int (st + (nI 1)), .int so, .int (nI se)]))]) [0] rfl
    have hD9 := hD.sub (ws' := [(q 4, .inr (7, [.ref (q 5), .ref (q 6), .ref (q 7), .ref (q 8), .long isl, .int (nI (stepN (xb isl) br d)), .int (st + (nI 1)), .int so, .int (nI se)]))]) [0] (by decide) rfl
    exact W.iret (v := nI (stepN (xb isl) br d)) hx hb hr (fun t ht hW => ⟨⟨nI (stepN (xb isl) br d), (), rfl, by rfl, by rw [ht]; rw [if_pos c_1]; exact hP9, va_K.moved hW.alike hK, (by rw [if_pos c_1]; exact hD9)⟩, hS.F ht⟩) hS.2.2 dX7_move_47
  · rw [nI_eq (Nat.lt_trans (stepN_lt hbr) (by decide)) (by omega)] at c_1
    refine lv_aload_n hx hb dX7_move_28 rfl (lv_at hl 1 rfl) ?_
    refine lv_dup hx hb dX7_move_29 rfl ?_
    refine va_get (D := (dC, dI)) (ci := 7) (v := .int so) (C := RX7) (T := TX7) (N := 9) hx hb htl iX7 hown hK hP 0 rfl rfl 7 (by decide) (htl _ wd_66) (fun _ h9 => h9) rfl dX7_move_30 ?_
    refine lv_iconst (v := nI 1) hx hb dX7_move_33 (by decide) ?_
    refine lv_iadd hx hb dX7_move_34 ?_
    refine va_put (D := (dC, dI)) (ci := 7) (v := .int (so + (nI 1))) (ty := .int) (C := RX7) (T := TX7) (N := 9) hx hb htl iX7 tyX7 tyX7_ok nmX7 hown hK hP hD hS 0 rfl rfl 7 (by decide) (htl _ wd_66) (fun _ h9 => h9) rfl (by decide +kernel) rfl rfl (Nat.le_of_ble_eq_true rfl) dX7_move_35 (fun H locs hP hD hS => ?_)
    have hP : va_P (dC, dI) vwCl [(q 4, .inr (7, [.ref (q 5), .ref (q 6), .ref (q 7), .ref (q 8), .long isl, .int (nI br), .int (st + (nI 1)), .int (so + (nI 1)), .int (nI se)]))] H := hP
    have hD : va_D A [(q 4, .inr (7, [.ref (q 5), .ref (q 6), .ref (q 7), .ref (q 8), .long isl, .int (nI br), .int (st + (nI 1)), .int (so + (nI 1)), .int (nI se)]))] := hD
    refine lv_aload_n hx hb dX7_move_38 rfl (lv_at hl 1 rfl) ?_
    refine lv_iload_n hx hb dX7_move_39 rfl (lv_at hl 0 rfl) ?_
    refine va_put (D := (dC, dI)) (ci := 7) (v := .int (nI (stepN (xb isl) br d))) (ty := .int) (C := RX7) (T := TX7) (N := 9) hx hb htl iX7 tyX7 tyX7_ok nmX7 hown hK hP hD hS 0 rfl rfl 5 (by decide) (htl _ wd_62) (fun _ h9 => h9) rfl (by decide +kernel) rfl rfl (Nat.le_of_ble_eq_true rfl) dX7_move_40 (fun H locs hP hD hS => ?_)
    have hP : va_P (dC, dI) vwCl [(q 4, .inr (7, [.ref (q 5), .ref (q 6), .ref (q 7), .ref (q 8), .long isl, .int (nI (stepN (xb isl) br d)), .int (st + (nI 1)), .int (so + (nI 1)), .int (nI se)]))] H := hP
    have hD : va_D A [(q 4, .inr (7, [.ref (q 5), .ref (q 6), .ref (q 7), .ref (q 8), .long isl, .int (nI (stepN (xb isl) br d)), .int (st + (nI 1)), .int (so + (nI 1)), .int (nI se)]))] := hD
    refine lv_aload_n hx hb dX7_move_43 rfl (lv_at hl 1 rfl) ?_
    refine va_get (D := (dC, dI)) (ci := 7) (v := .int (nI (stepN (xb isl) br d))) (C := RX7) (T := TX7) (N := 9) hx hb htl iX7 hown hK hP 0 rfl rfl 5 (by decide) (htl _ wd_62) (fun _ h9 => h9) rfl dX7_move_44 ?_
    have hP9 := hP.sub (ws' := [(q 4, .inr (7, [.ref (q 5), .ref (q 6), .ref (q 7), .ref (q 8), .long isl, .int (nI (stepN (xb isl) br d)), .int (st + (nI 1)), .int (so + (nI 1)), .int (nI se)]))]) [0] rfl
    have hD9 := hD.sub (ws' := [(q 4, .inr (7, [.ref (q 5), .ref (q 6), .ref (q 7), .ref (q 8), .long isl, .int (nI (stepN (xb isl) br d)), .int (st + (nI 1)), .int (so + (nI 1)), .int (nI se)]))]) [0] (by decide) rfl
    exact W.iret (v := nI (stepN (xb isl) br d)) hx hb hr (fun t ht hW => ⟨⟨nI (stepN (xb isl) br d), (), rfl, by rfl, by rw [ht]; rw [if_neg c_1]; exact hP9, va_K.moved hW.alike hK, (by rw [if_neg c_1]; exact hD9)⟩, hS.F ht⟩) hS.2.2 dX7_move_47
set_option maxHeartbeats 4000000 in
set_option maxRecDepth 100000 in
theorem kX7_addSeen (l : Launch) (dC : Nat → ClassId) (dI : Nat → Nat → Nat) (ca : Nat → ClassId) (sz : Nat) (i : Nat) (pp : Nat) (d : Nat) (q : Nat → Nat) (isl : Int64) (br : Nat) (st : Int32) (so : Int32) (se : Nat) (sn : Nat → Nat) (sp : Nat → Nat) (sd : Nat → Nat) (hse : se < 6) : Met l yX7_addSeen (Cond.code yX7_addSeen cX7_addSeen 4 none :: gT) (rk 1) (EFp (dC, dI) [(q 4, .inr (7, [.ref (q 5), .ref (q 6), .ref (q 7), .ref (q 8), .long isl, .int (nI br), .int st, .int so, .int (nI se)])), (q 6, .inl (ca 3, 6, .inl (fun zj => nI (sn zj)))), (q 7, .inl (ca 4, 6, .inl (fun zj => nI (sp zj)))), (q 8, .inl (ca 5, 6, .inl (fun zj => nI (sd zj))))] (TY ca) sz [Value.ref (q 4), Value.int (nI i), Value.int (nI pp), Value.int (nI d)]) (va_Qv (fun (_ : Unit) => True) (EFb (dC, dI) (fun (_ : Unit) => [(q 4, .inr (7, [.ref (q 5), .ref (q 6), .ref (q 7), .ref (q 8), .long isl, .int (nI br), .int st, .int so, .int (nI (se + 1))])), (q 6, .inl (ca 3, 6, .inl (fun zj => nI (va_up sn se i zj)))), (q 7, .inl (ca 4, 6, .inl (fun zj => nI (va_up sp se pp zj)))), (q 8, .inl (ca 5, 6, .inl (fun zj => nI (va_up sd se d zj))))]) (TY ca) (va_A [(q 4, .inr (7, [.ref (q 5), .ref (q 6), .ref (q 7), .ref (q 8), .long isl, .int (nI br), .int st, .int so, .int (nI se)])), (q 6, .inl (ca 3, 6, .inl (fun zj => nI (sn zj)))), (q 7, .inl (ca 4, 6, .inl (fun zj => nI (sp zj)))), (q 8, .inl (ca 5, 6, .inl (fun zj => nI (sd zj))))] sz)) (va_A [(q 4, .inr (7, [.ref (q 5), .ref (q 6), .ref (q 7), .ref (q 8), .long isl, .int (nI br), .int st, .int so, .int (nI se)])), (q 6, .inl (ca 3, 6, .inl (fun zj => nI (sn zj)))), (q 7, .inl (ca 4, 6, .inl (fun zj => nI (sp zj)))), (q 8, .inl (ca 5, 6, .inl (fun zj => nI (sd zj))))] sz)) 0 0 (va_A [(q 4, .inr (7, [.ref (q 5), .ref (q 6), .ref (q 7), .ref (q 8), .long isl, .int (nI br), .int st, .int so, .int (nI se)])), (q 6, .inl (ca 3, 6, .inl (fun zj => nI (sn zj)))), (q 7, .inl (ca 4, 6, .inl (fun zj => nI (sp zj)))), (q 8, .inl (ca 5, 6, .inl (fun zj => nI (sd zj))))] sz) := by
  refine Met.ofW (cc := cX7_addSeen) (maxL := 4) (ret := none) (by decide) rfl ?_
  intro p e s m args below meth c s₁ B hml hv
  obtain ⟨rfl, hsz, hP, hK, hD0⟩ := hv
  have hx := B.exec
  have hb := B.bytes
  have hr := B.returns
  have hts := atoms_spec (ws := (Cond.code yX7_addSeen cX7_addSeen 4 none :: gT)) B.pre
  have htl : ∀ w ∈ gT, w.before _ s = true := fun w h => hts w (List.mem_cons_of_mem _ h)
  have hown : s.vm.findClass RX7 = some m.cls := findClass_of_methodNamed B.named
  have hlocks := B.notSynchronized
  subst hsz
  have hD := hD0.self (sz := s.heap.size)
  generalize hAe : va_A [(q 4, .inr (7, [.ref (q 5), .ref (q 6), .ref (q 7), .ref (q 8), .long isl, .int (nI br), .int st, .int so, .int (nI se)])), (q 6, .inl (ca 3, 6, .inl (fun zj => nI (sn zj)))), (q 7, .inl (ca 4, 6, .inl (fun zj => nI (sp zj)))), (q 8, .inl (ca 5, 6, .inl (fun zj => nI (sd zj))))] s.heap.size = A at hD ⊢
  have hA : ∀ q : Nat, s.heap.size ≤ q → A q := fun q h => by rw [← hAe]; exact Or.inr h
  have hS : va_S A s.heap s.heap [] := va_S.rf
  have hl := lv_entry ([Value.ref (q 4), Value.int (nI i), Value.int (nI pp), Value.int (nI d)]) (n := 4) (Nat.le_of_ble_eq_true rfl)
  rw [lg_entry_eq]
  generalize (lg_sl ([Value.ref (q 4), Value.int (nI i), Value.int (nI pp), Value.int (nI d)]) ++ List.replicate (4 - (lg_sl ([Value.ref (q 4), Value.int (nI i), Value.int (nI pp), Value.int (nI d)])).length) Slot.unset).toArray = ls at hl ⊢
  have hl : lv_has ls 4 [(0, .ref (q 4)), (1, .int (nI i)), (2, .int (nI pp)), (3, .int (nI d))] := hl
  refine lv_aload_n hx hb dX7_addSeen_0 rfl (lv_at hl 0 rfl) ?_
  refine va_get (D := (dC, dI)) (ci := 7) (v := .int (nI se)) (C := RX7) (T := TX7) (N := 9) hx hb htl iX7 hown hK hP 0 rfl rfl 8 (by decide) (htl _ wd_68) (fun _ h9 => h9) rfl dX7_addSeen_1 ?_
  refine lv_bipush (v := nI 6) hx hb dX7_addSeen_4 (by decide) ?_
  refine lv_icmp_ge (tgt := 49) hx hb dX7_addSeen_6 (by decide) (fun c_1 => ?_) (fun c_1 => ?_)
  · exact absurd c_1 (nI_ge (by omega) (by decide))
  · refine lv_aload_n hx hb dX7_addSeen_9 rfl (lv_at hl 0 rfl) ?_
    refine va_get (D := (dC, dI)) (ci := 7) (v := .ref (q 6)) (C := RX7) (T := TX7) (N := 9) hx hb htl iX7 hown hK hP 0 rfl rfl 1 (by decide) (htl _ wd_54) (fun _ h9 => h9) rfl dX7_addSeen_10 ?_
    refine lv_aload_n hx hb dX7_addSeen_13 rfl (lv_at hl 0 rfl) ?_
    refine va_get (D := (dC, dI)) (ci := 7) (v := .int (nI se)) (C := RX7) (T := TX7) (N := 9) hx hb htl iX7 hown hK hP 0 rfl rfl 8 (by decide) (htl _ wd_68) (fun _ h9 => h9) rfl dX7_addSeen_14 ?_
    refine lv_iload_n hx hb dX7_addSeen_17 rfl (lv_at hl 1 rfl) ?_
    refine va_iast hx hb hK hP hD hS 1 3 rfl rfl (vp_in_nI (by omega) (by decide)) dX7_addSeen_18 (fun H locs hP hD hS => ?_)
    rw [nI_clamp (show se < 2 ^ 31 by omega)] at hP hD
    rw [show (upd (fun zj => nI (sn zj)) se (nI i)) = (fun zj => nI (va_up sn se i zj)) from upd_nI _ _ _] at hP hD
    have hP : va_P (dC, dI) vwCl [(q 4, .inr (7, [.ref (q 5), .ref (q 6), .ref (q 7), .ref (q 8), .long isl, .int (nI br), .int st, .int so, .int (nI se)])), (q 6, .inl (ca 3, 6, .inl (fun zj => nI (va_up sn se i zj)))), (q 7, .inl (ca 4, 6, .inl (fun zj => nI (sp zj)))), (q 8, .inl (ca 5, 6, .inl (fun zj => nI (sd zj))))] H := hP
    have hD : va_D A [(q 4, .inr (7, [.ref (q 5), .ref (q 6), .ref (q 7), .ref (q 8), .long isl, .int (nI br), .int st, .int so, .int (nI se)])), (q 6, .inl (ca 3, 6, .inl (fun zj => nI (va_up sn se i zj)))), (q 7, .inl (ca 4, 6, .inl (fun zj => nI (sp zj)))), (q 8, .inl (ca 5, 6, .inl (fun zj => nI (sd zj))))] := hD
    refine lv_aload_n hx hb dX7_addSeen_19 rfl (lv_at hl 0 rfl) ?_
    refine va_get (D := (dC, dI)) (ci := 7) (v := .ref (q 7)) (C := RX7) (T := TX7) (N := 9) hx hb htl iX7 hown hK hP 0 rfl rfl 2 (by decide) (htl _ wd_56) (fun _ h9 => h9) rfl dX7_addSeen_20 ?_
    refine lv_aload_n hx hb dX7_addSeen_23 rfl (lv_at hl 0 rfl) ?_
    refine va_get (D := (dC, dI)) (ci := 7) (v := .int (nI se)) (C := RX7) (T := TX7) (N := 9) hx hb htl iX7 hown hK hP 0 rfl rfl 8 (by decide) (htl _ wd_68) (fun _ h9 => h9) rfl dX7_addSeen_24 ?_
    refine lv_iload_n hx hb dX7_addSeen_27 rfl (lv_at hl 2 rfl) ?_
    refine va_iast hx hb hK hP hD hS 2 4 rfl rfl (vp_in_nI (by omega) (by decide)) dX7_addSeen_28 (fun H locs hP hD hS => ?_)
    rw [nI_clamp (show se < 2 ^ 31 by omega)] at hP hD
    rw [show (upd (fun zj => nI (sp zj)) se (nI pp)) = (fun zj => nI (va_up sp se pp zj)) from upd_nI _ _ _] at hP hD
    have hP : va_P (dC, dI) vwCl [(q 4, .inr (7, [.ref (q 5), .ref (q 6), .ref (q 7), .ref (q 8), .long isl, .int (nI br), .int st, .int so, .int (nI se)])), (q 6, .inl (ca 3, 6, .inl (fun zj => nI (va_up sn se i zj)))), (q 7, .inl (ca 4, 6, .inl (fun zj => nI (va_up sp se pp zj)))), (q 8, .inl (ca 5, 6, .inl (fun zj => nI (sd zj))))] H := hP
    have hD : va_D A [(q 4, .inr (7, [.ref (q 5), .ref (q 6), .ref (q 7), .ref (q 8), .long isl, .int (nI br), .int st, .int so, .int (nI se)])), (q 6, .inl (ca 3, 6, .inl (fun zj => nI (va_up sn se i zj)))), (q 7, .inl (ca 4, 6, .inl (fun zj => nI (va_up sp se pp zj)))), (q 8, .inl (ca 5, 6, .inl (fun zj => nI (sd zj))))] := hD
    refine lv_aload_n hx hb dX7_addSeen_29 rfl (lv_at hl 0 rfl) ?_
    refine va_get (D := (dC, dI)) (ci := 7) (v := .ref (q 8)) (C := RX7) (T := TX7) (N := 9) hx hb htl iX7 hown hK hP 0 rfl rfl 3 (by decide) (htl _ wd_58) (fun _ h9 => h9) rfl dX7_addSeen_30 ?_
    refine lv_aload_n hx hb dX7_addSeen_33 rfl (lv_at hl 0 rfl) ?_
    refine va_get (D := (dC, dI)) (ci := 7) (v := .int (nI se)) (C := RX7) (T := TX7) (N := 9) hx hb htl iX7 hown hK hP 0 rfl rfl 8 (by decide) (htl _ wd_68) (fun _ h9 => h9) rfl dX7_addSeen_34 ?_
    refine lv_iload_n hx hb dX7_addSeen_37 rfl (lv_at hl 3 rfl) ?_
    refine va_iast hx hb hK hP hD hS 3 5 rfl rfl (vp_in_nI (by omega) (by decide)) dX7_addSeen_38 (fun H locs hP hD hS => ?_)
    rw [nI_clamp (show se < 2 ^ 31 by omega)] at hP hD
    rw [show (upd (fun zj => nI (sd zj)) se (nI d)) = (fun zj => nI (va_up sd se d zj)) from upd_nI _ _ _] at hP hD
    have hP : va_P (dC, dI) vwCl [(q 4, .inr (7, [.ref (q 5), .ref (q 6), .ref (q 7), .ref (q 8), .long isl, .int (nI br), .int st, .int so, .int (nI se)])), (q 6, .inl (ca 3, 6, .inl (fun zj => nI (va_up sn se i zj)))), (q 7, .inl (ca 4, 6, .inl (fun zj => nI (va_up sp se pp zj)))), (q 8, .inl (ca 5, 6, .inl (fun zj => nI (va_up sd se d zj))))] H := hP
    have hD : va_D A [(q 4, .inr (7, [.ref (q 5), .ref (q 6), .ref (q 7), .ref (q 8), .long isl, .int (nI br), .int st, .int so, .int (nI se)])), (q 6, .inl (ca 3, 6, .inl (fun zj => nI (va_up sn se i zj)))), (q 7, .inl (ca 4, 6, .inl (fun zj => nI (va_up sp se pp zj)))), (q 8, .inl (ca 5, 6, .inl (fun zj => nI (va_up sd se d zj))))] := hD
    refine lv_aload_n hx hb dX7_addSeen_39 rfl (lv_at hl 0 rfl) ?_
    refine lv_dup hx hb dX7_addSeen_40 rfl ?_
    refine va_get (D := (dC, dI)) (ci := 7) (v := .int (nI se)) (C := RX7) (T := TX7) (N := 9) hx hb htl iX7 hown hK hP 0 rfl rfl 8 (by decide) (htl _ wd_68) (fun _ h9 => h9) rfl dX7_addSeen_41 ?_
    refine lv_iconst (v := nI 1) hx hb dX7_addSeen_44 (by decide) ?_
    refine lv_iadd hx hb dX7_addSeen_45 ?_
    refine lv_ri (y := nI (se + 1)) (nI_add se 1) ?_
    refine va_put (D := (dC, dI)) (ci := 7) (v := .int (nI (se + 1))) (ty := .int) (C := RX7) (T := TX7) (N := 9) hx hb htl iX7 tyX7 tyX7_ok nmX7 hown hK hP hD hS 0 rfl rfl 8 (by decide) (htl _ wd_68) (fun _ h9 => h9) rfl (by decide +kernel) rfl rfl (Nat.le_of_ble_eq_true rfl) dX7_addSeen_46 (fun H locs hP hD hS => ?_)
    have hP : va_P (dC, dI) vwCl [(q 4, .inr (7, [.ref (q 5), .ref (q 6), .ref (q 7), .ref (q 8), .long isl, .int (nI br), .int st, .int so, .int (nI (se + 1))])), (q 6, .inl (ca 3, 6, .inl (fun zj => nI (va_up sn se i zj)))), (q 7, .inl (ca 4, 6, .inl (fun zj => nI (va_up sp se pp zj)))), (q 8, .inl (ca 5, 6, .inl (fun zj => nI (va_up sd se d zj))))] H := hP
    have hD : va_D A [(q 4, .inr (7, [.ref (q 5), .ref (q 6), .ref (q 7), .ref (q 8), .long isl, .int (nI br), .int st, .int so, .int (nI (se + 1))])), (q 6, .inl (ca 3, 6, .inl (fun zj => nI (va_up sn se i zj)))), (q 7, .inl (ca 4, 6, .inl (fun zj => nI (va_up sp se pp zj)))), (q 8, .inl (ca 5, 6, .inl (fun zj => nI (va_up sd se d zj))))] := hD
    have hP9 := hP.sub (ws' := [(q 4, .inr (7, [.ref (q 5), .ref (q 6), .ref (q 7), .ref (q 8), .long isl, .int (nI br), .int st, .int so, .int (nI (se + 1))])), (q 6, .inl (ca 3, 6, .inl (fun zj => nI (va_up sn se i zj)))), (q 7, .inl (ca 4, 6, .inl (fun zj => nI (va_up sp se pp zj)))), (q 8, .inl (ca 5, 6, .inl (fun zj => nI (va_up sd se d zj))))]) [0, 1, 2, 3] rfl
    have hD9 := hD.sub (ws' := [(q 4, .inr (7, [.ref (q 5), .ref (q 6), .ref (q 7), .ref (q 8), .long isl, .int (nI br), .int st, .int so, .int (nI (se + 1))])), (q 6, .inl (ca 3, 6, .inl (fun zj => nI (va_up sn se i zj)))), (q 7, .inl (ca 4, 6, .inl (fun zj => nI (va_up sp se pp zj)))), (q 8, .inl (ca 5, 6, .inl (fun zj => nI (va_up sd se d zj))))]) [0, 1, 2, 3] (by decide) rfl
    exact W.vret hx hb hr (fun t ht hW => ⟨⟨(), rfl, trivial, by rw [ht]; exact hP9, va_K.moved hW.alike hK, hD9⟩, hS.F ht⟩) hS.2.2 dX7_addSeen_49
def setI (isl : Int64) (j : Nat) (x : Int32) : Int64 := if x = 0 then isl &&& ((1 <<< ((nI j).toInt64 &&& 63)) ^^^ (-1)) else isl ||| (1 <<< ((nI j).toInt64 &&& 63))
set_option maxHeartbeats 4000000 in
set_option maxRecDepth 100000 in
theorem kX7_setIsland (l : Launch) (dC : Nat → ClassId) (dI : Nat → Nat → Nat) (ca : Nat → ClassId) (sz : Nat) (j : Nat) (x2 : Int32) (q : Nat → Nat) (isl : Int64) (br : Nat) (st : Int32) (so : Int32) (se : Nat) : Met l yX7_setIsland (Cond.code yX7_setIsland cX7_setIsland 5 none :: gT) (rk 1) (EFp (dC, dI) [(q 4, .inr (7, [.ref (q 5), .ref (q 6), .ref (q 7), .ref (q 8), .long isl, .int (nI br), .int st, .int so, .int (nI se)]))] (TY ca) sz [Value.ref (q 4), Value.int (nI j), Value.int x2]) (va_Qv (fun (_ : Unit) => True) (EFb (dC, dI) (fun (_ : Unit) => [(q 4, .inr (7, [.ref (q 5), .ref (q 6), .ref (q 7), .ref (q 8), .long (setI isl j x2), .int (nI br), .int st, .int so, .int (nI se)]))]) (TY ca) (va_A [(q 4, .inr (7, [.ref (q 5), .ref (q 6), .ref (q 7), .ref (q 8), .long isl, .int (nI br), .int st, .int so, .int (nI se)]))] sz)) (va_A [(q 4, .inr (7, [.ref (q 5), .ref (q 6), .ref (q 7), .ref (q 8), .long isl, .int (nI br), .int st, .int so, .int (nI se)]))] sz)) 0 0 (va_A [(q 4, .inr (7, [.ref (q 5), .ref (q 6), .ref (q 7), .ref (q 8), .long isl, .int (nI br), .int st, .int so, .int (nI se)]))] sz) := by
  refine Met.ofW (cc := cX7_setIsland) (maxL := 5) (ret := none) (by decide) rfl ?_
  intro p e s m args below meth c s₁ B hml hv
  obtain ⟨rfl, hsz, hP, hK, hD0⟩ := hv
  have hx := B.exec
  have hb := B.bytes
  have hr := B.returns
  have hts := atoms_spec (ws := (Cond.code yX7_setIsland cX7_setIsland 5 none :: gT)) B.pre
  have htl : ∀ w ∈ gT, w.before _ s = true := fun w h => hts w (List.mem_cons_of_mem _ h)
  have hown : s.vm.findClass RX7 = some m.cls := findClass_of_methodNamed B.named
  have hlocks := B.notSynchronized
  subst hsz
  have hD := hD0.self (sz := s.heap.size)
  generalize hAe : va_A [(q 4, .inr (7, [.ref (q 5), .ref (q 6), .ref (q 7), .ref (q 8), .long isl, .int (nI br), .int st, .int so, .int (nI se)]))] s.heap.size = A at hD ⊢
  have hA : ∀ q : Nat, s.heap.size ≤ q → A q := fun q h => by rw [← hAe]; exact Or.inr h
  have hS : va_S A s.heap s.heap [] := va_S.rf
  have hl := lv_entry ([Value.ref (q 4), Value.int (nI j), Value.int x2]) (n := 5) (Nat.le_of_ble_eq_true rfl)
  rw [lg_entry_eq]
  generalize (lg_sl ([Value.ref (q 4), Value.int (nI j), Value.int x2]) ++ List.replicate (5 - (lg_sl ([Value.ref (q 4), Value.int (nI j), Value.int x2])).length) Slot.unset).toArray = ls at hl ⊢
  have hl : lv_has ls 5 [(0, .ref (q 4)), (1, .int (nI j)), (2, .int x2)] := hl
  refine lv_lconst (v := 1) hx hb dX7_setIsland_0 (by decide) ?_
  refine lv_iload_n hx hb dX7_setIsland_1 rfl (lv_at hl 1 rfl) ?_
  refine lv_lshl (v := 1 <<< ((nI j).toInt64 &&& 63)) hx hb dX7_setIsland_2 rfl ?_
  refine lv_lstore_n (lv' := [(3, .long (1 <<< ((nI j).toInt64 &&& 63))), (0, .ref (q 4)), (1, .int (nI j)), (2, .int x2)]) hx hb dX7_setIsland_3 rfl hl (by decide) rfl (fun ls hl => ?_)
  refine lv_aload_n hx hb dX7_setIsland_4 rfl (lv_at hl 1 rfl) ?_
  refine lv_iload_n hx hb dX7_setIsland_5 rfl (lv_at hl 3 rfl) ?_
  refine lv_if_eq (tgt := 18) hx hb dX7_setIsland_6 (by decide) (fun c_1 => ?_) (fun c_1 => ?_)
  · refine lv_aload_n hx hb dX7_setIsland_18 rfl (lv_at hl 1 rfl) ?_
    refine va_get (D := (dC, dI)) (ci := 7) (v := .long isl) (C := RX7) (T := TX7) (N := 9) hx hb htl iX7 hown hK hP 0 rfl rfl 4 (by decide) (htl _ wd_60) (fun _ h9 => h9) rfl dX7_setIsland_19 ?_
    refine lv_lload_n hx hb dX7_setIsland_22 rfl (lv_at hl 0 rfl) ?_
    refine lv_ldc2 (v := (-1)) hx hb hown (htl _ wd_327) dX7_setIsland_23 ?_
    refine lv_lxor hx hb dX7_setIsland_26 ?_
    refine lv_land hx hb dX7_setIsland_27 ?_
    refine va_put (D := (dC, dI)) (ci := 7) (v := .long (isl &&& ((1 <<< ((nI j).toInt64 &&& 63)) ^^^ (-1)))) (ty := .long) (C := RX7) (T := TX7) (N := 9) hx hb htl iX7 tyX7 tyX7_ok nmX7 hown hK hP hD hS 0 rfl rfl 4 (by decide) (htl _ wd_60) (fun _ h9 => h9) rfl (by decide +kernel) rfl rfl (Nat.le_of_ble_eq_true rfl) dX7_setIsland_28 (fun H locs hP hD hS => ?_)
    have hP : va_P (dC, dI) vwCl [(q 4, .inr (7, [.ref (q 5), .ref (q 6), .ref (q 7), .ref (q 8), .long (isl &&& ((1 <<< ((nI j).toInt64 &&& 63)) ^^^ (-1))), .int (nI br), .int st, .int so, .int (nI se)]))] H := hP
    have hD : va_D A [(q 4, .inr (7, [.ref (q 5), .ref (q 6), .ref (q 7), .ref (q 8), .long (isl &&& ((1 <<< ((nI j).toInt64 &&& 63)) ^^^ (-1))), .int (nI br), .int st, .int so, .int (nI se)]))] := hD
    have hP9 := hP.sub (ws' := [(q 4, .inr (7, [.ref (q 5), .ref (q 6), .ref (q 7), .ref (q 8), .long (isl &&& ((1 <<< ((nI j).toInt64 &&& 63)) ^^^ (-1))), .int (nI br), .int st, .int so, .int (nI se)]))]) [0] rfl
    have hD9 := hD.sub (ws' := [(q 4, .inr (7, [.ref (q 5), .ref (q 6), .ref (q 7), .ref (q 8), .long (isl &&& ((1 <<< ((nI j).toInt64 &&& 63)) ^^^ (-1))), .int (nI br), .int st, .int so, .int (nI se)]))]) [0] (by decide) rfl
    exact W.vret hx hb hr (fun t ht hW => ⟨⟨(), rfl, trivial, by rw [ht]; unfold setI; rw [if_pos c_1]; exact hP9, va_K.moved hW.alike hK, (by unfold setI; rw [if_pos c_1]; exact hD9)⟩, hS.F ht⟩) hS.2.2 dX7_setIsland_31
  · refine lv_aload_n hx hb dX7_setIsland_9 rfl (lv_at hl 1 rfl) ?_
    refine va_get (D := (dC, dI)) (ci := 7) (v := .long isl) (C := RX7) (T := TX7) (N := 9) hx hb htl iX7 hown hK hP 0 rfl rfl 4 (by decide) (htl _ wd_60) (fun _ h9 => h9) rfl dX7_setIsland_10 ?_
    refine lv_lload_n hx hb dX7_setIsland_13 rfl (lv_at hl 0 rfl) ?_
    refine lv_lor hx hb dX7_setIsland_14 ?_
    refine lv_goto (tgt := 28) hx hb dX7_setIsland_15 (by decide) ?_
    refine va_put (D := (dC, dI)) (ci := 7) (v := .long (isl ||| (1 <<< ((nI j).toInt64 &&& 63)))) (ty := .long) (C := RX7) (T := TX7) (N := 9) hx hb htl iX7 tyX7 tyX7_ok nmX7 hown hK hP hD hS 0 rfl rfl 4 (by decide) (htl _ wd_60) (fun _ h9 => h9) rfl (by decide +kernel) rfl rfl (Nat.le_of_ble_eq_true rfl) dX7_setIsland_28 (fun H locs hP hD hS => ?_)
    have hP : va_P (dC, dI) vwCl [(q 4, .inr (7, [.ref (q 5), .ref (q 6), .ref (q 7), .ref (q 8), .long (isl ||| (1 <<< ((nI j).toInt64 &&& 63))), .int (nI br), .int st, .int so, .int (nI se)]))] H := hP
    have hD : va_D A [(q 4, .inr (7, [.ref (q 5), .ref (q 6), .ref (q 7), .ref (q 8), .long (isl ||| (1 <<< ((nI j).toInt64 &&& 63))), .int (nI br), .int st, .int so, .int (nI se)]))] := hD
    have hP9 := hP.sub (ws' := [(q 4, .inr (7, [.ref (q 5), .ref (q 6), .ref (q 7), .ref (q 8), .long (isl ||| (1 <<< ((nI j).toInt64 &&& 63))), .int (nI br), .int st, .int so, .int (nI se)]))]) [0] rfl
    have hD9 := hD.sub (ws' := [(q 4, .inr (7, [.ref (q 5), .ref (q 6), .ref (q 7), .ref (q 8), .long (isl ||| (1 <<< ((nI j).toInt64 &&& 63))), .int (nI br), .int st, .int so, .int (nI se)]))]) [0] (by decide) rfl
    exact W.vret hx hb hr (fun t ht hW => ⟨⟨(), rfl, trivial, by rw [ht]; unfold setI; rw [if_neg c_1]; exact hP9, va_K.moved hW.alike hK, (by unfold setI; rw [if_neg c_1]; exact hD9)⟩, hS.F ht⟩) hS.2.2 dX7_setIsland_31
set_option maxHeartbeats 4000000 in
set_option maxRecDepth 100000 in
theorem kX7_clear (l : Launch) (dC : Nat → ClassId) (dI : Nat → Nat → Nat) (ca : Nat → ClassId) (sz : Nat) (q : Nat → Nat) (isl : Int64) (br : Nat) (st : Int32) (so : Int32) (se : Nat) : Met l yX7_clear (Cond.code yX7_clear cX7_clear 1 none :: gT) (rk 1) (EFp (dC, dI) [(q 4, .inr (7, [.ref (q 5), .ref (q 6), .ref (q 7), .ref (q 8), .long isl, .int (nI br), .int st, .int so, .int (nI se)]))] (TY ca) sz [Value.ref (q 4)]) (va_Qv (fun (_ : Unit) => True) (EFb (dC, dI) (fun (_ : Unit) => [(q 4, .inr (7, [.ref (q 5), .ref (q 6), .ref (q 7), .ref (q 8), .long 0, .int (nI 0), .int (nI 0), .int (nI 0), .int (nI 0)]))]) (TY ca) (va_A [(q 4, .inr (7, [.ref (q 5), .ref (q 6), .ref (q 7), .ref (q 8), .long isl, .int (nI br), .int st, .int so, .int (nI se)]))] sz)) (va_A [(q 4, .inr (7, [.ref (q 5), .ref (q 6), .ref (q 7), .ref (q 8), .long isl, .int (nI br), .int st, .int so, .int (nI se)]))] sz)) 0 0 (va_A [(q 4, .inr (7, [.ref (q 5), .ref (q 6), .ref (q 7), .ref (q 8), .long isl, .int (nI br), .int st, .int so, .int (nI se)]))] sz) := by
  refine Met.ofW (cc := cX7_clear) (maxL := 1) (ret := none) (by decide) rfl ?_
  intro p e s m args below meth c s₁ B hml hv
  obtain ⟨rfl, hsz, hP, hK, hD0⟩ := hv
  have hx := B.exec
  have hb := B.bytes
  have hr := B.returns
  have hts := atoms_spec (ws := (Cond.code yX7_clear cX7_clear 1 none :: gT)) B.pre
  have htl : ∀ w ∈ gT, w.before _ s = true := fun w h => hts w (List.mem_cons_of_mem _ h)
  have hown : s.vm.findClass RX7 = some m.cls := findClass_of_methodNamed B.named
  have hlocks := B.notSynchronized
  subst hsz
  have hD := hD0.self (sz := s.heap.size)
  generalize hAe : va_A [(q 4, .inr (7, [.ref (q 5), .ref (q 6), .ref (q 7), .ref (q 8), .long isl, .int (nI br), .int st, .int so, .int (nI se)]))] s.heap.size = A at hD ⊢
  have hA : ∀ q : Nat, s.heap.size ≤ q → A q := fun q h => by rw [← hAe]; exact Or.inr h
  have hS : va_S A s.heap s.heap [] := va_S.rf
  have hl := lv_entry ([Value.ref (q 4)]) (n := 1) (Nat.le_of_ble_eq_true rfl)
  rw [lg_entry_eq]
  generalize (lg_sl ([Value.ref (q 4)]) ++ List.replicate (1 - (lg_sl ([Value.ref (q 4)])).length) Slot.unset).toArray = ls at hl ⊢
  have hl : lv_has ls 1 [(0, .ref (q 4))] := hl
  refine lv_aload_n hx hb dX7_clear_0 rfl (lv_at hl 0 rfl) ?_
  refine lv_lconst (v := 0) hx hb dX7_clear_1 (by decide) ?_
  refine va_put (D := (dC, dI)) (ci := 7) (v := .long 0) (ty := .long) (C := RX7) (T := TX7) (N := 9) hx hb htl iX7 tyX7 tyX7_ok nmX7 hown hK hP hD hS 0 rfl rfl 4 (by decide) (htl _ wd_60) (fun _ h9 => h9) rfl (by decide +kernel) rfl rfl (Nat.le_of_ble_eq_true rfl) dX7_clear_2 (fun H locs hP hD hS => ?_)
  have hP : va_P (dC, dI) vwCl [(q 4, .inr (7, [.ref (q 5), .ref (q 6), .ref (q 7), .ref (q 8), .long 0, .int (nI br), .int st, .int so, .int (nI se)]))] H := hP
  have hD : va_D A [(q 4, .inr (7, [.ref (q 5), .ref (q 6), .ref (q 7), .ref (q 8), .long 0, .int (nI br), .int st, .int so, .int (nI se)]))] := hD
  refine lv_aload_n hx hb dX7_clear_5 rfl (lv_at hl 0 rfl) ?_
  refine lv_iconst (v := nI 0) hx hb dX7_clear_6 (by decide) ?_
  refine va_put (D := (dC, dI)) (ci := 7) (v := .int (nI 0)) (ty := .int) (C := RX7) (T := TX7) (N := 9) hx hb htl iX7 tyX7 tyX7_ok nmX7 hown hK hP hD hS 0 rfl rfl 5 (by decide) (htl _ wd_62) (fun _ h9 => h9) rfl (by decide +kernel) rfl rfl (Nat.le_of_ble_eq_true rfl) dX7_clear_7 (fun H locs hP hD hS => ?_)
  have hP : va_P (dC, dI) vwCl [(q 4, .inr (7, [.ref (q 5), .ref (q 6), .ref (q 7), .ref (q 8), .long 0, .int (nI 0), .int st, .int so, .int (nI se)]))] H := hP
  have hD : va_D A [(q 4, .inr (7, [.ref (q 5), .ref (q 6), .ref (q 7), .ref (q 8), .long 0, .int (nI 0), .int st, .int so, .int (nI se)]))] := hD
  refine lv_aload_n hx hb dX7_clear_10 rfl (lv_at hl 0 rfl) ?_
  refine lv_iconst (v := nI 0) hx hb dX7_clear_11 (by decide) ?_
  refine va_put (D := (dC, dI)) (ci := 7) (v := .int (nI 0)) (ty := .int) (C := RX7) (T := TX7) (N := 9) hx hb htl iX7 tyX7 tyX7_ok nmX7 hown hK hP hD hS 0 rfl rfl 6 (by decide) (htl _ wd_64) (fun _ h9 => h9) rfl (by decide +kernel) rfl rfl (Nat.le_of_ble_eq_true rfl) dX7_clear_12 (fun H locs hP hD hS => ?_)
  have hP : va_P (dC, dI) vwCl [(q 4, .inr (7, [.ref (q 5), .ref (q 6), .ref (q 7), .ref (q 8), .long 0, .int (nI 0), .int (nI 0), .int so, .int (nI se)]))] H := hP
  have hD : va_D A [(q 4, .inr (7, [.ref (q 5), .ref (q 6), .ref (q 7), .ref (q 8), .long 0, .int (nI 0), .int (nI 0), .int so, .int (nI se)]))] := hD
  refine lv_aload_n hx hb dX7_clear_15 rfl (lv_at hl 0 rfl) ?_
  refine lv_iconst (v := nI 0) hx hb dX7_clear_16 (by decide) ?_
  refine va_put (D := (dC, dI)) (ci := 7) (v := .int (nI 0)) (ty := .int) (C := RX7) (T := TX7) (N := 9) hx hb htl iX7 tyX7 tyX7_ok nmX7 hown hK hP hD hS 0 rfl rfl 7 (by decide) (htl _ wd_66) (fun _ h9 => h9) rfl (by decide +kernel) rfl rfl (Nat.le_of_ble_eq_true rfl) dX7_clear_17 (fun H locs hP hD hS => ?_)
  have hP : va_P (dC, dI) vwCl [(q 4, .inr (7, [.ref (q 5), .ref (q 6), .ref (q 7), .ref (q 8), .long 0, .int (nI 0), .int (nI 0), .int (nI 0), .int (nI se)]))] H := hP
  have hD : va_D A [(q 4, .inr (7, [.ref (q 5), .ref (q 6), .ref (q 7), .ref (q 8), .long 0, .int (nI 0), .int (nI 0), .int (nI 0), .int (nI se)]))] := hD
  refine lv_aload_n hx hb dX7_clear_20 rfl (lv_at hl 0 rfl) ?_
  refine lv_iconst (v := nI 0) hx hb dX7_clear_21 (by decide) ?_
  refine va_put (D := (dC, dI)) (ci := 7) (v := .int (nI 0)) (ty := .int) (C := RX7) (T := TX7) (N := 9) hx hb htl iX7 tyX7 tyX7_ok nmX7 hown hK hP hD hS 0 rfl rfl 8 (by decide) (htl _ wd_68) (fun _ h9 => h9) rfl (by decide +kernel) rfl rfl (Nat.le_of_ble_eq_true rfl) dX7_clear_22 (fun H locs hP hD hS => ?_)
  have hP : va_P (dC, dI) vwCl [(q 4, .inr (7, [.ref (q 5), .ref (q 6), .ref (q 7), .ref (q 8), .long 0, .int (nI 0), .int (nI 0), .int (nI 0), .int (nI 0)]))] H := hP
  have hD : va_D A [(q 4, .inr (7, [.ref (q 5), .ref (q 6), .ref (q 7), .ref (q 8), .long 0, .int (nI 0), .int (nI 0), .int (nI 0), .int (nI 0)]))] := hD
  have hP9 := hP.sub (ws' := [(q 4, .inr (7, [.ref (q 5), .ref (q 6), .ref (q 7), .ref (q 8), .long 0, .int (nI 0), .int (nI 0), .int (nI 0), .int (nI 0)]))]) [0] rfl
  have hD9 := hD.sub (ws' := [(q 4, .inr (7, [.ref (q 5), .ref (q 6), .ref (q 7), .ref (q 8), .long 0, .int (nI 0), .int (nI 0), .int (nI 0), .int (nI 0)]))]) [0] (by decide) rfl
  exact W.vret hx hb hr (fun t ht hW => ⟨⟨(), rfl, trivial, by rw [ht]; exact hP9, va_K.moved hW.alike hK, hD9⟩, hS.F ht⟩) hS.2.2 dX7_clear_25
set_option maxHeartbeats 4000000 in
set_option maxRecDepth 100000 in
theorem kcopy_keep (l : Launch) (dC : Nat → ClassId) (dI : Nat → Nat → Nat) (ca : Nat → ClassId) (sz : Nat) (q : Nat → Nat) (isl : Int64) (br : Nat) (st : Int32) (so : Int32) (se : Nat) (hm : Nat → Nat) (sn : Nat → Nat) (sp : Nat → Nat) (sd : Nat → Nat) (kisl : Int64) (kbr : Nat) (kst : Int32) (kso : Int32) (kse : Nat) (khm : Nat → Nat) (ksn : Nat → Nat) (ksp : Nat → Nat) (ksd : Nat → Nat) : Met l yX7_copyFrom (Cond.code yX7_copyFrom cX7_copyFrom 2 none :: gT) (rk 2) (EFp (dC, dI) [(q 9, .inr (7, [.ref (q 10), .ref (q 11), .ref (q 12), .ref (q 13), .long kisl, .int (nI kbr), .int kst, .int kso, .int (nI kse)])), (q 10, .inl (ca 6, 4, .inl (fun zj => nI (khm zj)))), (q 11, .inl (ca 7, 6, .inl (fun zj => nI (ksn zj)))), (q 12, .inl (ca 8, 6, .inl (fun zj => nI (ksp zj)))), (q 13, .inl (ca 9, 6, .inl (fun zj => nI (ksd zj)))), (q 4, .inr (7, [.ref (q 5), .ref (q 6), .ref (q 7), .ref (q 8), .long isl, .int (nI br), .int st, .int so, .int (nI se)])), (q 5, .inl (ca 2, 4, .inl (fun zj => nI (hm zj)))), (q 6, .inl (ca 3, 6, .inl (fun zj => nI (sn zj)))), (q 7, .inl (ca 4, 6, .inl (fun zj => nI (sp zj)))), (q 8, .inl (ca 5, 6, .inl (fun zj => nI (sd zj))))] (TY ca) sz [Value.ref (q 9), Value.ref (q 4)]) (va_Qv (fun (_ : Unit) => True) (EFb (dC, dI) (fun (_ : Unit) => [(q 9, .inr (7, [.ref (q 10), .ref (q 11), .ref (q 12), .ref (q 13), .long isl, .int (nI br), .int st, .int so, .int (nI se)])), (q 10, .inl (ca 6, 4, .inl (fun zj => nI (hm zj)))), (q 11, .inl (ca 7, 6, .inl (fun zj => nI (sn zj)))), (q 12, .inl (ca 8, 6, .inl (fun zj => nI (sp zj)))), (q 13, .inl (ca 9, 6, .inl (fun zj => nI (sd zj)))), (q 4, .inr (7, [.ref (q 5), .ref (q 6), .ref (q 7), .ref (q 8), .long isl, .int (nI br), .int st, .int so, .int (nI se)])), (q 5, .inl (ca 2, 4, .inl (fun zj => nI (hm zj)))), (q 6, .inl (ca 3, 6, .inl (fun zj => nI (sn zj)))), (q 7, .inl (ca 4, 6, .inl (fun zj => nI (sp zj)))), (q 8, .inl (ca 5, 6, .inl (fun zj => nI (sd zj))))]) (TY ca) (va_A [(q 9, .inr (7, [.ref (q 10), .ref (q 11), .ref (q 12), .ref (q 13), .long kisl, .int (nI kbr), .int kst, .int kso, .int (nI kse)])), (q 10, .inl (ca 6, 4, .inl (fun zj => nI (khm zj)))), (q 11, .inl (ca 7, 6, .inl (fun zj => nI (ksn zj)))), (q 12, .inl (ca 8, 6, .inl (fun zj => nI (ksp zj)))), (q 13, .inl (ca 9, 6, .inl (fun zj => nI (ksd zj)))), (q 4, .inr (7, [.ref (q 5), .ref (q 6), .ref (q 7), .ref (q 8), .long isl, .int (nI br), .int st, .int so, .int (nI se)])), (q 5, .inl (ca 2, 4, .inl (fun zj => nI (hm zj)))), (q 6, .inl (ca 3, 6, .inl (fun zj => nI (sn zj)))), (q 7, .inl (ca 4, 6, .inl (fun zj => nI (sp zj)))), (q 8, .inl (ca 5, 6, .inl (fun zj => nI (sd zj))))] sz)) (va_A [(q 9, .inr (7, [.ref (q 10), .ref (q 11), .ref (q 12), .ref (q 13), .long kisl, .int (nI kbr), .int kst, .int kso, .int (nI kse)])), (q 10, .inl (ca 6, 4, .inl (fun zj => nI (khm zj)))), (q 11, .inl (ca 7, 6, .inl (fun zj => nI (ksn zj)))), (q 12, .inl (ca 8, 6, .inl (fun zj => nI (ksp zj)))), (q 13, .inl (ca 9, 6, .inl (fun zj => nI (ksd zj)))), (q 4, .inr (7, [.ref (q 5), .ref (q 6), .ref (q 7), .ref (q 8), .long isl, .int (nI br), .int st, .int so, .int (nI se)])), (q 5, .inl (ca 2, 4, .inl (fun zj => nI (hm zj)))), (q 6, .inl (ca 3, 6, .inl (fun zj => nI (sn zj)))), (q 7, .inl (ca 4, 6, .inl (fun zj => nI (sp zj)))), (q 8, .inl (ca 5, 6, .inl (fun zj => nI (sd zj))))] sz)) 0 0 (va_A [(q 9, .inr (7, [.ref (q 10), .ref (q 11), .ref (q 12), .ref (q 13), .long kisl, .int (nI kbr), .int kst, .int kso, .int (nI kse)])), (q 10, .inl (ca 6, 4, .inl (fun zj => nI (khm zj)))), (q 11, .inl (ca 7, 6, .inl (fun zj => nI (ksn zj)))), (q 12, .inl (ca 8, 6, .inl (fun zj => nI (ksp zj)))), (q 13, .inl (ca 9, 6, .inl (fun zj => nI (ksd zj)))), (q 4, .inr (7, [.ref (q 5), .ref (q 6), .ref (q 7), .ref (q 8), .long isl, .int (nI br), .int st, .int so, .int (nI se)])), (q 5, .inl (ca 2, 4, .inl (fun zj => nI (hm zj)))), (q 6, .inl (ca 3, 6, .inl (fun zj => nI (sn zj)))), (q 7, .inl (ca 4, 6, .inl (fun zj => nI (sp zj)))), (q 8, .inl (ca 5, 6, .inl (fun zj => nI (sd zj))))] sz) := by
  refine Met.ofW (cc := cX7_copyFrom) (maxL := 2) (ret := none) (by decide) rfl ?_
  intro p e s m args below meth c s₁ B hml hv
  obtain ⟨rfl, hsz, hP, hK, hD0⟩ := hv
  have hx := B.exec
  have hb := B.bytes
  have hr := B.returns
  have hts := atoms_spec (ws := (Cond.code yX7_copyFrom cX7_copyFrom 2 none :: gT)) B.pre
  have htl : ∀ w ∈ gT, w.before _ s = true := fun w h => hts w (List.mem_cons_of_mem _ h)
  have hown : s.vm.findClass RX7 = some m.cls := findClass_of_methodNamed B.named
  have hlocks := B.notSynchronized
  subst hsz
  have hD := hD0.self (sz := s.heap.size)
  generalize hAe : va_A [(q 9, .inr (7, [.ref (q 10), .ref (q 11), .ref (q 12), .ref (q 13), .long kisl, .int (nI kbr), .int kst, .int kso, .int (nI kse)])), (q 10, .inl (ca 6, 4, .inl (fun zj => nI (khm zj)))), (q 11, .inl (ca 7, 6, .inl (fun zj => nI (ksn zj)))), (q 12, .inl (ca 8, 6, .inl (fun zj => nI (ksp zj)))), (q 13, .inl (ca 9, 6, .inl (fun zj => nI (ksd zj)))), (q 4, .inr (7, [.ref (q 5), .ref (q 6), .ref (q 7), .ref (q 8), .long isl, .int (nI br), .int st, .int so, .int (nI se)])), (q 5, .inl (ca 2, 4, .inl (fun zj => nI (hm zj)))), (q 6, .inl (ca 3, 6, .inl (fun zj => nI (sn zj)))), (q 7, .inl (ca 4, 6, .inl (fun zj => nI (sp zj)))), (q 8, .inl (ca 5, 6, .inl (fun zj => nI (sd zj))))] s.heap.size = A at hD ⊢
  have hA : ∀ q : Nat, s.heap.size ≤ q → A q := fun q h => by rw [← hAe]; exact Or.inr h
  have hS : va_S A s.heap s.heap [] := va_S.rf
  have hl := lv_entry ([Value.ref (q 9), Value.ref (q 4)]) (n := 2) (Nat.le_of_ble_eq_true rfl)
  rw [lg_entry_eq]
  generalize (lg_sl ([Value.ref (q 9), Value.ref (q 4)]) ++ List.replicate (2 - (lg_sl ([Value.ref (q 9), Value.ref (q 4)])).length) Slot.unset).toArray = ls at hl ⊢
  have hl : lv_has ls 2 [(0, .ref (q 9)), (1, .ref (q 4))] := hl
  refine lv_aload_n hx hb dX7_copyFrom_0 rfl (lv_at hl 1 rfl) ?_
  refine va_get (D := (dC, dI)) (ci := 7) (v := .ref (q 5)) (C := RX7) (T := TX7) (N := 9) hx hb htl iX7 hown hK hP 5 rfl rfl 0 (by decide) (htl _ wd_52) (fun _ h9 => h9) rfl dX7_copyFrom_1 ?_
  refine lv_iconst (v := nI 0) hx hb dX7_copyFrom_4 (by decide) ?_
  refine lv_aload_n hx hb dX7_copyFrom_5 rfl (lv_at hl 0 rfl) ?_
  refine va_get (D := (dC, dI)) (ci := 7) (v := .ref (q 10)) (C := RX7) (T := TX7) (N := 9) hx hb htl iX7 hown hK hP 0 rfl rfl 0 (by decide) (htl _ wd_52) (fun _ h9 => h9) rfl dX7_copyFrom_6 ?_
  refine lv_iconst (v := nI 0) hx hb dX7_copyFrom_9 (by decide) ?_
  refine lv_iconst (v := nI 4) hx hb dX7_copyFrom_10 (by decide) ?_
  refine va_copyi hx hb (by rw [hml]; exact hl.1.symm) hown (htl _ wd_515) (htl _ wd_517) (htl _ wd_516) (htl _ wd_19) hK hP hD hS 6 1 2 6 rfl rfl rfl rfl rfl (by decide) (by decide) (by decide) (by decide) (by decide) (fun _ _ => rfl) (Nat.le_of_ble_eq_true rfl) (Nat.le_of_ble_eq_true rfl) dX7_copyFrom_11 (fun H locs hP hD hS => ?_)
  have hP := va_P_fn hP 1 (g := fun zj => nI (hm zj)) rfl (fun j hj => by show va_cpy _ _ 0 0 4 j = _; rw [pk_cpy_in (by omega) (by omega)]; simp)
  have hD := va_D.set (e := .inl (ca 6, 4, .inl (fun zj => nI (hm zj)))) hD (p := 1) rfl
  have hP : va_P (dC, dI) vwCl [(q 9, .inr (7, [.ref (q 10), .ref (q 11), .ref (q 12), .ref (q 13), .long kisl, .int (nI kbr), .int kst, .int kso, .int (nI kse)])), (q 10, .inl (ca 6, 4, .inl (fun zj => nI (hm zj)))), (q 11, .inl (ca 7, 6, .inl (fun zj => nI (ksn zj)))), (q 12, .inl (ca 8, 6, .inl (fun zj => nI (ksp zj)))), (q 13, .inl (ca 9, 6, .inl (fun zj => nI (ksd zj)))), (q 4, .inr (7, [.ref (q 5), .ref (q 6), .ref (q 7), .ref (q 8), .long isl, .int (nI br), .int st, .int so, .int (nI se)])), (q 5, .inl (ca 2, 4, .inl (fun zj => nI (hm zj)))), (q 6, .inl (ca 3, 6, .inl (fun zj => nI (sn zj)))), (q 7, .inl (ca 4, 6, .inl (fun zj => nI (sp zj)))), (q 8, .inl (ca 5, 6, .inl (fun zj => nI (sd zj))))] H := hP
  have hD : va_D A [(q 9, .inr (7, [.ref (q 10), .ref (q 11), .ref (q 12), .ref (q 13), .long kisl, .int (nI kbr), .int kst, .int kso, .int (nI kse)])), (q 10, .inl (ca 6, 4, .inl (fun zj => nI (hm zj)))), (q 11, .inl (ca 7, 6, .inl (fun zj => nI (ksn zj)))), (q 12, .inl (ca 8, 6, .inl (fun zj => nI (ksp zj)))), (q 13, .inl (ca 9, 6, .inl (fun zj => nI (ksd zj)))), (q 4, .inr (7, [.ref (q 5), .ref (q 6), .ref (q 7), .ref (q 8), .long isl, .int (nI br), .int st, .int so, .int (nI se)])), (q 5, .inl (ca 2, 4, .inl (fun zj => nI (hm zj)))), (q 6, .inl (ca 3, 6, .inl (fun zj => nI (sn zj)))), (q 7, .inl (ca 4, 6, .inl (fun zj => nI (sp zj)))), (q 8, .inl (ca 5, 6, .inl (fun zj => nI (sd zj))))] := hD
  refine lv_aload_n hx hb dX7_copyFrom_14 rfl (lv_at hl 1 rfl) ?_
  refine va_get (D := (dC, dI)) (ci := 7) (v := .ref (q 6)) (C := RX7) (T := TX7) (N := 9) hx hb htl iX7 hown hK hP 5 rfl rfl 1 (by decide) (htl _ wd_54) (fun _ h9 => h9) rfl dX7_copyFrom_15 ?_
  refine lv_iconst (v := nI 0) hx hb dX7_copyFrom_18 (by decide) ?_
  refine lv_aload_n hx hb dX7_copyFrom_19 rfl (lv_at hl 0 rfl) ?_
  refine va_get (D := (dC, dI)) (ci := 7) (v := .ref (q 11)) (C := RX7) (T := TX7) (N := 9) hx hb htl iX7 hown hK hP 0 rfl rfl 1 (by decide) (htl _ wd_54) (fun _ h9 => h9) rfl dX7_copyFrom_20 ?_
  refine lv_iconst (v := nI 0) hx hb dX7_copyFrom_23 (by decide) ?_
  refine lv_bipush (v := nI 6) hx hb dX7_copyFrom_24 (by decide) ?_
  refine va_copyi hx hb (by rw [hml]; exact hl.1.symm) hown (htl _ wd_515) (htl _ wd_517) (htl _ wd_516) (htl _ wd_19) hK hP hD hS 7 2 3 7 rfl rfl rfl rfl rfl (by decide) (by decide) (by decide) (by decide) (by decide) (fun _ _ => rfl) (Nat.le_of_ble_eq_true rfl) (Nat.le_of_ble_eq_true rfl) dX7_copyFrom_26 (fun H locs hP hD hS => ?_)
  have hP := va_P_fn hP 2 (g := fun zj => nI (sn zj)) rfl (fun j hj => by show va_cpy _ _ 0 0 6 j = _; rw [pk_cpy_in (by omega) (by omega)]; simp)
  have hD := va_D.set (e := .inl (ca 7, 6, .inl (fun zj => nI (sn zj)))) hD (p := 2) rfl
  have hP : va_P (dC, dI) vwCl [(q 9, .inr (7, [.ref (q 10), .ref (q 11), .ref (q 12), .ref (q 13), .long kisl, .int (nI kbr), .int kst, .int kso, .int (nI kse)])), (q 10, .inl (ca 6, 4, .inl (fun zj => nI (hm zj)))), (q 11, .inl (ca 7, 6, .inl (fun zj => nI (sn zj)))), (q 12, .inl (ca 8, 6, .inl (fun zj => nI (ksp zj)))), (q 13, .inl (ca 9, 6, .inl (fun zj => nI (ksd zj)))), (q 4, .inr (7, [.ref (q 5), .ref (q 6), .ref (q 7), .ref (q 8), .long isl, .int (nI br), .int st, .int so, .int (nI se)])), (q 5, .inl (ca 2, 4, .inl (fun zj => nI (hm zj)))), (q 6, .inl (ca 3, 6, .inl (fun zj => nI (sn zj)))), (q 7, .inl (ca 4, 6, .inl (fun zj => nI (sp zj)))), (q 8, .inl (ca 5, 6, .inl (fun zj => nI (sd zj))))] H := hP
  have hD : va_D A [(q 9, .inr (7, [.ref (q 10), .ref (q 11), .ref (q 12), .ref (q 13), .long kisl, .int (nI kbr), .int kst, .int kso, .int (nI kse)])), (q 10, .inl (ca 6, 4, .inl (fun zj => nI (hm zj)))), (q 11, .inl (ca 7, 6, .inl (fun zj => nI (sn zj)))), (q 12, .inl (ca 8, 6, .inl (fun zj => nI (ksp zj)))), (q 13, .inl (ca 9, 6, .inl (fun zj => nI (ksd zj)))), (q 4, .inr (7, [.ref (q 5), .ref (q 6), .ref (q 7), .ref (q 8), .long isl, .int (nI br), .int st, .int so, .int (nI se)])), (q 5, .inl (ca 2, 4, .inl (fun zj => nI (hm zj)))), (q 6, .inl (ca 3, 6, .inl (fun zj => nI (sn zj)))), (q 7, .inl (ca 4, 6, .inl (fun zj => nI (sp zj)))), (q 8, .inl (ca 5, 6, .inl (fun zj => nI (sd zj))))] := hD
  refine lv_aload_n hx hb dX7_copyFrom_29 rfl (lv_at hl 1 rfl) ?_
  refine va_get (D := (dC, dI)) (ci := 7) (v := .ref (q 7)) (C := RX7) (T := TX7) (N := 9) hx hb htl iX7 hown hK hP 5 rfl rfl 2 (by decide) (htl _ wd_56) (fun _ h9 => h9) rfl dX7_copyFrom_30 ?_
  refine lv_iconst (v := nI 0) hx hb dX7_copyFrom_33 (by decide) ?_
  refine lv_aload_n hx hb dX7_copyFrom_34 rfl (lv_at hl 0 rfl) ?_
  refine va_get (D := (dC, dI)) (ci := 7) (v := .ref (q 12)) (C := RX7) (T := TX7) (N := 9) hx hb htl iX7 hown hK hP 0 rfl rfl 2 (by decide) (htl _ wd_56) (fun _ h9 => h9) rfl dX7_copyFrom_35 ?_
  refine lv_iconst (v := nI 0) hx hb dX7_copyFrom_38 (by decide) ?_
  refine lv_bipush (v := nI 6) hx hb dX7_copyFrom_39 (by decide) ?_
  refine va_copyi hx hb (by rw [hml]; exact hl.1.symm) hown (htl _ wd_515) (htl _ wd_517) (htl _ wd_516) (htl _ wd_19) hK hP hD hS 8 3 4 8 rfl rfl rfl rfl rfl (by decide) (by decide) (by decide) (by decide) (by decide) (fun _ _ => rfl) (Nat.le_of_ble_eq_true rfl) (Nat.le_of_ble_eq_true rfl) dX7_copyFrom_41 (fun H locs hP hD hS => ?_)
  have hP := va_P_fn hP 3 (g := fun zj => nI (sp zj)) rfl (fun j hj => by show va_cpy _ _ 0 0 6 j = _; rw [pk_cpy_in (by omega) (by omega)]; simp)
  have hD := va_D.set (e := .inl (ca 8, 6, .inl (fun zj => nI (sp zj)))) hD (p := 3) rfl
  have hP : va_P (dC, dI) vwCl [(q 9, .inr (7, [.ref (q 10), .ref (q 11), .ref (q 12), .ref (q 13), .long kisl, .int (nI kbr), .int kst, .int kso, .int (nI kse)])), (q 10, .inl (ca 6, 4, .inl (fun zj => nI (hm zj)))), (q 11, .inl (ca 7, 6, .inl (fun zj => nI (sn zj)))), (q 12, .inl (ca 8, 6, .inl (fun zj => nI (sp zj)))), (q 13, .inl (ca 9, 6, .inl (fun zj => nI (ksd zj)))), (q 4, .inr (7, [.ref (q 5), .ref (q 6), .ref (q 7), .ref (q 8), .long isl, .int (nI br), .int st, .int so, .int (nI se)])), (q 5, .inl (ca 2, 4, .inl (fun zj => nI (hm zj)))), (q 6, .inl (ca 3, 6, .inl (fun zj => nI (sn zj)))), (q 7, .inl (ca 4, 6, .inl (fun zj => nI (sp zj)))), (q 8, .inl (ca 5, 6, .inl (fun zj => nI (sd zj))))] H := hP
  have hD : va_D A [(q 9, .inr (7, [.ref (q 10), .ref (q 11), .ref (q 12), .ref (q 13), .long kisl, .int (nI kbr), .int kst, .int kso, .int (nI kse)])), (q 10, .inl (ca 6, 4, .inl (fun zj => nI (hm zj)))), (q 11, .inl (ca 7, 6, .inl (fun zj => nI (sn zj)))), (q 12, .inl (ca 8, 6, .inl (fun zj => nI (sp zj)))), (q 13, .inl (ca 9, 6, .inl (fun zj => nI (ksd zj)))), (q 4, .inr (7, [.ref (q 5), .ref (q 6), .ref (q 7), .ref (q 8), .long isl, .int (nI br), .int st, .int so, .int (nI se)])), (q 5, .inl (ca 2, 4, .inl (fun zj => nI (hm zj)))), (q 6, .inl (ca 3, 6, .inl (fun zj => nI (sn zj)))), (q 7, .inl (ca 4, 6, .inl (fun zj => nI (sp zj)))), (q 8, .inl (ca 5, 6, .inl (fun zj => nI (sd zj))))] := hD
  refine lv_aload_n hx hb dX7_copyFrom_44 rfl (lv_at hl 1 rfl) ?_
  refine va_get (D := (dC, dI)) (ci := 7) (v := .ref (q 8)) (C := RX7) (T := TX7) (N := 9) hx hb htl iX7 hown hK hP 5 rfl rfl 3 (by decide) (htl _ wd_58) (fun _ h9 => h9) rfl dX7_copyFrom_45 ?_
  refine lv_iconst (v := nI 0) hx hb dX7_copyFrom_48 (by decide) ?_
  refine lv_aload_n hx hb dX7_copyFrom_49 rfl (lv_at hl 0 rfl) ?_
  refine va_get (D := (dC, dI)) (ci := 7) (v := .ref (q 13)) (C := RX7) (T := TX7) (N := 9) hx hb htl iX7 hown hK hP 0 rfl rfl 3 (by decide) (htl _ wd_58) (fun _ h9 => h9) rfl dX7_copyFrom_50 ?_
  refine lv_iconst (v := nI 0) hx hb dX7_copyFrom_53 (by decide) ?_
  refine lv_bipush (v := nI 6) hx hb dX7_copyFrom_54 (by decide) ?_
  refine va_copyi hx hb (by rw [hml]; exact hl.1.symm) hown (htl _ wd_515) (htl _ wd_517) (htl _ wd_516) (htl _ wd_19) hK hP hD hS 9 4 5 9 rfl rfl rfl rfl rfl (by decide) (by decide) (by decide) (by decide) (by decide) (fun _ _ => rfl) (Nat.le_of_ble_eq_true rfl) (Nat.le_of_ble_eq_true rfl) dX7_copyFrom_56 (fun H locs hP hD hS => ?_)
  have hP := va_P_fn hP 4 (g := fun zj => nI (sd zj)) rfl (fun j hj => by show va_cpy _ _ 0 0 6 j = _; rw [pk_cpy_in (by omega) (by omega)]; simp)
  have hD := va_D.set (e := .inl (ca 9, 6, .inl (fun zj => nI (sd zj)))) hD (p := 4) rfl
  have hP : va_P (dC, dI) vwCl [(q 9, .inr (7, [.ref (q 10), .ref (q 11), .ref (q 12), .ref (q 13), .long kisl, .int (nI kbr), .int kst, .int kso, .int (nI kse)])), (q 10, .inl (ca 6, 4, .inl (fun zj => nI (hm zj)))), (q 11, .inl (ca 7, 6, .inl (fun zj => nI (sn zj)))), (q 12, .inl (ca 8, 6, .inl (fun zj => nI (sp zj)))), (q 13, .inl (ca 9, 6, .inl (fun zj => nI (sd zj)))), (q 4, .inr (7, [.ref (q 5), .ref (q 6), .ref (q 7), .ref (q 8), .long isl, .int (nI br), .int st, .int so, .int (nI se)])), (q 5, .inl (ca 2, 4, .inl (fun zj => nI (hm zj)))), (q 6, .inl (ca 3, 6, .inl (fun zj => nI (sn zj)))), (q 7, .inl (ca 4, 6, .inl (fun zj => nI (sp zj)))), (q 8, .inl (ca 5, 6, .inl (fun zj => nI (sd zj))))] H := hP
  have hD : va_D A [(q 9, .inr (7, [.ref (q 10), .ref (q 11), .ref (q 12), .ref (q 13), .long kisl, .int (nI kbr), .int kst, .int kso, .int (nI kse)])), (q 10, .inl (ca 6, 4, .inl (fun zj => nI (hm zj)))), (q 11, .inl (ca 7, 6, .inl (fun zj => nI (sn zj)))), (q 12, .inl (ca 8, 6, .inl (fun zj => nI (sp zj)))), (q 13, .inl (ca 9, 6, .inl (fun zj => nI (sd zj)))), (q 4, .inr (7, [.ref (q 5), .ref (q 6), .ref (q 7), .ref (q 8), .long isl, .int (nI br), .int st, .int so, .int (nI se)])), (q 5, .inl (ca 2, 4, .inl (fun zj => nI (hm zj)))), (q 6, .inl (ca 3, 6, .inl (fun zj => nI (sn zj)))), (q 7, .inl (ca 4, 6, .inl (fun zj => nI (sp zj)))), (q 8, .inl (ca 5, 6, .inl (fun zj => nI (sd zj))))] := hD
  refine lv_aload_n hx hb dX7_copyFrom_59 rfl (lv_at hl 0 rfl) ?_
  refine lv_aload_n hx hb dX7_copyFrom_60 rfl (lv_at hl 1 rfl) ?_
  refine va_get (D := (dC, dI)) (ci := 7) (v := .long isl) (C := RX7) (T := TX7) (N := 9) hx hb htl iX7 hown hK hP 5 rfl rfl 4 (by decide) (htl _ wd_60) (fun _ h9 => h9) rfl dX7_copyFrom_61 ?_
  refine va_put (D := (dC, dI)) (ci := 7) (v := .long isl) (ty := .long) (C := RX7) (T := TX7) (N := 9) hx hb htl iX7 tyX7 tyX7_ok nmX7 hown hK hP hD hS 0 rfl rfl 4 (by decide) (htl _ wd_60) (fun _ h9 => h9) rfl (by decide +kernel) rfl rfl (Nat.le_of_ble_eq_true rfl) dX7_copyFrom_64 (fun H locs hP hD hS => ?_)
  have hP : va_P (dC, dI) vwCl [(q 9, .inr (7, [.ref (q 10), .ref (q 11), .ref (q 12), .ref (q 13), .long isl, .int (nI kbr), .int kst, .int kso, .int (nI kse)])), (q 10, .inl (ca 6, 4, .inl (fun zj => nI (hm zj)))), (q 11, .inl (ca 7, 6, .inl (fun zj => nI (sn zj)))), (q 12, .inl (ca 8, 6, .inl (fun zj => nI (sp zj)))), (q 13, .inl (ca 9, 6, .inl (fun zj => nI (sd zj)))), (q 4, .inr (7, [.ref (q 5), .ref (q 6), .ref (q 7), .ref (q 8), .long isl, .int (nI br), .int st, .int so, .int (nI se)])), (q 5, .inl (ca 2, 4, .inl (fun zj => nI (hm zj)))), (q 6, .inl (ca 3, 6, .inl (fun zj => nI (sn zj)))), (q 7, .inl (ca 4, 6, .inl (fun zj => nI (sp zj)))), (q 8, .inl (ca 5, 6, .inl (fun zj => nI (sd zj))))] H := hP
  have hD : va_D A [(q 9, .inr (7, [.ref (q 10), .ref (q 11), .ref (q 12), .ref (q 13), .long isl, .int (nI kbr), .int kst, .int kso, .int (nI kse)])), (q 10, .inl (ca 6, 4, .inl (fun zj => nI (hm zj)))), (q 11, .inl (ca 7, 6, .inl (fun zj => nI (sn zj)))), (q 12, .inl (ca 8, 6, .inl (fun zj => nI (sp zj)))), (q 13, .inl (ca 9, 6, .inl (fun zj => nI (sd zj)))), (q 4, .inr (7, [.ref (q 5), .ref (q 6), .ref (q 7), .ref (q 8), .long isl, .int (nI br), .int st, .int so, .int (nI se)])), (q 5, .inl (ca 2, 4, .inl (fun zj => nI (hm zj)))), (q 6, .inl (ca 3, 6, .inl (fun zj => nI (sn zj)))), (q 7, .inl (ca 4, 6, .inl (fun zj => nI (sp zj)))), (q 8, .inl (ca 5, 6, .inl (fun zj => nI (sd zj))))] := hD
  refine lv_aload_n hx hb dX7_copyFrom_67 rfl (lv_at hl 0 rfl) ?_
  refine lv_aload_n hx hb dX7_copyFrom_68 rfl (lv_at hl 1 rfl) ?_
  refine va_get (D := (dC, dI)) (ci := 7) (v := .int (nI br)) (C := RX7) (T := TX7) (N := 9) hx hb htl iX7 hown hK hP 5 rfl rfl 5 (by decide) (htl _ wd_62) (fun _ h9 => h9) rfl dX7_copyFrom_69 ?_
  refine va_put (D := (dC, dI)) (ci := 7) (v := .int (nI br)) (ty := .int) (C := RX7) (T := TX7) (N := 9) hx hb htl iX7 tyX7 tyX7_ok nmX7 hown hK hP hD hS 0 rfl rfl 5 (by decide) (htl _ wd_62) (fun _ h9 => h9) rfl (by decide +kernel) rfl rfl (Nat.le_of_ble_eq_true rfl) dX7_copyFrom_72 (fun H locs hP hD hS => ?_)
  have hP : va_P (dC, dI) vwCl [(q 9, .inr (7, [.ref (q 10), .ref (q 11), .ref (q 12), .ref (q 13), .long isl, .int (nI br), .int kst, .int kso, .int (nI kse)])), (q 10, .inl (ca 6, 4, .inl (fun zj => nI (hm zj)))), (q 11, .inl (ca 7, 6, .inl (fun zj => nI (sn zj)))), (q 12, .inl (ca 8, 6, .inl (fun zj => nI (sp zj)))), (q 13, .inl (ca 9, 6, .inl (fun zj => nI (sd zj)))), (q 4, .inr (7, [.ref (q 5), .ref (q 6), .ref (q 7), .ref (q 8), .long isl, .int (nI br), .int st, .int so, .int (nI se)])), (q 5, .inl (ca 2, 4, .inl (fun zj => nI (hm zj)))), (q 6, .inl (ca 3, 6, .inl (fun zj => nI (sn zj)))), (q 7, .inl (ca 4, 6, .inl (fun zj => nI (sp zj)))), (q 8, .inl (ca 5, 6, .inl (fun zj => nI (sd zj))))] H := hP
  have hD : va_D A [(q 9, .inr (7, [.ref (q 10), .ref (q 11), .ref (q 12), .ref (q 13), .long isl, .int (nI br), .int kst, .int kso, .int (nI kse)])), (q 10, .inl (ca 6, 4, .inl (fun zj => nI (hm zj)))), (q 11, .inl (ca 7, 6, .inl (fun zj => nI (sn zj)))), (q 12, .inl (ca 8, 6, .inl (fun zj => nI (sp zj)))), (q 13, .inl (ca 9, 6, .inl (fun zj => nI (sd zj)))), (q 4, .inr (7, [.ref (q 5), .ref (q 6), .ref (q 7), .ref (q 8), .long isl, .int (nI br), .int st, .int so, .int (nI se)])), (q 5, .inl (ca 2, 4, .inl (fun zj => nI (hm zj)))), (q 6, .inl (ca 3, 6, .inl (fun zj => nI (sn zj)))), (q 7, .inl (ca 4, 6, .inl (fun zj => nI (sp zj)))), (q 8, .inl (ca 5, 6, .inl (fun zj => nI (sd zj))))] := hD
  refine lv_aload_n hx hb dX7_copyFrom_75 rfl (lv_at hl 0 rfl) ?_
  refine lv_aload_n hx hb dX7_copyFrom_76 rfl (lv_at hl 1 rfl) ?_
  refine va_get (D := (dC, dI)) (ci := 7) (v := .int st) (C := RX7) (T := TX7) (N := 9) hx hb htl iX7 hown hK hP 5 rfl rfl 6 (by decide) (htl _ wd_64) (fun _ h9 => h9) rfl dX7_copyFrom_77 ?_
  refine va_put (D := (dC, dI)) (ci := 7) (v := .int st) (ty := .int) (C := RX7) (T := TX7) (N := 9) hx hb htl iX7 tyX7 tyX7_ok nmX7 hown hK hP hD hS 0 rfl rfl 6 (by decide) (htl _ wd_64) (fun _ h9 => h9) rfl (by decide +kernel) rfl rfl (Nat.le_of_ble_eq_true rfl) dX7_copyFrom_80 (fun H locs hP hD hS => ?_)
  have hP : va_P (dC, dI) vwCl [(q 9, .inr (7, [.ref (q 10), .ref (q 11), .ref (q 12), .ref (q 13), .long isl, .int (nI br), .int st, .int kso, .int (nI kse)])), (q 10, .inl (ca 6, 4, .inl (fun zj => nI (hm zj)))), (q 11, .inl (ca 7, 6, .inl (fun zj => nI (sn zj)))), (q 12, .inl (ca 8, 6, .inl (fun zj => nI (sp zj)))), (q 13, .inl (ca 9, 6, .inl (fun zj => nI (sd zj)))), (q 4, .inr (7, [.ref (q 5), .ref (q 6), .ref (q 7), .ref (q 8), .long isl, .int (nI br), .int st, .int so, .int (nI se)])), (q 5, .inl (ca 2, 4, .inl (fun zj => nI (hm zj)))), (q 6, .inl (ca 3, 6, .inl (fun zj => nI (sn zj)))), (q 7, .inl (ca 4, 6, .inl (fun zj => nI (sp zj)))), (q 8, .inl (ca 5, 6, .inl (fun zj => nI (sd zj))))] H := hP
  have hD : va_D A [(q 9, .inr (7, [.ref (q 10), .ref (q 11), .ref (q 12), .ref (q 13), .long isl, .int (nI br), .int st, .int kso, .int (nI kse)])), (q 10, .inl (ca 6, 4, .inl (fun zj => nI (hm zj)))), (q 11, .inl (ca 7, 6, .inl (fun zj => nI (sn zj)))), (q 12, .inl (ca 8, 6, .inl (fun zj => nI (sp zj)))), (q 13, .inl (ca 9, 6, .inl (fun zj => nI (sd zj)))), (q 4, .inr (7, [.ref (q 5), .ref (q 6), .ref (q 7), .ref (q 8), .long isl, .int (nI br), .int st, .int so, .int (nI se)])), (q 5, .inl (ca 2, 4, .inl (fun zj => nI (hm zj)))), (q 6, .inl (ca 3, 6, .inl (fun zj => nI (sn zj)))), (q 7, .inl (ca 4, 6, .inl (fun zj => nI (sp zj)))), (q 8, .inl (ca 5, 6, .inl (fun zj => nI (sd zj))))] := hD
  refine lv_aload_n hx hb dX7_copyFrom_83 rfl (lv_at hl 0 rfl) ?_
  refine lv_aload_n hx hb dX7_copyFrom_84 rfl (lv_at hl 1 rfl) ?_
  refine va_get (D := (dC, dI)) (ci := 7) (v := .int so) (C := RX7) (T := TX7) (N := 9) hx hb htl iX7 hown hK hP 5 rfl rfl 7 (by decide) (htl _ wd_66) (fun _ h9 => h9) rfl dX7_copyFrom_85 ?_
  refine va_put (D := (dC, dI)) (ci := 7) (v := .int so) (ty := .int) (C := RX7) (T := TX7) (N := 9) hx hb htl iX7 tyX7 tyX7_ok nmX7 hown hK hP hD hS 0 rfl rfl 7 (by decide) (htl _ wd_66) (fun _ h9 => h9) rfl (by decide +kernel) rfl rfl (Nat.le_of_ble_eq_true rfl) dX7_copyFrom_88 (fun H locs hP hD hS => ?_)
  have hP : va_P (dC, dI) vwCl [(q 9, .inr (7, [.ref (q 10), .ref (q 11), .ref (q 12), .ref (q 13), .long isl, .int (nI br), .int st, .int so, .int (nI kse)])), (q 10, .inl (ca 6, 4, .inl (fun zj => nI (hm zj)))), (q 11, .inl (ca 7, 6, .inl (fun zj => nI (sn zj)))), (q 12, .inl (ca 8, 6, .inl (fun zj => nI (sp zj)))), (q 13, .inl (ca 9, 6, .inl (fun zj => nI (sd zj)))), (q 4, .inr (7, [.ref (q 5), .ref (q 6), .ref (q 7), .ref (q 8), .long isl, .int (nI br), .int st, .int so, .int (nI se)])), (q 5, .inl (ca 2, 4, .inl (fun zj => nI (hm zj)))), (q 6, .inl (ca 3, 6, .inl (fun zj => nI (sn zj)))), (q 7, .inl (ca 4, 6, .inl (fun zj => nI (sp zj)))), (q 8, .inl (ca 5, 6, .inl (fun zj => nI (sd zj))))] H := hP
  have hD : va_D A [(q 9, .inr (7, [.ref (q 10), .ref (q 11), .ref (q 12), .ref (q 13), .long isl, .int (nI br), .int st, .int so, .int (nI kse)])), (q 10, .inl (ca 6, 4, .inl (fun zj => nI (hm zj)))), (q 11, .inl (ca 7, 6, .inl (fun zj => nI (sn zj)))), (q 12, .inl (ca 8, 6, .inl (fun zj => nI (sp zj)))), (q 13, .inl (ca 9, 6, .inl (fun zj => nI (sd zj)))), (q 4, .inr (7, [.ref (q 5), .ref (q 6), .ref (q 7), .ref (q 8), .long isl, .int (nI br), .int st, .int so, .int (nI se)])), (q 5, .inl (ca 2, 4, .inl (fun zj => nI (hm zj)))), (q 6, .inl (ca 3, 6, .inl (fun zj => nI (sn zj)))), (q 7, .inl (ca 4, 6, .inl (fun zj => nI (sp zj)))), (q 8, .inl (ca 5, 6, .inl (fun zj => nI (sd zj))))] := hD
  refine lv_aload_n hx hb dX7_copyFrom_91 rfl (lv_at hl 0 rfl) ?_
  refine lv_aload_n hx hb dX7_copyFrom_92 rfl (lv_at hl 1 rfl) ?_
  refine va_get (D := (dC, dI)) (ci := 7) (v := .int (nI se)) (C := RX7) (T := TX7) (N := 9) hx hb htl iX7 hown hK hP 5 rfl rfl 8 (by decide) (htl _ wd_68) (fun _ h9 => h9) rfl dX7_copyFrom_93 ?_
  refine va_put (D := (dC, dI)) (ci := 7) (v := .int (nI se)) (ty := .int) (C := RX7) (T := TX7) (N := 9) hx hb htl iX7 tyX7 tyX7_ok nmX7 hown hK hP hD hS 0 rfl rfl 8 (by decide) (htl _ wd_68) (fun _ h9 => h9) rfl (by decide +kernel) rfl rfl (Nat.le_of_ble_eq_true rfl) dX7_copyFrom_96 (fun H locs hP hD hS => ?_)
  have hP : va_P (dC, dI) vwCl [(q 9, .inr (7, [.ref (q 10), .ref (q 11), .ref (q 12), .ref (q 13), .long isl, .int (nI br), .int st, .int so, .int (nI se)])), (q 10, .inl (ca 6, 4, .inl (fun zj => nI (hm zj)))), (q 11, .inl (ca 7, 6, .inl (fun zj => nI (sn zj)))), (q 12, .inl (ca 8, 6, .inl (fun zj => nI (sp zj)))), (q 13, .inl (ca 9, 6, .inl (fun zj => nI (sd zj)))), (q 4, .inr (7, [.ref (q 5), .ref (q 6), .ref (q 7), .ref (q 8), .long isl, .int (nI br), .int st, .int so, .int (nI se)])), (q 5, .inl (ca 2, 4, .inl (fun zj => nI (hm zj)))), (q 6, .inl (ca 3, 6, .inl (fun zj => nI (sn zj)))), (q 7, .inl (ca 4, 6, .inl (fun zj => nI (sp zj)))), (q 8, .inl (ca 5, 6, .inl (fun zj => nI (sd zj))))] H := hP
  have hD : va_D A [(q 9, .inr (7, [.ref (q 10), .ref (q 11), .ref (q 12), .ref (q 13), .long isl, .int (nI br), .int st, .int so, .int (nI se)])), (q 10, .inl (ca 6, 4, .inl (fun zj => nI (hm zj)))), (q 11, .inl (ca 7, 6, .inl (fun zj => nI (sn zj)))), (q 12, .inl (ca 8, 6, .inl (fun zj => nI (sp zj)))), (q 13, .inl (ca 9, 6, .inl (fun zj => nI (sd zj)))), (q 4, .inr (7, [.ref (q 5), .ref (q 6), .ref (q 7), .ref (q 8), .long isl, .int (nI br), .int st, .int so, .int (nI se)])), (q 5, .inl (ca 2, 4, .inl (fun zj => nI (hm zj)))), (q 6, .inl (ca 3, 6, .inl (fun zj => nI (sn zj)))), (q 7, .inl (ca 4, 6, .inl (fun zj => nI (sp zj)))), (q 8, .inl (ca 5, 6, .inl (fun zj => nI (sd zj))))] := hD
  have hP9 := hP.sub (ws' := [(q 9, .inr (7, [.ref (q 10), .ref (q 11), .ref (q 12), .ref (q 13), .long isl, .int (nI br), .int st, .int so, .int (nI se)])), (q 10, .inl (ca 6, 4, .inl (fun zj => nI (hm zj)))), (q 11, .inl (ca 7, 6, .inl (fun zj => nI (sn zj)))), (q 12, .inl (ca 8, 6, .inl (fun zj => nI (sp zj)))), (q 13, .inl (ca 9, 6, .inl (fun zj => nI (sd zj)))), (q 4, .inr (7, [.ref (q 5), .ref (q 6), .ref (q 7), .ref (q 8), .long isl, .int (nI br), .int st, .int so, .int (nI se)])), (q 5, .inl (ca 2, 4, .inl (fun zj => nI (hm zj)))), (q 6, .inl (ca 3, 6, .inl (fun zj => nI (sn zj)))), (q 7, .inl (ca 4, 6, .inl (fun zj => nI (sp zj)))), (q 8, .inl (ca 5, 6, .inl (fun zj => nI (sd zj))))]) [0, 1, 2, 3, 4, 5, 6, 7, 8, 9] rfl
  have hD9 := hD.sub (ws' := [(q 9, .inr (7, [.ref (q 10), .ref (q 11), .ref (q 12), .ref (q 13), .long isl, .int (nI br), .int st, .int so, .int (nI se)])), (q 10, .inl (ca 6, 4, .inl (fun zj => nI (hm zj)))), (q 11, .inl (ca 7, 6, .inl (fun zj => nI (sn zj)))), (q 12, .inl (ca 8, 6, .inl (fun zj => nI (sp zj)))), (q 13, .inl (ca 9, 6, .inl (fun zj => nI (sd zj)))), (q 4, .inr (7, [.ref (q 5), .ref (q 6), .ref (q 7), .ref (q 8), .long isl, .int (nI br), .int st, .int so, .int (nI se)])), (q 5, .inl (ca 2, 4, .inl (fun zj => nI (hm zj)))), (q 6, .inl (ca 3, 6, .inl (fun zj => nI (sn zj)))), (q 7, .inl (ca 4, 6, .inl (fun zj => nI (sp zj)))), (q 8, .inl (ca 5, 6, .inl (fun zj => nI (sd zj))))]) [0, 1, 2, 3, 4, 5, 6, 7, 8, 9] (by decide) rfl
  exact W.vret hx hb hr (fun t ht hW => ⟨⟨(), rfl, trivial, by rw [ht]; exact hP9, va_K.moved hW.alike hK, hD9⟩, hS.F ht⟩) hS.2.2 dX7_copyFrom_99
set_option maxHeartbeats 4000000 in
set_option maxRecDepth 100000 in
theorem kcopy_back (l : Launch) (dC : Nat → ClassId) (dI : Nat → Nat → Nat) (ca : Nat → ClassId) (sz : Nat) (q : Nat → Nat) (isl : Int64) (br : Nat) (st : Int32) (so : Int32) (se : Nat) (hm : Nat → Nat) (sn : Nat → Nat) (sp : Nat → Nat) (sd : Nat → Nat) (kisl : Int64) (kbr : Nat) (kst : Int32) (kso : Int32) (kse : Nat) (khm : Nat → Nat) (ksn : Nat → Nat) (ksp : Nat → Nat) (ksd : Nat → Nat) : Met l yX7_copyFrom (Cond.code yX7_copyFrom cX7_copyFrom 2 none :: gT) (rk 2) (EFp (dC, dI) [(q 9, .inr (7, [.ref (q 10), .ref (q 11), .ref (q 12), .ref (q 13), .long kisl, .int (nI kbr), .int kst, .int kso, .int (nI kse)])), (q 10, .inl (ca 6, 4, .inl (fun zj => nI (khm zj)))), (q 11, .inl (ca 7, 6, .inl (fun zj => nI (ksn zj)))), (q 12, .inl (ca 8, 6, .inl (fun zj => nI (ksp zj)))), (q 13, .inl (ca 9, 6, .inl (fun zj => nI (ksd zj)))), (q 4, .inr (7, [.ref (q 5), .ref (q 6), .ref (q 7), .ref (q 8), .long isl, .int (nI br), .int st, .int so, .int (nI se)])), (q 5, .inl (ca 2, 4, .inl (fun zj => nI (hm zj)))), (q 6, .inl (ca 3, 6, .inl (fun zj => nI (sn zj)))), (q 7, .inl (ca 4, 6, .inl (fun zj => nI (sp zj)))), (q 8, .inl (ca 5, 6, .inl (fun zj => nI (sd zj))))] (TY ca) sz [Value.ref (q 4), Value.ref (q 9)]) (va_Qv (fun (_ : Unit) => True) (EFb (dC, dI) (fun (_ : Unit) => [(q 9, .inr (7, [.ref (q 10), .ref (q 11), .ref (q 12), .ref (q 13), .long kisl, .int (nI kbr), .int kst, .int kso, .int (nI kse)])), (q 10, .inl (ca 6, 4, .inl (fun zj => nI (khm zj)))), (q 11, .inl (ca 7, 6, .inl (fun zj => nI (ksn zj)))), (q 12, .inl (ca 8, 6, .inl (fun zj => nI (ksp zj)))), (q 13, .inl (ca 9, 6, .inl (fun zj => nI (ksd zj)))), (q 4, .inr (7, [.ref (q 5), .ref (q 6), .ref (q 7), .ref (q 8), .long kisl, .int (nI kbr), .int kst, .int kso, .int (nI kse)])), (q 5, .inl (ca 2, 4, .inl (fun zj => nI (khm zj)))), (q 6, .inl (ca 3, 6, .inl (fun zj => nI (ksn zj)))), (q 7, .inl (ca 4, 6, .inl (fun zj => nI (ksp zj)))), (q 8, .inl (ca 5, 6, .inl (fun zj => nI (ksd zj))))]) (TY ca) (va_A [(q 9, .inr (7, [.ref (q 10), .ref (q 11), .ref (q 12), .ref (q 13), .long kisl, .int (nI kbr), .int kst, .int kso, .int (nI kse)])), (q 10, .inl (ca 6, 4, .inl (fun zj => nI (khm zj)))), (q 11, .inl (ca 7, 6, .inl (fun zj => nI (ksn zj)))), (q 12, .inl (ca 8, 6, .inl (fun zj => nI (ksp zj)))), (q 13, .inl (ca 9, 6, .inl (fun zj => nI (ksd zj)))), (q 4, .inr (7, [.ref (q 5), .ref (q 6), .ref (q 7), .ref (q 8), .long isl, .int (nI br), .int st, .int so, .int (nI se)])), (q 5, .inl (ca 2, 4, .inl (fun zj => nI (hm zj)))), (q 6, .inl (ca 3, 6, .inl (fun zj => nI (sn zj)))), (q 7, .inl (ca 4, 6, .inl (fun zj => nI (sp zj)))), (q 8, .inl (ca 5, 6, .inl (fun zj => nI (sd zj))))] sz)) (va_A [(q 9, .inr (7, [.ref (q 10), .ref (q 11), .ref (q 12), .ref (q 13), .long kisl, .int (nI kbr), .int kst, .int kso, .int (nI kse)])), (q 10, .inl (ca 6, 4, .inl (fun zj => nI (khm zj)))), (q 11, .inl (ca 7, 6, .inl (fun zj => nI (ksn zj)))), (q 12, .inl (ca 8, 6, .inl (fun zj => nI (ksp zj)))), (q 13, .inl (ca 9, 6, .inl (fun zj => nI (ksd zj)))), (q 4, .inr (7, [.ref (q 5), .ref (q 6), .ref (q 7), .ref (q 8), .long isl, .int (nI br), .int st, .int so, .int (nI se)])), (q 5, .inl (ca 2, 4, .inl (fun zj => nI (hm zj)))), (q 6, .inl (ca 3, 6, .inl (fun zj => nI (sn zj)))), (q 7, .inl (ca 4, 6, .inl (fun zj => nI (sp zj)))), (q 8, .inl (ca 5, 6, .inl (fun zj => nI (sd zj))))] sz)) 0 0 (va_A [(q 9, .inr (7, [.ref (q 10), .ref (q 11), .ref (q 12), .ref (q 13), .long kisl, .int (nI kbr), .int kst, .int kso, .int (nI kse)])), (q 10, .inl (ca 6, 4, .inl (fun zj => nI (khm zj)))), (q 11, .inl (ca 7, 6, .inl (fun zj => nI (ksn zj)))), (q 12, .inl (ca 8, 6, .inl (fun zj => nI (ksp zj)))), (q 13, .inl (ca 9, 6, .inl (fun zj => nI (ksd zj)))), (q 4, .inr (7, [.ref (q 5), .ref (q 6), .ref (q 7), .ref (q 8), .long isl, .int (nI br), .int st, .int so, .int (nI se)])), (q 5, .inl (ca 2, 4, .inl (fun zj => nI (hm zj)))), (q 6, .inl (ca 3, 6, .inl (fun zj => nI (sn zj)))), (q 7, .inl (ca 4, 6, .inl (fun zj => nI (sp zj)))), (q 8, .inl (ca 5, 6, .inl (fun zj => nI (sd zj))))] sz) := by
  refine Met.ofW (cc := cX7_copyFrom) (maxL := 2) (ret := none) (by decide) rfl ?_
  intro p e s m args below meth c s₁ B hml hv
  obtain ⟨rfl, hsz, hP, hK, hD0⟩ := hv
  have hx := B.exec
  have hb := B.bytes
  have hr := B.returns
  have hts := atoms_spec (ws := (Cond.code yX7_copyFrom cX7_copyFrom 2 none :: gT)) B.pre
  have htl : ∀ w ∈ gT, w.before _ s = true := fun w h => hts w (List.mem_cons_of_mem _ h)
  have hown : s.vm.findClass RX7 = some m.cls := findClass_of_methodNamed B.named
  have hlocks := B.notSynchronized
  subst hsz
  have hD := hD0.self (sz := s.heap.size)
  generalize hAe : va_A [(q 9, .inr (7, [.ref (q 10), .ref (q 11), .ref (q 12), .ref (q 13), .long kisl, .int (nI kbr), .int kst, .int kso, .int (nI kse)])), (q 10, .inl (ca 6, 4, .inl (fun zj => nI (khm zj)))), (q 11, .inl (ca 7, 6, .inl (fun zj => nI (ksn zj)))), (q 12, .inl (ca 8, 6, .inl (fun zj => nI (ksp zj)))), (q 13, .inl (ca 9, 6, .inl (fun zj => nI (ksd zj)))), (q 4, .inr (7, [.ref (q 5), .ref (q 6), .ref (q 7), .ref (q 8), .long isl, .int (nI br), .int st, .int so, .int (nI se)])), (q 5, .inl (ca 2, 4, .inl (fun zj => nI (hm zj)))), (q 6, .inl (ca 3, 6, .inl (fun zj => nI (sn zj)))), (q 7, .inl (ca 4, 6, .inl (fun zj => nI (sp zj)))), (q 8, .inl (ca 5, 6, .inl (fun zj => nI (sd zj))))] s.heap.size = A at hD ⊢
  have hA : ∀ q : Nat, s.heap.size ≤ q → A q := fun q h => by rw [← hAe]; exact Or.inr h
  have hS : va_S A s.heap s.heap [] := va_S.rf
  have hl := lv_entry ([Value.ref (q 4), Value.ref (q 9)]) (n := 2) (Nat.le_of_ble_eq_true rfl)
  rw [lg_entry_eq]
  generalize (lg_sl ([Value.ref (q 4), Value.ref (q 9)]) ++ List.replicate (2 - (lg_sl ([Value.ref (q 4), Value.ref (q 9)])).length) Slot.unset).toArray = ls at hl ⊢
  have hl : lv_has ls 2 [(0, .ref (q 4)), (1, .ref (q 9))] := hl
  refine lv_aload_n hx hb dX7_copyFrom_0 rfl (lv_at hl 1 rfl) ?_
  refine va_get (D := (dC, dI)) (ci := 7) (v := .ref (q 10)) (C := RX7) (T := TX7) (N := 9) hx hb htl iX7 hown hK hP 0 rfl rfl 0 (by decide) (htl _ wd_52) (fun _ h9 => h9) rfl dX7_copyFrom_1 ?_
  refine lv_iconst (v := nI 0) hx hb dX7_copyFrom_4 (by decide) ?_
  refine lv_aload_n hx hb dX7_copyFrom_5 rfl (lv_at hl 0 rfl) ?_
  refine va_get (D := (dC, dI)) (ci := 7) (v := .ref (q 5)) (C := RX7) (T := TX7) (N := 9) hx hb htl iX7 hown hK hP 5 rfl rfl 0 (by decide) (htl _ wd_52) (fun _ h9 => h9) rfl dX7_copyFrom_6 ?_
  refine lv_iconst (v := nI 0) hx hb dX7_copyFrom_9 (by decide) ?_
  refine lv_iconst (v := nI 4) hx hb dX7_copyFrom_10 (by decide) ?_
  refine va_copyi hx hb (by rw [hml]; exact hl.1.symm) hown (htl _ wd_515) (htl _ wd_517) (htl _ wd_516) (htl _ wd_19) hK hP hD hS 1 6 6 2 rfl rfl rfl rfl rfl (by decide) (by decide) (by decide) (by decide) (by decide) (fun _ _ => rfl) (Nat.le_of_ble_eq_true rfl) (Nat.le_of_ble_eq_true rfl) dX7_copyFrom_11 (fun H locs hP hD hS => ?_)
  have hP := va_P_fn hP 6 (g := fun zj => nI (khm zj)) rfl (fun j hj => by show va_cpy _ _ 0 0 4 j = _; rw [pk_cpy_in (by omega) (by omega)]; simp)
  have hD := va_D.set (e := .inl (ca 2, 4, .inl (fun zj => nI (khm zj)))) hD (p := 6) rfl
  have hP : va_P (dC, dI) vwCl [(q 9, .inr (7, [.ref (q 10), .ref (q 11), .ref (q 12), .ref (q 13), .long kisl, .int (nI kbr), .int kst, .int kso, .int (nI kse)])), (q 10, .inl (ca 6, 4, .inl (fun zj => nI (khm zj)))), (q 11, .inl (ca 7, 6, .inl (fun zj => nI (ksn zj)))), (q 12, .inl (ca 8, 6, .inl (fun zj => nI (ksp zj)))), (q 13, .inl (ca 9, 6, .inl (fun zj => nI (ksd zj)))), (q 4, .inr (7, [.ref (q 5), .ref (q 6), .ref (q 7), .ref (q 8), .long isl, .int (nI br), .int st, .int so, .int (nI se)])), (q 5, .inl (ca 2, 4, .inl (fun zj => nI (khm zj)))), (q 6, .inl (ca 3, 6, .inl (fun zj => nI (sn zj)))), (q 7, .inl (ca 4, 6, .inl (fun zj => nI (sp zj)))), (q 8, .inl (ca 5, 6, .inl (fun zj => nI (sd zj))))] H := hP
  have hD : va_D A [(q 9, .inr (7, [.ref (q 10), .ref (q 11), .ref (q 12), .ref (q 13), .long kisl, .int (nI kbr), .int kst, .int kso, .int (nI kse)])), (q 10, .inl (ca 6, 4, .inl (fun zj => nI (khm zj)))), (q 11, .inl (ca 7, 6, .inl (fun zj => nI (ksn zj)))), (q 12, .inl (ca 8, 6, .inl (fun zj => nI (ksp zj)))), (q 13, .inl (ca 9, 6, .inl (fun zj => nI (ksd zj)))), (q 4, .inr (7, [.ref (q 5), .ref (q 6), .ref (q 7), .ref (q 8), .long isl, .int (nI br), .int st, .int so, .int (nI se)])), (q 5, .inl (ca 2, 4, .inl (fun zj => nI (khm zj)))), (q 6, .inl (ca 3, 6, .inl (fun zj => nI (sn zj)))), (q 7, .inl (ca 4, 6, .inl (fun zj => nI (sp zj)))), (q 8, .inl (ca 5, 6, .inl (fun zj => nI (sd zj))))] := hD
  refine lv_aload_n hx hb dX7_copyFrom_14 rfl (lv_at hl 1 rfl) ?_
  refine va_get (D := (dC, dI)) (ci := 7) (v := .ref (q 11)) (C := RX7) (T := TX7) (N := 9) hx hb htl iX7 hown hK hP 0 rfl rfl 1 (by decide) (htl _ wd_54) (fun _ h9 => h9) rfl dX7_copyFrom_15 ?_
  refine lv_iconst (v := nI 0) hx hb dX7_copyFrom_18 (by decide) ?_
  refine lv_aload_n hx hb dX7_copyFrom_19 rfl (lv_at hl 0 rfl) ?_
  refine va_get (D := (dC, dI)) (ci := 7) (v := .ref (q 6)) (C := RX7) (T := TX7) (N := 9) hx hb htl iX7 hown hK hP 5 rfl rfl 1 (by decide) (htl _ wd_54) (fun _ h9 => h9) rfl dX7_copyFrom_20 ?_
  refine lv_iconst (v := nI 0) hx hb dX7_copyFrom_23 (by decide) ?_
  refine lv_bipush (v := nI 6) hx hb dX7_copyFrom_24 (by decide) ?_
  refine va_copyi hx hb (by rw [hml]; exact hl.1.symm) hown (htl _ wd_515) (htl _ wd_517) (htl _ wd_516) (htl _ wd_19) hK hP hD hS 2 7 7 3 rfl rfl rfl rfl rfl (by decide) (by decide) (by decide) (by decide) (by decide) (fun _ _ => rfl) (Nat.le_of_ble_eq_true rfl) (Nat.le_of_ble_eq_true rfl) dX7_copyFrom_26 (fun H locs hP hD hS => ?_)
  have hP := va_P_fn hP 7 (g := fun zj => nI (ksn zj)) rfl (fun j hj => by show va_cpy _ _ 0 0 6 j = _; rw [pk_cpy_in (by omega) (by omega)]; simp)
  have hD := va_D.set (e := .inl (ca 3, 6, .inl (fun zj => nI (ksn zj)))) hD (p := 7) rfl
  have hP : va_P (dC, dI) vwCl [(q 9, .inr (7, [.ref (q 10), .ref (q 11), .ref (q 12), .ref (q 13), .long kisl, .int (nI kbr), .int kst, .int kso, .int (nI kse)])), (q 10, .inl (ca 6, 4, .inl (fun zj => nI (khm zj)))), (q 11, .inl (ca 7, 6, .inl (fun zj => nI (ksn zj)))), (q 12, .inl (ca 8, 6, .inl (fun zj => nI (ksp zj)))), (q 13, .inl (ca 9, 6, .inl (fun zj => nI (ksd zj)))), (q 4, .inr (7, [.ref (q 5), .ref (q 6), .ref (q 7), .ref (q 8), .long isl, .int (nI br), .int st, .int so, .int (nI se)])), (q 5, .inl (ca 2, 4, .inl (fun zj => nI (khm zj)))), (q 6, .inl (ca 3, 6, .inl (fun zj => nI (ksn zj)))), (q 7, .inl (ca 4, 6, .inl (fun zj => nI (sp zj)))), (q 8, .inl (ca 5, 6, .inl (fun zj => nI (sd zj))))] H := hP
  have hD : va_D A [(q 9, .inr (7, [.ref (q 10), .ref (q 11), .ref (q 12), .ref (q 13), .long kisl, .int (nI kbr), .int kst, .int kso, .int (nI kse)])), (q 10, .inl (ca 6, 4, .inl (fun zj => nI (khm zj)))), (q 11, .inl (ca 7, 6, .inl (fun zj => nI (ksn zj)))), (q 12, .inl (ca 8, 6, .inl (fun zj => nI (ksp zj)))), (q 13, .inl (ca 9, 6, .inl (fun zj => nI (ksd zj)))), (q 4, .inr (7, [.ref (q 5), .ref (q 6), .ref (q 7), .ref (q 8), .long isl, .int (nI br), .int st, .int so, .int (nI se)])), (q 5, .inl (ca 2, 4, .inl (fun zj => nI (khm zj)))), (q 6, .inl (ca 3, 6, .inl (fun zj => nI (ksn zj)))), (q 7, .inl (ca 4, 6, .inl (fun zj => nI (sp zj)))), (q 8, .inl (ca 5, 6, .inl (fun zj => nI (sd zj))))] := hD
  refine lv_aload_n hx hb dX7_copyFrom_29 rfl (lv_at hl 1 rfl) ?_
  refine va_get (D := (dC, dI)) (ci := 7) (v := .ref (q 12)) (C := RX7) (T := TX7) (N := 9) hx hb htl iX7 hown hK hP 0 rfl rfl 2 (by decide) (htl _ wd_56) (fun _ h9 => h9) rfl dX7_copyFrom_30 ?_
  refine lv_iconst (v := nI 0) hx hb dX7_copyFrom_33 (by decide) ?_
  refine lv_aload_n hx hb dX7_copyFrom_34 rfl (lv_at hl 0 rfl) ?_
  refine va_get (D := (dC, dI)) (ci := 7) (v := .ref (q 7)) (C := RX7) (T := TX7) (N := 9) hx hb htl iX7 hown hK hP 5 rfl rfl 2 (by decide) (htl _ wd_56) (fun _ h9 => h9) rfl dX7_copyFrom_35 ?_
  refine lv_iconst (v := nI 0) hx hb dX7_copyFrom_38 (by decide) ?_
  refine lv_bipush (v := nI 6) hx hb dX7_copyFrom_39 (by decide) ?_
  refine va_copyi hx hb (by rw [hml]; exact hl.1.symm) hown (htl _ wd_515) (htl _ wd_517) (htl _ wd_516) (htl _ wd_19) hK hP hD hS 3 8 8 4 rfl rfl rfl rfl rfl (by decide) (by decide) (by decide) (by decide) (by decide) (fun _ _ => rfl) (Nat.le_of_ble_eq_true rfl) (Nat.le_of_ble_eq_true rfl) dX7_copyFrom_41 (fun H locs hP hD hS => ?_)
  have hP := va_P_fn hP 8 (g := fun zj => nI (ksp zj)) rfl (fun j hj => by show va_cpy _ _ 0 0 6 j = _; rw [pk_cpy_in (by omega) (by omega)]; simp)
  have hD := va_D.set (e := .inl (ca 4, 6, .inl (fun zj => nI (ksp zj)))) hD (p := 8) rfl
  have hP : va_P (dC, dI) vwCl [(q 9, .inr (7, [.ref (q 10), .ref (q 11), .ref (q 12), .ref (q 13), .long kisl, .int (nI kbr), .int kst, .int kso, .int (nI kse)])), (q 10, .inl (ca 6, 4, .inl (fun zj => nI (khm zj)))), (q 11, .inl (ca 7, 6, .inl (fun zj => nI (ksn zj)))), (q 12, .inl (ca 8, 6, .inl (fun zj => nI (ksp zj)))), (q 13, .inl (ca 9, 6, .inl (fun zj => nI (ksd zj)))), (q 4, .inr (7, [.ref (q 5), .ref (q 6), .ref (q 7), .ref (q 8), .long isl, .int (nI br), .int st, .int so, .int (nI se)])), (q 5, .inl (ca 2, 4, .inl (fun zj => nI (khm zj)))), (q 6, .inl (ca 3, 6, .inl (fun zj => nI (ksn zj)))), (q 7, .inl (ca 4, 6, .inl (fun zj => nI (ksp zj)))), (q 8, .inl (ca 5, 6, .inl (fun zj => nI (sd zj))))] H := hP
  have hD : va_D A [(q 9, .inr (7, [.ref (q 10), .ref (q 11), .ref (q 12), .ref (q 13), .long kisl, .int (nI kbr), .int kst, .int kso, .int (nI kse)])), (q 10, .inl (ca 6, 4, .inl (fun zj => nI (khm zj)))), (q 11, .inl (ca 7, 6, .inl (fun zj => nI (ksn zj)))), (q 12, .inl (ca 8, 6, .inl (fun zj => nI (ksp zj)))), (q 13, .inl (ca 9, 6, .inl (fun zj => nI (ksd zj)))), (q 4, .inr (7, [.ref (q 5), .ref (q 6), .ref (q 7), .ref (q 8), .long isl, .int (nI br), .int st, .int so, .int (nI se)])), (q 5, .inl (ca 2, 4, .inl (fun zj => nI (khm zj)))), (q 6, .inl (ca 3, 6, .inl (fun zj => nI (ksn zj)))), (q 7, .inl (ca 4, 6, .inl (fun zj => nI (ksp zj)))), (q 8, .inl (ca 5, 6, .inl (fun zj => nI (sd zj))))] := hD
  refine lv_aload_n hx hb dX7_copyFrom_44 rfl (lv_at hl 1 rfl) ?_
  refine va_get (D := (dC, dI)) (ci := 7) (v := .ref (q 13)) (C := RX7) (T := TX7) (N := 9) hx hb htl iX7 hown hK hP 0 rfl rfl 3 (by decide) (htl _ wd_58) (fun _ h9 => h9) rfl dX7_copyFrom_45 ?_
  refine lv_iconst (v := nI 0) hx hb dX7_copyFrom_48 (by decide) ?_
  refine lv_aload_n hx hb dX7_copyFrom_49 rfl (lv_at hl 0 rfl) ?_
  refine va_get (D := (dC, dI)) (ci := 7) (v := .ref (q 8)) (C := RX7) (T := TX7) (N := 9) hx hb htl iX7 hown hK hP 5 rfl rfl 3 (by decide) (htl _ wd_58) (fun _ h9 => h9) rfl dX7_copyFrom_50 ?_
  refine lv_iconst (v := nI 0) hx hb dX7_copyFrom_53 (by decide) ?_
  refine lv_bipush (v := nI 6) hx hb dX7_copyFrom_54 (by decide) ?_
  refine va_copyi hx hb (by rw [hml]; exact hl.1.symm) hown (htl _ wd_515) (htl _ wd_517) (htl _ wd_516) (htl _ wd_19) hK hP hD hS 4 9 9 5 rfl rfl rfl rfl rfl (by decide) (by decide) (by decide) (by decide) (by decide) (fun _ _ => rfl) (Nat.le_of_ble_eq_true rfl) (Nat.le_of_ble_eq_true rfl) dX7_copyFrom_56 (fun H locs hP hD hS => ?_)
  have hP := va_P_fn hP 9 (g := fun zj => nI (ksd zj)) rfl (fun j hj => by show va_cpy _ _ 0 0 6 j = _; rw [pk_cpy_in (by omega) (by omega)]; simp)
  have hD := va_D.set (e := .inl (ca 5, 6, .inl (fun zj => nI (ksd zj)))) hD (p := 9) rfl
  have hP : va_P (dC, dI) vwCl [(q 9, .inr (7, [.ref (q 10), .ref (q 11), .ref (q 12), .ref (q 13), .long kisl, .int (nI kbr), .int kst, .int kso, .int (nI kse)])), (q 10, .inl (ca 6, 4, .inl (fun zj => nI (khm zj)))), (q 11, .inl (ca 7, 6, .inl (fun zj => nI (ksn zj)))), (q 12, .inl (ca 8, 6, .inl (fun zj => nI (ksp zj)))), (q 13, .inl (ca 9, 6, .inl (fun zj => nI (ksd zj)))), (q 4, .inr (7, [.ref (q 5), .ref (q 6), .ref (q 7), .ref (q 8), .long isl, .int (nI br), .int st, .int so, .int (nI se)])), (q 5, .inl (ca 2, 4, .inl (fun zj => nI (khm zj)))), (q 6, .inl (ca 3, 6, .inl (fun zj => nI (ksn zj)))), (q 7, .inl (ca 4, 6, .inl (fun zj => nI (ksp zj)))), (q 8, .inl (ca 5, 6, .inl (fun zj => nI (ksd zj))))] H := hP
  have hD : va_D A [(q 9, .inr (7, [.ref (q 10), .ref (q 11), .ref (q 12), .ref (q 13), .long kisl, .int (nI kbr), .int kst, .int kso, .int (nI kse)])), (q 10, .inl (ca 6, 4, .inl (fun zj => nI (khm zj)))), (q 11, .inl (ca 7, 6, .inl (fun zj => nI (ksn zj)))), (q 12, .inl (ca 8, 6, .inl (fun zj => nI (ksp zj)))), (q 13, .inl (ca 9, 6, .inl (fun zj => nI (ksd zj)))), (q 4, .inr (7, [.ref (q 5), .ref (q 6), .ref (q 7), .ref (q 8), .long isl, .int (nI br), .int st, .int so, .int (nI se)])), (q 5, .inl (ca 2, 4, .inl (fun zj => nI (khm zj)))), (q 6, .inl (ca 3, 6, .inl (fun zj => nI (ksn zj)))), (q 7, .inl (ca 4, 6, .inl (fun zj => nI (ksp zj)))), (q 8, .inl (ca 5, 6, .inl (fun zj => nI (ksd zj))))] := hD
  refine lv_aload_n hx hb dX7_copyFrom_59 rfl (lv_at hl 0 rfl) ?_
  refine lv_aload_n hx hb dX7_copyFrom_60 rfl (lv_at hl 1 rfl) ?_
  refine va_get (D := (dC, dI)) (ci := 7) (v := .long kisl) (C := RX7) (T := TX7) (N := 9) hx hb htl iX7 hown hK hP 0 rfl rfl 4 (by decide) (htl _ wd_60) (fun _ h9 => h9) rfl dX7_copyFrom_61 ?_
  refine va_put (D := (dC, dI)) (ci := 7) (v := .long kisl) (ty := .long) (C := RX7) (T := TX7) (N := 9) hx hb htl iX7 tyX7 tyX7_ok nmX7 hown hK hP hD hS 5 rfl rfl 4 (by decide) (htl _ wd_60) (fun _ h9 => h9) rfl (by decide +kernel) rfl rfl (Nat.le_of_ble_eq_true rfl) dX7_copyFrom_64 (fun H locs hP hD hS => ?_)
  have hP : va_P (dC, dI) vwCl [(q 9, .inr (7, [.ref (q 10), .ref (q 11), .ref (q 12), .ref (q 13), .long kisl, .int (nI kbr), .int kst, .int kso, .int (nI kse)])), (q 10, .inl (ca 6, 4, .inl (fun zj => nI (khm zj)))), (q 11, .inl (ca 7, 6, .inl (fun zj => nI (ksn zj)))), (q 12, .inl (ca 8, 6, .inl (fun zj => nI (ksp zj)))), (q 13, .inl (ca 9, 6, .inl (fun zj => nI (ksd zj)))), (q 4, .inr (7, [.ref (q 5), .ref (q 6), .ref (q 7), .ref (q 8), .long kisl, .int (nI br), .int st, .int so, .int (nI se)])), (q 5, .inl (ca 2, 4, .inl (fun zj => nI (khm zj)))), (q 6, .inl (ca 3, 6, .inl (fun zj => nI (ksn zj)))), (q 7, .inl (ca 4, 6, .inl (fun zj => nI (ksp zj)))), (q 8, .inl (ca 5, 6, .inl (fun zj => nI (ksd zj))))] H := hP
  have hD : va_D A [(q 9, .inr (7, [.ref (q 10), .ref (q 11), .ref (q 12), .ref (q 13), .long kisl, .int (nI kbr), .int kst, .int kso, .int (nI kse)])), (q 10, .inl (ca 6, 4, .inl (fun zj => nI (khm zj)))), (q 11, .inl (ca 7, 6, .inl (fun zj => nI (ksn zj)))), (q 12, .inl (ca 8, 6, .inl (fun zj => nI (ksp zj)))), (q 13, .inl (ca 9, 6, .inl (fun zj => nI (ksd zj)))), (q 4, .inr (7, [.ref (q 5), .ref (q 6), .ref (q 7), .ref (q 8), .long kisl, .int (nI br), .int st, .int so, .int (nI se)])), (q 5, .inl (ca 2, 4, .inl (fun zj => nI (khm zj)))), (q 6, .inl (ca 3, 6, .inl (fun zj => nI (ksn zj)))), (q 7, .inl (ca 4, 6, .inl (fun zj => nI (ksp zj)))), (q 8, .inl (ca 5, 6, .inl (fun zj => nI (ksd zj))))] := hD
  refine lv_aload_n hx hb dX7_copyFrom_67 rfl (lv_at hl 0 rfl) ?_
  refine lv_aload_n hx hb dX7_copyFrom_68 rfl (lv_at hl 1 rfl) ?_
  refine va_get (D := (dC, dI)) (ci := 7) (v := .int (nI kbr)) (C := RX7) (T := TX7) (N := 9) hx hb htl iX7 hown hK hP 0 rfl rfl 5 (by decide) (htl _ wd_62) (fun _ h9 => h9) rfl dX7_copyFrom_69 ?_
  refine va_put (D := (dC, dI)) (ci := 7) (v := .int (nI kbr)) (ty := .int) (C := RX7) (T := TX7) (N := 9) hx hb htl iX7 tyX7 tyX7_ok nmX7 hown hK hP hD hS 5 rfl rfl 5 (by decide) (htl _ wd_62) (fun _ h9 => h9) rfl (by decide +kernel) rfl rfl (Nat.le_of_ble_eq_true rfl) dX7_copyFrom_72 (fun H locs hP hD hS => ?_)
  have hP : va_P (dC, dI) vwCl [(q 9, .inr (7, [.ref (q 10), .ref (q 11), .ref (q 12), .ref (q 13), .long kisl, .int (nI kbr), .int kst, .int kso, .int (nI kse)])), (q 10, .inl (ca 6, 4, .inl (fun zj => nI (khm zj)))), (q 11, .inl (ca 7, 6, .inl (fun zj => nI (ksn zj)))), (q 12, .inl (ca 8, 6, .inl (fun zj => nI (ksp zj)))), (q 13, .inl (ca 9, 6, .inl (fun zj => nI (ksd zj)))), (q 4, .inr (7, [.ref (q 5), .ref (q 6), .ref (q 7), .ref (q 8), .long kisl, .int (nI kbr), .int st, .int so, .int (nI se)])), (q 5, .inl (ca 2, 4, .inl (fun zj => nI (khm zj)))), (q 6, .inl (ca 3, 6, .inl (fun zj => nI (ksn zj)))), (q 7, .inl (ca 4, 6, .inl (fun zj => nI (ksp zj)))), (q 8, .inl (ca 5, 6, .inl (fun zj => nI (ksd zj))))] H := hP
  have hD : va_D A [(q 9, .inr (7, [.ref (q 10), .ref (q 11), .ref (q 12), .ref (q 13), .long kisl, .int (nI kbr), .int kst, .int kso, .int (nI kse)])), (q 10, .inl (ca 6, 4, .inl (fun zj => nI (khm zj)))), (q 11, .inl (ca 7, 6, .inl (fun zj => nI (ksn zj)))), (q 12, .inl (ca 8, 6, .inl (fun zj => nI (ksp zj)))), (q 13, .inl (ca 9, 6, .inl (fun zj => nI (ksd zj)))), (q 4, .inr (7, [.ref (q 5), .ref (q 6), .ref (q 7), .ref (q 8), .long kisl, .int (nI kbr), .int st, .int so, .int (nI se)])), (q 5, .inl (ca 2, 4, .inl (fun zj => nI (khm zj)))), (q 6, .inl (ca 3, 6, .inl (fun zj => nI (ksn zj)))), (q 7, .inl (ca 4, 6, .inl (fun zj => nI (ksp zj)))), (q 8, .inl (ca 5, 6, .inl (fun zj => nI (ksd zj))))] := hD
  refine lv_aload_n hx hb dX7_copyFrom_75 rfl (lv_at hl 0 rfl) ?_
  refine lv_aload_n hx hb dX7_copyFrom_76 rfl (lv_at hl 1 rfl) ?_
  refine va_get (D := (dC, dI)) (ci := 7) (v := .int kst) (C := RX7) (T := TX7) (N := 9) hx hb htl iX7 hown hK hP 0 rfl rfl 6 (by decide) (htl _ wd_64) (fun _ h9 => h9) rfl dX7_copyFrom_77 ?_
  refine va_put (D := (dC, dI)) (ci := 7) (v := .int kst) (ty := .int) (C := RX7) (T := TX7) (N := 9) hx hb htl iX7 tyX7 tyX7_ok nmX7 hown hK hP hD hS 5 rfl rfl 6 (by decide) (htl _ wd_64) (fun _ h9 => h9) rfl (by decide +kernel) rfl rfl (Nat.le_of_ble_eq_true rfl) dX7_copyFrom_80 (fun H locs hP hD hS => ?_)
  have hP : va_P (dC, dI) vwCl [(q 9, .inr (7, [.ref (q 10), .ref (q 11), .ref (q 12), .ref (q 13), .long kisl, .int (nI kbr), .int kst, .int kso, .int (nI kse)])), (q 10, .inl (ca 6, 4, .inl (fun zj => nI (khm zj)))), (q 11, .inl (ca 7, 6, .inl (fun zj => nI (ksn zj)))), (q 12, .inl (ca 8, 6, .inl (fun zj => nI (ksp zj)))), (q 13, .inl (ca 9, 6, .inl (fun zj => nI (ksd zj)))), (q 4, .inr (7, [.ref (q 5), .ref (q 6), .ref (q 7), .ref (q 8), .long kisl, .int (nI kbr), .int kst, .int so, .int (nI se)])), (q 5, .inl (ca 2, 4, .inl (fun zj => nI (khm zj)))), (q 6, .inl (ca 3, 6, .inl (fun zj => nI (ksn zj)))), (q 7, .inl (ca 4, 6, .inl (fun zj => nI (ksp zj)))), (q 8, .inl (ca 5, 6, .inl (fun zj => nI (ksd zj))))] H := hP
  have hD : va_D A [(q 9, .inr (7, [.ref (q 10), .ref (q 11), .ref (q 12), .ref (q 13), .long kisl, .int (nI kbr), .int kst, .int kso, .int (nI kse)])), (q 10, .inl (ca 6, 4, .inl (fun zj => nI (khm zj)))), (q 11, .inl (ca 7, 6, .inl (fun zj => nI (ksn zj)))), (q 12, .inl (ca 8, 6, .inl (fun zj => nI (ksp zj)))), (q 13, .inl (ca 9, 6, .inl (fun zj => nI (ksd zj)))), (q 4, .inr (7, [.ref (q 5), .ref (q 6), .ref (q 7), .ref (q 8), .long kisl, .int (nI kbr), .int kst, .int so, .int (nI se)])), (q 5, .inl (ca 2, 4, .inl (fun zj => nI (khm zj)))), (q 6, .inl (ca 3, 6, .inl (fun zj => nI (ksn zj)))), (q 7, .inl (ca 4, 6, .inl (fun zj => nI (ksp zj)))), (q 8, .inl (ca 5, 6, .inl (fun zj => nI (ksd zj))))] := hD
  refine lv_aload_n hx hb dX7_copyFrom_83 rfl (lv_at hl 0 rfl) ?_
  refine lv_aload_n hx hb dX7_copyFrom_84 rfl (lv_at hl 1 rfl) ?_
  refine va_get (D := (dC, dI)) (ci := 7) (v := .int kso) (C := RX7) (T := TX7) (N := 9) hx hb htl iX7 hown hK hP 0 rfl rfl 7 (by decide) (htl _ wd_66) (fun _ h9 => h9) rfl dX7_copyFrom_85 ?_
  refine va_put (D := (dC, dI)) (ci := 7) (v := .int kso) (ty := .int) (C := RX7) (T := TX7) (N := 9) hx hb htl iX7 tyX7 tyX7_ok nmX7 hown hK hP hD hS 5 rfl rfl 7 (by decide) (htl _ wd_66) (fun _ h9 => h9) rfl (by decide +kernel) rfl rfl (Nat.le_of_ble_eq_true rfl) dX7_copyFrom_88 (fun H locs hP hD hS => ?_)
  have hP : va_P (dC, dI) vwCl [(q 9, .inr (7, [.ref (q 10), .ref (q 11), .ref (q 12), .ref (q 13), .long kisl, .int (nI kbr), .int kst, .int kso, .int (nI kse)])), (q 10, .inl (ca 6, 4, .inl (fun zj => nI (khm zj)))), (q 11, .inl (ca 7, 6, .inl (fun zj => nI (ksn zj)))), (q 12, .inl (ca 8, 6, .inl (fun zj => nI (ksp zj)))), (q 13, .inl (ca 9, 6, .inl (fun zj => nI (ksd zj)))), (q 4, .inr (7, [.ref (q 5), .ref (q 6), .ref (q 7), .ref (q 8), .long kisl, .int (nI kbr), .int kst, .int kso, .int (nI se)])), (q 5, .inl (ca 2, 4, .inl (fun zj => nI (khm zj)))), (q 6, .inl (ca 3, 6, .inl (fun zj => nI (ksn zj)))), (q 7, .inl (ca 4, 6, .inl (fun zj => nI (ksp zj)))), (q 8, .inl (ca 5, 6, .inl (fun zj => nI (ksd zj))))] H := hP
  have hD : va_D A [(q 9, .inr (7, [.ref (q 10), .ref (q 11), .ref (q 12), .ref (q 13), .long kisl, .int (nI kbr), .int kst, .int kso, .int (nI kse)])), (q 10, .inl (ca 6, 4, .inl (fun zj => nI (khm zj)))), (q 11, .inl (ca 7, 6, .inl (fun zj => nI (ksn zj)))), (q 12, .inl (ca 8, 6, .inl (fun zj => nI (ksp zj)))), (q 13, .inl (ca 9, 6, .inl (fun zj => nI (ksd zj)))), (q 4, .inr (7, [.ref (q 5), .ref (q 6), .ref (q 7), .ref (q 8), .long kisl, .int (nI kbr), .int kst, .int kso, .int (nI se)])), (q 5, .inl (ca 2, 4, .inl (fun zj => nI (khm zj)))), (q 6, .inl (ca 3, 6, .inl (fun zj => nI (ksn zj)))), (q 7, .inl (ca 4, 6, .inl (fun zj => nI (ksp zj)))), (q 8, .inl (ca 5, 6, .inl (fun zj => nI (ksd zj))))] := hD
  refine lv_aload_n hx hb dX7_copyFrom_91 rfl (lv_at hl 0 rfl) ?_
  refine lv_aload_n hx hb dX7_copyFrom_92 rfl (lv_at hl 1 rfl) ?_
  refine va_get (D := (dC, dI)) (ci := 7) (v := .int (nI kse)) (C := RX7) (T := TX7) (N := 9) hx hb htl iX7 hown hK hP 0 rfl rfl 8 (by decide) (htl _ wd_68) (fun _ h9 => h9) rfl dX7_copyFrom_93 ?_
  refine va_put (D := (dC, dI)) (ci := 7) (v := .int (nI kse)) (ty := .int) (C := RX7) (T := TX7) (N := 9) hx hb htl iX7 tyX7 tyX7_ok nmX7 hown hK hP hD hS 5 rfl rfl 8 (by decide) (htl _ wd_68) (fun _ h9 => h9) rfl (by decide +kernel) rfl rfl (Nat.le_of_ble_eq_true rfl) dX7_copyFrom_96 (fun H locs hP hD hS => ?_)
  have hP : va_P (dC, dI) vwCl [(q 9, .inr (7, [.ref (q 10), .ref (q 11), .ref (q 12), .ref (q 13), .long kisl, .int (nI kbr), .int kst, .int kso, .int (nI kse)])), (q 10, .inl (ca 6, 4, .inl (fun zj => nI (khm zj)))), (q 11, .inl (ca 7, 6, .inl (fun zj => nI (ksn zj)))), (q 12, .inl (ca 8, 6, .inl (fun zj => nI (ksp zj)))), (q 13, .inl (ca 9, 6, .inl (fun zj => nI (ksd zj)))), (q 4, .inr (7, [.ref (q 5), .ref (q 6), .ref (q 7), .ref (q 8), .long kisl, .int (nI kbr), .int kst, .int kso, .int (nI kse)])), (q 5, .inl (ca 2, 4, .inl (fun zj => nI (khm zj)))), (q 6, .inl (ca 3, 6, .inl (fun zj => nI (ksn zj)))), (q 7, .inl (ca 4, 6, .inl (fun zj => nI (ksp zj)))), (q 8, .inl (ca 5, 6, .inl (fun zj => nI (ksd zj))))] H := hP
  have hD : va_D A [(q 9, .inr (7, [.ref (q 10), .ref (q 11), .ref (q 12), .ref (q 13), .long kisl, .int (nI kbr), .int kst, .int kso, .int (nI kse)])), (q 10, .inl (ca 6, 4, .inl (fun zj => nI (khm zj)))), (q 11, .inl (ca 7, 6, .inl (fun zj => nI (ksn zj)))), (q 12, .inl (ca 8, 6, .inl (fun zj => nI (ksp zj)))), (q 13, .inl (ca 9, 6, .inl (fun zj => nI (ksd zj)))), (q 4, .inr (7, [.ref (q 5), .ref (q 6), .ref (q 7), .ref (q 8), .long kisl, .int (nI kbr), .int kst, .int kso, .int (nI kse)])), (q 5, .inl (ca 2, 4, .inl (fun zj => nI (khm zj)))), (q 6, .inl (ca 3, 6, .inl (fun zj => nI (ksn zj)))), (q 7, .inl (ca 4, 6, .inl (fun zj => nI (ksp zj)))), (q 8, .inl (ca 5, 6, .inl (fun zj => nI (ksd zj))))] := hD
  have hP9 := hP.sub (ws' := [(q 9, .inr (7, [.ref (q 10), .ref (q 11), .ref (q 12), .ref (q 13), .long kisl, .int (nI kbr), .int kst, .int kso, .int (nI kse)])), (q 10, .inl (ca 6, 4, .inl (fun zj => nI (khm zj)))), (q 11, .inl (ca 7, 6, .inl (fun zj => nI (ksn zj)))), (q 12, .inl (ca 8, 6, .inl (fun zj => nI (ksp zj)))), (q 13, .inl (ca 9, 6, .inl (fun zj => nI (ksd zj)))), (q 4, .inr (7, [.ref (q 5), .ref (q 6), .ref (q 7), .ref (q 8), .long kisl, .int (nI kbr), .int kst, .int kso, .int (nI kse)])), (q 5, .inl (ca 2, 4, .inl (fun zj => nI (khm zj)))), (q 6, .inl (ca 3, 6, .inl (fun zj => nI (ksn zj)))), (q 7, .inl (ca 4, 6, .inl (fun zj => nI (ksp zj)))), (q 8, .inl (ca 5, 6, .inl (fun zj => nI (ksd zj))))]) [0, 1, 2, 3, 4, 5, 6, 7, 8, 9] rfl
  have hD9 := hD.sub (ws' := [(q 9, .inr (7, [.ref (q 10), .ref (q 11), .ref (q 12), .ref (q 13), .long kisl, .int (nI kbr), .int kst, .int kso, .int (nI kse)])), (q 10, .inl (ca 6, 4, .inl (fun zj => nI (khm zj)))), (q 11, .inl (ca 7, 6, .inl (fun zj => nI (ksn zj)))), (q 12, .inl (ca 8, 6, .inl (fun zj => nI (ksp zj)))), (q 13, .inl (ca 9, 6, .inl (fun zj => nI (ksd zj)))), (q 4, .inr (7, [.ref (q 5), .ref (q 6), .ref (q 7), .ref (q 8), .long kisl, .int (nI kbr), .int kst, .int kso, .int (nI kse)])), (q 5, .inl (ca 2, 4, .inl (fun zj => nI (khm zj)))), (q 6, .inl (ca 3, 6, .inl (fun zj => nI (ksn zj)))), (q 7, .inl (ca 4, 6, .inl (fun zj => nI (ksp zj)))), (q 8, .inl (ca 5, 6, .inl (fun zj => nI (ksd zj))))]) [0, 1, 2, 3, 4, 5, 6, 7, 8, 9] (by decide) rfl
  exact W.vret hx hb hr (fun t ht hW => ⟨⟨(), rfl, trivial, by rw [ht]; exact hP9, va_K.moved hW.alike hK, hD9⟩, hS.F ht⟩) hS.2.2 dX7_copyFrom_99
