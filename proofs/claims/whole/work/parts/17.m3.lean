set_option maxHeartbeats 4000000 in
set_option maxRecDepth 100000 in
theorem kX9_isHome (l : Launch) (dC : Nat → ClassId) (dI : Nat → Nat → Nat) (ca : Nat → ClassId) (i : Nat) (ho : Nat) (kd : Nat → Nat) (nc : Nat) (sr : Int32) (ps : Nat) (br : Nat) (st : Int32) (so : Int32) (se : Nat) (hm : Nat → Nat) (sn : Nat → Nat) (sp : Nat → Nat) (sd : Nat → Nat) (kbr : Nat) (kst : Int32) (kso : Int32) (kse : Nat) (mq : Nat → Nat) (ea : Int32) (fe : Int32) (fs : Int32) (sw : Int32) (ks : Int32) (hs : Int64) (hi : i < 4) (hho : ho < 36) (hse : se ≤ 6) (hsn : ∀ j, j < 6 → sn j < 4) (hsp : ∀ j, j < 6 → sp j < 36) (hsd : ∀ j, j < 6 → sd j < 9) (hkd : ∀ j, j < 4 → kd j < 5) : Met l yX9_isHome (Cond.code yX9_isHome cX9_isHome 6 (some .boolean) :: gT) (rk 3) (ROp (dC, dI) [(mq 0, .inr (9, [.ref (mq 1), .int (nI ps), .int ea, .int (nI nc), .int (nI br), .int st, .int so, .int sr, .ref (mq 2), .ref (mq 3), .int fe, .int fs, .ref (mq 4), .int (nI se), .ref (mq 5), .ref (mq 6), .int sw, .int ks, .int (nI kbr), .int kst, .int kso, .int (nI kse), .ref (mq 7), .ref (mq 8), .ref (mq 9), .long hs])), (mq 2, .inl (ca 14, 8, .inl (fun zj => nI (rwN kd hm zj)))), (mq 5, .inl (ca 17, 18, .inl (fun zj => nI (sgN sn sp sd zj))))] (TY ca) [Value.ref (mq 0), Value.int (nI i), Value.int (nI ho)]) (vp_Si (fun r => r = bI (chN (kd i) i se sn sp sd ho))) 0 0 (fun _ => False) := by
  refine Met.ofW (cc := cX9_isHome) (maxL := 6) (ret := (some .boolean)) (by decide) rfl ?_
  intro p e s m args below meth c s₁ B hml hv
  obtain ⟨rfl, hP, hK⟩ := hv
  have hx := B.exec
  have hb := B.bytes
  have hr := B.returns
  have hts := atoms_spec (ws := (Cond.code yX9_isHome cX9_isHome 6 (some .boolean) :: gT)) B.pre
  have htl : ∀ w ∈ gT, w.before _ s = true := fun w h => hts w (List.mem_cons_of_mem _ h)
  have hown : s.vm.findClass RX9 = some m.cls := findClass_of_methodNamed B.named
  have hlocks := B.notSynchronized
  have hl := lv_entry ([Value.ref (mq 0), Value.int (nI i), Value.int (nI ho)]) (n := 6) (Nat.le_of_ble_eq_true rfl)
  rw [lg_entry_eq]
  generalize (lg_sl ([Value.ref (mq 0), Value.int (nI i), Value.int (nI ho)]) ++ List.replicate (6 - (lg_sl ([Value.ref (mq 0), Value.int (nI i), Value.int (nI ho)])).length) Slot.unset).toArray = ls at hl ⊢
  have hl : lv_has ls 6 [(0, .ref (mq 0)), (1, .int (nI i)), (2, .int (nI ho))] := hl
  refine lv_iconst (v := nI 1) hx hb dX9_isHome_0 (by decide) ?_
  refine lv_istore_n (lv' := [(3, .int (nI 1)), (0, .ref (mq 0)), (1, .int (nI i)), (2, .int (nI ho))]) hx hb dX9_isHome_1 rfl hl (by decide) rfl (fun ls hl => ?_)
  refine lv_iconst (v := nI 0) hx hb dX9_isHome_2 (by decide) ?_
  refine lv_istore (lv' := [(4, .int (nI 0)), (3, .int (nI 1)), (0, .ref (mq 0)), (1, .int (nI i)), (2, .int (nI ho))]) hx hb dX9_isHome_3 hl (by decide) rfl (fun ls hl => ?_)
  have lp5 : ∀ (n : Nat) (j : Nat) (isb : Bool), (j + n = se) → ((isb && chL (kd i) i ho sn sp sd n j) = chL (kd i) i ho sn sp sd se 0) → ∀ (ls : Array Slot), lv_has ls 6 [(4, .int (nI (3 * j))), (3, .int (bI isb)), (0, .ref (mq 0)), (1, .int (nI i)), (2, .int (nI ho))] → W p l e (headSpec (Cond.code yX9_isHome cX9_isHome 6 (some .boolean) :: gT) (rk 3)).room s m ([Value.ref (mq 0), Value.int (nI i), Value.int (nI ho)] : List Value).toArray below meth c s.heap [] 0 0 (MQ below (vp_Si (fun r => r = bI (chN (kd i) i se sn sp sd ho))) ([Value.ref (mq 0), Value.int (nI i), Value.int (nI ho)] : List Value).toArray s 0 0 (fun _ => False)) (F0 m 5 ls []) := by
    clear hl
    intro n
    induction n with
    | zero =>
      intro j isb hj hR ls hl
      refine lv_iload hx hb dX9_isHome_5 (lv_at hl 0 rfl) ?_
      refine lv_iconst (v := nI 3) hx hb dX9_isHome_7 (by decide) ?_
      refine lv_aload_n hx hb dX9_isHome_8 rfl (lv_at hl 2 rfl) ?_
      refine va_get (D := (dC, dI)) (ci := 9) (v := .int (nI se)) (C := RX9) (T := TX9) (N := 26) hx hb htl iX9 hown hK hP 0 rfl rfl 13 (by decide) (htl _ wd_564) (fun _ h9 => h9) rfl dX9_isHome_9 ?_
      refine lv_imul hx hb dX9_isHome_12 ?_
      refine lv_ri (y := nI (3 * se)) (pk_mul 3 se) ?_
      refine lv_icmp_ge (tgt := 88) hx hb dX9_isHome_13 (by decide) (fun c_1 => ?_) (fun c_1 => ?_)
      · refine lv_iload_n hx hb dX9_isHome_88 rfl (lv_at hl 1 rfl) ?_
        exact W.zret (v := bI isb) hx hb hr (bI_n _) (fun t ht hW => ⟨bI isb, rfl, by show _ = _; unfold chN; rw [← hR]; simp [chL], ht⟩) (fun q h => by cases h) dX9_isHome_89
      · exact absurd (nI_le (by omega) (by omega)) c_1
    | succ n ih5 =>
      intro j isb hj hR ls hl
      refine lv_iload hx hb dX9_isHome_5 (lv_at hl 0 rfl) ?_
      refine lv_iconst (v := nI 3) hx hb dX9_isHome_7 (by decide) ?_
      refine lv_aload_n hx hb dX9_isHome_8 rfl (lv_at hl 2 rfl) ?_
      refine va_get (D := (dC, dI)) (ci := 9) (v := .int (nI se)) (C := RX9) (T := TX9) (N := 26) hx hb htl iX9 hown hK hP 0 rfl rfl 13 (by decide) (htl _ wd_564) (fun _ h9 => h9) rfl dX9_isHome_9 ?_
      refine lv_imul hx hb dX9_isHome_12 ?_
      refine lv_ri (y := nI (3 * se)) (pk_mul 3 se) ?_
      refine lv_icmp_ge (tgt := 88) hx hb dX9_isHome_13 (by decide) (fun c_2 => ?_) (fun c_2 => ?_)
      · exact absurd c_2 (nI_ge (by omega) (by omega))
      · refine lv_aload_n hx hb dX9_isHome_16 rfl (lv_at hl 2 rfl) ?_
        refine va_get (D := (dC, dI)) (ci := 9) (v := .ref (mq 2)) (C := RX9) (T := TX9) (N := 26) hx hb htl iX9 hown hK hP 0 rfl rfl 8 (by decide) (htl _ wd_559) (fun _ h9 => h9) rfl dX9_isHome_17 ?_
        refine lv_iconst (v := nI 2) hx hb dX9_isHome_20 (by decide) ?_
        refine lv_iload_n hx hb dX9_isHome_21 rfl (lv_at hl 3 rfl) ?_
        refine lv_imul hx hb dX9_isHome_22 ?_
        refine lv_ri (y := nI (2 * i)) (pk_mul 2 i) ?_
        refine va_iald hx hb hK hP 1 14 rfl rfl (vp_in_nI (by omega) (by decide)) dX9_isHome_23 ?_
        refine lv_ri (y := nI ((rwN kd hm) (2 * i))) (congrArg (fun zj => nI (rwN kd hm zj)) (nI_clamp (by omega))) ?_
        refine lv_ri (y := nI (kd i)) (congrArg nI (rwN_e kd hm i)) ?_
        refine lv_iload_n hx hb dX9_isHome_24 rfl (lv_at hl 4 rfl) ?_
        refine lv_aload_n hx hb dX9_isHome_25 rfl (lv_at hl 2 rfl) ?_
        refine va_get (D := (dC, dI)) (ci := 9) (v := .ref (mq 5)) (C := RX9) (T := TX9) (N := 26) hx hb htl iX9 hown hK hP 0 rfl rfl 14 (by decide) (htl _ wd_565) (fun _ h9 => h9) rfl dX9_isHome_26 ?_
        refine lv_iload hx hb dX9_isHome_29 (lv_at hl 0 rfl) ?_
        refine lv_iconst (v := nI 1) hx hb dX9_isHome_31 (by decide) ?_
        refine lv_iadd hx hb dX9_isHome_32 ?_
        refine lv_ri (y := nI ((3 * j) + 1)) (nI_add (3 * j) 1) ?_
        refine va_iald hx hb hK hP 2 17 rfl rfl (vp_in_nI (by omega) (by decide)) dX9_isHome_33 ?_
        refine lv_ri (y := nI ((sgN sn sp sd) ((3 * j) + 1))) (congrArg (fun zj => nI (sgN sn sp sd zj)) (nI_clamp (by omega))) ?_
        refine lv_ri (y := nI (sp j)) (congrArg nI (sgN_1 sn sp sd j)) ?_
        refine roS (As := [Value.int (nI (kd i)), Value.int (nI ho), Value.int (nI (sp j))]) (rest := []) (kX9_pointsBy l dC dI ca (kd i) ho (sp j) (hkd i hi) hho (hsp j (by omega))) ⟨hx, hb, hml, hown, htl⟩ (cSg 3 htl wd_686 wd_687 wd_6 wd_688 rfl rfl (by decide +kernel) ⟨Nat.le_of_ble_eq_true rfl, Nat.le_of_ble_eq_true rfl⟩) (hP.sub [] rfl) hK rfl hl.1 rfl (Nat.le_of_ble_eq_true rfl) dX9_isHome_34 ⟨Nat.zero_le _, Nat.zero_le _⟩ (fun r hr9 => ?_)
        subst hr9
        refine lv_aload_n hx hb dX9_isHome_37 rfl (lv_at hl 2 rfl) ?_
        refine va_get (D := (dC, dI)) (ci := 9) (v := .ref (mq 5)) (C := RX9) (T := TX9) (N := 26) hx hb htl iX9 hown hK hP 0 rfl rfl 14 (by decide) (htl _ wd_565) (fun _ h9 => h9) rfl dX9_isHome_38 ?_
        refine lv_iload hx hb dX9_isHome_41 (lv_at hl 0 rfl) ?_
        refine lv_iconst (v := nI 2) hx hb dX9_isHome_43 (by decide) ?_
        refine lv_iadd hx hb dX9_isHome_44 ?_
        refine lv_ri (y := nI ((3 * j) + 2)) (nI_add (3 * j) 2) ?_
        refine va_iald hx hb hK hP 2 17 rfl rfl (vp_in_nI (by omega) (by decide)) dX9_isHome_45 ?_
        refine lv_ri (y := nI ((sgN sn sp sd) ((3 * j) + 2))) (congrArg (fun zj => nI (sgN sn sp sd zj)) (nI_clamp (by omega))) ?_
        refine lv_ri (y := nI (sd j)) (congrArg nI (sgN_2 sn sp sd j)) ?_
        refine lv_icmp_ne (tgt := 53) hx hb dX9_isHome_46 (by decide) (fun c_3 => ?_) (fun c_3 => ?_)
        · rw [nI_eq (Nat.lt_trans (pointN_lt _ _ _) (by decide)) (Nat.lt_trans (hsd j (by omega)) (by decide))] at c_3
          refine lv_iconst (v := nI 0) hx hb dX9_isHome_53 (by decide) ?_
          refine lv_istore (lv' := [(5, .int (nI 0)), (4, .int (nI (3 * j))), (3, .int (bI isb)), (0, .ref (mq 0)), (1, .int (nI i)), (2, .int (nI ho))]) hx hb dX9_isHome_54 hl (by decide) rfl (fun ls hl => ?_)
          refine lv_iload_n hx hb dX9_isHome_56 rfl (lv_at hl 2 rfl) ?_
          refine lv_if_eq (tgt := 80) hx hb dX9_isHome_57 (by decide) (fun c_4 => ?_) (fun c_4 => ?_)
          · replace c_4 := bI_f c_4
            refine lv_iconst (v := nI 0) hx hb dX9_isHome_80 (by decide) ?_
            refine lv_istore_n (lv' := [(3, .int (nI 0)), (5, .int (nI 0)), (4, .int (nI (3 * j))), (0, .ref (mq 0)), (1, .int (nI i)), (2, .int (nI ho))]) hx hb dX9_isHome_81 rfl hl (by decide) rfl (fun ls hl => ?_)
            refine lv_iinc (v := nI (3 * (j + 1))) (lv' := [(4, .int (nI (3 * (j + 1)))), (3, .int (nI 0)), (5, .int (nI 0)), (0, .ref (mq 0)), (1, .int (nI i)), (2, .int (nI ho))]) hx hb dX9_isHome_82 hl (k := 2) rfl (by rw [show 3 * (j + 1) = 3 * j + 3 by omega]; exact nI_add _ _) (by decide) rfl (fun ls hl => ?_)
            refine lv_goto (tgt := 5) hx hb dX9_isHome_85 (by decide) ?_
            exact ih5 (j + 1) false (by omega) (by rw [← hR]; simp [chL, c_4, c_3]) ls (lv_sub hl [0, 1, 3, 4, 5] rfl)
          · replace c_4 := bI_t c_4
            refine lv_aload_n hx hb dX9_isHome_60 rfl (lv_at hl 3 rfl) ?_
            refine va_get (D := (dC, dI)) (ci := 9) (v := .ref (mq 5)) (C := RX9) (T := TX9) (N := 26) hx hb htl iX9 hown hK hP 0 rfl rfl 14 (by decide) (htl _ wd_565) (fun _ h9 => h9) rfl dX9_isHome_61 ?_
            refine lv_iload hx hb dX9_isHome_64 (lv_at hl 1 rfl) ?_
            refine va_iald hx hb hK hP 2 17 rfl rfl (vp_in_nI (by omega) (by decide)) dX9_isHome_66 ?_
            refine lv_ri (y := nI ((sgN sn sp sd) (3 * j))) (congrArg (fun zj => nI (sgN sn sp sd zj)) (nI_clamp (by omega))) ?_
            refine lv_ri (y := nI (sn j)) (congrArg nI (sgN_0 sn sp sd j)) ?_
            refine lv_iload_n hx hb dX9_isHome_67 rfl (lv_at hl 4 rfl) ?_
            refine lv_icmp_ne (tgt := 76) hx hb dX9_isHome_68 (by decide) (fun c_5 => ?_) (fun c_5 => ?_)
            · rw [nI_eq (Nat.lt_trans (hsn j (by omega)) (by decide)) (by omega)] at c_5
              refine lv_iconst (v := nI 1) hx hb dX9_isHome_76 (by decide) ?_
              refine lv_goto (tgt := 81) hx hb dX9_isHome_77 (by decide) ?_
              refine lv_istore_n (lv' := [(3, .int (nI 1)), (5, .int (nI 0)), (4, .int (nI (3 * j))), (0, .ref (mq 0)), (1, .int (nI i)), (2, .int (nI ho))]) hx hb dX9_isHome_81 rfl hl (by decide) rfl (fun ls hl => ?_)
              refine lv_iinc (v := nI (3 * (j + 1))) (lv' := [(4, .int (nI (3 * (j + 1)))), (3, .int (nI 1)), (5, .int (nI 0)), (0, .ref (mq 0)), (1, .int (nI i)), (2, .int (nI ho))]) hx hb dX9_isHome_82 hl (k := 2) rfl (by rw [show 3 * (j + 1) = 3 * j + 3 by omega]; exact nI_add _ _) (by decide) rfl (fun ls hl => ?_)
              refine lv_goto (tgt := 5) hx hb dX9_isHome_85 (by decide) ?_
              exact ih5 (j + 1) true (by omega) (by rw [← hR]; simp [chL, c_4, c_3, c_5]) ls (lv_sub hl [0, 1, 3, 4, 5] rfl)
            · rw [nI_eq (Nat.lt_trans (hsn j (by omega)) (by decide)) (by omega)] at c_5
              refine lv_iload hx hb dX9_isHome_71 (lv_at hl 0 rfl) ?_
              refine lv_if_eq (tgt := 80) hx hb dX9_isHome_73 (by decide) (fun c_6 => ?_) (fun c_6 => ?_)
              · refine lv_iconst (v := nI 0) hx hb dX9_isHome_80 (by decide) ?_
                refine lv_istore_n (lv' := [(3, .int (nI 0)), (5, .int (nI 0)), (4, .int (nI (3 * j))), (0, .ref (mq 0)), (1, .int (nI i)), (2, .int (nI ho))]) hx hb dX9_isHome_81 rfl hl (by decide) rfl (fun ls hl => ?_)
                refine lv_iinc (v := nI (3 * (j + 1))) (lv' := [(4, .int (nI (3 * (j + 1)))), (3, .int (nI 0)), (5, .int (nI 0)), (0, .ref (mq 0)), (1, .int (nI i)), (2, .int (nI ho))]) hx hb dX9_isHome_82 hl (k := 2) rfl (by rw [show 3 * (j + 1) = 3 * j + 3 by omega]; exact nI_add _ _) (by decide) rfl (fun ls hl => ?_)
                refine lv_goto (tgt := 5) hx hb dX9_isHome_85 (by decide) ?_
                exact ih5 (j + 1) false (by omega) (by rw [← hR]; simp [chL, c_4, c_3, c_5]) ls (lv_sub hl [0, 1, 3, 4, 5] rfl)
              · exact absurd c_6 (by decide)
        · rw [nI_eq (Nat.lt_trans (pointN_lt _ _ _) (by decide)) (Nat.lt_trans (hsd j (by omega)) (by decide))] at c_3
          refine lv_iconst (v := nI 1) hx hb dX9_isHome_49 (by decide) ?_
          refine lv_goto (tgt := 54) hx hb dX9_isHome_50 (by decide) ?_
          refine lv_istore (lv' := [(5, .int (nI 1)), (4, .int (nI (3 * j))), (3, .int (bI isb)), (0, .ref (mq 0)), (1, .int (nI i)), (2, .int (nI ho))]) hx hb dX9_isHome_54 hl (by decide) rfl (fun ls hl => ?_)
          refine lv_iload_n hx hb dX9_isHome_56 rfl (lv_at hl 2 rfl) ?_
          refine lv_if_eq (tgt := 80) hx hb dX9_isHome_57 (by decide) (fun c_7 => ?_) (fun c_7 => ?_)
          · replace c_7 := bI_f c_7
            refine lv_iconst (v := nI 0) hx hb dX9_isHome_80 (by decide) ?_
            refine lv_istore_n (lv' := [(3, .int (nI 0)), (5, .int (nI 1)), (4, .int (nI (3 * j))), (0, .ref (mq 0)), (1, .int (nI i)), (2, .int (nI ho))]) hx hb dX9_isHome_81 rfl hl (by decide) rfl (fun ls hl => ?_)
            refine lv_iinc (v := nI (3 * (j + 1))) (lv' := [(4, .int (nI (3 * (j + 1)))), (3, .int (nI 0)), (5, .int (nI 1)), (0, .ref (mq 0)), (1, .int (nI i)), (2, .int (nI ho))]) hx hb dX9_isHome_82 hl (k := 2) rfl (by rw [show 3 * (j + 1) = 3 * j + 3 by omega]; exact nI_add _ _) (by decide) rfl (fun ls hl => ?_)
            refine lv_goto (tgt := 5) hx hb dX9_isHome_85 (by decide) ?_
            exact ih5 (j + 1) false (by omega) (by rw [← hR]; simp [chL, c_7, c_3]) ls (lv_sub hl [0, 1, 3, 4, 5] rfl)
          · replace c_7 := bI_t c_7
            refine lv_aload_n hx hb dX9_isHome_60 rfl (lv_at hl 3 rfl) ?_
            refine va_get (D := (dC, dI)) (ci := 9) (v := .ref (mq 5)) (C := RX9) (T := TX9) (N := 26) hx hb htl iX9 hown hK hP 0 rfl rfl 14 (by decide) (htl _ wd_565) (fun _ h9 => h9) rfl dX9_isHome_61 ?_
            refine lv_iload hx hb dX9_isHome_64 (lv_at hl 1 rfl) ?_
            refine va_iald hx hb hK hP 2 17 rfl rfl (vp_in_nI (by omega) (by decide)) dX9_isHome_66 ?_
            refine lv_ri (y := nI ((sgN sn sp sd) (3 * j))) (congrArg (fun zj => nI (sgN sn sp sd zj)) (nI_clamp (by omega))) ?_
            refine lv_ri (y := nI (sn j)) (congrArg nI (sgN_0 sn sp sd j)) ?_
            refine lv_iload_n hx hb dX9_isHome_67 rfl (lv_at hl 4 rfl) ?_
            refine lv_icmp_ne (tgt := 76) hx hb dX9_isHome_68 (by decide) (fun c_8 => ?_) (fun c_8 => ?_)
            · rw [nI_eq (Nat.lt_trans (hsn j (by omega)) (by decide)) (by omega)] at c_8
              refine lv_iconst (v := nI 1) hx hb dX9_isHome_76 (by decide) ?_
              refine lv_goto (tgt := 81) hx hb dX9_isHome_77 (by decide) ?_
              refine lv_istore_n (lv' := [(3, .int (nI 1)), (5, .int (nI 1)), (4, .int (nI (3 * j))), (0, .ref (mq 0)), (1, .int (nI i)), (2, .int (nI ho))]) hx hb dX9_isHome_81 rfl hl (by decide) rfl (fun ls hl => ?_)
              refine lv_iinc (v := nI (3 * (j + 1))) (lv' := [(4, .int (nI (3 * (j + 1)))), (3, .int (nI 1)), (5, .int (nI 1)), (0, .ref (mq 0)), (1, .int (nI i)), (2, .int (nI ho))]) hx hb dX9_isHome_82 hl (k := 2) rfl (by rw [show 3 * (j + 1) = 3 * j + 3 by omega]; exact nI_add _ _) (by decide) rfl (fun ls hl => ?_)
              refine lv_goto (tgt := 5) hx hb dX9_isHome_85 (by decide) ?_
              exact ih5 (j + 1) true (by omega) (by rw [← hR]; simp [chL, c_7, c_3, c_8]) ls (lv_sub hl [0, 1, 3, 4, 5] rfl)
            · rw [nI_eq (Nat.lt_trans (hsn j (by omega)) (by decide)) (by omega)] at c_8
              refine lv_iload hx hb dX9_isHome_71 (lv_at hl 0 rfl) ?_
              refine lv_if_eq (tgt := 80) hx hb dX9_isHome_73 (by decide) (fun c_9 => ?_) (fun c_9 => ?_)
              · exact absurd c_9 (by decide)
              · refine lv_iconst (v := nI 1) hx hb dX9_isHome_76 (by decide) ?_
                refine lv_goto (tgt := 81) hx hb dX9_isHome_77 (by decide) ?_
                refine lv_istore_n (lv' := [(3, .int (nI 1)), (5, .int (nI 1)), (4, .int (nI (3 * j))), (0, .ref (mq 0)), (1, .int (nI i)), (2, .int (nI ho))]) hx hb dX9_isHome_81 rfl hl (by decide) rfl (fun ls hl => ?_)
                refine lv_iinc (v := nI (3 * (j + 1))) (lv' := [(4, .int (nI (3 * (j + 1)))), (3, .int (nI 1)), (5, .int (nI 1)), (0, .ref (mq 0)), (1, .int (nI i)), (2, .int (nI ho))]) hx hb dX9_isHome_82 hl (k := 2) rfl (by rw [show 3 * (j + 1) = 3 * j + 3 by omega]; exact nI_add _ _) (by decide) rfl (fun ls hl => ?_)
                refine lv_goto (tgt := 5) hx hb dX9_isHome_85 (by decide) ?_
                exact ih5 (j + 1) true (by omega) (by rw [← hR]; simp [chL, c_7, c_3, c_8]) ls (lv_sub hl [0, 1, 3, 4, 5] rfl)
  exact lp5 se 0 true (by omega) (by simp) ls (lv_sub hl [0, 1, 2, 3, 4] rfl)
def dnI : Nat → Int32
  | 0 => -1
  | n + 1 => nI n
theorem dnI_eq (n : Nat) : nI n + Int32.ofInt (-1) = dnI n := by
  cases n with
  | zero => decide
  | succ k => exact pk_m1 k
def hmM (f : Nat → Bool) : Nat → Nat → Int32 → Nat × Int32
  | 0, m, x => (m, x)
  | n + 1, m, x => if f n = true then hmM f n (m + 1) (nI n) else hmM f n m x
set_option maxHeartbeats 4000000 in
set_option maxRecDepth 100000 in
theorem kX9_homesOf (l : Launch) (dC : Nat → ClassId) (dI : Nat → Nat → Nat) (ca : Nat → ClassId) (i : Nat) (x2 : Int32) (kd : Nat → Nat) (nc : Nat) (sr : Int32) (ps : Nat) (br : Nat) (st : Int32) (so : Int32) (se : Nat) (hm : Nat → Nat) (sn : Nat → Nat) (sp : Nat → Nat) (sd : Nat → Nat) (kbr : Nat) (kst : Int32) (kso : Int32) (kse : Nat) (mq : Nat → Nat) (ea : Int32) (fe : Int32) (fs : Int32) (sw : Int32) (ks : Int32) (hs : Int64) (hi : i < 4) (hse : se ≤ 6) (hsn : ∀ j, j < 6 → sn j < 4) (hsp : ∀ j, j < 6 → sp j < 36) (hsd : ∀ j, j < 6 → sd j < 9) (hkd : ∀ j, j < 4 → kd j < 5) : Met l yX9_homesOf (Cond.code yX9_homesOf cX9_homesOf 6 (some .int) :: gT) (rk 4) (ROp (dC, dI) [(mq 0, .inr (9, [.ref (mq 1), .int (nI ps), .int ea, .int (nI nc), .int (nI br), .int st, .int so, .int sr, .ref (mq 2), .ref (mq 3), .int fe, .int fs, .ref (mq 4), .int (nI se), .ref (mq 5), .ref (mq 6), .int sw, .int ks, .int (nI kbr), .int kst, .int kso, .int (nI kse), .ref (mq 7), .ref (mq 8), .ref (mq 9), .long hs])), (mq 2, .inl (ca 14, 8, .inl (fun zj => nI (rwN kd hm zj)))), (mq 5, .inl (ca 17, 18, .inl (fun zj => nI (sgN sn sp sd zj))))] (TY ca) [Value.ref (mq 0), Value.int (nI i), Value.int x2]) (vp_Si (fun r => r = if x2 = 0 then nI (hmM (chN (kd i) i se sn sp sd) 36 0 (-1)).1 else (hmM (chN (kd i) i se sn sp sd) 36 0 (-1)).2)) 0 0 (fun _ => False) := by
  refine Met.ofW (cc := cX9_homesOf) (maxL := 6) (ret := (some .int)) (by decide) rfl ?_
  intro p e s m args below meth c s₁ B hml hv
  obtain ⟨rfl, hP, hK⟩ := hv
  have hx := B.exec
  have hb := B.bytes
  have hr := B.returns
  have hts := atoms_spec (ws := (Cond.code yX9_homesOf cX9_homesOf 6 (some .int) :: gT)) B.pre
  have htl : ∀ w ∈ gT, w.before _ s = true := fun w h => hts w (List.mem_cons_of_mem _ h)
  have hown : s.vm.findClass RX9 = some m.cls := findClass_of_methodNamed B.named
  have hlocks := B.notSynchronized
  have hl := lv_entry ([Value.ref (mq 0), Value.int (nI i), Value.int x2]) (n := 6) (Nat.le_of_ble_eq_true rfl)
  rw [lg_entry_eq]
  generalize (lg_sl ([Value.ref (mq 0), Value.int (nI i), Value.int x2]) ++ List.replicate (6 - (lg_sl ([Value.ref (mq 0), Value.int (nI i), Value.int x2])).length) Slot.unset).toArray = ls at hl ⊢
  have hl : lv_has ls 6 [(0, .ref (mq 0)), (1, .int (nI i)), (2, .int x2)] := hl
  refine lv_iconst (v := nI 0) hx hb dX9_homesOf_0 (by decide) ?_
  refine lv_istore_n (lv' := [(3, .int (nI 0)), (0, .ref (mq 0)), (1, .int (nI i)), (2, .int x2)]) hx hb dX9_homesOf_1 rfl hl (by decide) rfl (fun ls hl => ?_)
  refine lv_iconst (v := (-1)) hx hb dX9_homesOf_2 (by decide) ?_
  refine lv_istore (lv' := [(4, .int (-1)), (3, .int (nI 0)), (0, .ref (mq 0)), (1, .int (nI i)), (2, .int x2)]) hx hb dX9_homesOf_3 hl (by decide) rfl (fun ls hl => ?_)
  refine lv_bipush (v := nI 35) hx hb dX9_homesOf_5 (by decide) ?_
  refine lv_istore (lv' := [(5, .int (nI 35)), (4, .int (-1)), (3, .int (nI 0)), (0, .ref (mq 0)), (1, .int (nI i)), (2, .int x2)]) hx hb dX9_homesOf_7 hl (by decide) rfl (fun ls hl => ?_)
  have lp9 : ∀ (n : Nat) (many : Nat) (lst : Int32), (n ≤ 36) → (hmM (chN (kd i) i se sn sp sd) n many lst = hmM (chN (kd i) i se sn sp sd) 36 0 (-1)) → ∀ (ls : Array Slot), lv_has ls 6 [(5, .int (dnI n)), (4, .int lst), (3, .int (nI many)), (0, .ref (mq 0)), (1, .int (nI i)), (2, .int x2)] → W p l e (headSpec (Cond.code yX9_homesOf cX9_homesOf 6 (some .int) :: gT) (rk 4)).room s m ([Value.ref (mq 0), Value.int (nI i), Value.int x2] : List Value).toArray below meth c s.heap [] 0 0 (MQ below (vp_Si (fun r => r = if x2 = 0 then nI (hmM (chN (kd i) i se sn sp sd) 36 0 (-1)).1 else (hmM (chN (kd i) i se sn sp sd) 36 0 (-1)).2)) ([Value.ref (mq 0), Value.int (nI i), Value.int x2] : List Value).toArray s 0 0 (fun _ => False)) (F0 m 9 ls []) := by
    clear hl
    intro n
    induction n with
    | zero =>
      intro many lst hn hR ls hl
      have hl : lv_has ls 6 [(5, .int (-1)), (4, .int lst), (3, .int (nI many)), (0, .ref (mq 0)), (1, .int (nI i)), (2, .int x2)] := hl
      refine lv_iload hx hb dX9_homesOf_9 (lv_at hl 0 rfl) ?_
      refine lv_if_lt (tgt := 37) hx hb dX9_homesOf_11 (by decide) (fun c_1 => ?_) (fun c_1 => ?_)
      · refine lv_iload_n hx hb dX9_homesOf_37 rfl (lv_at hl 5 rfl) ?_
        refine lv_if_ne (tgt := 45) hx hb dX9_homesOf_38 (by decide) (fun c_2 => ?_) (fun c_2 => ?_)
        · refine lv_iload hx hb dX9_homesOf_45 (lv_at hl 1 rfl) ?_
          exact W.iret (v := lst) hx hb hr (fun t ht hW => ⟨lst, rfl, by show _ = _; rw [if_neg c_2, ← hR]; rfl, ht⟩) (fun q h => by cases h) dX9_homesOf_47
        · refine lv_iload_n hx hb dX9_homesOf_41 rfl (lv_at hl 2 rfl) ?_
          refine lv_goto (tgt := 47) hx hb dX9_homesOf_42 (by decide) ?_
          exact W.iret (v := nI many) hx hb hr (fun t ht hW => ⟨nI many, rfl, by show _ = _; rw [if_pos c_2, ← hR]; rfl, ht⟩) (fun q h => by cases h) dX9_homesOf_47
      · exact absurd c_1 (by decide)
    | succ n ih9 =>
      intro many lst hn hR ls hl
      have hl : lv_has ls 6 [(5, .int (nI n)), (4, .int lst), (3, .int (nI many)), (0, .ref (mq 0)), (1, .int (nI i)), (2, .int x2)] := hl
      refine lv_iload hx hb dX9_homesOf_9 (lv_at hl 0 rfl) ?_
      refine lv_if_lt (tgt := 37) hx hb dX9_homesOf_11 (by decide) (fun c_3 => ?_) (fun c_3 => ?_)
      · exact absurd c_3 (nI_pos (by omega))
      · refine lv_aload_n hx hb dX9_homesOf_14 rfl (lv_at hl 3 rfl) ?_
        refine lv_iload_n hx hb dX9_homesOf_15 rfl (lv_at hl 4 rfl) ?_
        refine lv_iload hx hb dX9_homesOf_16 (lv_at hl 0 rfl) ?_
        refine roV (As := [Value.int (nI i), Value.int (nI n)]) (rest := []) (kX9_isHome l dC dI ca i n kd nc sr ps br st so se hm sn sp sd kbr kst kso kse mq ea fe fs sw ks hs hi (by omega) hse hsn hsp hsd hkd) ⟨hx, hb, hml, hown, htl⟩ (cVg (C := RX9) 2 htl wd_716 wd_718 wp_26 wd_6 wd_719 rfl rfl (by decide +kernel) ⟨Nat.le_of_ble_eq_true rfl, Nat.le_of_ble_eq_true rfl⟩) (hP.sub [0, 1, 2] rfl) hK (va_recv hK hP (ci := 9) (q0 := 0) rfl rfl) rfl hl.1 rfl (Nat.le_of_ble_eq_true rfl) dX9_homesOf_18 ⟨Nat.zero_le _, Nat.zero_le _⟩ (fun r hr9 => ?_)
        subst hr9
        refine lv_if_eq (tgt := 31) hx hb dX9_homesOf_21 (by decide) (fun c_4 => ?_) (fun c_4 => ?_)
        · replace c_4 := bI_f c_4
          refine lv_iinc (v := dnI n) (lv' := [(5, .int (dnI n)), (4, .int lst), (3, .int (nI many)), (0, .ref (mq 0)), (1, .int (nI i)), (2, .int x2)]) hx hb dX9_homesOf_31 hl (k := 0) rfl (dnI_eq n) (by decide) rfl (fun ls hl => ?_)
          refine lv_goto (tgt := 9) hx hb dX9_homesOf_34 (by decide) ?_
          exact ih9 many lst (by omega) (by rw [← hR]; simp only [hmM, c_4, ↓reduceIte, Bool.false_eq_true]) ls (lv_sub hl [0, 1, 2, 3, 4, 5] rfl)
        · replace c_4 := bI_t c_4
          refine lv_iinc (v := nI (many + 1)) (lv' := [(3, .int (nI (many + 1))), (5, .int (nI n)), (4, .int lst), (0, .ref (mq 0)), (1, .int (nI i)), (2, .int x2)]) hx hb dX9_homesOf_24 hl (k := 2) rfl (nI_add many 1) (by decide) rfl (fun ls hl => ?_)
          refine lv_iload hx hb dX9_homesOf_27 (lv_at hl 1 rfl) ?_
          refine lv_istore (lv' := [(4, .int (nI n)), (3, .int (nI (many + 1))), (5, .int (nI n)), (0, .ref (mq 0)), (1, .int (nI i)), (2, .int x2)]) hx hb dX9_homesOf_29 hl (by decide) rfl (fun ls hl => ?_)
          refine lv_iinc (v := dnI n) (lv' := [(5, .int (dnI n)), (4, .int (nI n)), (3, .int (nI (many + 1))), (0, .ref (mq 0)), (1, .int (nI i)), (2, .int x2)]) hx hb dX9_homesOf_31 hl (k := 2) rfl (dnI_eq n) (by decide) rfl (fun ls hl => ?_)
          refine lv_goto (tgt := 9) hx hb dX9_homesOf_34 (by decide) ?_
          exact ih9 (many + 1) (nI n) (by omega) (by rw [← hR]; simp only [hmM, c_4, ↓reduceIte, Bool.false_eq_true]) ls (lv_sub hl [0, 1, 2, 3, 4, 5] rfl)
  exact lp9 36 0 (-1) (Nat.le_refl 36) rfl ls (lv_sub hl [0, 1, 2, 3, 4, 5] rfl)
def lmL (f : Nat → Nat) (b : Nat → Bool) : Nat → Nat → (Nat → Nat) → Nat → Nat
  | 0, _, _, w => w
  | n + 1, j, pq, w => lmL f b n (j + 1) (va_up pq (f j) (pq (f j) + (if b j = true then 1 else 0))) (if w < pq (f j) + (if b j = true then 1 else 0) then pq (f j) + (if b j = true then 1 else 0) else w)
def bmL (g : Nat → Nat) : Nat → Nat → Int32 → Nat → Int32
  | 0, _, b, _ => b
  | n + 1, j, b, w => if ¬ g j = 0 ∧ ¬ w ≤ g j then bmL g n (j + 1) (nI j) (g j) else bmL g n (j + 1) b w
def lookM (k : Nat) (b : Nat → Bool) : Int32 := bmL (fun fr => lmL (fun ho => pointN k ho fr) b 36 0 (fun _ => 0) 0) 36 0 (-1) 37
theorem lmL_le {f : Nat → Nat} {b : Nat → Bool} : ∀ (n j : Nat) (pq : Nat → Nat) (w : Nat), (∀ x, pq x ≤ j) → w ≤ j → lmL f b n j pq w ≤ j + n
  | 0, _, _, _, _, h => h
  | n + 1, j, pq, w, h1, h2 => by
    unfold lmL
    have h3 := h1 (f j)
    have h4 : (if b j = true then 1 else 0) ≤ 1 := by split <;> omega
    generalize (if b j = true then 1 else 0) = z at h4 ⊢
    have h := lmL_le (f := f) (b := b) n (j + 1) (va_up pq (f j) (pq (f j) + z)) (if w < pq (f j) + z then pq (f j) + z else w) (fun x => by unfold va_up; have := h1 x; split <;> omega) (by split <;> omega)
    omega
def zrF (pq : Nat → Nat) (n : Nat) : Nat → Nat := fun j => if j < n then 0 else pq j
theorem zrF_up (pq : Nat → Nat) (i : Nat) : va_up (zrF pq i) i 0 = zrF pq (i + 1) := by
  funext j
  unfold va_up zrF
  by_cases h : j = i
  · rw [if_pos h, if_pos (show j < i + 1 by omega)]
  · rw [if_neg h]
    by_cases h2 : j < i
    · rw [if_pos h2, if_pos (show j < i + 1 by omega)]
    · rw [if_neg h2, if_neg (show ¬ j < i + 1 by omega)]
theorem zrF_0 (pq : Nat → Nat) : zrF pq 0 = pq := by
  funext j
  unfold zrF
  rw [if_neg (by omega)]
set_option maxHeartbeats 4000000 in
set_option maxRecDepth 100000 in
theorem kX9_lookOf (l : Launch) (dC : Nat → ClassId) (dI : Nat → Nat → Nat) (ca : Nat → ClassId) (sz : Nat) (i : Nat) (kd : Nat → Nat) (nc : Nat) (sr : Int32) (ps : Nat) (br : Nat) (st : Int32) (so : Int32) (se : Nat) (hm : Nat → Nat) (sn : Nat → Nat) (sp : Nat → Nat) (sd : Nat → Nat) (kbr : Nat) (kst : Int32) (kso : Int32) (kse : Nat) (mq : Nat → Nat) (ea : Int32) (fe : Int32) (fs : Int32) (sw : Int32) (ks : Int32) (pa : Nat → Nat) (hs : Int64) (hi : i < 4) (hse : se ≤ 6) (hsn : ∀ j, j < 6 → sn j < 4) (hsp : ∀ j, j < 6 → sp j < 36) (hsd : ∀ j, j < 6 → sd j < 9) (hkd : ∀ j, j < 4 → kd j < 5) : Met l yX9_lookOf (Cond.code yX9_lookOf cX9_lookOf 8 (some .int) :: gT) (rk 4) (EFp (dC, dI) [(mq 0, .inr (9, [.ref (mq 1), .int (nI ps), .int ea, .int (nI nc), .int (nI br), .int st, .int so, .int sr, .ref (mq 2), .ref (mq 3), .int fe, .int fs, .ref (mq 4), .int (nI se), .ref (mq 5), .ref (mq 6), .int sw, .int ks, .int (nI kbr), .int kst, .int kso, .int (nI kse), .ref (mq 7), .ref (mq 8), .ref (mq 9), .long hs])), (mq 2, .inl (ca 14, 8, .inl (fun zj => nI (rwN kd hm zj)))), (mq 5, .inl (ca 17, 18, .inl (fun zj => nI (sgN sn sp sd zj)))), (mq 6, .inl (ca 18, 9, .inl (fun zj => nI (pa zj))))] (TY ca) sz [Value.ref (mq 0), Value.int (nI i)]) (va_Qi (fun (r : Int32) (u : (Nat → Nat)) => match u with | (pa1) => r = lookM (kd i) (chN (kd i) i se sn sp sd)) (EFb (dC, dI) (fun (u : (Nat → Nat)) => match u with | (pa1) => [(mq 0, .inr (9, [.ref (mq 1), .int (nI ps), .int ea, .int (nI nc), .int (nI br), .int st, .int so, .int sr, .ref (mq 2), .ref (mq 3), .int fe, .int fs, .ref (mq 4), .int (nI se), .ref (mq 5), .ref (mq 6), .int sw, .int ks, .int (nI kbr), .int kst, .int kso, .int (nI kse), .ref (mq 7), .ref (mq 8), .ref (mq 9), .long hs])), (mq 2, .inl (ca 14, 8, .inl (fun zj => nI (rwN kd hm zj)))), (mq 5, .inl (ca 17, 18, .inl (fun zj => nI (sgN sn sp sd zj)))), (mq 6, .inl (ca 18, 9, .inl (fun zj => nI (pa1 zj))))]) (TY ca) (va_A [(mq 0, .inr (9, [.ref (mq 1), .int (nI ps), .int ea, .int (nI nc), .int (nI br), .int st, .int so, .int sr, .ref (mq 2), .ref (mq 3), .int fe, .int fs, .ref (mq 4), .int (nI se), .ref (mq 5), .ref (mq 6), .int sw, .int ks, .int (nI kbr), .int kst, .int kso, .int (nI kse), .ref (mq 7), .ref (mq 8), .ref (mq 9), .long hs])), (mq 2, .inl (ca 14, 8, .inl (fun zj => nI (rwN kd hm zj)))), (mq 5, .inl (ca 17, 18, .inl (fun zj => nI (sgN sn sp sd zj)))), (mq 6, .inl (ca 18, 9, .inl (fun zj => nI (pa zj))))] sz)) (va_A [(mq 0, .inr (9, [.ref (mq 1), .int (nI ps), .int ea, .int (nI nc), .int (nI br), .int st, .int so, .int sr, .ref (mq 2), .ref (mq 3), .int fe, .int fs, .ref (mq 4), .int (nI se), .ref (mq 5), .ref (mq 6), .int sw, .int ks, .int (nI kbr), .int kst, .int kso, .int (nI kse), .ref (mq 7), .ref (mq 8), .ref (mq 9), .long hs])), (mq 2, .inl (ca 14, 8, .inl (fun zj => nI (rwN kd hm zj)))), (mq 5, .inl (ca 17, 18, .inl (fun zj => nI (sgN sn sp sd zj)))), (mq 6, .inl (ca 18, 9, .inl (fun zj => nI (pa zj))))] sz)) 0 0 (va_A [(mq 0, .inr (9, [.ref (mq 1), .int (nI ps), .int ea, .int (nI nc), .int (nI br), .int st, .int so, .int sr, .ref (mq 2), .ref (mq 3), .int fe, .int fs, .ref (mq 4), .int (nI se), .ref (mq 5), .ref (mq 6), .int sw, .int ks, .int (nI kbr), .int kst, .int kso, .int (nI kse), .ref (mq 7), .ref (mq 8), .ref (mq 9), .long hs])), (mq 2, .inl (ca 14, 8, .inl (fun zj => nI (rwN kd hm zj)))), (mq 5, .inl (ca 17, 18, .inl (fun zj => nI (sgN sn sp sd zj)))), (mq 6, .inl (ca 18, 9, .inl (fun zj => nI (pa zj))))] sz) := by
  refine Met.ofW (cc := cX9_lookOf) (maxL := 8) (ret := (some .int)) (by decide) rfl ?_
  intro p e s m args below meth c s₁ B hml hv
  obtain ⟨rfl, hsz, hP, hK, hD0⟩ := hv
  have hx := B.exec
  have hb := B.bytes
  have hr := B.returns
  have hts := atoms_spec (ws := (Cond.code yX9_lookOf cX9_lookOf 8 (some .int) :: gT)) B.pre
  have htl : ∀ w ∈ gT, w.before _ s = true := fun w h => hts w (List.mem_cons_of_mem _ h)
  have hown : s.vm.findClass RX9 = some m.cls := findClass_of_methodNamed B.named
  have hlocks := B.notSynchronized
  subst hsz
  have hD := hD0.self (sz := s.heap.size)
  generalize hAe : va_A [(mq 0, .inr (9, [.ref (mq 1), .int (nI ps), .int ea, .int (nI nc), .int (nI br), .int st, .int so, .int sr, .ref (mq 2), .ref (mq 3), .int fe, .int fs, .ref (mq 4), .int (nI se), .ref (mq 5), .ref (mq 6), .int sw, .int ks, .int (nI kbr), .int kst, .int kso, .int (nI kse), .ref (mq 7), .ref (mq 8), .ref (mq 9), .long hs])), (mq 2, .inl (ca 14, 8, .inl (fun zj => nI (rwN kd hm zj)))), (mq 5, .inl (ca 17, 18, .inl (fun zj => nI (sgN sn sp sd zj)))), (mq 6, .inl (ca 18, 9, .inl (fun zj => nI (pa zj))))] s.heap.size = A at hD ⊢
  have hA : ∀ q : Nat, s.heap.size ≤ q → A q := fun q h => by rw [← hAe]; exact Or.inr h
  have hS : va_S A s.heap s.heap [] := va_S.rf
  have hl := lv_entry ([Value.ref (mq 0), Value.int (nI i)]) (n := 8) (Nat.le_of_ble_eq_true rfl)
  rw [lg_entry_eq]
  generalize (lg_sl ([Value.ref (mq 0), Value.int (nI i)]) ++ List.replicate (8 - (lg_sl ([Value.ref (mq 0), Value.int (nI i)])).length) Slot.unset).toArray = ls at hl ⊢
  have hl : lv_has ls 8 [(0, .ref (mq 0)), (1, .int (nI i))] := hl
  refine lv_iconst (v := (-1)) hx hb dX9_lookOf_0 (by decide) ?_
  refine lv_istore_n (lv' := [(2, .int (-1)), (0, .ref (mq 0)), (1, .int (nI i))]) hx hb dX9_lookOf_1 rfl hl (by decide) rfl (fun ls hl => ?_)
  refine lv_bipush (v := nI 37) hx hb dX9_lookOf_2 (by decide) ?_
  refine lv_istore_n (lv' := [(3, .int (nI 37)), (2, .int (-1)), (0, .ref (mq 0)), (1, .int (nI i))]) hx hb dX9_lookOf_4 rfl hl (by decide) rfl (fun ls hl => ?_)
  refine lv_iconst (v := nI 0) hx hb dX9_lookOf_5 (by decide) ?_
  refine lv_istore (lv' := [(4, .int (nI 0)), (3, .int (nI 37)), (2, .int (-1)), (0, .ref (mq 0)), (1, .int (nI i))]) hx hb dX9_lookOf_6 hl (by decide) rfl (fun ls hl => ?_)
  have lp8 : ∀ (n : Nat) (fr : Nat) (best : Int32) (lst : Nat) (paO : Nat → Nat), (fr + n = 36) → (lst ≤ 37) → (bmL (fun fr => lmL (fun ho => pointN (kd i) ho fr) (chN (kd i) i se sn sp sd) 36 0 (fun _ => 0) 0) n fr best lst = bmL (fun fr => lmL (fun ho => pointN (kd i) ho fr) (chN (kd i) i se sn sp sd) 36 0 (fun _ => 0) 0) 36 0 (-1) 37) → ∀ (H : Heap) (locs : List Loc), va_P (dC, dI) vwCl [(mq 0, .inr (9, [.ref (mq 1), .int (nI ps), .int ea, .int (nI nc), .int (nI br), .int st, .int so, .int sr, .ref (mq 2), .ref (mq 3), .int fe, .int fs, .ref (mq 4), .int (nI se), .ref (mq 5), .ref (mq 6), .int sw, .int ks, .int (nI kbr), .int kst, .int kso, .int (nI kse), .ref (mq 7), .ref (mq 8), .ref (mq 9), .long hs])), (mq 2, .inl (ca 14, 8, .inl (fun zj => nI (rwN kd hm zj)))), (mq 5, .inl (ca 17, 18, .inl (fun zj => nI (sgN sn sp sd zj)))), (mq 6, .inl (ca 18, 9, .inl (fun zj => nI (paO zj))))] H → va_D A [(mq 0, .inr (9, [.ref (mq 1), .int (nI ps), .int ea, .int (nI nc), .int (nI br), .int st, .int so, .int sr, .ref (mq 2), .ref (mq 3), .int fe, .int fs, .ref (mq 4), .int (nI se), .ref (mq 5), .ref (mq 6), .int sw, .int ks, .int (nI kbr), .int kst, .int kso, .int (nI kse), .ref (mq 7), .ref (mq 8), .ref (mq 9), .long hs])), (mq 2, .inl (ca 14, 8, .inl (fun zj => nI (rwN kd hm zj)))), (mq 5, .inl (ca 17, 18, .inl (fun zj => nI (sgN sn sp sd zj)))), (mq 6, .inl (ca 18, 9, .inl (fun zj => nI (paO zj))))] → va_S A s.heap H locs → ∀ (ls : Array Slot), lv_has ls 8 [(4, .int (nI fr)), (3, .int (nI lst)), (2, .int best), (0, .ref (mq 0)), (1, .int (nI i))] → W p l e (headSpec (Cond.code yX9_lookOf cX9_lookOf 8 (some .int) :: gT) (rk 4)).room s m ([Value.ref (mq 0), Value.int (nI i)] : List Value).toArray below meth c H locs 0 0 (MQ below (va_Qi (fun (r : Int32) (u : (Nat → Nat)) => match u with | (pa1) => r = lookM (kd i) (chN (kd i) i se sn sp sd)) (EFb (dC, dI) (fun (u : (Nat → Nat)) => match u with | (pa1) => [(mq 0, .inr (9, [.ref (mq 1), .int (nI ps), .int ea, .int (nI nc), .int (nI br), .int st, .int so, .int sr, .ref (mq 2), .ref (mq 3), .int fe, .int fs, .ref (mq 4), .int (nI se), .ref (mq 5), .ref (mq 6), .int sw, .int ks, .int (nI kbr), .int kst, .int kso, .int (nI kse), .ref (mq 7), .ref (mq 8), .ref (mq 9), .long hs])), (mq 2, .inl (ca 14, 8, .inl (fun zj => nI (rwN kd hm zj)))), (mq 5, .inl (ca 17, 18, .inl (fun zj => nI (sgN sn sp sd zj)))), (mq 6, .inl (ca 18, 9, .inl (fun zj => nI (pa1 zj))))]) (TY ca) A) A) ([Value.ref (mq 0), Value.int (nI i)] : List Value).toArray s 0 0 A) (F0 m 8 ls []) := by
    clear hS hP hD
    clear hl
    intro n
    induction n with
    | zero =>
      intro fr best lst paO hf hlst hRf H locs hP hD hS ls hl
      refine lv_iload hx hb dX9_lookOf_8 (lv_at hl 0 rfl) ?_
      refine lv_bipush (v := nI 36) hx hb dX9_lookOf_10 (by decide) ?_
      refine lv_icmp_ge (tgt := 168) hx hb dX9_lookOf_12 (by decide) (fun c_1 => ?_) (fun c_1 => ?_)
      · refine lv_iload_n hx hb dX9_lookOf_168 rfl (lv_at hl 2 rfl) ?_
        have hP9 := hP.sub (ws' := [(mq 0, .inr (9, [.ref (mq 1), .int (nI ps), .int ea, .int (nI nc), .int (nI br), .int st, .int so, .int sr, .ref (mq 2), .ref (mq 3), .int fe, .int fs, .ref (mq 4), .int (nI se), .ref (mq 5), .ref (mq 6), .int sw, .int ks, .int (nI kbr), .int kst, .int kso, .int (nI kse), .ref (mq 7), .ref (mq 8), .ref (mq 9), .long hs])), (mq 2, .inl (ca 14, 8, .inl (fun zj => nI (rwN kd hm zj)))), (mq 5, .inl (ca 17, 18, .inl (fun zj => nI (sgN sn sp sd zj)))), (mq 6, .inl (ca 18, 9, .inl (fun zj => nI (paO zj))))]) [0, 1, 2, 3] rfl
        have hD9 := hD.sub (ws' := [(mq 0, .inr (9, [.ref (mq 1), .int (nI ps), .int ea, .int (nI nc), .int (nI br), .int st, .int so, .int sr, .ref (mq 2), .ref (mq 3), .int fe, .int fs, .ref (mq 4), .int (nI se), .ref (mq 5), .ref (mq 6), .int sw, .int ks, .int (nI kbr), .int kst, .int kso, .int (nI kse), .ref (mq 7), .ref (mq 8), .ref (mq 9), .long hs])), (mq 2, .inl (ca 14, 8, .inl (fun zj => nI (rwN kd hm zj)))), (mq 5, .inl (ca 17, 18, .inl (fun zj => nI (sgN sn sp sd zj)))), (mq 6, .inl (ca 18, 9, .inl (fun zj => nI (paO zj))))]) [0, 1, 2, 3] (by decide) rfl
        exact W.iret (v := best) hx hb hr (fun t ht hW => ⟨⟨best, paO, rfl, by show _ = _; unfold lookM; rw [← hRf]; rfl, by rw [ht]; exact hP9, va_K.moved hW.alike hK, hD9⟩, hS.F ht⟩) hS.2.2 dX9_lookOf_169
      · exact absurd (nI_le (by omega) (by omega)) c_1
    | succ n ih8 =>
      intro fr best lst paO hf hlst hRf H locs hP hD hS ls hl
      refine lv_iload hx hb dX9_lookOf_8 (lv_at hl 0 rfl) ?_
      refine lv_bipush (v := nI 36) hx hb dX9_lookOf_10 (by decide) ?_
      refine lv_icmp_ge (tgt := 168) hx hb dX9_lookOf_12 (by decide) (fun c_2 => ?_) (fun c_2 => ?_)
      · exact absurd c_2 (nI_ge (by omega) (by omega))
      · refine lv_iconst (v := nI 0) hx hb dX9_lookOf_15 (by decide) ?_
        refine lv_istore (lv' := [(5, .int (nI 0)), (4, .int (nI fr)), (3, .int (nI lst)), (2, .int best), (0, .ref (mq 0)), (1, .int (nI i))]) hx hb dX9_lookOf_16 hl (by decide) rfl (fun ls hl => ?_)
        have lp18 : ∀ (n2 : Nat) (dd : Nat), (dd + n2 = 9) → ∀ (H : Heap) (locs : List Loc), va_P (dC, dI) vwCl [(mq 0, .inr (9, [.ref (mq 1), .int (nI ps), .int ea, .int (nI nc), .int (nI br), .int st, .int so, .int sr, .ref (mq 2), .ref (mq 3), .int fe, .int fs, .ref (mq 4), .int (nI se), .ref (mq 5), .ref (mq 6), .int sw, .int ks, .int (nI kbr), .int kst, .int kso, .int (nI kse), .ref (mq 7), .ref (mq 8), .ref (mq 9), .long hs])), (mq 2, .inl (ca 14, 8, .inl (fun zj => nI (rwN kd hm zj)))), (mq 5, .inl (ca 17, 18, .inl (fun zj => nI (sgN sn sp sd zj)))), (mq 6, .inl (ca 18, 9, .inl (fun zj => nI (zrF paO dd zj))))] H → va_D A [(mq 0, .inr (9, [.ref (mq 1), .int (nI ps), .int ea, .int (nI nc), .int (nI br), .int st, .int so, .int sr, .ref (mq 2), .ref (mq 3), .int fe, .int fs, .ref (mq 4), .int (nI se), .ref (mq 5), .ref (mq 6), .int sw, .int ks, .int (nI kbr), .int kst, .int kso, .int (nI kse), .ref (mq 7), .ref (mq 8), .ref (mq 9), .long hs])), (mq 2, .inl (ca 14, 8, .inl (fun zj => nI (rwN kd hm zj)))), (mq 5, .inl (ca 17, 18, .inl (fun zj => nI (sgN sn sp sd zj)))), (mq 6, .inl (ca 18, 9, .inl (fun zj => nI (zrF paO dd zj))))] → va_S A s.heap H locs → ∀ (ls : Array Slot), lv_has ls 8 [(5, .int (nI dd)), (4, .int (nI fr)), (3, .int (nI lst)), (2, .int best), (0, .ref (mq 0)), (1, .int (nI i))] → W p l e (headSpec (Cond.code yX9_lookOf cX9_lookOf 8 (some .int) :: gT) (rk 4)).room s m ([Value.ref (mq 0), Value.int (nI i)] : List Value).toArray below meth c H locs 0 0 (MQ below (va_Qi (fun (r : Int32) (u : (Nat → Nat)) => match u with | (pa1) => r = lookM (kd i) (chN (kd i) i se sn sp sd)) (EFb (dC, dI) (fun (u : (Nat → Nat)) => match u with | (pa1) => [(mq 0, .inr (9, [.ref (mq 1), .int (nI ps), .int ea, .int (nI nc), .int (nI br), .int st, .int so, .int sr, .ref (mq 2), .ref (mq 3), .int fe, .int fs, .ref (mq 4), .int (nI se), .ref (mq 5), .ref (mq 6), .int sw, .int ks, .int (nI kbr), .int kst, .int kso, .int (nI kse), .ref (mq 7), .ref (mq 8), .ref (mq 9), .long hs])), (mq 2, .inl (ca 14, 8, .inl (fun zj => nI (rwN kd hm zj)))), (mq 5, .inl (ca 17, 18, .inl (fun zj => nI (sgN sn sp sd zj)))), (mq 6, .inl (ca 18, 9, .inl (fun zj => nI (pa1 zj))))]) (TY ca) A) A) ([Value.ref (mq 0), Value.int (nI i)] : List Value).toArray s 0 0 A) (F0 m 18 ls []) := by
          clear hS hP hD
          clear hl
          intro n2
          induction n2 with
          | zero =>
            intro dd hd H locs hP hD hS ls hl
            refine lv_iload hx hb dX9_lookOf_18 (lv_at hl 0 rfl) ?_
            refine lv_bipush (v := nI 9) hx hb dX9_lookOf_20 (by decide) ?_
            refine lv_icmp_ge (tgt := 39) hx hb dX9_lookOf_22 (by decide) (fun c_3 => ?_) (fun c_3 => ?_)
            · have hP := va_P_fn hP 3 (g := fun zj => nI ((fun _ => 0) zj)) rfl (fun j hj => by show nI (zrF paO dd j) = nI 0; unfold zrF; rw [if_pos (by omega)])
              have hD := va_D.set (e := .inl (ca 18, 9, .inl (fun zj => nI ((fun _ => 0) zj)))) hD (p := 3) rfl
              have hP : va_P (dC, dI) vwCl [(mq 0, .inr (9, [.ref (mq 1), .int (nI ps), .int ea, .int (nI nc), .int (nI br), .int st, .int so, .int sr, .ref (mq 2), .ref (mq 3), .int fe, .int fs, .ref (mq 4), .int (nI se), .ref (mq 5), .ref (mq 6), .int sw, .int ks, .int (nI kbr), .int kst, .int kso, .int (nI kse), .ref (mq 7), .ref (mq 8), .ref (mq 9), .long hs])), (mq 2, .inl (ca 14, 8, .inl (fun zj => nI (rwN kd hm zj)))), (mq 5, .inl (ca 17, 18, .inl (fun zj => nI (sgN sn sp sd zj)))), (mq 6, .inl (ca 18, 9, .inl (fun zj => nI ((fun _ => 0) zj))))] H := hP
              have hD : va_D A [(mq 0, .inr (9, [.ref (mq 1), .int (nI ps), .int ea, .int (nI nc), .int (nI br), .int st, .int so, .int sr, .ref (mq 2), .ref (mq 3), .int fe, .int fs, .ref (mq 4), .int (nI se), .ref (mq 5), .ref (mq 6), .int sw, .int ks, .int (nI kbr), .int kst, .int kso, .int (nI kse), .ref (mq 7), .ref (mq 8), .ref (mq 9), .long hs])), (mq 2, .inl (ca 14, 8, .inl (fun zj => nI (rwN kd hm zj)))), (mq 5, .inl (ca 17, 18, .inl (fun zj => nI (sgN sn sp sd zj)))), (mq 6, .inl (ca 18, 9, .inl (fun zj => nI ((fun _ => 0) zj))))] := hD
              refine lv_iconst (v := nI 0) hx hb dX9_lookOf_39 (by decide) ?_
              refine lv_istore (lv' := [(5, .int (nI 0)), (4, .int (nI fr)), (3, .int (nI lst)), (2, .int best), (0, .ref (mq 0)), (1, .int (nI i))]) hx hb dX9_lookOf_40 hl (by decide) rfl (fun ls hl => ?_)
              refine lv_iconst (v := nI 0) hx hb dX9_lookOf_42 (by decide) ?_
              refine lv_istore (lv' := [(6, .int (nI 0)), (5, .int (nI 0)), (4, .int (nI fr)), (3, .int (nI lst)), (2, .int best), (0, .ref (mq 0)), (1, .int (nI i))]) hx hb dX9_lookOf_43 hl (by decide) rfl (fun ls hl => ?_)
              have lp45 : ∀ (n3 : Nat) (j : Nat) (paH : Nat → Nat) (w : Nat), (j + n3 = 36) → (∀ x, x < 9 → paH x ≤ j) → (w ≤ j) → (lmL (fun ho => pointN (kd i) ho fr) (chN (kd i) i se sn sp sd) n3 j paH w = lmL (fun ho => pointN (kd i) ho fr) (chN (kd i) i se sn sp sd) 36 0 (fun _ => 0) 0) → ∀ (H : Heap) (locs : List Loc), va_P (dC, dI) vwCl [(mq 0, .inr (9, [.ref (mq 1), .int (nI ps), .int ea, .int (nI nc), .int (nI br), .int st, .int so, .int sr, .ref (mq 2), .ref (mq 3), .int fe, .int fs, .ref (mq 4), .int (nI se), .ref (mq 5), .ref (mq 6), .int sw, .int ks, .int (nI kbr), .int kst, .int kso, .int (nI kse), .ref (mq 7), .ref (mq 8), .ref (mq 9), .long hs])), (mq 2, .inl (ca 14, 8, .inl (fun zj => nI (rwN kd hm zj)))), (mq 5, .inl (ca 17, 18, .inl (fun zj => nI (sgN sn sp sd zj)))), (mq 6, .inl (ca 18, 9, .inl (fun zj => nI (paH zj))))] H → va_D A [(mq 0, .inr (9, [.ref (mq 1), .int (nI ps), .int ea, .int (nI nc), .int (nI br), .int st, .int so, .int sr, .ref (mq 2), .ref (mq 3), .int fe, .int fs, .ref (mq 4), .int (nI se), .ref (mq 5), .ref (mq 6), .int sw, .int ks, .int (nI kbr), .int kst, .int kso, .int (nI kse), .ref (mq 7), .ref (mq 8), .ref (mq 9), .long hs])), (mq 2, .inl (ca 14, 8, .inl (fun zj => nI (rwN kd hm zj)))), (mq 5, .inl (ca 17, 18, .inl (fun zj => nI (sgN sn sp sd zj)))), (mq 6, .inl (ca 18, 9, .inl (fun zj => nI (paH zj))))] → va_S A s.heap H locs → ∀ (ls : Array Slot), lv_has ls 8 [(6, .int (nI j)), (5, .int (nI w)), (4, .int (nI fr)), (3, .int (nI lst)), (2, .int best), (0, .ref (mq 0)), (1, .int (nI i))] → W p l e (headSpec (Cond.code yX9_lookOf cX9_lookOf 8 (some .int) :: gT) (rk 4)).room s m ([Value.ref (mq 0), Value.int (nI i)] : List Value).toArray below meth c H locs 0 0 (MQ below (va_Qi (fun (r : Int32) (u : (Nat → Nat)) => match u with | (pa1) => r = lookM (kd i) (chN (kd i) i se sn sp sd)) (EFb (dC, dI) (fun (u : (Nat → Nat)) => match u with | (pa1) => [(mq 0, .inr (9, [.ref (mq 1), .int (nI ps), .int ea, .int (nI nc), .int (nI br), .int st, .int so, .int sr, .ref (mq 2), .ref (mq 3), .int fe, .int fs, .ref (mq 4), .int (nI se), .ref (mq 5), .ref (mq 6), .int sw, .int ks, .int (nI kbr), .int kst, .int kso, .int (nI kse), .ref (mq 7), .ref (mq 8), .ref (mq 9), .long hs])), (mq 2, .inl (ca 14, 8, .inl (fun zj => nI (rwN kd hm zj)))), (mq 5, .inl (ca 17, 18, .inl (fun zj => nI (sgN sn sp sd zj)))), (mq 6, .inl (ca 18, 9, .inl (fun zj => nI (pa1 zj))))]) (TY ca) A) A) ([Value.ref (mq 0), Value.int (nI i)] : List Value).toArray s 0 0 A) (F0 m 45 ls []) := by
                clear hS hP hD
                clear hl
                intro n3
                induction n3 with
                | zero =>
                  intro j paH w hj hpa hw9 hRh H locs hP hD hS ls hl
                  refine lv_iload hx hb dX9_lookOf_45 (lv_at hl 0 rfl) ?_
                  refine lv_bipush (v := nI 36) hx hb dX9_lookOf_47 (by decide) ?_
                  refine lv_icmp_ge (tgt := 126) hx hb dX9_lookOf_49 (by decide) (fun c_4 => ?_) (fun c_4 => ?_)
                  · refine lv_iload hx hb dX9_lookOf_126 (lv_at hl 1 rfl) ?_
                    refine lv_if_le (tgt := 142) hx hb dX9_lookOf_128 (by decide) (fun c_5 => ?_) (fun c_5 => ?_)
                    · rw [nI_le0 (by omega)] at c_5
                      refine lv_iload_n hx hb dX9_lookOf_142 rfl (lv_at hl 4 rfl) ?_
                      refine lv_istore_n (lv' := [(2, .int best), (6, .int (nI j)), (5, .int (nI w)), (4, .int (nI fr)), (3, .int (nI lst)), (0, .ref (mq 0)), (1, .int (nI i))]) hx hb dX9_lookOf_143 rfl hl (by decide) rfl (fun ls hl => ?_)
                      refine lv_iload hx hb dX9_lookOf_144 (lv_at hl 2 rfl) ?_
                      refine lv_if_le (tgt := 160) hx hb dX9_lookOf_146 (by decide) (fun c_6 => ?_) (fun c_6 => ?_)
                      · rw [nI_le0 (by omega)] at c_6
                        refine lv_iload_n hx hb dX9_lookOf_160 rfl (lv_at hl 4 rfl) ?_
                        refine lv_istore_n (lv' := [(3, .int (nI lst)), (2, .int best), (6, .int (nI j)), (5, .int (nI w)), (4, .int (nI fr)), (0, .ref (mq 0)), (1, .int (nI i))]) hx hb dX9_lookOf_161 rfl hl (by decide) rfl (fun ls hl => ?_)
                        refine lv_iinc (v := nI (fr + 1)) (lv' := [(4, .int (nI (fr + 1))), (3, .int (nI lst)), (2, .int best), (6, .int (nI j)), (5, .int (nI w)), (0, .ref (mq 0)), (1, .int (nI i))]) hx hb dX9_lookOf_162 hl (k := 4) rfl (nI_add fr 1) (by decide) rfl (fun ls hl => ?_)
                        refine lv_goto (tgt := 8) hx hb dX9_lookOf_165 (by decide) ?_
                        have ew9 : lmL (fun ho => pointN (kd i) ho fr) (chN (kd i) i se sn sp sd) 36 0 (fun _ => 0) 0 = w := by rw [← hRh]; rfl
                        exact ih8 (fr + 1) best lst paH (by omega) (by omega) (by rw [← hRf]; simp only [bmL]; rw [if_neg (by rw [ew9]; omega)]) _ _ (hP.sub [0, 1, 2, 3] rfl) (hD.sub [0, 1, 2, 3] (by decide) rfl) hS ls (lv_sub hl [0, 1, 2, 5, 6] rfl)
                      · (rw [nI_le0 (by omega)] at c_6; exact absurd c_5 c_6)
                    · rw [nI_le0 (by omega)] at c_5
                      refine lv_iload hx hb dX9_lookOf_131 (lv_at hl 1 rfl) ?_
                      refine lv_iload_n hx hb dX9_lookOf_133 rfl (lv_at hl 3 rfl) ?_
                      refine lv_icmp_ge (tgt := 142) hx hb dX9_lookOf_134 (by decide) (fun c_7 => ?_) (fun c_7 => ?_)
                      · rw [nI_leI (by omega) (by omega)] at c_7
                        refine lv_iload_n hx hb dX9_lookOf_142 rfl (lv_at hl 4 rfl) ?_
                        refine lv_istore_n (lv' := [(2, .int best), (6, .int (nI j)), (5, .int (nI w)), (4, .int (nI fr)), (3, .int (nI lst)), (0, .ref (mq 0)), (1, .int (nI i))]) hx hb dX9_lookOf_143 rfl hl (by decide) rfl (fun ls hl => ?_)
                        refine lv_iload hx hb dX9_lookOf_144 (lv_at hl 2 rfl) ?_
                        refine lv_if_le (tgt := 160) hx hb dX9_lookOf_146 (by decide) (fun c_8 => ?_) (fun c_8 => ?_)
                        · (rw [nI_le0 (by omega)] at c_8; exact absurd c_8 c_5)
                        · rw [nI_le0 (by omega)] at c_8
                          refine lv_iload hx hb dX9_lookOf_149 (lv_at hl 2 rfl) ?_
                          refine lv_iload_n hx hb dX9_lookOf_151 rfl (lv_at hl 4 rfl) ?_
                          refine lv_icmp_ge (tgt := 160) hx hb dX9_lookOf_152 (by decide) (fun c_9 => ?_) (fun c_9 => ?_)
                          · rw [nI_leI (by omega) (by omega)] at c_9
                            refine lv_iload_n hx hb dX9_lookOf_160 rfl (lv_at hl 4 rfl) ?_
                            refine lv_istore_n (lv' := [(3, .int (nI lst)), (2, .int best), (6, .int (nI j)), (5, .int (nI w)), (4, .int (nI fr)), (0, .ref (mq 0)), (1, .int (nI i))]) hx hb dX9_lookOf_161 rfl hl (by decide) rfl (fun ls hl => ?_)
                            refine lv_iinc (v := nI (fr + 1)) (lv' := [(4, .int (nI (fr + 1))), (3, .int (nI lst)), (2, .int best), (6, .int (nI j)), (5, .int (nI w)), (0, .ref (mq 0)), (1, .int (nI i))]) hx hb dX9_lookOf_162 hl (k := 4) rfl (nI_add fr 1) (by decide) rfl (fun ls hl => ?_)
                            refine lv_goto (tgt := 8) hx hb dX9_lookOf_165 (by decide) ?_
                            have ew9 : lmL (fun ho => pointN (kd i) ho fr) (chN (kd i) i se sn sp sd) 36 0 (fun _ => 0) 0 = w := by rw [← hRh]; rfl
                            exact ih8 (fr + 1) best lst paH (by omega) (by omega) (by rw [← hRf]; simp only [bmL]; rw [if_neg (by rw [ew9]; omega)]) _ _ (hP.sub [0, 1, 2, 3] rfl) (hD.sub [0, 1, 2, 3] (by decide) rfl) hS ls (lv_sub hl [0, 1, 2, 5, 6] rfl)
                          · (rw [nI_leI (by omega) (by omega)] at c_9; exact absurd c_7 c_9)
                      · rw [nI_leI (by omega) (by omega)] at c_7
                        refine lv_iload hx hb dX9_lookOf_137 (lv_at hl 2 rfl) ?_
                        refine lv_goto (tgt := 143) hx hb dX9_lookOf_139 (by decide) ?_
                        refine lv_istore_n (lv' := [(2, .int (nI fr)), (6, .int (nI j)), (5, .int (nI w)), (4, .int (nI fr)), (3, .int (nI lst)), (0, .ref (mq 0)), (1, .int (nI i))]) hx hb dX9_lookOf_143 rfl hl (by decide) rfl (fun ls hl => ?_)
                        refine lv_iload hx hb dX9_lookOf_144 (lv_at hl 2 rfl) ?_
                        refine lv_if_le (tgt := 160) hx hb dX9_lookOf_146 (by decide) (fun c_10 => ?_) (fun c_10 => ?_)
                        · (rw [nI_le0 (by omega)] at c_10; exact absurd c_10 c_5)
                        · rw [nI_le0 (by omega)] at c_10
                          refine lv_iload hx hb dX9_lookOf_149 (lv_at hl 2 rfl) ?_
                          refine lv_iload_n hx hb dX9_lookOf_151 rfl (lv_at hl 4 rfl) ?_
                          refine lv_icmp_ge (tgt := 160) hx hb dX9_lookOf_152 (by decide) (fun c_11 => ?_) (fun c_11 => ?_)
                          · (rw [nI_leI (by omega) (by omega)] at c_11; exact absurd c_11 c_7)
                          · rw [nI_leI (by omega) (by omega)] at c_11
                            refine lv_iload hx hb dX9_lookOf_155 (lv_at hl 2 rfl) ?_
                            refine lv_goto (tgt := 161) hx hb dX9_lookOf_157 (by decide) ?_
                            refine lv_istore_n (lv' := [(3, .int (nI w)), (2, .int (nI fr)), (6, .int (nI j)), (5, .int (nI w)), (4, .int (nI fr)), (0, .ref (mq 0)), (1, .int (nI i))]) hx hb dX9_lookOf_161 rfl hl (by decide) rfl (fun ls hl => ?_)
                            refine lv_iinc (v := nI (fr + 1)) (lv' := [(4, .int (nI (fr + 1))), (3, .int (nI w)), (2, .int (nI fr)), (6, .int (nI j)), (5, .int (nI w)), (0, .ref (mq 0)), (1, .int (nI i))]) hx hb dX9_lookOf_162 hl (k := 4) rfl (nI_add fr 1) (by decide) rfl (fun ls hl => ?_)
                            refine lv_goto (tgt := 8) hx hb dX9_lookOf_165 (by decide) ?_
                            have ew9 : lmL (fun ho => pointN (kd i) ho fr) (chN (kd i) i se sn sp sd) 36 0 (fun _ => 0) 0 = w := by rw [← hRh]; rfl
                            exact ih8 (fr + 1) (nI fr) w paH (by omega) (by omega) (by rw [← hRf]; simp only [bmL]; rw [if_pos ⟨by rw [ew9]; exact c_10, by rw [ew9]; exact c_11⟩, ew9]) _ _ (hP.sub [0, 1, 2, 3] rfl) (hD.sub [0, 1, 2, 3] (by decide) rfl) hS ls (lv_sub hl [0, 1, 2, 5, 6] rfl)
                  · exact absurd (nI_le (by omega) (by omega)) c_4
                | succ n3 ih45 =>
                  intro j paH w hj hpa hw9 hRh H locs hP hD hS ls hl
                  refine lv_iload hx hb dX9_lookOf_45 (lv_at hl 0 rfl) ?_
                  refine lv_bipush (v := nI 36) hx hb dX9_lookOf_47 (by decide) ?_
                  refine lv_icmp_ge (tgt := 126) hx hb dX9_lookOf_49 (by decide) (fun c_12 => ?_) (fun c_12 => ?_)
                  · exact absurd c_12 (nI_ge (by omega) (by omega))
                  · refine lv_aload_n hx hb dX9_lookOf_52 rfl (lv_at hl 5 rfl) ?_
                    refine va_get (D := (dC, dI)) (ci := 9) (v := .ref (mq 2)) (C := RX9) (T := TX9) (N := 26) hx hb htl iX9 hown hK hP 0 rfl rfl 8 (by decide) (htl _ wd_559) (fun _ h9 => h9) rfl dX9_lookOf_53 ?_
                    refine lv_iconst (v := nI 2) hx hb dX9_lookOf_56 (by decide) ?_
                    refine lv_iload_n hx hb dX9_lookOf_57 rfl (lv_at hl 6 rfl) ?_
                    refine lv_imul hx hb dX9_lookOf_58 ?_
                    refine lv_ri (y := nI (2 * i)) (pk_mul 2 i) ?_
                    refine va_iald hx hb hK hP 1 14 rfl rfl (vp_in_nI (by omega) (by decide)) dX9_lookOf_59 ?_
                    refine lv_ri (y := nI ((rwN kd hm) (2 * i))) (congrArg (fun zj => nI (rwN kd hm zj)) (nI_clamp (by omega))) ?_
                    refine lv_ri (y := nI (kd i)) (congrArg nI (rwN_e kd hm i)) ?_
                    refine lv_iload hx hb dX9_lookOf_60 (lv_at hl 0 rfl) ?_
                    refine lv_iload hx hb dX9_lookOf_62 (lv_at hl 2 rfl) ?_
                    refine roS (As := [Value.int (nI (kd i)), Value.int (nI j), Value.int (nI fr)]) (rest := []) (kX9_pointsBy l dC dI ca (kd i) j fr (hkd i hi) (by omega) (by omega)) ⟨hx, hb, hml, hown, htl⟩ (cSg 3 htl wd_686 wd_687 wd_6 wd_688 rfl rfl (by decide +kernel) ⟨Nat.le_of_ble_eq_true rfl, Nat.le_of_ble_eq_true rfl⟩) (hP.sub [] rfl) hK rfl hl.1 rfl (Nat.le_of_ble_eq_true rfl) dX9_lookOf_64 ⟨Nat.zero_le _, Nat.zero_le _⟩ (fun r hr9 => ?_)
                    subst hr9
                    have hptl := pointN_lt (kd i) j fr
                    have hpal := hpa _ hptl
                    refine lv_istore (lv' := [(7, .int (nI (pointN (kd i) j fr))), (6, .int (nI j)), (5, .int (nI w)), (4, .int (nI fr)), (3, .int (nI lst)), (2, .int best), (0, .ref (mq 0)), (1, .int (nI i))]) hx hb dX9_lookOf_67 hl (by decide) rfl (fun ls hl => ?_)
                    refine lv_aload_n hx hb dX9_lookOf_69 rfl (lv_at hl 6 rfl) ?_
                    refine va_get (D := (dC, dI)) (ci := 9) (v := .ref (mq 6)) (C := RX9) (T := TX9) (N := 26) hx hb htl iX9 hown hK hP 0 rfl rfl 15 (by decide) (htl _ wd_566) (fun _ h9 => h9) rfl dX9_lookOf_70 ?_
                    refine lv_iload hx hb dX9_lookOf_73 (lv_at hl 0 rfl) ?_
                    refine lv_dup2_11 hx hb dX9_lookOf_75 rfl rfl ?_
                    refine va_iald hx hb hK hP 3 18 rfl rfl (vp_in_nI (pointN_lt _ _ _) (by decide)) dX9_lookOf_76 ?_
                    refine lv_ri (y := nI (paH (pointN (kd i) j fr))) (congrArg (fun zj => nI (paH zj)) (nI_clamp (by omega))) ?_
                    refine lv_aload_n hx hb dX9_lookOf_77 rfl (lv_at hl 6 rfl) ?_
                    refine lv_iload_n hx hb dX9_lookOf_78 rfl (lv_at hl 7 rfl) ?_
                    refine lv_iload hx hb dX9_lookOf_79 (lv_at hl 1 rfl) ?_
                    refine roV (As := [Value.int (nI i), Value.int (nI j)]) (rest := [.int (nI (paH (pointN (kd i) j fr))), .int (nI (pointN (kd i) j fr)), .ref (mq 6)]) (kX9_isHome l dC dI ca i j kd nc sr ps br st so se hm sn sp sd kbr kst kso kse mq ea fe fs sw ks hs hi (by omega) hse hsn hsp hsd hkd) ⟨hx, hb, hml, hown, htl⟩ (cVg (C := RX9) 2 htl wd_716 wd_718 wp_26 wd_6 wd_719 rfl rfl (by decide +kernel) ⟨Nat.le_of_ble_eq_true rfl, Nat.le_of_ble_eq_true rfl⟩) (hP.sub [0, 1, 2] rfl) hK (va_recv hK hP (ci := 9) (q0 := 0) rfl rfl) rfl hl.1 rfl (Nat.le_of_ble_eq_true rfl) dX9_lookOf_81 ⟨Nat.zero_le _, Nat.zero_le _⟩ (fun r hr9 => ?_)
                    subst hr9
                    refine lv_if_eq (tgt := 91) hx hb dX9_lookOf_84 (by decide) (fun c_13 => ?_) (fun c_13 => ?_)
                    · replace c_13 := bI_f c_13
                      refine lv_iconst (v := nI 0) hx hb dX9_lookOf_91 (by decide) ?_
                      refine lv_iadd hx hb dX9_lookOf_92 ?_
                      refine lv_ri (y := nI ((paH (pointN (kd i) j fr)) + 0)) (nI_add (paH (pointN (kd i) j fr)) 0) ?_
                      refine va_iast hx hb hK hP hD hS 3 18 rfl rfl (vp_in_nI (pointN_lt _ _ _) (by decide)) dX9_lookOf_93 (fun H locs hP hD hS => ?_)
                      rw [nI_clamp (show pointN (kd i) j fr < 2 ^ 31 by omega)] at hP hD
                      rw [show (upd (fun zj => nI (paH zj)) (pointN (kd i) j fr) (nI ((paH (pointN (kd i) j fr)) + 0))) = (fun zj => nI (va_up paH (pointN (kd i) j fr) ((paH (pointN (kd i) j fr)) + 0) zj)) from upd_nI _ _ _] at hP hD
                      have hP : va_P (dC, dI) vwCl [(mq 0, .inr (9, [.ref (mq 1), .int (nI ps), .int ea, .int (nI nc), .int (nI br), .int st, .int so, .int sr, .ref (mq 2), .ref (mq 3), .int fe, .int fs, .ref (mq 4), .int (nI se), .ref (mq 5), .ref (mq 6), .int sw, .int ks, .int (nI kbr), .int kst, .int kso, .int (nI kse), .ref (mq 7), .ref (mq 8), .ref (mq 9), .long hs])), (mq 2, .inl (ca 14, 8, .inl (fun zj => nI (rwN kd hm zj)))), (mq 5, .inl (ca 17, 18, .inl (fun zj => nI (sgN sn sp sd zj)))), (mq 6, .inl (ca 18, 9, .inl (fun zj => nI (va_up paH (pointN (kd i) j fr) ((paH (pointN (kd i) j fr)) + 0) zj))))] H := hP
                      have hD : va_D A [(mq 0, .inr (9, [.ref (mq 1), .int (nI ps), .int ea, .int (nI nc), .int (nI br), .int st, .int so, .int sr, .ref (mq 2), .ref (mq 3), .int fe, .int fs, .ref (mq 4), .int (nI se), .ref (mq 5), .ref (mq 6), .int sw, .int ks, .int (nI kbr), .int kst, .int kso, .int (nI kse), .ref (mq 7), .ref (mq 8), .ref (mq 9), .long hs])), (mq 2, .inl (ca 14, 8, .inl (fun zj => nI (rwN kd hm zj)))), (mq 5, .inl (ca 17, 18, .inl (fun zj => nI (sgN sn sp sd zj)))), (mq 6, .inl (ca 18, 9, .inl (fun zj => nI (va_up paH (pointN (kd i) j fr) ((paH (pointN (kd i) j fr)) + 0) zj))))] := hD
                      refine lv_aload_n hx hb dX9_lookOf_94 rfl (lv_at hl 6 rfl) ?_
                      refine va_get (D := (dC, dI)) (ci := 9) (v := .ref (mq 6)) (C := RX9) (T := TX9) (N := 26) hx hb htl iX9 hown hK hP 0 rfl rfl 15 (by decide) (htl _ wd_566) (fun _ h9 => h9) rfl dX9_lookOf_95 ?_
                      refine lv_iload hx hb dX9_lookOf_98 (lv_at hl 0 rfl) ?_
                      refine va_iald hx hb hK hP 3 18 rfl rfl (vp_in_nI (pointN_lt _ _ _) (by decide)) dX9_lookOf_100 ?_
                      refine lv_ri (y := nI (va_up paH (pointN (kd i) j fr) ((paH (pointN (kd i) j fr)) + 0) (pointN (kd i) j fr))) (congrArg (fun zj => nI (va_up paH (pointN (kd i) j fr) ((paH (pointN (kd i) j fr)) + 0) zj)) (nI_clamp (by omega))) ?_
                      refine lv_ri (y := nI ((paH (pointN (kd i) j fr)) + 0)) (by unfold va_up; rw [if_pos rfl]) ?_
                      refine lv_iload hx hb dX9_lookOf_101 (lv_at hl 2 rfl) ?_
                      refine lv_icmp_le (tgt := 116) hx hb dX9_lookOf_103 (by decide) (fun c_14 => ?_) (fun c_14 => ?_)
                      · rw [nI_leI (by omega) (by omega)] at c_14
                        refine lv_iload hx hb dX9_lookOf_116 (lv_at hl 2 rfl) ?_
                        refine lv_istore (lv' := [(5, .int (nI w)), (7, .int (nI (pointN (kd i) j fr))), (6, .int (nI j)), (4, .int (nI fr)), (3, .int (nI lst)), (2, .int best), (0, .ref (mq 0)), (1, .int (nI i))]) hx hb dX9_lookOf_118 hl (by decide) rfl (fun ls hl => ?_)
                        refine lv_iinc (v := nI (j + 1)) (lv' := [(6, .int (nI (j + 1))), (5, .int (nI w)), (7, .int (nI (pointN (kd i) j fr))), (4, .int (nI fr)), (3, .int (nI lst)), (2, .int best), (0, .ref (mq 0)), (1, .int (nI i))]) hx hb dX9_lookOf_120 hl (k := 2) rfl (nI_add j 1) (by decide) rfl (fun ls hl => ?_)
                        refine lv_goto (tgt := 45) hx hb dX9_lookOf_123 (by decide) ?_
                        have hpa9 : ∀ x, x < 9 → va_up paH (pointN (kd i) j fr) ((paH (pointN (kd i) j fr)) + 0) x ≤ j + 1 := by
                          intro x hx
                          unfold va_up
                          have h1 := hpa _ (pointN_lt (kd i) j fr)
                          have h2 := hpa x hx
                          split <;> omega
                        exact ih45 (j + 1) (va_up paH (pointN (kd i) j fr) ((paH (pointN (kd i) j fr)) + 0)) w (by omega) hpa9 (by omega) (by rw [← hRh]; simp only [lmL, c_13, ↓reduceIte, Bool.false_eq_true]; rw [if_neg (by omega)]) _ _ (hP.sub [0, 1, 2, 3] rfl) (hD.sub [0, 1, 2, 3] (by decide) rfl) hS ls (lv_sub hl [0, 1, 3, 4, 5, 6, 7] rfl)
                      · rw [nI_leI (by omega) (by omega)] at c_14
                        refine lv_aload_n hx hb dX9_lookOf_106 rfl (lv_at hl 6 rfl) ?_
                        refine va_get (D := (dC, dI)) (ci := 9) (v := .ref (mq 6)) (C := RX9) (T := TX9) (N := 26) hx hb htl iX9 hown hK hP 0 rfl rfl 15 (by decide) (htl _ wd_566) (fun _ h9 => h9) rfl dX9_lookOf_107 ?_
                        refine lv_iload hx hb dX9_lookOf_110 (lv_at hl 0 rfl) ?_
                        refine va_iald hx hb hK hP 3 18 rfl rfl (vp_in_nI (pointN_lt _ _ _) (by decide)) dX9_lookOf_112 ?_
                        refine lv_ri (y := nI (va_up paH (pointN (kd i) j fr) ((paH (pointN (kd i) j fr)) + 0) (pointN (kd i) j fr))) (congrArg (fun zj => nI (va_up paH (pointN (kd i) j fr) ((paH (pointN (kd i) j fr)) + 0) zj)) (nI_clamp (by omega))) ?_
                        refine lv_ri (y := nI ((paH (pointN (kd i) j fr)) + 0)) (by unfold va_up; rw [if_pos rfl]) ?_
                        refine lv_goto (tgt := 118) hx hb dX9_lookOf_113 (by decide) ?_
                        refine lv_istore (lv' := [(5, .int (nI ((paH (pointN (kd i) j fr)) + 0))), (7, .int (nI (pointN (kd i) j fr))), (6, .int (nI j)), (4, .int (nI fr)), (3, .int (nI lst)), (2, .int best), (0, .ref (mq 0)), (1, .int (nI i))]) hx hb dX9_lookOf_118 hl (by decide) rfl (fun ls hl => ?_)
                        refine lv_iinc (v := nI (j + 1)) (lv' := [(6, .int (nI (j + 1))), (5, .int (nI ((paH (pointN (kd i) j fr)) + 0))), (7, .int (nI (pointN (kd i) j fr))), (4, .int (nI fr)), (3, .int (nI lst)), (2, .int best), (0, .ref (mq 0)), (1, .int (nI i))]) hx hb dX9_lookOf_120 hl (k := 2) rfl (nI_add j 1) (by decide) rfl (fun ls hl => ?_)
                        refine lv_goto (tgt := 45) hx hb dX9_lookOf_123 (by decide) ?_
                        have hpa9 : ∀ x, x < 9 → va_up paH (pointN (kd i) j fr) ((paH (pointN (kd i) j fr)) + 0) x ≤ j + 1 := by
                          intro x hx
                          unfold va_up
                          have h1 := hpa _ (pointN_lt (kd i) j fr)
                          have h2 := hpa x hx
                          split <;> omega
                        exact ih45 (j + 1) (va_up paH (pointN (kd i) j fr) ((paH (pointN (kd i) j fr)) + 0)) ((paH (pointN (kd i) j fr)) + 0) (by omega) hpa9 (by omega) (by rw [← hRh]; simp only [lmL, c_13, ↓reduceIte, Bool.false_eq_true]; rw [if_pos (by omega)]) _ _ (hP.sub [0, 1, 2, 3] rfl) (hD.sub [0, 1, 2, 3] (by decide) rfl) hS ls (lv_sub hl [0, 1, 3, 4, 5, 6, 7] rfl)
                    · replace c_13 := bI_t c_13
                      refine lv_iconst (v := nI 1) hx hb dX9_lookOf_87 (by decide) ?_
                      refine lv_goto (tgt := 92) hx hb dX9_lookOf_88 (by decide) ?_
                      refine lv_iadd hx hb dX9_lookOf_92 ?_
                      refine lv_ri (y := nI ((paH (pointN (kd i) j fr)) + 1)) (nI_add (paH (pointN (kd i) j fr)) 1) ?_
                      refine va_iast hx hb hK hP hD hS 3 18 rfl rfl (vp_in_nI (pointN_lt _ _ _) (by decide)) dX9_lookOf_93 (fun H locs hP hD hS => ?_)
                      rw [nI_clamp (show pointN (kd i) j fr < 2 ^ 31 by omega)] at hP hD
                      rw [show (upd (fun zj => nI (paH zj)) (pointN (kd i) j fr) (nI ((paH (pointN (kd i) j fr)) + 1))) = (fun zj => nI (va_up paH (pointN (kd i) j fr) ((paH (pointN (kd i) j fr)) + 1) zj)) from upd_nI _ _ _] at hP hD
                      have hP : va_P (dC, dI) vwCl [(mq 0, .inr (9, [.ref (mq 1), .int (nI ps), .int ea, .int (nI nc), .int (nI br), .int st, .int so, .int sr, .ref (mq 2), .ref (mq 3), .int fe, .int fs, .ref (mq 4), .int (nI se), .ref (mq 5), .ref (mq 6), .int sw, .int ks, .int (nI kbr), .int kst, .int kso, .int (nI kse), .ref (mq 7), .ref (mq 8), .ref (mq 9), .long hs])), (mq 2, .inl (ca 14, 8, .inl (fun zj => nI (rwN kd hm zj)))), (mq 5, .inl (ca 17, 18, .inl (fun zj => nI (sgN sn sp sd zj)))), (mq 6, .inl (ca 18, 9, .inl (fun zj => nI (va_up paH (pointN (kd i) j fr) ((paH (pointN (kd i) j fr)) + 1) zj))))] H := hP
                      have hD : va_D A [(mq 0, .inr (9, [.ref (mq 1), .int (nI ps), .int ea, .int (nI nc), .int (nI br), .int st, .int so, .int sr, .ref (mq 2), .ref (mq 3), .int fe, .int fs, .ref (mq 4), .int (nI se), .ref (mq 5), .ref (mq 6), .int sw, .int ks, .int (nI kbr), .int kst, .int kso, .int (nI kse), .ref (mq 7), .ref (mq 8), .ref (mq 9), .long hs])), (mq 2, .inl (ca 14, 8, .inl (fun zj => nI (rwN kd hm zj)))), (mq 5, .inl (ca 17, 18, .inl (fun zj => nI (sgN sn sp sd zj)))), (mq 6, .inl (ca 18, 9, .inl (fun zj => nI (va_up paH (pointN (kd i) j fr) ((paH (pointN (kd i) j fr)) + 1) zj))))] := hD
                      refine lv_aload_n hx hb dX9_lookOf_94 rfl (lv_at hl 6 rfl) ?_
                      refine va_get (D := (dC, dI)) (ci := 9) (v := .ref (mq 6)) (C := RX9) (T := TX9) (N := 26) hx hb htl iX9 hown hK hP 0 rfl rfl 15 (by decide) (htl _ wd_566) (fun _ h9 => h9) rfl dX9_lookOf_95 ?_
                      refine lv_iload hx hb dX9_lookOf_98 (lv_at hl 0 rfl) ?_
                      refine va_iald hx hb hK hP 3 18 rfl rfl (vp_in_nI (pointN_lt _ _ _) (by decide)) dX9_lookOf_100 ?_
                      refine lv_ri (y := nI (va_up paH (pointN (kd i) j fr) ((paH (pointN (kd i) j fr)) + 1) (pointN (kd i) j fr))) (congrArg (fun zj => nI (va_up paH (pointN (kd i) j fr) ((paH (pointN (kd i) j fr)) + 1) zj)) (nI_clamp (by omega))) ?_
                      refine lv_ri (y := nI ((paH (pointN (kd i) j fr)) + 1)) (by unfold va_up; rw [if_pos rfl]) ?_
                      refine lv_iload hx hb dX9_lookOf_101 (lv_at hl 2 rfl) ?_
                      refine lv_icmp_le (tgt := 116) hx hb dX9_lookOf_103 (by decide) (fun c_15 => ?_) (fun c_15 => ?_)
                      · rw [nI_leI (by omega) (by omega)] at c_15
                        refine lv_iload hx hb dX9_lookOf_116 (lv_at hl 2 rfl) ?_
                        refine lv_istore (lv' := [(5, .int (nI w)), (7, .int (nI (pointN (kd i) j fr))), (6, .int (nI j)), (4, .int (nI fr)), (3, .int (nI lst)), (2, .int best), (0, .ref (mq 0)), (1, .int (nI i))]) hx hb dX9_lookOf_118 hl (by decide) rfl (fun ls hl => ?_)
                        refine lv_iinc (v := nI (j + 1)) (lv' := [(6, .int (nI (j + 1))), (5, .int (nI w)), (7, .int (nI (pointN (kd i) j fr))), (4, .int (nI fr)), (3, .int (nI lst)), (2, .int best), (0, .ref (mq 0)), (1, .int (nI i))]) hx hb dX9_lookOf_120 hl (k := 2) rfl (nI_add j 1) (by decide) rfl (fun ls hl => ?_)
                        refine lv_goto (tgt := 45) hx hb dX9_lookOf_123 (by decide) ?_
                        have hpa9 : ∀ x, x < 9 → va_up paH (pointN (kd i) j fr) ((paH (pointN (kd i) j fr)) + 1) x ≤ j + 1 := by
                          intro x hx
                          unfold va_up
                          have h1 := hpa _ (pointN_lt (kd i) j fr)
                          have h2 := hpa x hx
                          split <;> omega
                        exact ih45 (j + 1) (va_up paH (pointN (kd i) j fr) ((paH (pointN (kd i) j fr)) + 1)) w (by omega) hpa9 (by omega) (by rw [← hRh]; simp only [lmL, c_13, ↓reduceIte, Bool.false_eq_true]; rw [if_neg (by omega)]) _ _ (hP.sub [0, 1, 2, 3] rfl) (hD.sub [0, 1, 2, 3] (by decide) rfl) hS ls (lv_sub hl [0, 1, 3, 4, 5, 6, 7] rfl)
                      · rw [nI_leI (by omega) (by omega)] at c_15
                        refine lv_aload_n hx hb dX9_lookOf_106 rfl (lv_at hl 6 rfl) ?_
                        refine va_get (D := (dC, dI)) (ci := 9) (v := .ref (mq 6)) (C := RX9) (T := TX9) (N := 26) hx hb htl iX9 hown hK hP 0 rfl rfl 15 (by decide) (htl _ wd_566) (fun _ h9 => h9) rfl dX9_lookOf_107 ?_
                        refine lv_iload hx hb dX9_lookOf_110 (lv_at hl 0 rfl) ?_
                        refine va_iald hx hb hK hP 3 18 rfl rfl (vp_in_nI (pointN_lt _ _ _) (by decide)) dX9_lookOf_112 ?_
                        refine lv_ri (y := nI (va_up paH (pointN (kd i) j fr) ((paH (pointN (kd i) j fr)) + 1) (pointN (kd i) j fr))) (congrArg (fun zj => nI (va_up paH (pointN (kd i) j fr) ((paH (pointN (kd i) j fr)) + 1) zj)) (nI_clamp (by omega))) ?_
                        refine lv_ri (y := nI ((paH (pointN (kd i) j fr)) + 1)) (by unfold va_up; rw [if_pos rfl]) ?_
                        refine lv_goto (tgt := 118) hx hb dX9_lookOf_113 (by decide) ?_
                        refine lv_istore (lv' := [(5, .int (nI ((paH (pointN (kd i) j fr)) + 1))), (7, .int (nI (pointN (kd i) j fr))), (6, .int (nI j)), (4, .int (nI fr)), (3, .int (nI lst)), (2, .int best), (0, .ref (mq 0)), (1, .int (nI i))]) hx hb dX9_lookOf_118 hl (by decide) rfl (fun ls hl => ?_)
                        refine lv_iinc (v := nI (j + 1)) (lv' := [(6, .int (nI (j + 1))), (5, .int (nI ((paH (pointN (kd i) j fr)) + 1))), (7, .int (nI (pointN (kd i) j fr))), (4, .int (nI fr)), (3, .int (nI lst)), (2, .int best), (0, .ref (mq 0)), (1, .int (nI i))]) hx hb dX9_lookOf_120 hl (k := 2) rfl (nI_add j 1) (by decide) rfl (fun ls hl => ?_)
                        refine lv_goto (tgt := 45) hx hb dX9_lookOf_123 (by decide) ?_
                        have hpa9 : ∀ x, x < 9 → va_up paH (pointN (kd i) j fr) ((paH (pointN (kd i) j fr)) + 1) x ≤ j + 1 := by
                          intro x hx
                          unfold va_up
                          have h1 := hpa _ (pointN_lt (kd i) j fr)
                          have h2 := hpa x hx
                          split <;> omega
                        exact ih45 (j + 1) (va_up paH (pointN (kd i) j fr) ((paH (pointN (kd i) j fr)) + 1)) ((paH (pointN (kd i) j fr)) + 1) (by omega) hpa9 (by omega) (by rw [← hRh]; simp only [lmL, c_13, ↓reduceIte, Bool.false_eq_true]; rw [if_pos (by omega)]) _ _ (hP.sub [0, 1, 2, 3] rfl) (hD.sub [0, 1, 2, 3] (by decide) rfl) hS ls (lv_sub hl [0, 1, 3, 4, 5, 6, 7] rfl)
              exact lp45 36 0 (fun _ => 0) 0 (by omega) (fun _ _ => Nat.le_refl 0) (Nat.le_refl 0) rfl _ _ hP hD hS ls (lv_sub hl [0, 1, 2, 3, 4, 5, 6] rfl)
            · exact absurd (nI_le (by omega) (by omega)) c_3
          | succ n2 ih18 =>
            intro dd hd H locs hP hD hS ls hl
            refine lv_iload hx hb dX9_lookOf_18 (lv_at hl 0 rfl) ?_
            refine lv_bipush (v := nI 9) hx hb dX9_lookOf_20 (by decide) ?_
            refine lv_icmp_ge (tgt := 39) hx hb dX9_lookOf_22 (by decide) (fun c_16 => ?_) (fun c_16 => ?_)
            · exact absurd c_16 (nI_ge (by omega) (by omega))
            · refine lv_aload_n hx hb dX9_lookOf_25 rfl (lv_at hl 4 rfl) ?_
              refine va_get (D := (dC, dI)) (ci := 9) (v := .ref (mq 6)) (C := RX9) (T := TX9) (N := 26) hx hb htl iX9 hown hK hP 0 rfl rfl 15 (by decide) (htl _ wd_566) (fun _ h9 => h9) rfl dX9_lookOf_26 ?_
              refine lv_iload hx hb dX9_lookOf_29 (lv_at hl 0 rfl) ?_
              refine lv_iconst (v := nI 0) hx hb dX9_lookOf_31 (by decide) ?_
              refine va_iast hx hb hK hP hD hS 3 18 rfl rfl (vp_in_nI (by omega) (by decide)) dX9_lookOf_32 (fun H locs hP hD hS => ?_)
              rw [nI_clamp (show dd < 2 ^ 31 by omega)] at hP hD
              rw [show (upd (fun zj => nI (zrF paO dd zj)) dd (nI 0)) = (fun zj => nI (va_up (zrF paO dd) dd 0 zj)) from upd_nI _ _ _] at hP hD
              have hP : va_P (dC, dI) vwCl [(mq 0, .inr (9, [.ref (mq 1), .int (nI ps), .int ea, .int (nI nc), .int (nI br), .int st, .int so, .int sr, .ref (mq 2), .ref (mq 3), .int fe, .int fs, .ref (mq 4), .int (nI se), .ref (mq 5), .ref (mq 6), .int sw, .int ks, .int (nI kbr), .int kst, .int kso, .int (nI kse), .ref (mq 7), .ref (mq 8), .ref (mq 9), .long hs])), (mq 2, .inl (ca 14, 8, .inl (fun zj => nI (rwN kd hm zj)))), (mq 5, .inl (ca 17, 18, .inl (fun zj => nI (sgN sn sp sd zj)))), (mq 6, .inl (ca 18, 9, .inl (fun zj => nI (va_up (zrF paO dd) dd 0 zj))))] H := hP
              have hD : va_D A [(mq 0, .inr (9, [.ref (mq 1), .int (nI ps), .int ea, .int (nI nc), .int (nI br), .int st, .int so, .int sr, .ref (mq 2), .ref (mq 3), .int fe, .int fs, .ref (mq 4), .int (nI se), .ref (mq 5), .ref (mq 6), .int sw, .int ks, .int (nI kbr), .int kst, .int kso, .int (nI kse), .ref (mq 7), .ref (mq 8), .ref (mq 9), .long hs])), (mq 2, .inl (ca 14, 8, .inl (fun zj => nI (rwN kd hm zj)))), (mq 5, .inl (ca 17, 18, .inl (fun zj => nI (sgN sn sp sd zj)))), (mq 6, .inl (ca 18, 9, .inl (fun zj => nI (va_up (zrF paO dd) dd 0 zj))))] := hD
              refine lv_iinc (v := nI (dd + 1)) (lv' := [(5, .int (nI (dd + 1))), (4, .int (nI fr)), (3, .int (nI lst)), (2, .int best), (0, .ref (mq 0)), (1, .int (nI i))]) hx hb dX9_lookOf_33 hl (k := 0) rfl (nI_add dd 1) (by decide) rfl (fun ls hl => ?_)
              refine lv_goto (tgt := 18) hx hb dX9_lookOf_36 (by decide) ?_
              rw [zrF_up] at hP hD
              exact ih18 (dd + 1) (by omega) _ _ (hP.sub [0, 1, 2, 3] rfl) (hD.sub [0, 1, 2, 3] (by decide) rfl) hS ls (lv_sub hl [0, 1, 2, 3, 4, 5] rfl)
        exact lp18 9 0 (by omega) _ _ (by rw [zrF_0]; exact hP) (by rw [zrF_0]; exact hD) hS ls (lv_sub hl [0, 1, 2, 3, 4, 5] rfl)
  exact lp8 36 0 (-1) 37 pa (by omega) (Nat.le_refl 37) rfl _ _ hP hD hS ls (lv_sub hl [0, 1, 2, 3, 4] rfl)
set_option maxHeartbeats 4000000 in
set_option maxRecDepth 100000 in
theorem kX9_downsAt (l : Launch) (dC : Nat → ClassId) (dI : Nat → Nat → Nat) (ca : Nat → ClassId) (pp : Nat) (kd : Nat → Nat) (nc : Nat) (sr : Int32) (ps : Nat) (br : Nat) (st : Int32) (so : Int32) (se : Nat) (hm : Nat → Nat) (kbr : Nat) (kst : Int32) (kso : Int32) (kse : Nat) (mq : Nat → Nat) (ea : Int32) (fe : Int32) (fs : Int32) (sw : Int32) (ks : Int32) (hs : Int64) (hp : pp < 36) (hnc : nc ≤ 4) (hkd : ∀ j, j < 4 → kd j < 5) (hhm : ∀ j, j < 4 → hm j < 36) : Met l yX9_downsAt (Cond.code yX9_downsAt cX9_downsAt 4 (some .int) :: gT) (rk 4) (ROp (dC, dI) [(mq 0, .inr (9, [.ref (mq 1), .int (nI ps), .int ea, .int (nI nc), .int (nI br), .int st, .int so, .int sr, .ref (mq 2), .ref (mq 3), .int fe, .int fs, .ref (mq 4), .int (nI se), .ref (mq 5), .ref (mq 6), .int sw, .int ks, .int (nI kbr), .int kst, .int kso, .int (nI kse), .ref (mq 7), .ref (mq 8), .ref (mq 9), .long hs])), (mq 2, .inl (ca 14, 8, .inl (fun zj => nI (rwN kd hm zj))))] (TY ca) [Value.ref (mq 0), Value.int (nI pp)]) (vp_Si (fun r => r = nI (downsN (fun i => pointN (kd i) (hm i) pp) nc 0 0))) 0 0 (fun _ => False) := by
  refine Met.ofW (cc := cX9_downsAt) (maxL := 4) (ret := (some .int)) (by decide) rfl ?_
  intro p e s m args below meth c s₁ B hml hv
  obtain ⟨rfl, hP, hK⟩ := hv
  have hx := B.exec
  have hb := B.bytes
  have hr := B.returns
  have hts := atoms_spec (ws := (Cond.code yX9_downsAt cX9_downsAt 4 (some .int) :: gT)) B.pre
  have htl : ∀ w ∈ gT, w.before _ s = true := fun w h => hts w (List.mem_cons_of_mem _ h)
  have hown : s.vm.findClass RX9 = some m.cls := findClass_of_methodNamed B.named
  have hlocks := B.notSynchronized
  have hl := lv_entry ([Value.ref (mq 0), Value.int (nI pp)]) (n := 4) (Nat.le_of_ble_eq_true rfl)
  rw [lg_entry_eq]
  generalize (lg_sl ([Value.ref (mq 0), Value.int (nI pp)]) ++ List.replicate (4 - (lg_sl ([Value.ref (mq 0), Value.int (nI pp)])).length) Slot.unset).toArray = ls at hl ⊢
  have hl : lv_has ls 4 [(0, .ref (mq 0)), (1, .int (nI pp))] := hl
  refine lv_iconst (v := nI 0) hx hb dX9_downsAt_0 (by decide) ?_
  refine lv_istore_n (lv' := [(2, .int (nI 0)), (0, .ref (mq 0)), (1, .int (nI pp))]) hx hb dX9_downsAt_1 rfl hl (by decide) rfl (fun ls hl => ?_)
  refine lv_iconst (v := nI 0) hx hb dX9_downsAt_2 (by decide) ?_
  refine lv_istore_n (lv' := [(3, .int (nI 0)), (2, .int (nI 0)), (0, .ref (mq 0)), (1, .int (nI pp))]) hx hb dX9_downsAt_3 rfl hl (by decide) rfl (fun ls hl => ?_)
  have lp4 : ∀ (n : Nat) (i : Nat) (d : Nat), (i + n = nc) → (downsN (fun i => pointN (kd i) (hm i) pp) n i d = downsN (fun i => pointN (kd i) (hm i) pp) nc 0 0) → ∀ (ls : Array Slot), lv_has ls 4 [(3, .int (nI i)), (2, .int (nI d)), (0, .ref (mq 0)), (1, .int (nI pp))] → W p l e (headSpec (Cond.code yX9_downsAt cX9_downsAt 4 (some .int) :: gT) (rk 4)).room s m ([Value.ref (mq 0), Value.int (nI pp)] : List Value).toArray below meth c s.heap [] 0 0 (MQ below (vp_Si (fun r => r = nI (downsN (fun i => pointN (kd i) (hm i) pp) nc 0 0))) ([Value.ref (mq 0), Value.int (nI pp)] : List Value).toArray s 0 0 (fun _ => False)) (F0 m 4 ls []) := by
    clear hl
    intro n
    induction n with
    | zero =>
      intro i d hi hR ls hl
      refine lv_iload_n hx hb dX9_downsAt_4 rfl (lv_at hl 0 rfl) ?_
      refine lv_aload_n hx hb dX9_downsAt_5 rfl (lv_at hl 2 rfl) ?_
      refine va_get (D := (dC, dI)) (ci := 9) (v := .int (nI nc)) (C := RX9) (T := TX9) (N := 26) hx hb htl iX9 hown hK hP 0 rfl rfl 3 (by decide) (htl _ wd_554) (fun _ h9 => h9) rfl dX9_downsAt_6 ?_
      refine lv_icmp_ge (tgt := 36) hx hb dX9_downsAt_9 (by decide) (fun c_1 => ?_) (fun c_1 => ?_)
      · refine lv_iload_n hx hb dX9_downsAt_36 rfl (lv_at hl 1 rfl) ?_
        exact W.iret (v := nI d) hx hb hr (fun t ht hW => ⟨nI d, rfl, by show _ = _; rw [← hR]; rfl, ht⟩) (fun q h => by cases h) dX9_downsAt_37
      · exact absurd (nI_le (by omega) (by omega)) c_1
    | succ n ih4 =>
      intro i d hi hR ls hl
      refine lv_iload_n hx hb dX9_downsAt_4 rfl (lv_at hl 0 rfl) ?_
      refine lv_aload_n hx hb dX9_downsAt_5 rfl (lv_at hl 2 rfl) ?_
      refine va_get (D := (dC, dI)) (ci := 9) (v := .int (nI nc)) (C := RX9) (T := TX9) (N := 26) hx hb htl iX9 hown hK hP 0 rfl rfl 3 (by decide) (htl _ wd_554) (fun _ h9 => h9) rfl dX9_downsAt_6 ?_
      refine lv_icmp_ge (tgt := 36) hx hb dX9_downsAt_9 (by decide) (fun c_2 => ?_) (fun c_2 => ?_)
      · exact absurd c_2 (nI_ge (by omega) (by omega))
      · refine lv_iload_n hx hb dX9_downsAt_12 rfl (lv_at hl 1 rfl) ?_
        refine lv_aload_n hx hb dX9_downsAt_13 rfl (lv_at hl 2 rfl) ?_
        refine lv_iload_n hx hb dX9_downsAt_14 rfl (lv_at hl 0 rfl) ?_
        refine lv_iload_n hx hb dX9_downsAt_15 rfl (lv_at hl 3 rfl) ?_
        refine roV (As := [Value.int (nI i), Value.int (nI pp)]) (rest := [.int (nI d)]) (kX9_pointsOf l dC dI ca i pp kd nc sr ps br st so se hm kbr kst kso kse mq ea fe fs sw ks hs (by omega) hp hkd hhm) ⟨hx, hb, hml, hown, htl⟩ (cVg (C := RX9) 2 htl wd_682 wd_684 wp_20 wd_6 wd_685 rfl rfl (by decide +kernel) ⟨Nat.le_of_ble_eq_true rfl, Nat.le_of_ble_eq_true rfl⟩) (hP.sub [0, 1] rfl) hK (va_recv hK hP (ci := 9) (q0 := 0) rfl rfl) rfl hl.1 rfl (Nat.le_of_ble_eq_true rfl) dX9_downsAt_16 ⟨Nat.zero_le _, Nat.zero_le _⟩ (fun r hr9 => ?_)
        subst hr9
        refine lv_iconst (v := nI 4) hx hb dX9_downsAt_19 (by decide) ?_
        refine lv_icmp_ne (tgt := 27) hx hb dX9_downsAt_20 (by decide) (fun c_3 => ?_) (fun c_3 => ?_)
        · rw [nI_eq (Nat.lt_trans (pointN_lt _ _ _) (by decide)) (by decide)] at c_3
          refine lv_iconst (v := nI 0) hx hb dX9_downsAt_27 (by decide) ?_
          refine lv_iadd hx hb dX9_downsAt_28 ?_
          refine lv_ri (y := nI (d + 0)) (nI_add d 0) ?_
          refine lv_istore_n (lv' := [(2, .int (nI (d + 0))), (3, .int (nI i)), (0, .ref (mq 0)), (1, .int (nI pp))]) hx hb dX9_downsAt_29 rfl hl (by decide) rfl (fun ls hl => ?_)
          refine lv_iinc (v := nI (i + 1)) (lv' := [(3, .int (nI (i + 1))), (2, .int (nI (d + 0))), (0, .ref (mq 0)), (1, .int (nI pp))]) hx hb dX9_downsAt_30 hl (k := 1) rfl (nI_add i 1) (by decide) rfl (fun ls hl => ?_)
          refine lv_goto (tgt := 4) hx hb dX9_downsAt_33 (by decide) ?_
          exact ih4 (i + 1) (d + 0) (by omega) (by rw [← hR]; simp only [downsN, c_3, ↓reduceIte, Nat.add_zero]) ls (lv_sub hl [0, 1, 2, 3] rfl)
        · rw [nI_eq (Nat.lt_trans (pointN_lt _ _ _) (by decide)) (by decide)] at c_3
          refine lv_iconst (v := nI 1) hx hb dX9_downsAt_23 (by decide) ?_
          refine lv_goto (tgt := 28) hx hb dX9_downsAt_24 (by decide) ?_
          refine lv_iadd hx hb dX9_downsAt_28 ?_
          refine lv_ri (y := nI (d + 1)) (nI_add d 1) ?_
          refine lv_istore_n (lv' := [(2, .int (nI (d + 1))), (3, .int (nI i)), (0, .ref (mq 0)), (1, .int (nI pp))]) hx hb dX9_downsAt_29 rfl hl (by decide) rfl (fun ls hl => ?_)
          refine lv_iinc (v := nI (i + 1)) (lv' := [(3, .int (nI (i + 1))), (2, .int (nI (d + 1))), (0, .ref (mq 0)), (1, .int (nI pp))]) hx hb dX9_downsAt_30 hl (k := 1) rfl (nI_add i 1) (by decide) rfl (fun ls hl => ?_)
          refine lv_goto (tgt := 4) hx hb dX9_downsAt_33 (by decide) ?_
          exact ih4 (i + 1) (d + 1) (by omega) (by rw [← hR]; simp only [downsN, c_3, ↓reduceIte, Nat.add_zero]) ls (lv_sub hl [0, 1, 2, 3] rfl)
  exact lp4 nc 0 0 (by omega) rfl ls (lv_sub hl [0, 1, 2, 3] rfl)
def iaL (ib : Nat → Bool) : Nat → Nat → Int32 → Int32
  | 0, _, x => x
  | n + 1, j, x => iaL ib n (j + 1) (x + bI (ib j))
theorem lN_and (a b : Nat) : lN a &&& lN b = lN (a &&& b) := by
  apply Int64.toBitVec_inj.mp
  show BitVec.ofNat 64 a &&& BitVec.ofNat 64 b = BitVec.ofNat 64 (a &&& b)
  simp
theorem draw_N {x : Nat} (h : x < 2 ^ 31) : (1103515245 * (nI x).toInt64 + 12345 &&& 2147483647).toInt32 = nI (sdN x) := by
  unfold sdN
  rw [nI_l h, show (1103515245 : Int64) = lN 1103515245 from rfl, show (12345 : Int64) = lN 12345 from rfl, show (2147483647 : Int64) = lN (2 ^ 31 - 1) from rfl, lN_mul, lN_add, lN_and, Nat.and_two_pow_sub_one_eq_mod, lN_i]
set_option maxHeartbeats 4000000 in
set_option maxRecDepth 100000 in
theorem kX9_islandsAll (l : Launch) (dC : Nat → ClassId) (dI : Nat → Nat → Nat) (ca : Nat → ClassId) (nc : Nat) (sr : Int32) (ps : Nat) (br : Nat) (st : Int32) (so : Int32) (se : Nat) (kbr : Nat) (kst : Int32) (kso : Int32) (kse : Nat) (mq : Nat → Nat) (ea : Int32) (fe : Int32) (fs : Int32) (sw : Int32) (ks : Int32) (ib : Nat → Bool) (hs : Int64) : Met l yX9_islandsAll (Cond.code yX9_islandsAll cX9_islandsAll 3 (some .int) :: gT) (rk 1) (ROp (dC, dI) [(mq 0, .inr (9, [.ref (mq 1), .int (nI ps), .int ea, .int (nI nc), .int (nI br), .int st, .int so, .int sr, .ref (mq 2), .ref (mq 3), .int fe, .int fs, .ref (mq 4), .int (nI se), .ref (mq 5), .ref (mq 6), .int sw, .int ks, .int (nI kbr), .int kst, .int kso, .int (nI kse), .ref (mq 7), .ref (mq 8), .ref (mq 9), .long hs])), (mq 3, .inl (ca 15, 36, .inl (fun zj => bI (ib zj))))] (TY ca) [Value.ref (mq 0)]) (vp_Si (fun r => r = iaL ib 36 0 (nI 0))) 0 0 (fun _ => False) := by
  refine Met.ofW (cc := cX9_islandsAll) (maxL := 3) (ret := (some .int)) (by decide) rfl ?_
  intro p e s m args below meth c s₁ B hml hv
  obtain ⟨rfl, hP, hK⟩ := hv
  have hx := B.exec
  have hb := B.bytes
  have hr := B.returns
  have hts := atoms_spec (ws := (Cond.code yX9_islandsAll cX9_islandsAll 3 (some .int) :: gT)) B.pre
  have htl : ∀ w ∈ gT, w.before _ s = true := fun w h => hts w (List.mem_cons_of_mem _ h)
  have hown : s.vm.findClass RX9 = some m.cls := findClass_of_methodNamed B.named
  have hlocks := B.notSynchronized
  have hl := lv_entry ([Value.ref (mq 0)]) (n := 3) (Nat.le_of_ble_eq_true rfl)
  rw [lg_entry_eq]
  generalize (lg_sl ([Value.ref (mq 0)]) ++ List.replicate (3 - (lg_sl ([Value.ref (mq 0)])).length) Slot.unset).toArray = ls at hl ⊢
  have hl : lv_has ls 3 [(0, .ref (mq 0))] := hl
  refine lv_iconst (v := nI 0) hx hb dX9_islandsAll_0 (by decide) ?_
  refine lv_istore_n (lv' := [(1, .int (nI 0)), (0, .ref (mq 0))]) hx hb dX9_islandsAll_1 rfl hl (by decide) rfl (fun ls hl => ?_)
  refine lv_iconst (v := nI 0) hx hb dX9_islandsAll_2 (by decide) ?_
  refine lv_istore_n (lv' := [(2, .int (nI 0)), (1, .int (nI 0)), (0, .ref (mq 0))]) hx hb dX9_islandsAll_3 rfl hl (by decide) rfl (fun ls hl => ?_)
  have lp4 : ∀ (n : Nat) (j : Nat) (x : Int32), (j + n = 36) → (iaL ib n j x = iaL ib 36 0 (nI 0)) → ∀ (ls : Array Slot), lv_has ls 3 [(2, .int (nI j)), (1, .int x), (0, .ref (mq 0))] → W p l e (headSpec (Cond.code yX9_islandsAll cX9_islandsAll 3 (some .int) :: gT) (rk 1)).room s m ([Value.ref (mq 0)] : List Value).toArray below meth c s.heap [] 0 0 (MQ below (vp_Si (fun r => r = iaL ib 36 0 (nI 0))) ([Value.ref (mq 0)] : List Value).toArray s 0 0 (fun _ => False)) (F0 m 4 ls []) := by
    clear hl
    intro n
    induction n with
    | zero =>
      intro j x hj hR ls hl
      refine lv_iload_n hx hb dX9_islandsAll_4 rfl (lv_at hl 0 rfl) ?_
      refine lv_bipush (v := nI 36) hx hb dX9_islandsAll_5 (by decide) ?_
      refine lv_icmp_ge (tgt := 25) hx hb dX9_islandsAll_7 (by decide) (fun c_1 => ?_) (fun c_1 => ?_)
      · refine lv_iload_n hx hb dX9_islandsAll_25 rfl (lv_at hl 1 rfl) ?_
        exact W.iret (v := x) hx hb hr (fun t ht hW => ⟨x, rfl, by show _ = _; rw [← hR]; rfl, ht⟩) (fun q h => by cases h) dX9_islandsAll_26
      · exact absurd (nI_le (by omega) (by omega)) c_1
    | succ n ih4 =>
      intro j x hj hR ls hl
      refine lv_iload_n hx hb dX9_islandsAll_4 rfl (lv_at hl 0 rfl) ?_
      refine lv_bipush (v := nI 36) hx hb dX9_islandsAll_5 (by decide) ?_
      refine lv_icmp_ge (tgt := 25) hx hb dX9_islandsAll_7 (by decide) (fun c_2 => ?_) (fun c_2 => ?_)
      · exact absurd c_2 (nI_ge (by omega) (by omega))
      · refine lv_iload_n hx hb dX9_islandsAll_10 rfl (lv_at hl 1 rfl) ?_
        refine lv_aload_n hx hb dX9_islandsAll_11 rfl (lv_at hl 2 rfl) ?_
        refine va_get (D := (dC, dI)) (ci := 9) (v := .ref (mq 3)) (C := RX9) (T := TX9) (N := 26) hx hb htl iX9 hown hK hP 0 rfl rfl 9 (by decide) (htl _ wd_560) (fun _ h9 => h9) rfl dX9_islandsAll_12 ?_
        refine lv_iload_n hx hb dX9_islandsAll_15 rfl (lv_at hl 0 rfl) ?_
        refine va_iald hx hb hK hP 1 15 rfl rfl (vp_in_nI (by omega) (by decide)) dX9_islandsAll_16 ?_
        refine lv_ri (y := bI (ib j)) (congrArg (fun zj => bI (ib zj)) (nI_clamp (by omega))) ?_
        refine lv_iadd hx hb dX9_islandsAll_17 ?_
        refine lv_istore_n (lv' := [(1, .int (x + (bI (ib j)))), (2, .int (nI j)), (0, .ref (mq 0))]) hx hb dX9_islandsAll_18 rfl hl (by decide) rfl (fun ls hl => ?_)
        refine lv_iinc (v := nI (j + 1)) (lv' := [(2, .int (nI (j + 1))), (1, .int (x + (bI (ib j)))), (0, .ref (mq 0))]) hx hb dX9_islandsAll_19 hl (k := 1) rfl (nI_add j 1) (by decide) rfl (fun ls hl => ?_)
        refine lv_goto (tgt := 4) hx hb dX9_islandsAll_22 (by decide) ?_
        exact ih4 (j + 1) (x + bI (ib j)) (by omega) (by rw [← hR]; rfl) ls (lv_sub hl [0, 1, 2] rfl)
  exact lp4 36 0 (nI 0) (by omega) rfl ls (lv_sub hl [0, 1, 2] rfl)
set_option maxHeartbeats 4000000 in
set_option maxRecDepth 100000 in
theorem kX9_draw (l : Launch) (dC : Nat → ClassId) (dI : Nat → Nat → Nat) (ca : Nat → ClassId) (sz : Nat) (sdw : Nat) (nc : Nat) (sr : Int32) (ps : Nat) (br : Nat) (st : Int32) (so : Int32) (se : Nat) (kbr : Nat) (kst : Int32) (kso : Int32) (kse : Nat) (mq : Nat → Nat) (ea : Int32) (fe : Int32) (fs : Int32) (ks : Int32) (hs : Int64) (hsw : sdw < 2 ^ 31) : Met l yX9_draw (Cond.code yX9_draw cX9_draw 2 (some .int) :: gT) (rk 1) (EFp (dC, dI) [(mq 0, .inr (9, [.ref (mq 1), .int (nI ps), .int ea, .int (nI nc), .int (nI br), .int st, .int so, .int sr, .ref (mq 2), .ref (mq 3), .int fe, .int fs, .ref (mq 4), .int (nI se), .ref (mq 5), .ref (mq 6), .int (nI sdw), .int ks, .int (nI kbr), .int kst, .int kso, .int (nI kse), .ref (mq 7), .ref (mq 8), .ref (mq 9), .long hs]))] (TY ca) sz [Value.ref (mq 0), Value.int (nI 9)]) (va_Qi (fun (r : Int32) (_ : Unit) => r = nI (sdN sdw / 65536 % 9)) (EFb (dC, dI) (fun (_ : Unit) => [(mq 0, .inr (9, [.ref (mq 1), .int (nI ps), .int ea, .int (nI nc), .int (nI br), .int st, .int so, .int sr, .ref (mq 2), .ref (mq 3), .int fe, .int fs, .ref (mq 4), .int (nI se), .ref (mq 5), .ref (mq 6), .int (nI (sdN sdw)), .int ks, .int (nI kbr), .int kst, .int kso, .int (nI kse), .ref (mq 7), .ref (mq 8), .ref (mq 9), .long hs]))]) (TY ca) (va_A [(mq 0, .inr (9, [.ref (mq 1), .int (nI ps), .int ea, .int (nI nc), .int (nI br), .int st, .int so, .int sr, .ref (mq 2), .ref (mq 3), .int fe, .int fs, .ref (mq 4), .int (nI se), .ref (mq 5), .ref (mq 6), .int (nI sdw), .int ks, .int (nI kbr), .int kst, .int kso, .int (nI kse), .ref (mq 7), .ref (mq 8), .ref (mq 9), .long hs]))] sz)) (va_A [(mq 0, .inr (9, [.ref (mq 1), .int (nI ps), .int ea, .int (nI nc), .int (nI br), .int st, .int so, .int sr, .ref (mq 2), .ref (mq 3), .int fe, .int fs, .ref (mq 4), .int (nI se), .ref (mq 5), .ref (mq 6), .int (nI sdw), .int ks, .int (nI kbr), .int kst, .int kso, .int (nI kse), .ref (mq 7), .ref (mq 8), .ref (mq 9), .long hs]))] sz)) 0 0 (va_A [(mq 0, .inr (9, [.ref (mq 1), .int (nI ps), .int ea, .int (nI nc), .int (nI br), .int st, .int so, .int sr, .ref (mq 2), .ref (mq 3), .int fe, .int fs, .ref (mq 4), .int (nI se), .ref (mq 5), .ref (mq 6), .int (nI sdw), .int ks, .int (nI kbr), .int kst, .int kso, .int (nI kse), .ref (mq 7), .ref (mq 8), .ref (mq 9), .long hs]))] sz) := by
  refine Met.ofW (cc := cX9_draw) (maxL := 2) (ret := (some .int)) (by decide) rfl ?_
  intro p e s m args below meth c s₁ B hml hv
  obtain ⟨rfl, hsz, hP, hK, hD0⟩ := hv
  have hx := B.exec
  have hb := B.bytes
  have hr := B.returns
  have hts := atoms_spec (ws := (Cond.code yX9_draw cX9_draw 2 (some .int) :: gT)) B.pre
  have htl : ∀ w ∈ gT, w.before _ s = true := fun w h => hts w (List.mem_cons_of_mem _ h)
  have hown : s.vm.findClass RX9 = some m.cls := findClass_of_methodNamed B.named
  have hlocks := B.notSynchronized
  subst hsz
  have hD := hD0.self (sz := s.heap.size)
  generalize hAe : va_A [(mq 0, .inr (9, [.ref (mq 1), .int (nI ps), .int ea, .int (nI nc), .int (nI br), .int st, .int so, .int sr, .ref (mq 2), .ref (mq 3), .int fe, .int fs, .ref (mq 4), .int (nI se), .ref (mq 5), .ref (mq 6), .int (nI sdw), .int ks, .int (nI kbr), .int kst, .int kso, .int (nI kse), .ref (mq 7), .ref (mq 8), .ref (mq 9), .long hs]))] s.heap.size = A at hD ⊢
  have hA : ∀ q : Nat, s.heap.size ≤ q → A q := fun q h => by rw [← hAe]; exact Or.inr h
  have hS : va_S A s.heap s.heap [] := va_S.rf
  have hl := lv_entry ([Value.ref (mq 0), Value.int (nI 9)]) (n := 2) (Nat.le_of_ble_eq_true rfl)
  rw [lg_entry_eq]
  generalize (lg_sl ([Value.ref (mq 0), Value.int (nI 9)]) ++ List.replicate (2 - (lg_sl ([Value.ref (mq 0), Value.int (nI 9)])).length) Slot.unset).toArray = ls at hl ⊢
  have hl : lv_has ls 2 [(0, .ref (mq 0)), (1, .int (nI 9))] := hl
  refine lv_aload_n hx hb dX9_draw_0 rfl (lv_at hl 0 rfl) ?_
  refine lv_ldc2 (v := 1103515245) hx hb hown (htl _ wd_793) dX9_draw_1 ?_
  refine lv_aload_n hx hb dX9_draw_4 rfl (lv_at hl 0 rfl) ?_
  refine va_get (D := (dC, dI)) (ci := 9) (v := .int (nI sdw)) (C := RX9) (T := TX9) (N := 26) hx hb htl iX9 hown hK hP 0 rfl rfl 16 (by decide) (htl _ wd_567) (fun _ h9 => h9) rfl dX9_draw_5 ?_
  refine lv_i2l (v := (nI sdw).toInt64) hx hb dX9_draw_8 rfl ?_
  refine lv_lmul hx hb dX9_draw_9 ?_
  refine lv_ldc2 (v := 12345) hx hb hown (htl _ wd_794) dX9_draw_10 ?_
  refine lv_ladd hx hb dX9_draw_13 ?_
  refine lv_ldc2 (v := 2147483647) hx hb hown (htl _ wd_795) dX9_draw_14 ?_
  refine lv_land hx hb dX9_draw_17 ?_
  refine lv_l2i (v := (((1103515245 * ((nI sdw).toInt64)) + 12345) &&& 2147483647).toInt32) hx hb dX9_draw_18 rfl ?_
  refine lv_ri (y := nI (sdN sdw)) (draw_N hsw) ?_
  refine va_put (D := (dC, dI)) (ci := 9) (v := .int (nI (sdN sdw))) (ty := .int) (C := RX9) (T := TX9) (N := 26) hx hb htl iX9 tyX9 tyX9_ok nmX9 hown hK hP hD hS 0 rfl rfl 16 (by decide) (htl _ wd_567) (fun _ h9 => h9) rfl (by decide +kernel) rfl rfl (Nat.le_of_ble_eq_true rfl) dX9_draw_19 (fun H locs hP hD hS => ?_)
  have hP : va_P (dC, dI) vwCl [(mq 0, .inr (9, [.ref (mq 1), .int (nI ps), .int ea, .int (nI nc), .int (nI br), .int st, .int so, .int sr, .ref (mq 2), .ref (mq 3), .int fe, .int fs, .ref (mq 4), .int (nI se), .ref (mq 5), .ref (mq 6), .int (nI (sdN sdw)), .int ks, .int (nI kbr), .int kst, .int kso, .int (nI kse), .ref (mq 7), .ref (mq 8), .ref (mq 9), .long hs]))] H := hP
  have hD : va_D A [(mq 0, .inr (9, [.ref (mq 1), .int (nI ps), .int ea, .int (nI nc), .int (nI br), .int st, .int so, .int sr, .ref (mq 2), .ref (mq 3), .int fe, .int fs, .ref (mq 4), .int (nI se), .ref (mq 5), .ref (mq 6), .int (nI (sdN sdw)), .int ks, .int (nI kbr), .int kst, .int kso, .int (nI kse), .ref (mq 7), .ref (mq 8), .ref (mq 9), .long hs]))] := hD
  have hs2 := sdN_lt sdw
  refine lv_aload_n hx hb dX9_draw_22 rfl (lv_at hl 0 rfl) ?_
  refine va_get (D := (dC, dI)) (ci := 9) (v := .int (nI (sdN sdw))) (C := RX9) (T := TX9) (N := 26) hx hb htl iX9 hown hK hP 0 rfl rfl 16 (by decide) (htl _ wd_567) (fun _ h9 => h9) rfl dX9_draw_23 ?_
  refine lv_ldc (v := nI 65536) hx hb hown (htl _ wd_796) dX9_draw_26 ?_
  refine lv_idiv hx hb dX9_draw_28 (by decide) ?_
  refine lv_ri (y := nI ((sdN sdw) / 65536)) (pk_div (by omega) (by decide) (by decide)) ?_
  refine lv_iload_n hx hb dX9_draw_29 rfl (lv_at hl 1 rfl) ?_
  refine lv_irem hx hb dX9_draw_30 (by decide) ?_
  refine lv_ri (y := nI (((sdN sdw) / 65536) % 9)) (pk_rem (by omega) (by decide) (by decide)) ?_
  have hP9 := hP.sub (ws' := [(mq 0, .inr (9, [.ref (mq 1), .int (nI ps), .int ea, .int (nI nc), .int (nI br), .int st, .int so, .int sr, .ref (mq 2), .ref (mq 3), .int fe, .int fs, .ref (mq 4), .int (nI se), .ref (mq 5), .ref (mq 6), .int (nI (sdN sdw)), .int ks, .int (nI kbr), .int kst, .int kso, .int (nI kse), .ref (mq 7), .ref (mq 8), .ref (mq 9), .long hs]))]) [0] rfl
  have hD9 := hD.sub (ws' := [(mq 0, .inr (9, [.ref (mq 1), .int (nI ps), .int ea, .int (nI nc), .int (nI br), .int st, .int so, .int sr, .ref (mq 2), .ref (mq 3), .int fe, .int fs, .ref (mq 4), .int (nI se), .ref (mq 5), .ref (mq 6), .int (nI (sdN sdw)), .int ks, .int (nI kbr), .int kst, .int kso, .int (nI kse), .ref (mq 7), .ref (mq 8), .ref (mq 9), .long hs]))]) [0] (by decide) rfl
  exact W.iret (v := nI (((sdN sdw) / 65536) % 9)) hx hb hr (fun t ht hW => ⟨⟨nI (((sdN sdw) / 65536) % 9), (), rfl, rfl, by rw [ht]; exact hP9, va_K.moved hW.alike hK, hD9⟩, hS.F ht⟩) hS.2.2 dX9_draw_31
