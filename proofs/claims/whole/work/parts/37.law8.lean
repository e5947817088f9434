set_option maxHeartbeats 4000000 in
set_option maxRecDepth 100000 in
theorem law_loop {p : Program} {l : Launch} {e : Env} {s : State} {m : MethodId} {below : List Frame} {meth : Method} {c : Code} {dC : Nat → ClassId} {dI : Nat → Nat → Nat} {ca : Nat → ClassId} {b : Nat} {q mq : Nat → Nat} {A : Nat → Prop} {L : Nat} {xs : Nat → Int32} {k1 k2 : Nat → Nat} (hL : L ≤ 256) (C0 : lw_At p s m meth c b L xs) (hA : ∀ q : Nat, s.heap.size ≤ q → A q) (hAge : ∀ q : Nat, A q → s.heap.size ≤ q) (hbA : ¬ A b) (hTF : TF s) (hFA : SFA k1 k2 A s s.heap) (hK : va_K (dC, dI) vwCl (TY ca) s) : ∀ n k : Nat, k ≤ 64 → 65 ≤ k + n → LWp p l e s m below meth c dC dI ca b q mq A k := by
  intro n
  induction n with
  | zero =>
    intro k h1 h2
    exact absurd h2 (by omega)
  | succ n ih =>
    intro k hk64 hkn qn kd nc sr ik ps pl isl br st so se hm sn sp sd kisl kbr kst kso kse khm ksn ksp ksd ts tp sa wq lq ea fe fs sw ks kkd fa pa hs hI H locs ls hP hD hS hl
    obtain ⟨hx, hb, hr, hml, hown, hts, hX, hbl, hlocks, hgv⟩ := id C0
    refine lv_iload_n hx hb dL_law_18 rfl (lv_at hl 3 rfl) ?_
    refine lv_aload_n hx hb dL_law_19 rfl (lv_at hl 0 rfl) ?_
    refine va_slen hx hb hX hbl hbA hS dL_law_20 ?_
    refine lv_iconst (v := nI 4) hx hb dL_law_21 (by decide) ?_
    refine lv_isub hx hb dL_law_22 ?_
    refine lv_icmp_gt (tgt := 621) hx hb dL_law_23 (by decide) (fun cc => ?_) (fun cc => ?_)
    · refine lv_iconst (v := 1) hx hb dL_law_621 (by decide) ?_
      refine va_forget (fun q hq => hAge _ (hS.2.2 q hq)) ?_
      refine W.widen (k := 600000) (n := 7302250) (by omega) (by omega) ?_
      exact lw_ret hx hb hr hlocks dL_law_622
    · have hk : 4 * k + 4 ≤ L := by
        have h2 : ¬ (nI L - nI 4).toInt < (nI (4 * k)).toInt := fun q => cc (Int32.lt_iff_toInt_lt.mpr q)
        rw [pk_sub_toInt (by omega) (by decide), nI_toInt (by omega)] at h2
        omega
      refine lv_aload_n hx hb dL_law_26 rfl (lv_at hl 0 rfl) ?_
      refine lv_iload_n hx hb dL_law_27 rfl (lv_at hl 3 rfl) ?_
      refine va_sld hx hb hX hbl hbA hS (vp_in_nI (by omega) (by omega)) dL_law_28 ?_
      refine lv_bipush (v := nI 31) hx hb dL_law_29 (by decide) ?_
      refine lv_iand hx hb dL_law_31 ?_
      refine lv_topi (fun op eop => ?_)
      by_cases c0 : op = nI 0
      · refine lv_ri c0 ?_
        refine lv_tableIn (off := 96) (tgt := 128) hx hb dL_law_32 (by decide) (by decide) rfl (by decide) ?_
        exact law_0 hL C0 hA hbA hTF hFA hK hk (ih (k + 1) (by omega) (by omega)) qn kd nc sr ik ps pl isl br st so se hm sn sp sd kisl kbr kst kso kse khm ksn ksp ksd ts tp sa wq lq ea fe fs sw ks kkd fa pa hs hI _ _ ls hP hD hS hl
      by_cases c1 : op = nI 1
      · refine lv_ri c1 ?_
        refine lv_tableIn (off := 119) (tgt := 151) hx hb dL_law_32 (by decide) (by decide) rfl (by decide) ?_
        exact law_1 hL C0 hA hbA hTF hFA hK hk (ih (k + 1) (by omega) (by omega)) qn kd nc sr ik ps pl isl br st so se hm sn sp sd kisl kbr kst kso kse khm ksn ksp ksd ts tp sa wq lq ea fe fs sw ks kkd fa pa hs hI _ _ ls hP hD hS hl
      by_cases c2 : op = nI 2
      · refine lv_ri c2 ?_
        refine lv_tableIn (off := 132) (tgt := 164) hx hb dL_law_32 (by decide) (by decide) rfl (by decide) ?_
        exact law_2 hL C0 hA hbA hTF hFA hK hk (ih (k + 1) (by omega) (by omega)) qn kd nc sr ik ps pl isl br st so se hm sn sp sd kisl kbr kst kso kse khm ksn ksp ksd ts tp sa wq lq ea fe fs sw ks kkd fa pa hs hI _ _ ls hP hD hS hl
      by_cases c3 : op = nI 3
      · refine lv_ri c3 ?_
        refine lv_tableIn (off := 145) (tgt := 177) hx hb dL_law_32 (by decide) (by decide) rfl (by decide) ?_
        exact law_3 hL C0 hA hbA hTF hFA hK hk (ih (k + 1) (by omega) (by omega)) qn kd nc sr ik ps pl isl br st so se hm sn sp sd kisl kbr kst kso kse khm ksn ksp ksd ts tp sa wq lq ea fe fs sw ks kkd fa pa hs hI _ _ ls hP hD hS hl
      by_cases c4 : op = nI 4
      · refine lv_ri c4 ?_
        refine lv_tableIn (off := 158) (tgt := 190) hx hb dL_law_32 (by decide) (by decide) rfl (by decide) ?_
        exact law_4 hL C0 hA hbA hTF hFA hK hk (ih (k + 1) (by omega) (by omega)) qn kd nc sr ik ps pl isl br st so se hm sn sp sd kisl kbr kst kso kse khm ksn ksp ksd ts tp sa wq lq ea fe fs sw ks kkd fa pa hs hI _ _ ls hP hD hS hl
      by_cases c5 : op = nI 5
      · refine lv_ri c5 ?_
        refine lv_tableIn (off := 191) (tgt := 223) hx hb dL_law_32 (by decide) (by decide) rfl (by decide) ?_
        exact law_5 hL C0 hA hbA hTF hFA hK hk (ih (k + 1) (by omega) (by omega)) qn kd nc sr ik ps pl isl br st so se hm sn sp sd kisl kbr kst kso kse khm ksn ksp ksd ts tp sa wq lq ea fe fs sw ks kkd fa pa hs hI _ _ ls hP hD hS hl
      by_cases c6 : op = nI 6
      · refine lv_ri c6 ?_
        refine lv_tableIn (off := 224) (tgt := 256) hx hb dL_law_32 (by decide) (by decide) rfl (by decide) ?_
        exact law_6 hL C0 hA hbA hTF hFA hK hk (ih (k + 1) (by omega) (by omega)) qn kd nc sr ik ps pl isl br st so se hm sn sp sd kisl kbr kst kso kse khm ksn ksp ksd ts tp sa wq lq ea fe fs sw ks kkd fa pa hs hI _ _ ls hP hD hS hl
      by_cases c7 : op = nI 7
      · refine lv_ri c7 ?_
        refine lv_tableIn (off := 257) (tgt := 289) hx hb dL_law_32 (by decide) (by decide) rfl (by decide) ?_
        exact law_7 hL C0 hA hbA hTF hFA hK hk (ih (k + 1) (by omega) (by omega)) qn kd nc sr ik ps pl isl br st so se hm sn sp sd kisl kbr kst kso kse khm ksn ksp ksd ts tp sa wq lq ea fe fs sw ks kkd fa pa hs hI _ _ ls hP hD hS hl
      by_cases c8 : op = nI 8
      · refine lv_ri c8 ?_
        refine lv_tableIn (off := 290) (tgt := 322) hx hb dL_law_32 (by decide) (by decide) rfl (by decide) ?_
        exact law_8 hL C0 hA hbA hTF hFA hK hk (ih (k + 1) (by omega) (by omega)) qn kd nc sr ik ps pl isl br st so se hm sn sp sd kisl kbr kst kso kse khm ksn ksp ksd ts tp sa wq lq ea fe fs sw ks kkd fa pa hs hI _ _ ls hP hD hS hl
      by_cases c9 : op = nI 9
      · refine lv_ri c9 ?_
        refine lv_tableIn (off := 313) (tgt := 345) hx hb dL_law_32 (by decide) (by decide) rfl (by decide) ?_
        exact law_9 hL C0 hA hbA hTF hFA hK hk (ih (k + 1) (by omega) (by omega)) qn kd nc sr ik ps pl isl br st so se hm sn sp sd kisl kbr kst kso kse khm ksn ksp ksd ts tp sa wq lq ea fe fs sw ks kkd fa pa hs hI _ _ ls hP hD hS hl
      by_cases c10 : op = nI 10
      · refine lv_ri c10 ?_
        refine lv_tableIn (off := 362) (tgt := 394) hx hb dL_law_32 (by decide) (by decide) rfl (by decide) ?_
        exact law_10 hL C0 hA hbA hTF hFA hK hk (ih (k + 1) (by omega) (by omega)) qn kd nc sr ik ps pl isl br st so se hm sn sp sd kisl kbr kst kso kse khm ksn ksp ksd ts tp sa wq lq ea fe fs sw ks kkd fa pa hs hI _ _ ls hP hD hS hl
      by_cases c11 : op = nI 11
      · refine lv_ri c11 ?_
        refine lv_tableIn (off := 385) (tgt := 417) hx hb dL_law_32 (by decide) (by decide) rfl (by decide) ?_
        exact law_11 hL C0 hA hbA hTF hFA hK hk (ih (k + 1) (by omega) (by omega)) qn kd nc sr ik ps pl isl br st so se hm sn sp sd kisl kbr kst kso kse khm ksn ksp ksd ts tp sa wq lq ea fe fs sw ks kkd fa pa hs hI _ _ ls hP hD hS hl
      by_cases c12 : op = nI 12
      · refine lv_ri c12 ?_
        refine lv_tableIn (off := 408) (tgt := 440) hx hb dL_law_32 (by decide) (by decide) rfl (by decide) ?_
        exact law_12 hL C0 hA hbA hTF hFA hK hk (ih (k + 1) (by omega) (by omega)) qn kd nc sr ik ps pl isl br st so se hm sn sp sd kisl kbr kst kso kse khm ksn ksp ksd ts tp sa wq lq ea fe fs sw ks kkd fa pa hs hI _ _ ls hP hD hS hl
      by_cases c13 : op = nI 13
      · refine lv_ri c13 ?_
        refine lv_tableIn (off := 421) (tgt := 453) hx hb dL_law_32 (by decide) (by decide) rfl (by decide) ?_
        exact law_13 hL C0 hA hbA hTF hFA hK hk (ih (k + 1) (by omega) (by omega)) qn kd nc sr ik ps pl isl br st so se hm sn sp sd kisl kbr kst kso kse khm ksn ksp ksd ts tp sa wq lq ea fe fs sw ks kkd fa pa hs hI _ _ ls hP hD hS hl
      by_cases c14 : op = nI 14
      · refine lv_ri c14 ?_
        refine lv_tableIn (off := 464) (tgt := 496) hx hb dL_law_32 (by decide) (by decide) rfl (by decide) ?_
        exact law_14 hL C0 hA hbA hTF hFA hK hk (ih (k + 1) (by omega) (by omega)) qn kd nc sr ik ps pl isl br st so se hm sn sp sd kisl kbr kst kso kse khm ksn ksp ksd ts tp sa wq lq ea fe fs sw ks kkd fa pa hs hI _ _ ls hP hD hS hl
      by_cases c15 : op = nI 15
      · refine lv_ri c15 ?_
        refine lv_tableIn (off := 477) (tgt := 509) hx hb dL_law_32 (by decide) (by decide) rfl (by decide) ?_
        exact law_15 hL C0 hA hbA hTF hFA hK hk (ih (k + 1) (by omega) (by omega)) qn kd nc sr ik ps pl isl br st so se hm sn sp sd kisl kbr kst kso kse khm ksn ksp ksd ts tp sa wq lq ea fe fs sw ks kkd fa pa hs hI _ _ ls hP hD hS hl
      by_cases c16 : op = nI 16
      · refine lv_ri c16 ?_
        refine lv_tableIn (off := 520) (tgt := 552) hx hb dL_law_32 (by decide) (by decide) rfl (by decide) ?_
        exact law_16 hL C0 hA hbA hTF hFA hK hk (ih (k + 1) (by omega) (by omega)) qn kd nc sr ik ps pl isl br st so se hm sn sp sd kisl kbr kst kso kse khm ksn ksp ksd ts tp sa wq lq ea fe fs sw ks kkd fa pa hs hI _ _ ls hP hD hS hl
      by_cases c17 : op = nI 17
      · refine lv_ri c17 ?_
        refine lv_tableIn (off := 533) (tgt := 565) hx hb dL_law_32 (by decide) (by decide) rfl (by decide) ?_
        exact law_17 hL C0 hA hbA hTF hFA hK hk (ih (k + 1) (by omega) (by omega)) qn kd nc sr ik ps pl isl br st so se hm sn sp sd kisl kbr kst kso kse khm ksn ksp ksd ts tp sa wq lq ea fe fs sw ks kkd fa pa hs hI _ _ ls hP hD hS hl
      by_cases c18 : op = nI 18
      · refine lv_ri c18 ?_
        refine lv_tableIn (off := 546) (tgt := 578) hx hb dL_law_32 (by decide) (by decide) rfl (by decide) ?_
        exact law_18 hL C0 hA hbA hTF hFA hK hk (ih (k + 1) (by omega) (by omega)) qn kd nc sr ik ps pl isl br st so se hm sn sp sd kisl kbr kst kso kse khm ksn ksp ksd ts tp sa wq lq ea fe fs sw ks kkd fa pa hs hI _ _ ls hP hD hS hl
      by_cases c19 : op = nI 19
      · refine lv_ri c19 ?_
        refine lv_tableIn (off := 569) (tgt := 601) hx hb dL_law_32 (by decide) (by decide) rfl (by decide) ?_
        exact law_19 hL C0 hA hbA hTF hFA hK hk (ih (k + 1) (by omega) (by omega)) qn kd nc sr ik ps pl isl br st so se hm sn sp sd kisl kbr kst kso kse khm ksn ksp ksd ts tp sa wq lq ea fe fs sw ks kkd fa pa hs hI _ _ ls hP hD hS hl
      have ho : op.toInt < 0 ∨ 19 < op.toInt := by
        have q0 := lv_neT (k := nI 0) (a := 0) c0 (by decide)
        have q1 := lv_neT (k := nI 1) (a := 1) c1 (by decide)
        have q2 := lv_neT (k := nI 2) (a := 2) c2 (by decide)
        have q3 := lv_neT (k := nI 3) (a := 3) c3 (by decide)
        have q4 := lv_neT (k := nI 4) (a := 4) c4 (by decide)
        have q5 := lv_neT (k := nI 5) (a := 5) c5 (by decide)
        have q6 := lv_neT (k := nI 6) (a := 6) c6 (by decide)
        have q7 := lv_neT (k := nI 7) (a := 7) c7 (by decide)
        have q8 := lv_neT (k := nI 8) (a := 8) c8 (by decide)
        have q9 := lv_neT (k := nI 9) (a := 9) c9 (by decide)
        have q10 := lv_neT (k := nI 10) (a := 10) c10 (by decide)
        have q11 := lv_neT (k := nI 11) (a := 11) c11 (by decide)
        have q12 := lv_neT (k := nI 12) (a := 12) c12 (by decide)
        have q13 := lv_neT (k := nI 13) (a := 13) c13 (by decide)
        have q14 := lv_neT (k := nI 14) (a := 14) c14 (by decide)
        have q15 := lv_neT (k := nI 15) (a := 15) c15 (by decide)
        have q16 := lv_neT (k := nI 16) (a := 16) c16 (by decide)
        have q17 := lv_neT (k := nI 17) (a := 17) c17 (by decide)
        have q18 := lv_neT (k := nI 18) (a := 18) c18 (by decide)
        have q19 := lv_neT (k := nI 19) (a := 19) c19 (by decide)
        omega
      refine lv_tableOut (tgt := 615) hx hb dL_law_32 ho (by decide) ?_
      refine lv_iinc (v := nI (4 * (k + 1))) (lv' := [(3, .int (nI (4 * (k + 1)))), (0, .ref b), (1, .ref (q 0)), (2, .ref (mq 0))]) hx hb dL_law_615 hl (k := 3) rfl (by rw [show 4 * (k + 1) = 4 * k + 4 by omega]; exact nI_add _ _) (by decide) rfl (fun ls hl => ?_)
      refine lv_goto (tgt := 18) hx hb dL_law_618 (by decide) ?_
      refine W.widen (k := 32 + 4 * (k + 1)) (n := 413) (by omega) (Nat.le_refl _) ?_
      exact ih (k + 1) (by omega) (by omega) qn kd nc sr ik ps pl isl br st so se hm sn sp sd kisl kbr kst kso kse khm ksn ksp ksd ts tp sa wq lq ea fe fs sw ks kkd fa pa hs hI.up _ _ ls hP hD hS (lv_sub hl [1, 2, 3, 0] rfl)
theorem law_TF {s : State} {b : Nat} (hts : ∀ w ∈ lw_tbl, w.before #[Value.ref b] s = true) (hgv : (Jvm.Cond.and given_1 narrow_1).before #[Value.ref b] s = true) : TF s := by
  have hg := flat_of_before _ hgv
  refine ⟨?_, ?_, ?_, va_AO.of (hts (.arrayOver (.object RX1)) (List.mem_append_right _ (List.mem_of_getElem? (i := 45) (by decide +kernel))))⟩
  · exact (List.forall_mem_cons.mpr ⟨va_Nc.of (args := #[Value.ref b]) (hg (.not (.castable RX1 RX3)) (by decide +kernel)), (List.forall_mem_cons.mpr ⟨va_Nc.of (args := #[Value.ref b]) (hg (.not (.castable RX0 RX3)) (by decide +kernel)), (List.forall_mem_cons.mpr ⟨va_Nc.of (args := #[Value.ref b]) (hg (.not (.castable RX6 RX3)) (by decide +kernel)), (List.forall_mem_cons.mpr ⟨va_Nc.of (args := #[Value.ref b]) (hg (.not (.castable RX4 RX3)) (by decide +kernel)), (List.forall_mem_cons.mpr ⟨va_Nc.of (args := #[Value.ref b]) (hg (.not (.castable RX1 RX0)) (by decide +kernel)), (List.forall_mem_cons.mpr ⟨va_Nc.of (args := #[Value.ref b]) (hg (.not (.castable RX3 RX0)) (by decide +kernel)), (List.forall_mem_cons.mpr ⟨va_Nc.of (args := #[Value.ref b]) (hg (.not (.castable RX6 RX0)) (by decide +kernel)), (List.forall_mem_cons.mpr ⟨va_Nc.of (args := #[Value.ref b]) (hg (.not (.castable RX1 RX6)) (by decide +kernel)), (List.forall_mem_cons.mpr ⟨va_Nc.of (args := #[Value.ref b]) (hg (.not (.castable RX3 RX6)) (by decide +kernel)), (List.forall_mem_cons.mpr ⟨va_Nc.of (args := #[Value.ref b]) (hg (.not (.castable RX0 RX6)) (by decide +kernel)), (List.forall_mem_cons.mpr ⟨va_Nc.of (args := #[Value.ref b]) (hg (.not (.castable RX4 RX6)) (by decide +kernel)), (List.forall_mem_cons.mpr ⟨va_Nc.of (args := #[Value.ref b]) (hg (.not (.castable RX1 RX4)) (by decide +kernel)), (List.forall_mem_cons.mpr ⟨va_Nc.of (args := #[Value.ref b]) (hg (.not (.castable RX3 RX4)) (by decide +kernel)), (List.forall_mem_cons.mpr ⟨va_Nc.of (args := #[Value.ref b]) (hg (.not (.castable RX0 RX4)) (by decide +kernel)), (List.forall_mem_cons.mpr ⟨va_Nc.of (args := #[Value.ref b]) (hg (.not (.castable RX6 RX4)) (by decide +kernel)), (fun _ h => absurd h List.not_mem_nil)⟩)⟩)⟩)⟩)⟩)⟩)⟩)⟩)⟩)⟩)⟩)⟩)⟩)⟩)⟩)
  · exact (List.forall_mem_cons.mpr ⟨va_Nw.of rfl (hts (.castable RX4 RX0) (List.mem_append_right _ (List.mem_of_getElem? (i := 834) (by decide +kernel)))), (List.forall_mem_cons.mpr ⟨va_Nw.of rfl (hts (.castable RX3 RX1) (List.mem_append_right _ (List.mem_of_getElem? (i := 835) (by decide +kernel)))), (List.forall_mem_cons.mpr ⟨va_Nw.of rfl (hts (.castable RX0 RX1) (List.mem_append_right _ (List.mem_of_getElem? (i := 836) (by decide +kernel)))), (List.forall_mem_cons.mpr ⟨va_Nw.of rfl (hts (.castable RX6 RX1) (List.mem_append_right _ (List.mem_of_getElem? (i := 837) (by decide +kernel)))), (List.forall_mem_cons.mpr ⟨va_Nw.of rfl (hts (.castable RX4 RX1) (List.mem_append_right _ (List.mem_of_getElem? (i := 838) (by decide +kernel)))), (fun _ h => absurd h List.not_mem_nil)⟩)⟩)⟩)⟩)⟩)
  · exact (List.forall_mem_cons.mpr ⟨va_Nw.of rfl (hts (.methodLinkNest RX8 9 yX2_init "HomeNeedles") (List.mem_append_right _ (List.mem_of_getElem? (i := 30) (by decide +kernel)))), (List.forall_mem_cons.mpr ⟨va_Nw.of rfl (hts (.methodLinkNest RX8 24 yX7_init "HomeNeedles") (List.mem_append_right _ (List.mem_of_getElem? (i := 48) (by decide +kernel)))), (List.forall_mem_cons.mpr ⟨va_Nw.of rfl (hts (.methodLinkNest RX8 34 yX5_init "HomeNeedles") (List.mem_append_right _ (List.mem_of_getElem? (i := 92) (by decide +kernel)))), (List.forall_mem_cons.mpr ⟨va_Nw.of rfl (hts (.methodLinkNest RX8 60 yX1_init "HomeNeedles") (List.mem_append_right _ (List.mem_of_getElem? (i := 106) (by decide +kernel)))), (List.forall_mem_cons.mpr ⟨va_Nw.of rfl (hts (.methodLinkNest RX8 270 yX3_init "HomeNeedles") (List.mem_append_right _ (List.mem_of_getElem? (i := 293) (by decide +kernel)))), (List.forall_mem_cons.mpr ⟨va_Nw.of rfl (hts (.methodLinkNest RX3 3 yX1_init "HomeNeedles") (List.mem_append_right _ (List.mem_of_getElem? (i := 296) (by decide +kernel)))), (List.forall_mem_cons.mpr ⟨va_Nw.of rfl (hts (.methodLinkNest RX8 273 yX0_init "HomeNeedles") (List.mem_append_right _ (List.mem_of_getElem? (i := 300) (by decide +kernel)))), (List.forall_mem_cons.mpr ⟨va_Nw.of rfl (hts (.methodLinkNest RX0 3 yX1_init "HomeNeedles") (List.mem_append_right _ (List.mem_of_getElem? (i := 303) (by decide +kernel)))), (List.forall_mem_cons.mpr ⟨va_Nw.of rfl (hts (.methodLinkNest RX8 276 yX6_init "HomeNeedles") (List.mem_append_right _ (List.mem_of_getElem? (i := 307) (by decide +kernel)))), (List.forall_mem_cons.mpr ⟨va_Nw.of rfl (hts (.methodLinkNest RX6 3 yX1_init "HomeNeedles") (List.mem_append_right _ (List.mem_of_getElem? (i := 310) (by decide +kernel)))), (List.forall_mem_cons.mpr ⟨va_Nw.of rfl (hts (.methodLinkNest RX8 279 yX4_init "HomeNeedles") (List.mem_append_right _ (List.mem_of_getElem? (i := 314) (by decide +kernel)))), (List.forall_mem_cons.mpr ⟨va_Nw.of rfl (hts (.methodLinkNest RX4 3 yX0_init "HomeNeedles") (List.mem_append_right _ (List.mem_of_getElem? (i := 317) (by decide +kernel)))), (fun _ h => absurd h List.not_mem_nil)⟩)⟩)⟩)⟩)⟩)⟩)⟩)⟩)⟩)⟩)⟩)⟩)
theorem law_SFA {s : State} {b : Nat} (hts : ∀ w ∈ lw_tbl, w.before #[Value.ref b] s = true) (hgv : (Jvm.Cond.and given_1 narrow_1).before #[Value.ref b] s = true) : ∃ k1 k2 : Nat → Nat, SFA k1 k2 (fun q : Nat => s.heap.size ≤ q) s s.heap := by
  have hg := flat_of_before _ hgv
  have hA : ∀ a : Nat, a < s.heap.size → ¬ (fun q : Nat => s.heap.size ≤ q) a := fun a h => Nat.not_le.mpr h
  obtain ⟨k1, k2, h1, h2⟩ := vk_Sof (args := #[Value.ref b]) (s := s) (N := 1) (tm := fun _ => (.string RX2 42)) (len := [5]) (byt := [[110, 115, 108, 116, 111]]) (A := fun q : Nat => s.heap.size ≤ q) (fun i hi => by rcases (show i = 0 by omega) with rfl; decide) (fun i hi => by rcases (show i = 0 by omega) with rfl; exact hg (.exactly (.string RX2 42) "java/lang/String") (by decide +kernel)) (fun i hi => by rcases (show i = 0 by omega) with rfl; exact hg (.eq (.field (.string RX2 42) "java/lang/String" "coder" "B") (.int 0)) (by decide +kernel)) (fun i hi => by rcases (show i = 0 by omega) with rfl; exact hg (.arrayOf (.field (.string RX2 42) "java/lang/String" "value" "[B") .byte) (by decide +kernel)) (fun i hi => by rcases (show i = 0 by omega) with rfl; exact hg (.eq (.length (.field (.string RX2 42) "java/lang/String" "value" "[B")) (.int 5)) (by decide +kernel)) (fun i hi j hj => by rcases (show i = 0 by omega) with rfl; rcases (show j = 0 ∨ j = 1 ∨ j = 2 ∨ j = 3 ∨ j = 4 from (by have hj : j < 5 := hj; omega)) with rfl | rfl | rfl | rfl | rfl; exact hg (.eq (.elem (.field (.string RX2 42) "java/lang/String" "value" "[B") (.int 0)) (.int 110)) (by decide +kernel); exact hg (.eq (.elem (.field (.string RX2 42) "java/lang/String" "value" "[B") (.int 1)) (.int 115)) (by decide +kernel); exact hg (.eq (.elem (.field (.string RX2 42) "java/lang/String" "value" "[B") (.int 2)) (.int 108)) (by decide +kernel); exact hg (.eq (.elem (.field (.string RX2 42) "java/lang/String" "value" "[B") (.int 3)) (.int 116)) (by decide +kernel); exact hg (.eq (.elem (.field (.string RX2 42) "java/lang/String" "value" "[B") (.int 4)) (.int 111)) (by decide +kernel)) (fun i j hi hj hij => absurd (show i = j by omega) hij) hA
  exact ⟨k1, k2, h1, vk_R.of (hts (.stringRef RX2 42 "nslto") (List.mem_append_right _ (List.mem_of_getElem? (i := 177) (by decide +kernel)))) (h2 0 (by decide)), va_Zof (hts (.laysStatic "java/lang/String" "COMPACT_STRINGS" "Z") (List.mem_append_right _ (List.mem_of_getElem? (i := 191) (by decide +kernel)))) (hts (.initialized "java/lang/String") (List.mem_append_right _ (List.mem_of_getElem? (i := 7) (by decide +kernel)))) (va_eqt (hg (.eq (.static "java/lang/String" "COMPACT_STRINGS" "Z") (.int 1)) (by decide +kernel))) hA⟩
