def kindI (x : Nat) : Int32 := if 110 = x then nI 0 else if 115 = x then nI 1 else if 108 = x then nI 2 else if 116 = x then nI 3 else if 111 = x then nI 4 else -1
theorem i2b_s : ∀ x, x < 127 → (nI x).toInt8.toInt32 = nI x := by decide +kernel
def dig (x : Nat) : Bool := decide (48 ≤ x) && decide (x < 54)
theorem nI_z {a : Nat} (h : a < 2 ^ 31) : nI a = 0 ↔ a = 0 := nI_eq h (by decide)
theorem nar_c {q : Nat} (h : q < 65536) : vp_nar .char (nI q) = nI q := by
  unfold vp_nar
  rw [(pk_charN h).1]
theorem sub2_lt {a b d : Nat} (h : b ≤ a) (ha : a < 2 ^ 20) (hd : d < 2 ^ 20) : nI a - nI b - nI 1 < nI d ↔ a < b + d + 1 := by
  rw [pk_sub h, sub1_lt (by omega) (by omega)]
  omega
/-- the first place at which something is so; n behind j, if nowhere -/
def fstL (f : Nat → Bool) : Nat → Nat → Nat
  | 0, j => j
  | n + 1, j => if f j = true then j else fstL f n (j + 1)
theorem fstL_le {f : Nat → Bool} : ∀ (n j : Nat), j ≤ fstL f n j ∧ fstL f n j ≤ j + n
  | 0, j => ⟨Nat.le_refl j, Nat.le_refl j⟩
  | n + 1, j => by
    have h := fstL_le (f := f) n (j + 1)
    unfold fstL
    split
    · exact ⟨Nat.le_refl j, Nat.le_add_right _ _⟩
    · omega
def hE (pl : Nat → Nat) (ps : Nat) : Nat := fstL (fun j => decide (pl j = 59)) ps 0
theorem hE_le (pl : Nat → Nat) (ps : Nat) : hE pl ps ≤ ps := by
  have h := (fstL_le (f := fun j => decide (pl j = 59)) ps 0).2
  unfold hE
  omega
def fitH (pl : Nat → Nat) (a : Nat) : Bool := if a % 4 = 0 then !decide (kindI (pl a) = -1) else if a % 4 = 3 then decide (pl a = 59) || (decide (pl a = 44) && decide (a / 4 < 3)) else dig (pl a)
def fitT (pl : Nat → Nat) (he a : Nat) : Bool := dig (pl a) && decide (a - he ≤ 10)
def fitX (pl : Nat → Nat) (he a : Nat) : Bool := if he < a then fitT pl he a else fitH pl a
def fwN (pl : Nat → Nat) (ps : Nat) : Nat := fstL (fun a => !fitX pl (hE pl ps) a) ps 0
theorem fwN_le (pl : Nat → Nat) (ps : Nat) : fwN pl ps ≤ ps := by
  have h := (fstL_le (f := fun a => !fitX pl (hE pl ps) a) ps 0).2
  unfold fwN
  omega
def whN (pl : Nat → Nat) (ps : Nat) : Bool := decide (fwN pl ps = ps) && (decide (hE pl ps + 3 ≤ ps) && decide ((ps - hE pl ps - 1) % 2 = 0))
def plcN (pl : Nat → Nat) (a : Nat) : Nat := 6 * (pl a - 48) + pl (a + 1) - 48
set_option maxHeartbeats 4000000 in
set_option maxRecDepth 100000 in
theorem kJ0_isLatin1_aae02 (l : Launch) (dC : Nat → ClassId) (dI : Nat → Nat → Nat) (ca : Nat → ClassId) (k1 k2 : Nat → Nat) : Met l yJ0_isLatin1_aae02 (Cond.code yJ0_isLatin1_aae02 cJ0_isLatin1_aae02 1 (some .boolean) :: gT) (rk 1) (ROs (dC, dI) [] (TY ca) k1 k2 [Value.ref (k1 0)]) (vp_Si (fun r => r = nI 1)) 0 0 (fun _ => False) := by
  refine Met.ofW (cc := cJ0_isLatin1_aae02) (maxL := 1) (ret := (some .boolean)) (by decide) rfl ?_
  intro p e s m args below meth c s₁ B hml hv
  obtain ⟨rfl, hP, hK, hF⟩ := hv
  have hx := B.exec
  have hb := B.bytes
  have hr := B.returns
  have hts := atoms_spec (ws := (Cond.code yJ0_isLatin1_aae02 cJ0_isLatin1_aae02 1 (some .boolean) :: gT)) B.pre
  have htl : ∀ w ∈ gT, w.before _ s = true := fun w h => hts w (List.mem_cons_of_mem _ h)
  have hown : s.vm.findClass RJ0 = some m.cls := findClass_of_methodNamed B.named
  have hlocks := B.notSynchronized
  have hl := lv_entry ([Value.ref (k1 0)]) (n := 1) (Nat.le_of_ble_eq_true rfl)
  rw [lg_entry_eq]
  generalize (lg_sl ([Value.ref (k1 0)]) ++ List.replicate (1 - (lg_sl ([Value.ref (k1 0)])).length) Slot.unset).toArray = ls at hl ⊢
  have hl : lv_has ls 1 [(0, .ref (k1 0))] := hl
  refine va_gets (A := fun _ => False) hx hb hF.2.2 va_S.rf hown (htl _ wd_190) (fun _ h9 => h9) dJ0_isLatin1_aae02_0 ?_
  refine lv_if_eq (tgt := 17) hx hb dJ0_isLatin1_aae02_3 (by decide) (fun c_1 => ?_) (fun c_1 => ?_)
  · exact absurd c_1 (by decide)
  · refine lv_aload_n hx hb dJ0_isLatin1_aae02_6 rfl (lv_at hl 0 rfl) ?_
    refine vk_getf (A := fun _ => False) hx hb (hF.1.1 0 (by decide)).2.1 va_S.rf hown (htl _ wd_839) (fun _ h9 => h9) dJ0_isLatin1_aae02_7 ?_
    refine lv_if_ne (tgt := 17) hx hb dJ0_isLatin1_aae02_10 (by decide) (fun c_2 => ?_) (fun c_2 => ?_)
    · exact absurd c_2 (by decide)
    · refine lv_iconst (v := nI 1) hx hb dJ0_isLatin1_aae02_13 (by decide) ?_
      refine lv_goto (tgt := 18) hx hb dJ0_isLatin1_aae02_14 (by decide) ?_
      exact W.zret (v := nI 1) hx hb hr (by decide +kernel) (fun t ht hW => ⟨nI 1, rfl, rfl, ht⟩) (fun q h => by cases h) dJ0_isLatin1_aae02_18
set_option maxHeartbeats 4000000 in
set_option maxRecDepth 100000 in
theorem kJ0_coder_7d493 (l : Launch) (dC : Nat → ClassId) (dI : Nat → Nat → Nat) (ca : Nat → ClassId) (k1 k2 : Nat → Nat) : Met l yJ0_coder_7d493 (Cond.code yJ0_coder_7d493 cJ0_coder_7d493 1 (some .byte) :: gT) (rk 1) (ROs (dC, dI) [] (TY ca) k1 k2 [Value.ref (k1 0)]) (vp_Si (fun r => r = 0)) 0 0 (fun _ => False) := by
  refine Met.ofW (cc := cJ0_coder_7d493) (maxL := 1) (ret := (some .byte)) (by decide) rfl ?_
  intro p e s m args below meth c s₁ B hml hv
  obtain ⟨rfl, hP, hK, hF⟩ := hv
  have hx := B.exec
  have hb := B.bytes
  have hr := B.returns
  have hts := atoms_spec (ws := (Cond.code yJ0_coder_7d493 cJ0_coder_7d493 1 (some .byte) :: gT)) B.pre
  have htl : ∀ w ∈ gT, w.before _ s = true := fun w h => hts w (List.mem_cons_of_mem _ h)
  have hown : s.vm.findClass RJ0 = some m.cls := findClass_of_methodNamed B.named
  have hlocks := B.notSynchronized
  have hl := lv_entry ([Value.ref (k1 0)]) (n := 1) (Nat.le_of_ble_eq_true rfl)
  rw [lg_entry_eq]
  generalize (lg_sl ([Value.ref (k1 0)]) ++ List.replicate (1 - (lg_sl ([Value.ref (k1 0)])).length) Slot.unset).toArray = ls at hl ⊢
  have hl : lv_has ls 1 [(0, .ref (k1 0))] := hl
  refine va_gets (A := fun _ => False) hx hb hF.2.2 va_S.rf hown (htl _ wd_190) (fun _ h9 => h9) dJ0_coder_7d493_0 ?_
  refine lv_if_eq (tgt := 13) hx hb dJ0_coder_7d493_3 (by decide) (fun c_1 => ?_) (fun c_1 => ?_)
  · exact absurd c_1 (by decide)
  · refine lv_aload_n hx hb dJ0_coder_7d493_6 rfl (lv_at hl 0 rfl) ?_
    refine vk_getf (A := fun _ => False) hx hb (hF.1.1 0 (by decide)).2.1 va_S.rf hown (htl _ wd_839) (fun _ h9 => h9) dJ0_coder_7d493_7 ?_
    refine lv_goto (tgt := 14) hx hb dJ0_coder_7d493_10 (by decide) ?_
    exact W.zret (v := 0) hx hb hr (by decide +kernel) (fun t ht hW => ⟨0, rfl, rfl, ht⟩) (fun q h => by cases h) dJ0_coder_7d493_14
set_option maxHeartbeats 4000000 in
set_option maxRecDepth 100000 in
theorem kJ0_length_8abf5 (l : Launch) (dC : Nat → ClassId) (dI : Nat → Nat → Nat) (ca : Nat → ClassId) (k1 k2 : Nat → Nat) : Met l yJ0_length_8abf5 (Cond.code yJ0_length_8abf5 cJ0_length_8abf5 1 (some .int) :: gT) (rk 2) (ROs (dC, dI) [] (TY ca) k1 k2 [Value.ref (k1 0)]) (vp_Si (fun r => r = nI 5)) 0 0 (fun _ => False) := by
  refine Met.ofW (cc := cJ0_length_8abf5) (maxL := 1) (ret := (some .int)) (by decide) rfl ?_
  intro p e s m args below meth c s₁ B hml hv
  obtain ⟨rfl, hP, hK, hF⟩ := hv
  have hx := B.exec
  have hb := B.bytes
  have hr := B.returns
  have hts := atoms_spec (ws := (Cond.code yJ0_length_8abf5 cJ0_length_8abf5 1 (some .int) :: gT)) B.pre
  have htl : ∀ w ∈ gT, w.before _ s = true := fun w h => hts w (List.mem_cons_of_mem _ h)
  have hown : s.vm.findClass RJ0 = some m.cls := findClass_of_methodNamed B.named
  have hlocks := B.notSynchronized
  have hl := lv_entry ([Value.ref (k1 0)]) (n := 1) (Nat.le_of_ble_eq_true rfl)
  rw [lg_entry_eq]
  generalize (lg_sl ([Value.ref (k1 0)]) ++ List.replicate (1 - (lg_sl ([Value.ref (k1 0)])).length) Slot.unset).toArray = ls at hl ⊢
  have hl : lv_has ls 1 [(0, .ref (k1 0))] := hl
  refine lv_aload_n hx hb dJ0_length_8abf5_0 rfl (lv_at hl 0 rfl) ?_
  refine vk_getf (A := fun _ => False) hx hb (hF.1.1 0 (by decide)).2.2.1 va_S.rf hown (htl _ wd_840) (fun _ h9 => h9) dJ0_length_8abf5_1 ?_
  refine va_tlen (A := fun _ => False) (v := nI 5) hx hb (hF.1.1 0 (by decide)).2.2.2 va_S.rf (by decide) dJ0_length_8abf5_4 ?_
  refine lv_aload_n hx hb dJ0_length_8abf5_5 rfl (lv_at hl 0 rfl) ?_
  refine roVs (As := []) (rest := [.int (nI 5)]) (kJ0_coder_7d493 l dC dI ca k1 k2  ) ⟨hx, hb, hml, hown, htl⟩ (cVg (C := RJ0) 0 htl wd_196 wd_197 wd_198 wd_7 wd_199 rfl rfl (by decide +kernel) ⟨Nat.le_of_ble_eq_true rfl, Nat.le_of_ble_eq_true rfl⟩) (hP.sub [] rfl) hF hK (vk_recv (i := 0) hF.1 (by decide) va_S.rf) rfl hl.1 rfl (Nat.le_of_ble_eq_true rfl) dJ0_length_8abf5_6 ⟨Nat.zero_le _, Nat.zero_le _⟩ (fun r hr9 => ?_)
  subst hr9
  refine lv_ishr hx hb dJ0_length_8abf5_9 ?_
  exact W.iret (v := (nI 5) >>> (0 &&& 31)) hx hb hr (fun t ht hW => ⟨(nI 5) >>> (0 &&& 31), rfl, by decide +kernel, ht⟩) (fun q h => by cases h) dJ0_length_8abf5_10
def s_J1_canEncode_9a6ad (x1 : Int32) : Bool := if x1 < 0 then false else (if (nI 255) < x1 then false else (true))
set_option maxHeartbeats 4000000 in
set_option maxRecDepth 100000 in
theorem kJ1_canEncode_9a6ad (l : Launch) (dC : Nat → ClassId) (dI : Nat → Nat → Nat) (ca : Nat → ClassId) (x1 : Int32) : Met l yJ1_canEncode_9a6ad (Cond.code yJ1_canEncode_9a6ad cJ1_canEncode_9a6ad 1 (some .boolean) :: gT) (rk 1) (ROp (dC, dI) [] (TY ca) [Value.int x1]) (vp_Si (fun r => r = bI (s_J1_canEncode_9a6ad x1))) 0 0 (fun _ => False) := by
  refine Met.ofW (cc := cJ1_canEncode_9a6ad) (maxL := 1) (ret := (some .boolean)) (by decide) rfl ?_
  intro p e s m args below meth c s₁ B hml hv
  obtain ⟨rfl, hP, hK⟩ := hv
  have hx := B.exec
  have hb := B.bytes
  have hr := B.returns
  have hts := atoms_spec (ws := (Cond.code yJ1_canEncode_9a6ad cJ1_canEncode_9a6ad 1 (some .boolean) :: gT)) B.pre
  have htl : ∀ w ∈ gT, w.before _ s = true := fun w h => hts w (List.mem_cons_of_mem _ h)
  have hown : s.vm.findClass RJ1 = some m.cls := findClass_of_methodNamed B.named
  have hlocks := B.notSynchronized
  have hl := lv_entry ([Value.int x1]) (n := 1) (Nat.le_of_ble_eq_true rfl)
  rw [lg_entry_eq]
  generalize (lg_sl ([Value.int x1]) ++ List.replicate (1 - (lg_sl ([Value.int x1])).length) Slot.unset).toArray = ls at hl ⊢
  have hl : lv_has ls 1 [(0, .int x1)] := hl
  refine lv_iload_n hx hb dJ1_canEncode_9a6ad_0 rfl (lv_at hl 0 rfl) ?_
  refine lv_if_lt (tgt := 15) hx hb dJ1_canEncode_9a6ad_1 (by decide) (fun c_1 => ?_) (fun c_1 => ?_)
  · refine lv_iconst (v := nI 0) hx hb dJ1_canEncode_9a6ad_15 (by decide) ?_
    exact W.zret (v := nI 0) hx hb hr (by decide +kernel) (fun t ht hW => ⟨nI 0, rfl, by show _ = _; unfold s_J1_canEncode_9a6ad; (first | rw [if_pos c_1] | rw [if_neg c_1] | rw [if_neg (by rw [c_1]; decide)]); (first | done | rfl), ht⟩) (fun q h => by cases h) dJ1_canEncode_9a6ad_16
  · refine lv_iload_n hx hb dJ1_canEncode_9a6ad_4 rfl (lv_at hl 0 rfl) ?_
    refine lv_sipush (v := nI 255) hx hb dJ1_canEncode_9a6ad_5 (by decide) ?_
    refine lv_icmp_gt (tgt := 15) hx hb dJ1_canEncode_9a6ad_8 (by decide) (fun c_2 => ?_) (fun c_2 => ?_)
    · refine lv_iconst (v := nI 0) hx hb dJ1_canEncode_9a6ad_15 (by decide) ?_
      exact W.zret (v := nI 0) hx hb hr (by decide +kernel) (fun t ht hW => ⟨nI 0, rfl, by show _ = _; unfold s_J1_canEncode_9a6ad; (first | rw [if_pos c_1] | rw [if_neg c_1] | rw [if_neg (by rw [c_1]; decide)]); (first | rw [if_pos c_2] | rw [if_neg c_2] | rw [if_neg (by rw [c_2]; decide)]); (first | done | rfl), ht⟩) (fun q h => by cases h) dJ1_canEncode_9a6ad_16
    · refine lv_iconst (v := nI 1) hx hb dJ1_canEncode_9a6ad_11 (by decide) ?_
      refine lv_goto (tgt := 16) hx hb dJ1_canEncode_9a6ad_12 (by decide) ?_
      exact W.zret (v := nI 1) hx hb hr (by decide +kernel) (fun t ht hW => ⟨nI 1, rfl, by show _ = _; unfold s_J1_canEncode_9a6ad; (first | rw [if_pos c_1] | rw [if_neg c_1] | rw [if_neg (by rw [c_1]; decide)]); (first | rw [if_pos c_2] | rw [if_neg c_2] | rw [if_neg (by rw [c_2]; decide)]); (first | done | rfl), ht⟩) (fun q h => by cases h) dJ1_canEncode_9a6ad_16
theorem enc_s : ∀ x, x < 127 → s_J1_canEncode_9a6ad (nI x) = true := by decide +kernel
set_option maxHeartbeats 4000000 in
set_option maxRecDepth 100000 in
theorem kJ1_indexOfChar_4cfef (l : Launch) (dC : Nat → ClassId) (dI : Nat → Nat → Nat) (ca : Nat → ClassId) (k1 k2 : Nat → Nat) (ch : Nat) (hch : ch < 127) : Met l yJ1_indexOfChar_4cfef (Cond.code yJ1_indexOfChar_4cfef cJ1_indexOfChar_4cfef 6 (some .int) :: gT) (rk 1) (ROs (dC, dI) [] (TY ca) k1 k2 [Value.ref (k2 0), Value.int (nI ch), Value.int (nI 0), Value.int (nI 5)]) (vp_Si (fun r => r = kindI ch)) 0 0 (fun _ => False) := by
  refine Met.ofW (cc := cJ1_indexOfChar_4cfef) (maxL := 6) (ret := (some .int)) (by decide) rfl ?_
  intro p e s m args below meth c s₁ B hml hv
  obtain ⟨rfl, hP, hK, hF⟩ := hv
  have hx := B.exec
  have hb := B.bytes
  have hr := B.returns
  have hts := atoms_spec (ws := (Cond.code yJ1_indexOfChar_4cfef cJ1_indexOfChar_4cfef 6 (some .int) :: gT)) B.pre
  have htl : ∀ w ∈ gT, w.before _ s = true := fun w h => hts w (List.mem_cons_of_mem _ h)
  have hown : s.vm.findClass RJ1 = some m.cls := findClass_of_methodNamed B.named
  have hlocks := B.notSynchronized
  have hl := lv_entry ([Value.ref (k2 0), Value.int (nI ch), Value.int (nI 0), Value.int (nI 5)]) (n := 6) (Nat.le_of_ble_eq_true rfl)
  rw [lg_entry_eq]
  generalize (lg_sl ([Value.ref (k2 0), Value.int (nI ch), Value.int (nI 0), Value.int (nI 5)]) ++ List.replicate (6 - (lg_sl ([Value.ref (k2 0), Value.int (nI ch), Value.int (nI 0), Value.int (nI 5)])).length) Slot.unset).toArray = ls at hl ⊢
  have hl : lv_has ls 6 [(0, .ref (k2 0)), (1, .int (nI ch)), (2, .int (nI 0)), (3, .int (nI 5))] := hl
  refine lv_iload_n hx hb dJ1_indexOfChar_4cfef_0 rfl (lv_at hl 1 rfl) ?_
  refine lv_i2b (v := nI ch) hx hb dJ1_indexOfChar_4cfef_1 (i2b_s ch hch) ?_
  refine lv_istore (lv' := [(4, .int (nI ch)), (0, .ref (k2 0)), (1, .int (nI ch)), (2, .int (nI 0)), (3, .int (nI 5))]) hx hb dJ1_indexOfChar_4cfef_2 hl (by decide) rfl (fun ls hl => ?_)
  refine lv_iload_n hx hb dJ1_indexOfChar_4cfef_4 rfl (lv_at hl 3 rfl) ?_
  refine lv_istore (lv' := [(5, .int (nI 0)), (4, .int (nI ch)), (0, .ref (k2 0)), (1, .int (nI ch)), (2, .int (nI 0)), (3, .int (nI 5))]) hx hb dJ1_indexOfChar_4cfef_5 hl (by decide) rfl (fun ls hl => ?_)
  refine lv_iload hx hb dJ1_indexOfChar_4cfef_7 (lv_at hl 0 rfl) ?_
  refine lv_iload_n hx hb dJ1_indexOfChar_4cfef_9 rfl (lv_at hl 5 rfl) ?_
  refine lv_icmp_ge (tgt := 31) hx hb dJ1_indexOfChar_4cfef_10 (by decide) (fun c_1 => ?_) (fun c_1 => ?_)
  · exact absurd c_1 (by decide)
  · refine lv_aload_n hx hb dJ1_indexOfChar_4cfef_13 rfl (lv_at hl 2 rfl) ?_
    refine lv_iload hx hb dJ1_indexOfChar_4cfef_14 (lv_at hl 0 rfl) ?_
    refine va_tb (A := fun _ => False) (v := .int (nI 110)) hx hb (hF.1.1 0 (by decide)).2.2.2 va_S.rf (vp_in_nI (by decide) (by decide)) (by decide +kernel) dJ1_indexOfChar_4cfef_16 ?_
    refine lv_iload hx hb dJ1_indexOfChar_4cfef_17 (lv_at hl 1 rfl) ?_
    refine lv_icmp_ne (tgt := 25) hx hb dJ1_indexOfChar_4cfef_19 (by decide) (fun c_2 => ?_) (fun c_2 => ?_)
    · rw [nI_eq (by decide) (by omega)] at c_2
      refine lv_iinc (v := nI 1) (lv' := [(5, .int (nI 1)), (4, .int (nI ch)), (0, .ref (k2 0)), (1, .int (nI ch)), (2, .int (nI 0)), (3, .int (nI 5))]) hx hb dJ1_indexOfChar_4cfef_25 hl (k := 0) rfl (nI_add 0 1) (by decide) rfl (fun ls hl => ?_)
      refine lv_goto (tgt := 7) hx hb dJ1_indexOfChar_4cfef_28 (by decide) ?_
      refine lv_iload hx hb dJ1_indexOfChar_4cfef_7 (lv_at hl 0 rfl) ?_
      refine lv_iload_n hx hb dJ1_indexOfChar_4cfef_9 rfl (lv_at hl 5 rfl) ?_
      refine lv_icmp_ge (tgt := 31) hx hb dJ1_indexOfChar_4cfef_10 (by decide) (fun c_3 => ?_) (fun c_3 => ?_)
      · exact absurd c_3 (by decide)
      · refine lv_aload_n hx hb dJ1_indexOfChar_4cfef_13 rfl (lv_at hl 2 rfl) ?_
        refine lv_iload hx hb dJ1_indexOfChar_4cfef_14 (lv_at hl 0 rfl) ?_
        refine va_tb (A := fun _ => False) (v := .int (nI 115)) hx hb (hF.1.1 0 (by decide)).2.2.2 va_S.rf (vp_in_nI (by decide) (by decide)) (by decide +kernel) dJ1_indexOfChar_4cfef_16 ?_
        refine lv_iload hx hb dJ1_indexOfChar_4cfef_17 (lv_at hl 1 rfl) ?_
        refine lv_icmp_ne (tgt := 25) hx hb dJ1_indexOfChar_4cfef_19 (by decide) (fun c_4 => ?_) (fun c_4 => ?_)
        · rw [nI_eq (by decide) (by omega)] at c_4
          refine lv_iinc (v := nI 2) (lv' := [(5, .int (nI 2)), (4, .int (nI ch)), (0, .ref (k2 0)), (1, .int (nI ch)), (2, .int (nI 0)), (3, .int (nI 5))]) hx hb dJ1_indexOfChar_4cfef_25 hl (k := 0) rfl (nI_add 1 1) (by decide) rfl (fun ls hl => ?_)
          refine lv_goto (tgt := 7) hx hb dJ1_indexOfChar_4cfef_28 (by decide) ?_
          refine lv_iload hx hb dJ1_indexOfChar_4cfef_7 (lv_at hl 0 rfl) ?_
          refine lv_iload_n hx hb dJ1_indexOfChar_4cfef_9 rfl (lv_at hl 5 rfl) ?_
          refine lv_icmp_ge (tgt := 31) hx hb dJ1_indexOfChar_4cfef_10 (by decide) (fun c_5 => ?_) (fun c_5 => ?_)
          · exact absurd c_5 (by decide)
          · refine lv_aload_n hx hb dJ1_indexOfChar_4cfef_13 rfl (lv_at hl 2 rfl) ?_
            refine lv_iload hx hb dJ1_indexOfChar_4cfef_14 (lv_at hl 0 rfl) ?_
            refine va_tb (A := fun _ => False) (v := .int (nI 108)) hx hb (hF.1.1 0 (by decide)).2.2.2 va_S.rf (vp_in_nI (by decide) (by decide)) (by decide +kernel) dJ1_indexOfChar_4cfef_16 ?_
            refine lv_iload hx hb dJ1_indexOfChar_4cfef_17 (lv_at hl 1 rfl) ?_
            refine lv_icmp_ne (tgt := 25) hx hb dJ1_indexOfChar_4cfef_19 (by decide) (fun c_6 => ?_) (fun c_6 => ?_)
            · rw [nI_eq (by decide) (by omega)] at c_6
              refine lv_iinc (v := nI 3) (lv' := [(5, .int (nI 3)), (4, .int (nI ch)), (0, .ref (k2 0)), (1, .int (nI ch)), (2, .int (nI 0)), (3, .int (nI 5))]) hx hb dJ1_indexOfChar_4cfef_25 hl (k := 0) rfl (nI_add 2 1) (by decide) rfl (fun ls hl => ?_)
              refine lv_goto (tgt := 7) hx hb dJ1_indexOfChar_4cfef_28 (by decide) ?_
              refine lv_iload hx hb dJ1_indexOfChar_4cfef_7 (lv_at hl 0 rfl) ?_
              refine lv_iload_n hx hb dJ1_indexOfChar_4cfef_9 rfl (lv_at hl 5 rfl) ?_
              refine lv_icmp_ge (tgt := 31) hx hb dJ1_indexOfChar_4cfef_10 (by decide) (fun c_7 => ?_) (fun c_7 => ?_)
              · exact absurd c_7 (by decide)
              · refine lv_aload_n hx hb dJ1_indexOfChar_4cfef_13 rfl (lv_at hl 2 rfl) ?_
                refine lv_iload hx hb dJ1_indexOfChar_4cfef_14 (lv_at hl 0 rfl) ?_
                refine va_tb (A := fun _ => False) (v := .int (nI 116)) hx hb (hF.1.1 0 (by decide)).2.2.2 va_S.rf (vp_in_nI (by decide) (by decide)) (by decide +kernel) dJ1_indexOfChar_4cfef_16 ?_
                refine lv_iload hx hb dJ1_indexOfChar_4cfef_17 (lv_at hl 1 rfl) ?_
                refine lv_icmp_ne (tgt := 25) hx hb dJ1_indexOfChar_4cfef_19 (by decide) (fun c_8 => ?_) (fun c_8 => ?_)
                · rw [nI_eq (by decide) (by omega)] at c_8
                  refine lv_iinc (v := nI 4) (lv' := [(5, .int (nI 4)), (4, .int (nI ch)), (0, .ref (k2 0)), (1, .int (nI ch)), (2, .int (nI 0)), (3, .int (nI 5))]) hx hb dJ1_indexOfChar_4cfef_25 hl (k := 0) rfl (nI_add 3 1) (by decide) rfl (fun ls hl => ?_)
                  refine lv_goto (tgt := 7) hx hb dJ1_indexOfChar_4cfef_28 (by decide) ?_
                  refine lv_iload hx hb dJ1_indexOfChar_4cfef_7 (lv_at hl 0 rfl) ?_
                  refine lv_iload_n hx hb dJ1_indexOfChar_4cfef_9 rfl (lv_at hl 5 rfl) ?_
                  refine lv_icmp_ge (tgt := 31) hx hb dJ1_indexOfChar_4cfef_10 (by decide) (fun c_9 => ?_) (fun c_9 => ?_)
                  · exact absurd c_9 (by decide)
                  · refine lv_aload_n hx hb dJ1_indexOfChar_4cfef_13 rfl (lv_at hl 2 rfl) ?_
                    refine lv_iload hx hb dJ1_indexOfChar_4cfef_14 (lv_at hl 0 rfl) ?_
                    refine va_tb (A := fun _ => False) (v := .int (nI 111)) hx hb (hF.1.1 0 (by decide)).2.2.2 va_S.rf (vp_in_nI (by decide) (by decide)) (by decide +kernel) dJ1_indexOfChar_4cfef_16 ?_
                    refine lv_iload hx hb dJ1_indexOfChar_4cfef_17 (lv_at hl 1 rfl) ?_
                    refine lv_icmp_ne (tgt := 25) hx hb dJ1_indexOfChar_4cfef_19 (by decide) (fun c_10 => ?_) (fun c_10 => ?_)
                    · rw [nI_eq (by decide) (by omega)] at c_10
                      refine lv_iinc (v := nI 5) (lv' := [(5, .int (nI 5)), (4, .int (nI ch)), (0, .ref (k2 0)), (1, .int (nI ch)), (2, .int (nI 0)), (3, .int (nI 5))]) hx hb dJ1_indexOfChar_4cfef_25 hl (k := 0) rfl (nI_add 4 1) (by decide) rfl (fun ls hl => ?_)
                      refine lv_goto (tgt := 7) hx hb dJ1_indexOfChar_4cfef_28 (by decide) ?_
                      refine lv_iload hx hb dJ1_indexOfChar_4cfef_7 (lv_at hl 0 rfl) ?_
                      refine lv_iload_n hx hb dJ1_indexOfChar_4cfef_9 rfl (lv_at hl 5 rfl) ?_
                      refine lv_icmp_ge (tgt := 31) hx hb dJ1_indexOfChar_4cfef_10 (by decide) (fun c_11 => ?_) (fun c_11 => ?_)
                      · refine lv_iconst (v := (-1)) hx hb dJ1_indexOfChar_4cfef_31 (by decide) ?_
                        exact W.iret (v := (-1)) hx hb hr (fun t ht hW => ⟨(-1), rfl, by show _ = _; unfold kindI; rw [if_neg c_2, if_neg c_4, if_neg c_6, if_neg c_8, if_neg c_10], ht⟩) (fun q h => by cases h) dJ1_indexOfChar_4cfef_32
                      · exact absurd c_11 (by decide)
                    · rw [nI_eq (by decide) (by omega)] at c_10
                      refine lv_iload hx hb dJ1_indexOfChar_4cfef_22 (lv_at hl 0 rfl) ?_
                      exact W.iret (v := nI 4) hx hb hr (fun t ht hW => ⟨nI 4, rfl, by show _ = _; unfold kindI; rw [if_neg c_2, if_neg c_4, if_neg c_6, if_neg c_8, if_pos c_10], ht⟩) (fun q h => by cases h) dJ1_indexOfChar_4cfef_24
                · rw [nI_eq (by decide) (by omega)] at c_8
                  refine lv_iload hx hb dJ1_indexOfChar_4cfef_22 (lv_at hl 0 rfl) ?_
                  exact W.iret (v := nI 3) hx hb hr (fun t ht hW => ⟨nI 3, rfl, by show _ = _; unfold kindI; rw [if_neg c_2, if_neg c_4, if_neg c_6, if_pos c_8], ht⟩) (fun q h => by cases h) dJ1_indexOfChar_4cfef_24
            · rw [nI_eq (by decide) (by omega)] at c_6
              refine lv_iload hx hb dJ1_indexOfChar_4cfef_22 (lv_at hl 0 rfl) ?_
              exact W.iret (v := nI 2) hx hb hr (fun t ht hW => ⟨nI 2, rfl, by show _ = _; unfold kindI; rw [if_neg c_2, if_neg c_4, if_pos c_6], ht⟩) (fun q h => by cases h) dJ1_indexOfChar_4cfef_24
        · rw [nI_eq (by decide) (by omega)] at c_4
          refine lv_iload hx hb dJ1_indexOfChar_4cfef_22 (lv_at hl 0 rfl) ?_
          exact W.iret (v := nI 1) hx hb hr (fun t ht hW => ⟨nI 1, rfl, by show _ = _; unfold kindI; rw [if_neg c_2, if_pos c_4], ht⟩) (fun q h => by cases h) dJ1_indexOfChar_4cfef_24
    · rw [nI_eq (by decide) (by omega)] at c_2
      refine lv_iload hx hb dJ1_indexOfChar_4cfef_22 (lv_at hl 0 rfl) ?_
      exact W.iret (v := nI 0) hx hb hr (fun t ht hW => ⟨nI 0, rfl, by show _ = _; unfold kindI; rw [if_pos c_2], ht⟩) (fun q h => by cases h) dJ1_indexOfChar_4cfef_24
set_option maxHeartbeats 4000000 in
set_option maxRecDepth 100000 in
theorem kJ1_indexOf_4cfef (l : Launch) (dC : Nat → ClassId) (dI : Nat → Nat → Nat) (ca : Nat → ClassId) (k1 k2 : Nat → Nat) (ch : Nat) (hch : ch < 127) : Met l yJ1_indexOf_4cfef (Cond.code yJ1_indexOf_4cfef cJ1_indexOf_4cfef 4 (some .int) :: gT) (rk 2) (ROs (dC, dI) [] (TY ca) k1 k2 [Value.ref (k2 0), Value.int (nI ch), Value.int (nI 0), Value.int (nI 5)]) (vp_Si (fun r => r = kindI ch)) 0 0 (fun _ => False) := by
  refine Met.ofW (cc := cJ1_indexOf_4cfef) (maxL := 4) (ret := (some .int)) (by decide) rfl ?_
  intro p e s m args below meth c s₁ B hml hv
  obtain ⟨rfl, hP, hK, hF⟩ := hv
  have hx := B.exec
  have hb := B.bytes
  have hr := B.returns
  have hts := atoms_spec (ws := (Cond.code yJ1_indexOf_4cfef cJ1_indexOf_4cfef 4 (some .int) :: gT)) B.pre
  have htl : ∀ w ∈ gT, w.before _ s = true := fun w h => hts w (List.mem_cons_of_mem _ h)
  have hown : s.vm.findClass RJ1 = some m.cls := findClass_of_methodNamed B.named
  have hlocks := B.notSynchronized
  have hl := lv_entry ([Value.ref (k2 0), Value.int (nI ch), Value.int (nI 0), Value.int (nI 5)]) (n := 4) (Nat.le_of_ble_eq_true rfl)
  rw [lg_entry_eq]
  generalize (lg_sl ([Value.ref (k2 0), Value.int (nI ch), Value.int (nI 0), Value.int (nI 5)]) ++ List.replicate (4 - (lg_sl ([Value.ref (k2 0), Value.int (nI ch), Value.int (nI 0), Value.int (nI 5)])).length) Slot.unset).toArray = ls at hl ⊢
  have hl : lv_has ls 4 [(0, .ref (k2 0)), (1, .int (nI ch)), (2, .int (nI 0)), (3, .int (nI 5))] := hl
  refine lv_iload_n hx hb dJ1_indexOf_4cfef_0 rfl (lv_at hl 1 rfl) ?_
  refine roS (As := [Value.int (nI ch)]) (rest := []) (kJ1_canEncode_9a6ad l dC dI ca (nI ch) ) ⟨hx, hb, hml, hown, htl⟩ (cSg 1 htl wd_203 wd_204 wd_8 wd_205 rfl rfl (by decide +kernel) ⟨Nat.le_of_ble_eq_true rfl, Nat.le_of_ble_eq_true rfl⟩) (hP.sub [] rfl) hK rfl hl.1 rfl (Nat.le_of_ble_eq_true rfl) dJ1_indexOf_4cfef_1 ⟨Nat.zero_le _, Nat.zero_le _⟩ (fun r hr9 => ?_)
  subst hr9
  refine lv_if_ne (tgt := 9) hx hb dJ1_indexOf_4cfef_4 (by decide) (fun c_1 => ?_) (fun c_1 => ?_)
  · replace c_1 := bI_t c_1
    refine lv_iload_n hx hb dJ1_indexOf_4cfef_9 rfl (lv_at hl 2 rfl) ?_
    refine lv_iconst (v := nI 0) hx hb dJ1_indexOf_4cfef_10 (by decide) ?_
    refine va_mmax hx hb (by rw [hml]; exact hl.1.symm) hown (htl _ wd_206) (htl _ wd_207) (htl _ wd_9) (htl _ wd_208) (Nat.le_of_ble_eq_true rfl) (Nat.le_of_ble_eq_true rfl) (Nat.zero_le _) (Nat.zero_le _) dJ1_indexOf_4cfef_11 ?_
    refine lv_ri (y := nI 0) (by decide) ?_
    refine lv_istore_n (lv' := [(2, .int (nI 0)), (0, .ref (k2 0)), (1, .int (nI ch)), (3, .int (nI 5))]) hx hb dJ1_indexOf_4cfef_14 rfl hl (by decide) rfl (fun ls hl => ?_)
    refine lv_iload_n hx hb dJ1_indexOf_4cfef_15 rfl (lv_at hl 3 rfl) ?_
    refine lv_aload_n hx hb dJ1_indexOf_4cfef_16 rfl (lv_at hl 1 rfl) ?_
    refine va_tlen (A := fun _ => False) (v := nI 5) hx hb (hF.1.1 0 (by decide)).2.2.2 va_S.rf (by decide) dJ1_indexOf_4cfef_17 ?_
    refine va_mmin hx hb (by rw [hml]; exact hl.1.symm) hown (htl _ wd_209) (htl _ wd_210) (htl _ wd_9) (htl _ wd_211) (Nat.le_of_ble_eq_true rfl) (Nat.le_of_ble_eq_true rfl) (Nat.zero_le _) (Nat.zero_le _) dJ1_indexOf_4cfef_18 ?_
    refine lv_ri (y := nI 5) (by decide) ?_
    refine lv_istore_n (lv' := [(3, .int (nI 5)), (2, .int (nI 0)), (0, .ref (k2 0)), (1, .int (nI ch))]) hx hb dJ1_indexOf_4cfef_21 rfl hl (by decide) rfl (fun ls hl => ?_)
    refine lv_iload_n hx hb dJ1_indexOf_4cfef_22 rfl (lv_at hl 1 rfl) ?_
    refine lv_iload_n hx hb dJ1_indexOf_4cfef_23 rfl (lv_at hl 0 rfl) ?_
    refine lv_icmp_lt (tgt := 29) hx hb dJ1_indexOf_4cfef_24 (by decide) (fun c_2 => ?_) (fun c_2 => ?_)
    · refine lv_aload_n hx hb dJ1_indexOf_4cfef_29 rfl (lv_at hl 2 rfl) ?_
      refine lv_iload_n hx hb dJ1_indexOf_4cfef_30 rfl (lv_at hl 3 rfl) ?_
      refine lv_iload_n hx hb dJ1_indexOf_4cfef_31 rfl (lv_at hl 1 rfl) ?_
      refine lv_iload_n hx hb dJ1_indexOf_4cfef_32 rfl (lv_at hl 0 rfl) ?_
      refine roSs (As := [Value.ref (k2 0), Value.int (nI ch), Value.int (nI 0), Value.int (nI 5)]) (rest := []) (kJ1_indexOfChar_4cfef l dC dI ca k1 k2 ch (by first | assumption | omega)) ⟨hx, hb, hml, hown, htl⟩ (cSg 4 htl wd_212 wd_213 wd_8 wd_214 rfl rfl (by decide +kernel) ⟨Nat.le_of_ble_eq_true rfl, Nat.le_of_ble_eq_true rfl⟩) (hP.sub [] rfl) hF hK rfl hl.1 rfl (Nat.le_of_ble_eq_true rfl) dJ1_indexOf_4cfef_33 ⟨Nat.zero_le _, Nat.zero_le _⟩ (fun r hr9 => ?_)
      subst hr9
      exact W.iret (v := kindI ch) hx hb hr (fun t ht hW => ⟨kindI ch, rfl, rfl, ht⟩) (fun q h => by cases h) dJ1_indexOf_4cfef_36
    · exact absurd c_2 (by decide)
  · exact absurd (enc_s ch hch) (by rw [bI_f c_1]; decide)
set_option maxHeartbeats 4000000 in
set_option maxRecDepth 100000 in
theorem kJ0_indexOf_7cf53 (l : Launch) (dC : Nat → ClassId) (dI : Nat → Nat → Nat) (ca : Nat → ClassId) (k1 k2 : Nat → Nat) (ch : Nat) (hch : ch < 127) : Met l yJ0_indexOf_7cf53 (Cond.code yJ0_indexOf_7cf53 cJ0_indexOf_7cf53 3 (some .int) :: gT) (rk 3) (ROs (dC, dI) [] (TY ca) k1 k2 [Value.ref (k1 0), Value.int (nI ch), Value.int (nI 0)]) (vp_Si (fun r => r = kindI ch)) 0 0 (fun _ => False) := by
  refine Met.ofW (cc := cJ0_indexOf_7cf53) (maxL := 3) (ret := (some .int)) (by decide) rfl ?_
  intro p e s m args below meth c s₁ B hml hv
  obtain ⟨rfl, hP, hK, hF⟩ := hv
  have hx := B.exec
  have hb := B.bytes
  have hr := B.returns
  have hts := atoms_spec (ws := (Cond.code yJ0_indexOf_7cf53 cJ0_indexOf_7cf53 3 (some .int) :: gT)) B.pre
  have htl : ∀ w ∈ gT, w.before _ s = true := fun w h => hts w (List.mem_cons_of_mem _ h)
  have hown : s.vm.findClass RJ0 = some m.cls := findClass_of_methodNamed B.named
  have hlocks := B.notSynchronized
  have hl := lv_entry ([Value.ref (k1 0), Value.int (nI ch), Value.int (nI 0)]) (n := 3) (Nat.le_of_ble_eq_true rfl)
  rw [lg_entry_eq]
  generalize (lg_sl ([Value.ref (k1 0), Value.int (nI ch), Value.int (nI 0)]) ++ List.replicate (3 - (lg_sl ([Value.ref (k1 0), Value.int (nI ch), Value.int (nI 0)])).length) Slot.unset).toArray = ls at hl ⊢
  have hl : lv_has ls 3 [(0, .ref (k1 0)), (1, .int (nI ch)), (2, .int (nI 0))] := hl
  refine lv_aload_n hx hb dJ0_indexOf_7cf53_0 rfl (lv_at hl 0 rfl) ?_
  refine roVs (As := []) (rest := []) (kJ0_isLatin1_aae02 l dC dI ca k1 k2  ) ⟨hx, hb, hml, hown, htl⟩ (cVg (C := RJ0) 0 htl wd_186 wd_187 wd_188 wd_7 wd_189 rfl rfl (by decide +kernel) ⟨Nat.le_of_ble_eq_true rfl, Nat.le_of_ble_eq_true rfl⟩) (hP.sub [] rfl) hF hK (vk_recv (i := 0) hF.1 (by decide) va_S.rf) rfl hl.1 rfl (Nat.le_of_ble_eq_true rfl) dJ0_indexOf_7cf53_1 ⟨Nat.zero_le _, Nat.zero_le _⟩ (fun r hr9 => ?_)
  subst hr9
  refine lv_if_eq (tgt := 23) hx hb dJ0_indexOf_7cf53_4 (by decide) (fun c_1 => ?_) (fun c_1 => ?_)
  · exact absurd c_1 (by decide)
  · refine lv_aload_n hx hb dJ0_indexOf_7cf53_7 rfl (lv_at hl 0 rfl) ?_
    refine vk_getf (A := fun _ => False) hx hb (hF.1.1 0 (by decide)).2.2.1 va_S.rf hown (htl _ wd_840) (fun _ h9 => h9) dJ0_indexOf_7cf53_8 ?_
    refine lv_iload_n hx hb dJ0_indexOf_7cf53_11 rfl (lv_at hl 1 rfl) ?_
    refine lv_iload_n hx hb dJ0_indexOf_7cf53_12 rfl (lv_at hl 2 rfl) ?_
    refine lv_aload_n hx hb dJ0_indexOf_7cf53_13 rfl (lv_at hl 0 rfl) ?_
    refine roVs (As := []) (rest := [.int (nI 0), .int (nI ch), .ref (k2 0)]) (kJ0_length_8abf5 l dC dI ca k1 k2  ) ⟨hx, hb, hml, hown, htl⟩ (cVg (C := RJ0) 0 htl wd_192 wd_193 wd_194 wd_7 wd_195 rfl rfl (by decide +kernel) ⟨Nat.le_of_ble_eq_true rfl, Nat.le_of_ble_eq_true rfl⟩) (hP.sub [] rfl) hF hK (vk_recv (i := 0) hF.1 (by decide) va_S.rf) rfl hl.1 rfl (Nat.le_of_ble_eq_true rfl) dJ0_indexOf_7cf53_14 ⟨Nat.zero_le _, Nat.zero_le _⟩ (fun r hr9 => ?_)
    subst hr9
    refine roSs (As := [Value.ref (k2 0), Value.int (nI ch), Value.int (nI 0), Value.int (nI 5)]) (rest := []) (kJ1_indexOf_4cfef l dC dI ca k1 k2 ch (by first | assumption | omega)) ⟨hx, hb, hml, hown, htl⟩ (cSg 4 htl wd_200 wd_201 wd_8 wd_202 rfl rfl (by decide +kernel) ⟨Nat.le_of_ble_eq_true rfl, Nat.le_of_ble_eq_true rfl⟩) (hP.sub [] rfl) hF hK rfl hl.1 rfl (Nat.le_of_ble_eq_true rfl) dJ0_indexOf_7cf53_17 ⟨Nat.zero_le _, Nat.zero_le _⟩ (fun r hr9 => ?_)
    subst hr9
    refine lv_goto (tgt := 36) hx hb dJ0_indexOf_7cf53_20 (by decide) ?_
    exact W.iret (v := kindI ch) hx hb hr (fun t ht hW => ⟨kindI ch, rfl, rfl, ht⟩) (fun q h => by cases h) dJ0_indexOf_7cf53_36
set_option maxHeartbeats 4000000 in
set_option maxRecDepth 100000 in
theorem kJ0_indexOf_0f7a4 (l : Launch) (dC : Nat → ClassId) (dI : Nat → Nat → Nat) (ca : Nat → ClassId) (k1 k2 : Nat → Nat) (ch : Nat) (hch : ch < 127) : Met l yJ0_indexOf_0f7a4 (Cond.code yJ0_indexOf_0f7a4 cJ0_indexOf_0f7a4 2 (some .int) :: gT) (rk 4) (ROs (dC, dI) [] (TY ca) k1 k2 [Value.ref (k1 0), Value.int (nI ch)]) (vp_Si (fun r => r = kindI ch)) 0 0 (fun _ => False) := by
  refine Met.ofW (cc := cJ0_indexOf_0f7a4) (maxL := 2) (ret := (some .int)) (by decide) rfl ?_
  intro p e s m args below meth c s₁ B hml hv
  obtain ⟨rfl, hP, hK, hF⟩ := hv
  have hx := B.exec
  have hb := B.bytes
  have hr := B.returns
  have hts := atoms_spec (ws := (Cond.code yJ0_indexOf_0f7a4 cJ0_indexOf_0f7a4 2 (some .int) :: gT)) B.pre
  have htl : ∀ w ∈ gT, w.before _ s = true := fun w h => hts w (List.mem_cons_of_mem _ h)
  have hown : s.vm.findClass RJ0 = some m.cls := findClass_of_methodNamed B.named
  have hlocks := B.notSynchronized
  have hl := lv_entry ([Value.ref (k1 0), Value.int (nI ch)]) (n := 2) (Nat.le_of_ble_eq_true rfl)
  rw [lg_entry_eq]
  generalize (lg_sl ([Value.ref (k1 0), Value.int (nI ch)]) ++ List.replicate (2 - (lg_sl ([Value.ref (k1 0), Value.int (nI ch)])).length) Slot.unset).toArray = ls at hl ⊢
  have hl : lv_has ls 2 [(0, .ref (k1 0)), (1, .int (nI ch))] := hl
  refine lv_aload_n hx hb dJ0_indexOf_0f7a4_0 rfl (lv_at hl 0 rfl) ?_
  refine lv_iload_n hx hb dJ0_indexOf_0f7a4_1 rfl (lv_at hl 1 rfl) ?_
  refine lv_iconst (v := nI 0) hx hb dJ0_indexOf_0f7a4_2 (by decide) ?_
  refine roVs (As := [Value.int (nI ch), Value.int (nI 0)]) (rest := []) (kJ0_indexOf_7cf53 l dC dI ca k1 k2 ch (by first | assumption | omega)) ⟨hx, hb, hml, hown, htl⟩ (cVg (C := RJ0) 2 htl wd_182 wd_183 wd_184 wd_7 wd_185 rfl rfl (by decide +kernel) ⟨Nat.le_of_ble_eq_true rfl, Nat.le_of_ble_eq_true rfl⟩) (hP.sub [] rfl) hF hK (vk_recv (i := 0) hF.1 (by decide) va_S.rf) rfl hl.1 rfl (Nat.le_of_ble_eq_true rfl) dJ0_indexOf_0f7a4_3 ⟨Nat.zero_le _, Nat.zero_le _⟩ (fun r hr9 => ?_)
  subst hr9
  exact W.iret (v := kindI ch) hx hb hr (fun t ht hW => ⟨kindI ch, rfl, rfl, ht⟩) (fun q h => by cases h) dJ0_indexOf_0f7a4_6
set_option maxHeartbeats 4000000 in
set_option maxRecDepth 100000 in
theorem kX2_kindAt (l : Launch) (dC : Nat → ClassId) (dI : Nat → Nat → Nat) (ca : Nat → ClassId) (k1 k2 : Nat → Nat) (a : Nat) (q : Nat → Nat) (ps : Nat) (pl : Nat → Nat) (ha : a < 28) (hpl : ∀ j, j < 28 → pl j < 127) : Met l yX2_kindAt (Cond.code yX2_kindAt cX2_kindAt 2 (some .int) :: gT) (rk 5) (ROs (dC, dI) [(q 1, .inr (2, [.ref (q 2), .int (nI ps)])), (q 2, .inl (ca 0, 28, .inl (fun zj => nI (pl zj))))] (TY ca) k1 k2 [Value.ref (q 1), Value.int (nI a)]) (vp_Si (fun r => r = kindI (pl a))) 0 0 (fun _ => False) := by
  refine Met.ofW (cc := cX2_kindAt) (maxL := 2) (ret := (some .int)) (by decide) rfl ?_
  intro p e s m args below meth c s₁ B hml hv
  obtain ⟨rfl, hP, hK, hF⟩ := hv
  have hx := B.exec
  have hb := B.bytes
  have hr := B.returns
  have hts := atoms_spec (ws := (Cond.code yX2_kindAt cX2_kindAt 2 (some .int) :: gT)) B.pre
  have htl : ∀ w ∈ gT, w.before _ s = true := fun w h => hts w (List.mem_cons_of_mem _ h)
  have hown : s.vm.findClass RX2 = some m.cls := findClass_of_methodNamed B.named
  have hlocks := B.notSynchronized
  have hl := lv_entry ([Value.ref (q 1), Value.int (nI a)]) (n := 2) (Nat.le_of_ble_eq_true rfl)
  rw [lg_entry_eq]
  generalize (lg_sl ([Value.ref (q 1), Value.int (nI a)]) ++ List.replicate (2 - (lg_sl ([Value.ref (q 1), Value.int (nI a)])).length) Slot.unset).toArray = ls at hl ⊢
  have hl : lv_has ls 2 [(0, .ref (q 1)), (1, .int (nI a))] := hl
  refine va_ldcS hx hb hown hF.2.1 dX2_kindAt_0 ?_
  refine lv_aload_n hx hb dX2_kindAt_2 rfl (lv_at hl 0 rfl) ?_
  refine va_get (D := (dC, dI)) (ci := 2) (v := .ref (q 2)) (C := RX2) (T := TX2) (N := 2) hx hb htl iX2 hown hK hP 0 rfl rfl 0 (by decide) (htl _ wd_34) (fun _ h9 => h9) rfl dX2_kindAt_3 ?_
  refine lv_iload_n hx hb dX2_kindAt_6 rfl (lv_at hl 1 rfl) ?_
  refine va_cald hx hb hK hP 1 0 rfl rfl (vp_in_nI (by omega) (by decide)) dX2_kindAt_7 ?_
  refine lv_ri (y := nI (pl a)) (congrArg (fun zj => nI (pl zj)) (nI_clamp (by omega))) ?_
  refine roVs (As := [Value.int (nI (pl a))]) (rest := []) (kJ0_indexOf_0f7a4 l dC dI ca k1 k2 (pl a) (hpl a ha)) ⟨hx, hb, hml, hown, htl⟩ (cVg (C := RJ0) 1 htl wd_178 wd_179 wd_180 wd_7 wd_181 rfl rfl (by decide +kernel) ⟨Nat.le_of_ble_eq_true rfl, Nat.le_of_ble_eq_true rfl⟩) (hP.sub [] rfl) hF hK (vk_recv (i := 0) hF.1 (by decide) va_S.rf) rfl hl.1 rfl (Nat.le_of_ble_eq_true rfl) dX2_kindAt_8 ⟨Nat.zero_le _, Nat.zero_le _⟩ (fun r hr9 => ?_)
  subst hr9
  exact W.iret (v := kindI (pl a)) hx hb hr (fun t ht hW => ⟨kindI (pl a), rfl, rfl, ht⟩) (fun q h => by cases h) dX2_kindAt_11
set_option maxHeartbeats 4000000 in
set_option maxRecDepth 100000 in
theorem kX2_headEnd (l : Launch) (dC : Nat → ClassId) (dI : Nat → Nat → Nat) (ca : Nat → ClassId) (q : Nat → Nat) (ps : Nat) (pl : Nat → Nat) (hps : ps ≤ 28) (hpl : ∀ j, j < 28 → pl j < 127) : Met l yX2_headEnd (Cond.code yX2_headEnd cX2_headEnd 2 (some .int) :: gT) (rk 1) (ROp (dC, dI) [(q 1, .inr (2, [.ref (q 2), .int (nI ps)])), (q 2, .inl (ca 0, 28, .inl (fun zj => nI (pl zj))))] (TY ca) [Value.ref (q 1)]) (vp_Si (fun r => r = nI (hE pl ps))) 0 0 (fun _ => False) := by
  refine Met.ofW (cc := cX2_headEnd) (maxL := 2) (ret := (some .int)) (by decide) rfl ?_
  intro p e s m args below meth c s₁ B hml hv
  obtain ⟨rfl, hP, hK⟩ := hv
  have hx := B.exec
  have hb := B.bytes
  have hr := B.returns
  have hts := atoms_spec (ws := (Cond.code yX2_headEnd cX2_headEnd 2 (some .int) :: gT)) B.pre
  have htl : ∀ w ∈ gT, w.before _ s = true := fun w h => hts w (List.mem_cons_of_mem _ h)
  have hown : s.vm.findClass RX2 = some m.cls := findClass_of_methodNamed B.named
  have hlocks := B.notSynchronized
  have hl := lv_entry ([Value.ref (q 1)]) (n := 2) (Nat.le_of_ble_eq_true rfl)
  rw [lg_entry_eq]
  generalize (lg_sl ([Value.ref (q 1)]) ++ List.replicate (2 - (lg_sl ([Value.ref (q 1)])).length) Slot.unset).toArray = ls at hl ⊢
  have hl : lv_has ls 2 [(0, .ref (q 1))] := hl
  refine lv_iconst (v := nI 0) hx hb dX2_headEnd_0 (by decide) ?_
  refine lv_istore_n (lv' := [(1, .int (nI 0)), (0, .ref (q 1))]) hx hb dX2_headEnd_1 rfl hl (by decide) rfl (fun ls hl => ?_)
  have lp2 : ∀ (n : Nat) (j : Nat), (j + n = ps) → (fstL (fun j => decide (pl j = 59)) n j = fstL (fun j => decide (pl j = 59)) ps 0) → ∀ (ls : Array Slot), lv_has ls 2 [(1, .int (nI j)), (0, .ref (q 1))] → W p l e (headSpec (Cond.code yX2_headEnd cX2_headEnd 2 (some .int) :: gT) (rk 1)).room s m ([Value.ref (q 1)] : List Value).toArray below meth c s.heap [] 0 0 (MQ below (vp_Si (fun r => r = nI (hE pl ps))) ([Value.ref (q 1)] : List Value).toArray s 0 0 (fun _ => False)) (F0 m 2 ls []) := by
    clear hl
    intro n
    induction n with
    | zero =>
      intro j hj hR ls hl
      refine lv_iload_n hx hb dX2_headEnd_2 rfl (lv_at hl 0 rfl) ?_
      refine lv_aload_n hx hb dX2_headEnd_3 rfl (lv_at hl 1 rfl) ?_
      refine va_get (D := (dC, dI)) (ci := 2) (v := .int (nI ps)) (C := RX2) (T := TX2) (N := 2) hx hb htl iX2 hown hK hP 0 rfl rfl 1 (by decide) (htl _ wd_36) (fun _ h9 => h9) rfl dX2_headEnd_4 ?_
      refine lv_icmp_ge (tgt := 29) hx hb dX2_headEnd_7 (by decide) (fun c_1 => ?_) (fun c_1 => ?_)
      · refine lv_aload_n hx hb dX2_headEnd_29 rfl (lv_at hl 1 rfl) ?_
        refine va_get (D := (dC, dI)) (ci := 2) (v := .int (nI ps)) (C := RX2) (T := TX2) (N := 2) hx hb htl iX2 hown hK hP 0 rfl rfl 1 (by decide) (htl _ wd_36) (fun _ h9 => h9) rfl dX2_headEnd_30 ?_
        exact W.iret (v := nI ps) hx hb hr (fun t ht hW => ⟨nI ps, rfl, by show _ = _; unfold hE; rw [← hR]; show nI ps = nI j; rw [show ps = j by omega], ht⟩) (fun q h => by cases h) dX2_headEnd_33
      · exact absurd (nI_le (by omega) (by omega)) c_1
    | succ n ih2 =>
      intro j hj hR ls hl
      refine lv_iload_n hx hb dX2_headEnd_2 rfl (lv_at hl 0 rfl) ?_
      refine lv_aload_n hx hb dX2_headEnd_3 rfl (lv_at hl 1 rfl) ?_
      refine va_get (D := (dC, dI)) (ci := 2) (v := .int (nI ps)) (C := RX2) (T := TX2) (N := 2) hx hb htl iX2 hown hK hP 0 rfl rfl 1 (by decide) (htl _ wd_36) (fun _ h9 => h9) rfl dX2_headEnd_4 ?_
      refine lv_icmp_ge (tgt := 29) hx hb dX2_headEnd_7 (by decide) (fun c_2 => ?_) (fun c_2 => ?_)
      · exact absurd c_2 (nI_ge (by omega) (by omega))
      · refine lv_aload_n hx hb dX2_headEnd_10 rfl (lv_at hl 1 rfl) ?_
        refine va_get (D := (dC, dI)) (ci := 2) (v := .ref (q 2)) (C := RX2) (T := TX2) (N := 2) hx hb htl iX2 hown hK hP 0 rfl rfl 0 (by decide) (htl _ wd_34) (fun _ h9 => h9) rfl dX2_headEnd_11 ?_
        refine lv_iload_n hx hb dX2_headEnd_14 rfl (lv_at hl 0 rfl) ?_
        refine va_cald hx hb hK hP 1 0 rfl rfl (vp_in_nI (by omega) (by decide)) dX2_headEnd_15 ?_
        refine lv_ri (y := nI (pl j)) (congrArg (fun zj => nI (pl zj)) (nI_clamp (by omega))) ?_
        refine lv_bipush (v := nI 59) hx hb dX2_headEnd_16 (by decide) ?_
        refine lv_icmp_ne (tgt := 23) hx hb dX2_headEnd_18 (by decide) (fun c_3 => ?_) (fun c_3 => ?_)
        · rw [nI_eq (Nat.lt_trans (hpl j (by omega)) (by decide)) (by decide)] at c_3
          refine lv_iinc (v := nI (j + 1)) (lv' := [(1, .int (nI (j + 1))), (0, .ref (q 1))]) hx hb dX2_headEnd_23 hl (k := 0) rfl (nI_add j 1) (by decide) rfl (fun ls hl => ?_)
          refine lv_goto (tgt := 2) hx hb dX2_headEnd_26 (by decide) ?_
          exact ih2 (j + 1) (by omega) (by rw [← hR]; simp only [fstL, c_3, decide_false, ↓reduceIte, Bool.false_eq_true]) ls (lv_sub hl [0, 1] rfl)
        · rw [nI_eq (Nat.lt_trans (hpl j (by omega)) (by decide)) (by decide)] at c_3
          refine lv_iload_n hx hb dX2_headEnd_21 rfl (lv_at hl 0 rfl) ?_
          exact W.iret (v := nI j) hx hb hr (fun t ht hW => ⟨nI j, rfl, by show _ = _; unfold hE; rw [← hR]; simp only [fstL, c_3, decide_true, ↓reduceIte], ht⟩) (fun q h => by cases h) dX2_headEnd_22
  exact lp2 ps 0 (by omega) rfl ls (lv_sub hl [0, 1] rfl)
set_option maxHeartbeats 4000000 in
set_option maxRecDepth 100000 in
theorem kX2_isDigit (l : Launch) (dC : Nat → ClassId) (dI : Nat → Nat → Nat) (ca : Nat → ClassId) (ch : Nat) (hch : ch < 127) : Met l yX2_isDigit (Cond.code yX2_isDigit cX2_isDigit 1 (some .boolean) :: gT) (rk 1) (ROp (dC, dI) [] (TY ca) [Value.int (nI ch)]) (vp_Si (fun r => r = bI (dig ch))) 0 0 (fun _ => False) := by
  refine Met.ofW (cc := cX2_isDigit) (maxL := 1) (ret := (some .boolean)) (by decide) rfl ?_
  intro p e s m args below meth c s₁ B hml hv
  obtain ⟨rfl, hP, hK⟩ := hv
  have hx := B.exec
  have hb := B.bytes
  have hr := B.returns
  have hts := atoms_spec (ws := (Cond.code yX2_isDigit cX2_isDigit 1 (some .boolean) :: gT)) B.pre
  have htl : ∀ w ∈ gT, w.before _ s = true := fun w h => hts w (List.mem_cons_of_mem _ h)
  have hown : s.vm.findClass RX2 = some m.cls := findClass_of_methodNamed B.named
  have hlocks := B.notSynchronized
  have hl := lv_entry ([Value.int (nI ch)]) (n := 1) (Nat.le_of_ble_eq_true rfl)
  rw [lg_entry_eq]
  generalize (lg_sl ([Value.int (nI ch)]) ++ List.replicate (1 - (lg_sl ([Value.int (nI ch)])).length) Slot.unset).toArray = ls at hl ⊢
  have hl : lv_has ls 1 [(0, .int (nI ch))] := hl
  refine lv_iload_n hx hb dX2_isDigit_0 rfl (lv_at hl 0 rfl) ?_
  refine lv_bipush (v := nI 48) hx hb dX2_isDigit_1 (by decide) ?_
  refine lv_icmp_lt (tgt := 16) hx hb dX2_isDigit_3 (by decide) (fun c_1 => ?_) (fun c_1 => ?_)
  · rw [nI_ltI (by omega) (by decide)] at c_1
    refine lv_iconst (v := nI 0) hx hb dX2_isDigit_16 (by decide) ?_
    exact W.zret (v := nI 0) hx hb hr (by decide +kernel) (fun t ht hW => ⟨nI 0, rfl, by show _ = _; rw [show dig ch = false by unfold dig; simp; omega]; rfl, ht⟩) (fun q h => by cases h) dX2_isDigit_17
  · rw [nI_ltI (by omega) (by decide)] at c_1
    refine lv_iload_n hx hb dX2_isDigit_6 rfl (lv_at hl 0 rfl) ?_
    refine lv_bipush (v := nI 54) hx hb dX2_isDigit_7 (by decide) ?_
    refine lv_icmp_ge (tgt := 16) hx hb dX2_isDigit_9 (by decide) (fun c_2 => ?_) (fun c_2 => ?_)
    · rw [nI_leI (by decide) (by omega)] at c_2
      refine lv_iconst (v := nI 0) hx hb dX2_isDigit_16 (by decide) ?_
      exact W.zret (v := nI 0) hx hb hr (by decide +kernel) (fun t ht hW => ⟨nI 0, rfl, by show _ = _; rw [show dig ch = false by unfold dig; simp; omega]; rfl, ht⟩) (fun q h => by cases h) dX2_isDigit_17
    · rw [nI_leI (by decide) (by omega)] at c_2
      refine lv_iconst (v := nI 1) hx hb dX2_isDigit_12 (by decide) ?_
      refine lv_goto (tgt := 17) hx hb dX2_isDigit_13 (by decide) ?_
      exact W.zret (v := nI 1) hx hb hr (by decide +kernel) (fun t ht hW => ⟨nI 1, rfl, by show _ = _; rw [show dig ch = true by unfold dig; simp; omega]; rfl, ht⟩) (fun q h => by cases h) dX2_isDigit_17
set_option maxHeartbeats 4000000 in
set_option maxRecDepth 100000 in
theorem kX2_fitsTail (l : Launch) (dC : Nat → ClassId) (dI : Nat → Nat → Nat) (ca : Nat → ClassId) (a : Nat) (he : Nat) (q : Nat → Nat) (ps : Nat) (pl : Nat → Nat) (ha : a < 28) (hhe : he ≤ a) (hpl : ∀ j, j < 28 → pl j < 127) : Met l yX2_fitsTail (Cond.code yX2_fitsTail cX2_fitsTail 3 (some .boolean) :: gT) (rk 2) (ROp (dC, dI) [(q 1, .inr (2, [.ref (q 2), .int (nI ps)])), (q 2, .inl (ca 0, 28, .inl (fun zj => nI (pl zj))))] (TY ca) [Value.ref (q 1), Value.int (nI a), Value.int (nI he)]) (vp_Si (fun r => r = bI (fitT pl he a))) 0 0 (fun _ => False) := by
  refine Met.ofW (cc := cX2_fitsTail) (maxL := 3) (ret := (some .boolean)) (by decide) rfl ?_
  intro p e s m args below meth c s₁ B hml hv
  obtain ⟨rfl, hP, hK⟩ := hv
  have hx := B.exec
  have hb := B.bytes
  have hr := B.returns
  have hts := atoms_spec (ws := (Cond.code yX2_fitsTail cX2_fitsTail 3 (some .boolean) :: gT)) B.pre
  have htl : ∀ w ∈ gT, w.before _ s = true := fun w h => hts w (List.mem_cons_of_mem _ h)
  have hown : s.vm.findClass RX2 = some m.cls := findClass_of_methodNamed B.named
  have hlocks := B.notSynchronized
  have hl := lv_entry ([Value.ref (q 1), Value.int (nI a), Value.int (nI he)]) (n := 3) (Nat.le_of_ble_eq_true rfl)
  rw [lg_entry_eq]
  generalize (lg_sl ([Value.ref (q 1), Value.int (nI a), Value.int (nI he)]) ++ List.replicate (3 - (lg_sl ([Value.ref (q 1), Value.int (nI a), Value.int (nI he)])).length) Slot.unset).toArray = ls at hl ⊢
  have hl : lv_has ls 3 [(0, .ref (q 1)), (1, .int (nI a)), (2, .int (nI he))] := hl
  refine lv_aload_n hx hb dX2_fitsTail_0 rfl (lv_at hl 0 rfl) ?_
  refine va_get (D := (dC, dI)) (ci := 2) (v := .ref (q 2)) (C := RX2) (T := TX2) (N := 2) hx hb htl iX2 hown hK hP 0 rfl rfl 0 (by decide) (htl _ wd_34) (fun _ h9 => h9) rfl dX2_fitsTail_1 ?_
  refine lv_iload_n hx hb dX2_fitsTail_4 rfl (lv_at hl 1 rfl) ?_
  refine va_cald hx hb hK hP 1 0 rfl rfl (vp_in_nI (by omega) (by decide)) dX2_fitsTail_5 ?_
  refine lv_ri (y := nI (pl a)) (congrArg (fun zj => nI (pl zj)) (nI_clamp (by omega))) ?_
  refine roS (As := [Value.int (nI (pl a))]) (rest := []) (kX2_isDigit l dC dI ca (pl a) (hpl a ha)) ⟨hx, hb, hml, hown, htl⟩ (cSg 1 htl wd_264 wd_265 wd_2 wd_266 rfl rfl (by decide +kernel) ⟨Nat.le_of_ble_eq_true rfl, Nat.le_of_ble_eq_true rfl⟩) (hP.sub [] rfl) hK rfl hl.1 rfl (Nat.le_of_ble_eq_true rfl) dX2_fitsTail_6 ⟨Nat.zero_le _, Nat.zero_le _⟩ (fun r hr9 => ?_)
  subst hr9
  refine lv_if_eq (tgt := 24) hx hb dX2_fitsTail_9 (by decide) (fun c_1 => ?_) (fun c_1 => ?_)
  · replace c_1 := bI_f c_1
    refine lv_iconst (v := nI 0) hx hb dX2_fitsTail_24 (by decide) ?_
    exact W.zret (v := nI 0) hx hb hr (by decide +kernel) (fun t ht hW => ⟨nI 0, rfl, by show _ = _; unfold fitT; simp only [c_1]; first | rfl | (rw [show decide (a - he ≤ 10) = false by simp; omega]; rfl), ht⟩) (fun q h => by cases h) dX2_fitsTail_25
  · replace c_1 := bI_t c_1
    refine lv_iload_n hx hb dX2_fitsTail_12 rfl (lv_at hl 1 rfl) ?_
    refine lv_iload_n hx hb dX2_fitsTail_13 rfl (lv_at hl 2 rfl) ?_
    refine lv_isub hx hb dX2_fitsTail_14 ?_
    refine lv_ri (y := nI (a - he)) (pk_sub hhe) ?_
    refine lv_bipush (v := nI 10) hx hb dX2_fitsTail_15 (by decide) ?_
    refine lv_icmp_gt (tgt := 24) hx hb dX2_fitsTail_17 (by decide) (fun c_2 => ?_) (fun c_2 => ?_)
    · rw [nI_ltI (by decide) (by omega)] at c_2
      refine lv_iconst (v := nI 0) hx hb dX2_fitsTail_24 (by decide) ?_
      exact W.zret (v := nI 0) hx hb hr (by decide +kernel) (fun t ht hW => ⟨nI 0, rfl, by show _ = _; unfold fitT; simp only [c_1]; first | rfl | (rw [show decide (a - he ≤ 10) = false by simp; omega]; rfl), ht⟩) (fun q h => by cases h) dX2_fitsTail_25
    · rw [nI_ltI (by decide) (by omega)] at c_2
      refine lv_iconst (v := nI 1) hx hb dX2_fitsTail_20 (by decide) ?_
      refine lv_goto (tgt := 25) hx hb dX2_fitsTail_21 (by decide) ?_
      exact W.zret (v := nI 1) hx hb hr (by decide +kernel) (fun t ht hW => ⟨nI 1, rfl, by show _ = _; unfold fitT; simp only [c_1]; first | rfl | (rw [show decide (a - he ≤ 10) = true by simp; omega]; rfl), ht⟩) (fun q h => by cases h) dX2_fitsTail_25
set_option maxHeartbeats 4000000 in
set_option maxRecDepth 100000 in
theorem kX2_fitsHead (l : Launch) (dC : Nat → ClassId) (dI : Nat → Nat → Nat) (ca : Nat → ClassId) (k1 k2 : Nat → Nat) (a : Nat) (q : Nat → Nat) (ps : Nat) (pl : Nat → Nat) (ha : a < 28) (hpl : ∀ j, j < 28 → pl j < 127) : Met l yX2_fitsHead (Cond.code yX2_fitsHead cX2_fitsHead 2 (some .boolean) :: gT) (rk 6) (ROs (dC, dI) [(q 1, .inr (2, [.ref (q 2), .int (nI ps)])), (q 2, .inl (ca 0, 28, .inl (fun zj => nI (pl zj))))] (TY ca) k1 k2 [Value.ref (q 1), Value.int (nI a)]) (vp_Si (fun r => r = bI (fitH pl a))) 0 0 (fun _ => False) := by
  refine Met.ofW (cc := cX2_fitsHead) (maxL := 2) (ret := (some .boolean)) (by decide) rfl ?_
  intro p e s m args below meth c s₁ B hml hv
  obtain ⟨rfl, hP, hK, hF⟩ := hv
  have hx := B.exec
  have hb := B.bytes
  have hr := B.returns
  have hts := atoms_spec (ws := (Cond.code yX2_fitsHead cX2_fitsHead 2 (some .boolean) :: gT)) B.pre
  have htl : ∀ w ∈ gT, w.before _ s = true := fun w h => hts w (List.mem_cons_of_mem _ h)
  have hown : s.vm.findClass RX2 = some m.cls := findClass_of_methodNamed B.named
  have hlocks := B.notSynchronized
  have hl := lv_entry ([Value.ref (q 1), Value.int (nI a)]) (n := 2) (Nat.le_of_ble_eq_true rfl)
  rw [lg_entry_eq]
  generalize (lg_sl ([Value.ref (q 1), Value.int (nI a)]) ++ List.replicate (2 - (lg_sl ([Value.ref (q 1), Value.int (nI a)])).length) Slot.unset).toArray = ls at hl ⊢
  have hl : lv_has ls 2 [(0, .ref (q 1)), (1, .int (nI a))] := hl
  refine lv_iload_n hx hb dX2_fitsHead_0 rfl (lv_at hl 1 rfl) ?_
  refine lv_iconst (v := nI 4) hx hb dX2_fitsHead_1 (by decide) ?_
  refine lv_irem hx hb dX2_fitsHead_2 (by decide) ?_
  refine lv_ri (y := nI (a % 4)) (pk_rem (by omega) (by decide) (by decide)) ?_
  by_cases c_1 : (nI (a % 4)) = nI 0
  · refine lv_ri c_1 ?_
    refine lv_lookup (off := 25) (tgt := 28) hx hb dX2_fitsHead_3 (by decide) (by decide) (by decide) ?_
    refine lv_aload_n hx hb dX2_fitsHead_28 rfl (lv_at hl 0 rfl) ?_
    refine lv_iload_n hx hb dX2_fitsHead_29 rfl (lv_at hl 1 rfl) ?_
    refine roVs (As := [Value.int (nI a)]) (rest := []) (kX2_kindAt l dC dI ca k1 k2 a q ps pl ha hpl) ⟨hx, hb, hml, hown, htl⟩ (cVg (C := RX2) 1 htl wd_173 wd_174 wd_175 wd_2 wd_176 rfl rfl (by decide +kernel) ⟨Nat.le_of_ble_eq_true rfl, Nat.le_of_ble_eq_true rfl⟩) (hP.sub [0, 1] rfl) hF hK (va_recv hK hP (ci := 2) (q0 := 0) rfl rfl) rfl hl.1 rfl (Nat.le_of_ble_eq_true rfl) dX2_fitsHead_30 ⟨Nat.zero_le _, Nat.zero_le _⟩ (fun r hr9 => ?_)
    subst hr9
    refine lv_iconst (v := (-1)) hx hb dX2_fitsHead_33 (by decide) ?_
    refine lv_icmp_eq (tgt := 41) hx hb dX2_fitsHead_34 (by decide) (fun c_2 => ?_) (fun c_2 => ?_)
    · refine lv_iconst (v := nI 0) hx hb dX2_fitsHead_41 (by decide) ?_
      exact W.zret (v := nI 0) hx hb hr (by decide +kernel) (fun t ht hW => ⟨nI 0, rfl, by show _ = _; have z0 : a % 4 = 0 := (nI_eq (by omega) (by decide)).mp c_1; unfold fitH; rw [if_pos z0]; simp only [c_2]; rfl, ht⟩) (fun q h => by cases h) dX2_fitsHead_42
    · refine lv_iconst (v := nI 1) hx hb dX2_fitsHead_37 (by decide) ?_
      refine lv_goto (tgt := 42) hx hb dX2_fitsHead_38 (by decide) ?_
      exact W.zret (v := nI 1) hx hb hr (by decide +kernel) (fun t ht hW => ⟨nI 1, rfl, by show _ = _; have z0 : a % 4 = 0 := (nI_eq (by omega) (by decide)).mp c_1; unfold fitH; rw [if_pos z0]; simp only [c_2]; rfl, ht⟩) (fun q h => by cases h) dX2_fitsHead_42
  by_cases c_3 : (nI (a % 4)) = nI 3
  · refine lv_ri c_3 ?_
    refine lv_lookup (off := 40) (tgt := 43) hx hb dX2_fitsHead_3 (by decide) (by decide) (by decide) ?_
    refine lv_aload_n hx hb dX2_fitsHead_43 rfl (lv_at hl 0 rfl) ?_
    refine va_get (D := (dC, dI)) (ci := 2) (v := .ref (q 2)) (C := RX2) (T := TX2) (N := 2) hx hb htl iX2 hown hK hP 0 rfl rfl 0 (by decide) (htl _ wd_34) (fun _ h9 => h9) rfl dX2_fitsHead_44 ?_
    refine lv_iload_n hx hb dX2_fitsHead_47 rfl (lv_at hl 1 rfl) ?_
    refine va_cald hx hb hK hP 1 0 rfl rfl (vp_in_nI (by omega) (by decide)) dX2_fitsHead_48 ?_
    refine lv_ri (y := nI (pl a)) (congrArg (fun zj => nI (pl zj)) (nI_clamp (by omega))) ?_
    refine lv_bipush (v := nI 59) hx hb dX2_fitsHead_49 (by decide) ?_
    refine lv_icmp_eq (tgt := 72) hx hb dX2_fitsHead_51 (by decide) (fun c_4 => ?_) (fun c_4 => ?_)
    · rw [nI_eq (Nat.lt_trans (hpl a ha) (by decide)) (by decide)] at c_4
      refine lv_iconst (v := nI 1) hx hb dX2_fitsHead_72 (by decide) ?_
      refine lv_goto (tgt := 77) hx hb dX2_fitsHead_73 (by decide) ?_
      exact W.zret (v := nI 1) hx hb hr (by decide +kernel) (fun t ht hW => ⟨nI 1, rfl, by show _ = _; have z0 : ¬ a % 4 = 0 := (fun h => c_1 ((nI_eq (by omega) (by decide)).mpr h)); have z3 : a % 4 = 3 := (nI_eq (by omega) (by decide)).mp c_3; unfold fitH; rw [if_neg z0, if_pos z3, show (decide (pl a = 59) || (decide (pl a = 44) && decide (a / 4 < 3))) = true by simp; omega]; rfl, ht⟩) (fun q h => by cases h) dX2_fitsHead_77
    · rw [nI_eq (Nat.lt_trans (hpl a ha) (by decide)) (by decide)] at c_4
      refine lv_aload_n hx hb dX2_fitsHead_54 rfl (lv_at hl 0 rfl) ?_
      refine va_get (D := (dC, dI)) (ci := 2) (v := .ref (q 2)) (C := RX2) (T := TX2) (N := 2) hx hb htl iX2 hown hK hP 0 rfl rfl 0 (by decide) (htl _ wd_34) (fun _ h9 => h9) rfl dX2_fitsHead_55 ?_
      refine lv_iload_n hx hb dX2_fitsHead_58 rfl (lv_at hl 1 rfl) ?_
      refine va_cald hx hb hK hP 1 0 rfl rfl (vp_in_nI (by omega) (by decide)) dX2_fitsHead_59 ?_
      refine lv_ri (y := nI (pl a)) (congrArg (fun zj => nI (pl zj)) (nI_clamp (by omega))) ?_
      refine lv_bipush (v := nI 44) hx hb dX2_fitsHead_60 (by decide) ?_
      refine lv_icmp_ne (tgt := 76) hx hb dX2_fitsHead_62 (by decide) (fun c_5 => ?_) (fun c_5 => ?_)
      · rw [nI_eq (Nat.lt_trans (hpl a ha) (by decide)) (by decide)] at c_5
        refine lv_iconst (v := nI 0) hx hb dX2_fitsHead_76 (by decide) ?_
        exact W.zret (v := nI 0) hx hb hr (by decide +kernel) (fun t ht hW => ⟨nI 0, rfl, by show _ = _; have z0 : ¬ a % 4 = 0 := (fun h => c_1 ((nI_eq (by omega) (by decide)).mpr h)); have z3 : a % 4 = 3 := (nI_eq (by omega) (by decide)).mp c_3; unfold fitH; rw [if_neg z0, if_pos z3, show (decide (pl a = 59) || (decide (pl a = 44) && decide (a / 4 < 3))) = false by simp; omega]; rfl, ht⟩) (fun q h => by cases h) dX2_fitsHead_77
      · rw [nI_eq (Nat.lt_trans (hpl a ha) (by decide)) (by decide)] at c_5
        refine lv_iload_n hx hb dX2_fitsHead_65 rfl (lv_at hl 1 rfl) ?_
        refine lv_iconst (v := nI 4) hx hb dX2_fitsHead_66 (by decide) ?_
        refine lv_idiv hx hb dX2_fitsHead_67 (by decide) ?_
        refine lv_ri (y := nI (a / 4)) (pk_div (by omega) (by decide) (by decide)) ?_
        refine lv_iconst (v := nI 3) hx hb dX2_fitsHead_68 (by decide) ?_
        refine lv_icmp_ge (tgt := 76) hx hb dX2_fitsHead_69 (by decide) (fun c_6 => ?_) (fun c_6 => ?_)
        · rw [nI_leI (by decide) (by omega)] at c_6
          refine lv_iconst (v := nI 0) hx hb dX2_fitsHead_76 (by decide) ?_
          exact W.zret (v := nI 0) hx hb hr (by decide +kernel) (fun t ht hW => ⟨nI 0, rfl, by show _ = _; have z0 : ¬ a % 4 = 0 := (fun h => c_1 ((nI_eq (by omega) (by decide)).mpr h)); have z3 : a % 4 = 3 := (nI_eq (by omega) (by decide)).mp c_3; unfold fitH; rw [if_neg z0, if_pos z3, show (decide (pl a = 59) || (decide (pl a = 44) && decide (a / 4 < 3))) = false by simp; omega]; rfl, ht⟩) (fun q h => by cases h) dX2_fitsHead_77
        · rw [nI_leI (by decide) (by omega)] at c_6
          refine lv_iconst (v := nI 1) hx hb dX2_fitsHead_72 (by decide) ?_
          refine lv_goto (tgt := 77) hx hb dX2_fitsHead_73 (by decide) ?_
          exact W.zret (v := nI 1) hx hb hr (by decide +kernel) (fun t ht hW => ⟨nI 1, rfl, by show _ = _; have z0 : ¬ a % 4 = 0 := (fun h => c_1 ((nI_eq (by omega) (by decide)).mpr h)); have z3 : a % 4 = 3 := (nI_eq (by omega) (by decide)).mp c_3; unfold fitH; rw [if_neg z0, if_pos z3, show (decide (pl a = 59) || (decide (pl a = 44) && decide (a / 4 < 3))) = true by simp; omega]; rfl, ht⟩) (fun q h => by cases h) dX2_fitsHead_77
  refine lv_lookup (off := 75) (tgt := 78) hx hb dX2_fitsHead_3 (by decide) (by rw [lv_osw (k := nI 0) c_1 (by decide)]; rw [lv_osw (k := nI 3) c_3 (by decide)]; rfl) (by decide) ?_
  refine lv_aload_n hx hb dX2_fitsHead_78 rfl (lv_at hl 0 rfl) ?_
  refine va_get (D := (dC, dI)) (ci := 2) (v := .ref (q 2)) (C := RX2) (T := TX2) (N := 2) hx hb htl iX2 hown hK hP 0 rfl rfl 0 (by decide) (htl _ wd_34) (fun _ h9 => h9) rfl dX2_fitsHead_79 ?_
  refine lv_iload_n hx hb dX2_fitsHead_82 rfl (lv_at hl 1 rfl) ?_
  refine va_cald hx hb hK hP 1 0 rfl rfl (vp_in_nI (by omega) (by decide)) dX2_fitsHead_83 ?_
  refine lv_ri (y := nI (pl a)) (congrArg (fun zj => nI (pl zj)) (nI_clamp (by omega))) ?_
  refine roS (As := [Value.int (nI (pl a))]) (rest := []) (kX2_isDigit l dC dI ca (pl a) (hpl a ha)) ⟨hx, hb, hml, hown, htl⟩ (cSg 1 htl wd_264 wd_265 wd_2 wd_266 rfl rfl (by decide +kernel) ⟨Nat.le_of_ble_eq_true rfl, Nat.le_of_ble_eq_true rfl⟩) (hP.sub [] rfl) hK rfl hl.1 rfl (Nat.le_of_ble_eq_true rfl) dX2_fitsHead_84 ⟨Nat.zero_le _, Nat.zero_le _⟩ (fun r hr9 => ?_)
  subst hr9
  exact W.zret (v := bI (dig (pl a))) hx hb hr (bI_n _) (fun t ht hW => ⟨bI (dig (pl a)), rfl, by show _ = _; have z0 : ¬ a % 4 = 0 := (fun h => c_1 ((nI_eq (by omega) (by decide)).mpr h)); have z3 : ¬ a % 4 = 3 := (fun h => c_3 ((nI_eq (by omega) (by decide)).mpr h)); unfold fitH; rw [if_neg z0, if_neg z3], ht⟩) (fun q h => by cases h) dX2_fitsHead_87
set_option maxHeartbeats 4000000 in
set_option maxRecDepth 100000 in
theorem kX2_firstWrong (l : Launch) (dC : Nat → ClassId) (dI : Nat → Nat → Nat) (ca : Nat → ClassId) (k1 k2 : Nat → Nat) (q : Nat → Nat) (ps : Nat) (pl : Nat → Nat) (hps : ps ≤ 28) (hpl : ∀ j, j < 28 → pl j < 127) : Met l yX2_firstWrong (Cond.code yX2_firstWrong cX2_firstWrong 4 (some .int) :: gT) (rk 7) (ROs (dC, dI) [(q 1, .inr (2, [.ref (q 2), .int (nI ps)])), (q 2, .inl (ca 0, 28, .inl (fun zj => nI (pl zj))))] (TY ca) k1 k2 [Value.ref (q 1)]) (vp_Si (fun r => r = nI (fwN pl ps))) 0 0 (fun _ => False) := by
  refine Met.ofW (cc := cX2_firstWrong) (maxL := 4) (ret := (some .int)) (by decide) rfl ?_
  intro p e s m args below meth c s₁ B hml hv
  obtain ⟨rfl, hP, hK, hF⟩ := hv
  have hx := B.exec
  have hb := B.bytes
  have hr := B.returns
  have hts := atoms_spec (ws := (Cond.code yX2_firstWrong cX2_firstWrong 4 (some .int) :: gT)) B.pre
  have htl : ∀ w ∈ gT, w.before _ s = true := fun w h => hts w (List.mem_cons_of_mem _ h)
  have hown : s.vm.findClass RX2 = some m.cls := findClass_of_methodNamed B.named
  have hlocks := B.notSynchronized
  have hl := lv_entry ([Value.ref (q 1)]) (n := 4) (Nat.le_of_ble_eq_true rfl)
  rw [lg_entry_eq]
  generalize (lg_sl ([Value.ref (q 1)]) ++ List.replicate (4 - (lg_sl ([Value.ref (q 1)])).length) Slot.unset).toArray = ls at hl ⊢
  have hl : lv_has ls 4 [(0, .ref (q 1))] := hl
  refine lv_aload_n hx hb dX2_firstWrong_0 rfl (lv_at hl 0 rfl) ?_
  have hhe := hE_le pl ps
  refine roV (As := []) (rest := []) (kX2_headEnd l dC dI ca q ps pl hps hpl) ⟨hx, hb, hml, hown, htl⟩ (cVg (C := RX2) 0 htl wd_165 wd_166 wd_167 wd_2 wd_168 rfl rfl (by decide +kernel) ⟨Nat.le_of_ble_eq_true rfl, Nat.le_of_ble_eq_true rfl⟩) (hP.sub [0, 1] rfl) hK (va_recv hK hP (ci := 2) (q0 := 0) rfl rfl) rfl hl.1 rfl (Nat.le_of_ble_eq_true rfl) dX2_firstWrong_1 ⟨Nat.zero_le _, Nat.zero_le _⟩ (fun r hr9 => ?_)
  subst hr9
  refine lv_istore_n (lv' := [(1, .int (nI (hE pl ps))), (0, .ref (q 1))]) hx hb dX2_firstWrong_4 rfl hl (by decide) rfl (fun ls hl => ?_)
  refine lv_iconst (v := nI 0) hx hb dX2_firstWrong_5 (by decide) ?_
  refine lv_istore_n (lv' := [(2, .int (nI 0)), (1, .int (nI (hE pl ps))), (0, .ref (q 1))]) hx hb dX2_firstWrong_6 rfl hl (by decide) rfl (fun ls hl => ?_)
  have lp7 : ∀ (n : Nat) (a : Nat), (a + n = ps) → (fstL (fun a => !fitX pl (hE pl ps) a) n a = fstL (fun a => !fitX pl (hE pl ps) a) ps 0) → ∀ (ls : Array Slot), lv_has ls 4 [(2, .int (nI a)), (1, .int (nI (hE pl ps))), (0, .ref (q 1))] → W p l e (headSpec (Cond.code yX2_firstWrong cX2_firstWrong 4 (some .int) :: gT) (rk 7)).room s m ([Value.ref (q 1)] : List Value).toArray below meth c s.heap [] 0 0 (MQ below (vp_Si (fun r => r = nI (fwN pl ps))) ([Value.ref (q 1)] : List Value).toArray s 0 0 (fun _ => False)) (F0 m 7 ls []) := by
    clear hl
    intro n
    induction n with
    | zero =>
      intro a hj hR ls hl
      refine lv_iload_n hx hb dX2_firstWrong_7 rfl (lv_at hl 0 rfl) ?_
      refine lv_aload_n hx hb dX2_firstWrong_8 rfl (lv_at hl 2 rfl) ?_
      refine va_get (D := (dC, dI)) (ci := 2) (v := .int (nI ps)) (C := RX2) (T := TX2) (N := 2) hx hb htl iX2 hown hK hP 0 rfl rfl 1 (by decide) (htl _ wd_36) (fun _ h9 => h9) rfl dX2_firstWrong_9 ?_
      refine lv_icmp_ge (tgt := 47) hx hb dX2_firstWrong_12 (by decide) (fun c_1 => ?_) (fun c_1 => ?_)
      · refine lv_aload_n hx hb dX2_firstWrong_47 rfl (lv_at hl 2 rfl) ?_
        refine va_get (D := (dC, dI)) (ci := 2) (v := .int (nI ps)) (C := RX2) (T := TX2) (N := 2) hx hb htl iX2 hown hK hP 0 rfl rfl 1 (by decide) (htl _ wd_36) (fun _ h9 => h9) rfl dX2_firstWrong_48 ?_
        exact W.iret (v := nI ps) hx hb hr (fun t ht hW => ⟨nI ps, rfl, by show _ = _; unfold fwN; rw [← hR]; show nI ps = nI a; rw [show ps = a by omega], ht⟩) (fun q h => by cases h) dX2_firstWrong_51
      · exact absurd (nI_le (by omega) (by omega)) c_1
    | succ n ih7 =>
      intro a hj hR ls hl
      refine lv_iload_n hx hb dX2_firstWrong_7 rfl (lv_at hl 0 rfl) ?_
      refine lv_aload_n hx hb dX2_firstWrong_8 rfl (lv_at hl 2 rfl) ?_
      refine va_get (D := (dC, dI)) (ci := 2) (v := .int (nI ps)) (C := RX2) (T := TX2) (N := 2) hx hb htl iX2 hown hK hP 0 rfl rfl 1 (by decide) (htl _ wd_36) (fun _ h9 => h9) rfl dX2_firstWrong_9 ?_
      refine lv_icmp_ge (tgt := 47) hx hb dX2_firstWrong_12 (by decide) (fun c_2 => ?_) (fun c_2 => ?_)
      · exact absurd c_2 (nI_ge (by omega) (by omega))
      · refine lv_iload_n hx hb dX2_firstWrong_15 rfl (lv_at hl 0 rfl) ?_
        refine lv_iload_n hx hb dX2_firstWrong_16 rfl (lv_at hl 1 rfl) ?_
        refine lv_icmp_gt (tgt := 28) hx hb dX2_firstWrong_17 (by decide) (fun c_3 => ?_) (fun c_3 => ?_)
        · rw [nI_ltI (by omega) (by omega)] at c_3
          refine lv_aload_n hx hb dX2_firstWrong_28 rfl (lv_at hl 2 rfl) ?_
          refine lv_iload_n hx hb dX2_firstWrong_29 rfl (lv_at hl 0 rfl) ?_
          refine lv_iload_n hx hb dX2_firstWrong_30 rfl (lv_at hl 1 rfl) ?_
          refine roV (As := [Value.int (nI a), Value.int (nI (hE pl ps))]) (rest := []) (kX2_fitsTail l dC dI ca a (hE pl ps) q ps pl (by omega) (by omega) hpl) ⟨hx, hb, hml, hown, htl⟩ (cVg (C := RX2) 2 htl wd_267 wd_269 wp_1 wd_2 wd_270 rfl rfl (by decide +kernel) ⟨Nat.le_of_ble_eq_true rfl, Nat.le_of_ble_eq_true rfl⟩) (hP.sub [0, 1] rfl) hK (va_recv hK hP (ci := 2) (q0 := 0) rfl rfl) rfl hl.1 rfl (Nat.le_of_ble_eq_true rfl) dX2_firstWrong_31 ⟨Nat.zero_le _, Nat.zero_le _⟩ (fun r hr9 => ?_)
          subst hr9
          refine lv_istore_n (lv' := [(3, .int (bI (fitT pl (hE pl ps) a))), (2, .int (nI a)), (1, .int (nI (hE pl ps))), (0, .ref (q 1))]) hx hb dX2_firstWrong_34 rfl hl (by decide) rfl (fun ls hl => ?_)
          refine lv_iload_n hx hb dX2_firstWrong_35 rfl (lv_at hl 0 rfl) ?_
          refine lv_if_ne (tgt := 41) hx hb dX2_firstWrong_36 (by decide) (fun c_4 => ?_) (fun c_4 => ?_)
          · replace c_4 := bI_t c_4
            have hfx : fitX pl (hE pl ps) a = true := by unfold fitX; rw [if_pos c_3]; exact c_4
            refine lv_iinc (v := nI (a + 1)) (lv' := [(2, .int (nI (a + 1))), (3, .int (bI (fitT pl (hE pl ps) a))), (1, .int (nI (hE pl ps))), (0, .ref (q 1))]) hx hb dX2_firstWrong_41 hl (k := 1) rfl (nI_add a 1) (by decide) rfl (fun ls hl => ?_)
            refine lv_goto (tgt := 7) hx hb dX2_firstWrong_44 (by decide) ?_
            exact ih7 (a + 1) (by omega) (by rw [← hR]; simp only [fstL, hfx, Bool.not_true, ↓reduceIte, Bool.false_eq_true]) ls (lv_sub hl [0, 2, 3] rfl)
          · replace c_4 := bI_f c_4
            have hfx : fitX pl (hE pl ps) a = false := by unfold fitX; rw [if_pos c_3]; exact c_4
            refine lv_iload_n hx hb dX2_firstWrong_39 rfl (lv_at hl 1 rfl) ?_
            exact W.iret (v := nI a) hx hb hr (fun t ht hW => ⟨nI a, rfl, by show _ = _; unfold fwN; rw [← hR]; simp only [fstL, hfx, Bool.not_false, ↓reduceIte], ht⟩) (fun q h => by cases h) dX2_firstWrong_40
        · rw [nI_ltI (by omega) (by omega)] at c_3
          refine lv_aload_n hx hb dX2_firstWrong_20 rfl (lv_at hl 2 rfl) ?_
          refine lv_iload_n hx hb dX2_firstWrong_21 rfl (lv_at hl 0 rfl) ?_
          refine roVs (As := [Value.int (nI a)]) (rest := []) (kX2_fitsHead l dC dI ca k1 k2 a q ps pl (by omega) hpl) ⟨hx, hb, hml, hown, htl⟩ (cVg (C := RX2) 1 htl wd_169 wd_171 wp_0 wd_2 wd_172 rfl rfl (by decide +kernel) ⟨Nat.le_of_ble_eq_true rfl, Nat.le_of_ble_eq_true rfl⟩) (hP.sub [0, 1] rfl) hF hK (va_recv hK hP (ci := 2) (q0 := 0) rfl rfl) rfl hl.1 rfl (Nat.le_of_ble_eq_true rfl) dX2_firstWrong_22 ⟨Nat.zero_le _, Nat.zero_le _⟩ (fun r hr9 => ?_)
          subst hr9
          refine lv_goto (tgt := 34) hx hb dX2_firstWrong_25 (by decide) ?_
          refine lv_istore_n (lv' := [(3, .int (bI (fitH pl a))), (2, .int (nI a)), (1, .int (nI (hE pl ps))), (0, .ref (q 1))]) hx hb dX2_firstWrong_34 rfl hl (by decide) rfl (fun ls hl => ?_)
          refine lv_iload_n hx hb dX2_firstWrong_35 rfl (lv_at hl 0 rfl) ?_
          refine lv_if_ne (tgt := 41) hx hb dX2_firstWrong_36 (by decide) (fun c_5 => ?_) (fun c_5 => ?_)
          · replace c_5 := bI_t c_5
            have hfx : fitX pl (hE pl ps) a = true := by unfold fitX; rw [if_neg c_3]; exact c_5
            refine lv_iinc (v := nI (a + 1)) (lv' := [(2, .int (nI (a + 1))), (3, .int (bI (fitH pl a))), (1, .int (nI (hE pl ps))), (0, .ref (q 1))]) hx hb dX2_firstWrong_41 hl (k := 1) rfl (nI_add a 1) (by decide) rfl (fun ls hl => ?_)
            refine lv_goto (tgt := 7) hx hb dX2_firstWrong_44 (by decide) ?_
            exact ih7 (a + 1) (by omega) (by rw [← hR]; simp only [fstL, hfx, Bool.not_true, ↓reduceIte, Bool.false_eq_true]) ls (lv_sub hl [0, 2, 3] rfl)
          · replace c_5 := bI_f c_5
            have hfx : fitX pl (hE pl ps) a = false := by unfold fitX; rw [if_neg c_3]; exact c_5
            refine lv_iload_n hx hb dX2_firstWrong_39 rfl (lv_at hl 1 rfl) ?_
            exact W.iret (v := nI a) hx hb hr (fun t ht hW => ⟨nI a, rfl, by show _ = _; unfold fwN; rw [← hR]; simp only [fstL, hfx, Bool.not_false, ↓reduceIte], ht⟩) (fun q h => by cases h) dX2_firstWrong_40
  exact lp7 ps 0 (by omega) rfl ls (lv_sub hl [0, 1, 2] rfl)
set_option maxHeartbeats 4000000 in
set_option maxRecDepth 100000 in
theorem kX2_isWhole (l : Launch) (dC : Nat → ClassId) (dI : Nat → Nat → Nat) (ca : Nat → ClassId) (k1 k2 : Nat → Nat) (q : Nat → Nat) (ps : Nat) (pl : Nat → Nat) (hps : ps ≤ 28) (hpl : ∀ j, j < 28 → pl j < 127) : Met l yX2_isWhole (Cond.code yX2_isWhole cX2_isWhole 2 (some .boolean) :: gT) (rk 8) (ROs (dC, dI) [(q 1, .inr (2, [.ref (q 2), .int (nI ps)])), (q 2, .inl (ca 0, 28, .inl (fun zj => nI (pl zj))))] (TY ca) k1 k2 [Value.ref (q 1)]) (vp_Si (fun r => r = bI (whN pl ps))) 0 0 (fun _ => False) := by
  refine Met.ofW (cc := cX2_isWhole) (maxL := 2) (ret := (some .boolean)) (by decide) rfl ?_
  intro p e s m args below meth c s₁ B hml hv
  obtain ⟨rfl, hP, hK, hF⟩ := hv
  have hx := B.exec
  have hb := B.bytes
  have hr := B.returns
  have hts := atoms_spec (ws := (Cond.code yX2_isWhole cX2_isWhole 2 (some .boolean) :: gT)) B.pre
  have htl : ∀ w ∈ gT, w.before _ s = true := fun w h => hts w (List.mem_cons_of_mem _ h)
  have hown : s.vm.findClass RX2 = some m.cls := findClass_of_methodNamed B.named
  have hlocks := B.notSynchronized
  have hl := lv_entry ([Value.ref (q 1)]) (n := 2) (Nat.le_of_ble_eq_true rfl)
  rw [lg_entry_eq]
  generalize (lg_sl ([Value.ref (q 1)]) ++ List.replicate (2 - (lg_sl ([Value.ref (q 1)])).length) Slot.unset).toArray = ls at hl ⊢
  have hl : lv_has ls 2 [(0, .ref (q 1))] := hl
  refine lv_aload_n hx hb dX2_isWhole_0 rfl (lv_at hl 0 rfl) ?_
  refine va_get (D := (dC, dI)) (ci := 2) (v := .int (nI ps)) (C := RX2) (T := TX2) (N := 2) hx hb htl iX2 hown hK hP 0 rfl rfl 1 (by decide) (htl _ wd_36) (fun _ h9 => h9) rfl dX2_isWhole_1 ?_
  refine lv_aload_n hx hb dX2_isWhole_4 rfl (lv_at hl 0 rfl) ?_
  have hhe := hE_le pl ps
  refine roV (As := []) (rest := [.int (nI ps)]) (kX2_headEnd l dC dI ca q ps pl hps hpl) ⟨hx, hb, hml, hown, htl⟩ (cVg (C := RX2) 0 htl wd_165 wd_166 wd_167 wd_2 wd_168 rfl rfl (by decide +kernel) ⟨Nat.le_of_ble_eq_true rfl, Nat.le_of_ble_eq_true rfl⟩) (hP.sub [0, 1] rfl) hK (va_recv hK hP (ci := 2) (q0 := 0) rfl rfl) rfl hl.1 rfl (Nat.le_of_ble_eq_true rfl) dX2_isWhole_5 ⟨Nat.zero_le _, Nat.zero_le _⟩ (fun r hr9 => ?_)
  subst hr9
  refine lv_isub hx hb dX2_isWhole_8 ?_
  refine lv_iconst (v := nI 1) hx hb dX2_isWhole_9 (by decide) ?_
  refine lv_isub hx hb dX2_isWhole_10 ?_
  refine lv_istore_n (lv' := [(1, .int (((nI ps) - (nI (hE pl ps))) - (nI 1))), (0, .ref (q 1))]) hx hb dX2_isWhole_11 rfl hl (by decide) rfl (fun ls hl => ?_)
  refine lv_aload_n hx hb dX2_isWhole_12 rfl (lv_at hl 1 rfl) ?_
  have hfw := fwN_le pl ps
  refine roVs (As := []) (rest := []) (kX2_firstWrong l dC dI ca k1 k2 q ps pl hps hpl) ⟨hx, hb, hml, hown, htl⟩ (cVg (C := RX2) 0 htl wd_280 wd_162 wd_163 wd_2 wd_164 rfl rfl (by decide +kernel) ⟨Nat.le_of_ble_eq_true rfl, Nat.le_of_ble_eq_true rfl⟩) (hP.sub [0, 1] rfl) hF hK (va_recv hK hP (ci := 2) (q0 := 0) rfl rfl) rfl hl.1 rfl (Nat.le_of_ble_eq_true rfl) dX2_isWhole_13 ⟨Nat.zero_le _, Nat.zero_le _⟩ (fun r hr9 => ?_)
  subst hr9
  refine lv_aload_n hx hb dX2_isWhole_16 rfl (lv_at hl 1 rfl) ?_
  refine va_get (D := (dC, dI)) (ci := 2) (v := .int (nI ps)) (C := RX2) (T := TX2) (N := 2) hx hb htl iX2 hown hK hP 0 rfl rfl 1 (by decide) (htl _ wd_36) (fun _ h9 => h9) rfl dX2_isWhole_17 ?_
  refine lv_icmp_ne (tgt := 38) hx hb dX2_isWhole_20 (by decide) (fun c_1 => ?_) (fun c_1 => ?_)
  · rw [nI_eq (by omega) (by omega)] at c_1
    refine lv_iconst (v := nI 0) hx hb dX2_isWhole_38 (by decide) ?_
    exact W.zret (v := nI 0) hx hb hr (by decide +kernel) (fun t ht hW => ⟨nI 0, rfl, by show _ = _; unfold whN; rw [show (decide (fwN pl ps = ps) && (decide (hE pl ps + 3 ≤ ps) && decide ((ps - hE pl ps - 1) % 2 = 0))) = false by simp; omega]; rfl, ht⟩) (fun q h => by cases h) dX2_isWhole_39
  · rw [nI_eq (by omega) (by omega)] at c_1
    refine lv_iload_n hx hb dX2_isWhole_23 rfl (lv_at hl 0 rfl) ?_
    refine lv_iconst (v := nI 2) hx hb dX2_isWhole_24 (by decide) ?_
    refine lv_icmp_lt (tgt := 38) hx hb dX2_isWhole_25 (by decide) (fun c_2 => ?_) (fun c_2 => ?_)
    · rw [sub2_lt hhe (by omega) (by decide)] at c_2
      refine lv_iconst (v := nI 0) hx hb dX2_isWhole_38 (by decide) ?_
      exact W.zret (v := nI 0) hx hb hr (by decide +kernel) (fun t ht hW => ⟨nI 0, rfl, by show _ = _; unfold whN; rw [show (decide (fwN pl ps = ps) && (decide (hE pl ps + 3 ≤ ps) && decide ((ps - hE pl ps - 1) % 2 = 0))) = false by simp; omega]; rfl, ht⟩) (fun q h => by cases h) dX2_isWhole_39
    · rw [sub2_lt hhe (by omega) (by decide)] at c_2
      refine lv_iload_n hx hb dX2_isWhole_28 rfl (lv_at hl 0 rfl) ?_
      refine lv_iconst (v := nI 2) hx hb dX2_isWhole_29 (by decide) ?_
      refine lv_irem hx hb dX2_isWhole_30 (by decide) ?_
      refine lv_ri (y := nI ((ps - hE pl ps - 1) % 2)) (by rw [pk_sub hhe, pk_sub (by omega)]; exact pk_rem (by omega) (by decide) (by decide)) ?_
      refine lv_if_ne (tgt := 38) hx hb dX2_isWhole_31 (by decide) (fun c_3 => ?_) (fun c_3 => ?_)
      · rw [nI_z (by omega)] at c_3
        refine lv_iconst (v := nI 0) hx hb dX2_isWhole_38 (by decide) ?_
        exact W.zret (v := nI 0) hx hb hr (by decide +kernel) (fun t ht hW => ⟨nI 0, rfl, by show _ = _; unfold whN; rw [show (decide (fwN pl ps = ps) && (decide (hE pl ps + 3 ≤ ps) && decide ((ps - hE pl ps - 1) % 2 = 0))) = false by simp; omega]; rfl, ht⟩) (fun q h => by cases h) dX2_isWhole_39
      · rw [nI_z (by omega)] at c_3
        refine lv_iconst (v := nI 1) hx hb dX2_isWhole_34 (by decide) ?_
        refine lv_goto (tgt := 39) hx hb dX2_isWhole_35 (by decide) ?_
        exact W.zret (v := nI 1) hx hb hr (by decide +kernel) (fun t ht hW => ⟨nI 1, rfl, by show _ = _; unfold whN; rw [show (decide (fwN pl ps = ps) && (decide (hE pl ps + 3 ≤ ps) && decide ((ps - hE pl ps - 1) % 2 = 0))) = true by simp; omega]; rfl, ht⟩) (fun q h => by cases h) dX2_isWhole_39
set_option maxHeartbeats 4000000 in
set_option maxRecDepth 100000 in
theorem kX2_placeAt (l : Launch) (dC : Nat → ClassId) (dI : Nat → Nat → Nat) (ca : Nat → ClassId) (a : Nat) (q : Nat → Nat) (ps : Nat) (pl : Nat → Nat) (ha : a + 1 < 28) (h1 : 48 ≤ pl a) (h2 : 48 ≤ pl (a + 1)) (hpl : ∀ j, j < 28 → pl j < 127) : Met l yX2_placeAt (Cond.code yX2_placeAt cX2_placeAt 2 (some .int) :: gT) (rk 1) (ROp (dC, dI) [(q 1, .inr (2, [.ref (q 2), .int (nI ps)])), (q 2, .inl (ca 0, 28, .inl (fun zj => nI (pl zj))))] (TY ca) [Value.ref (q 1), Value.int (nI a)]) (vp_Si (fun r => r = nI (plcN pl a))) 0 0 (fun _ => False) := by
  refine Met.ofW (cc := cX2_placeAt) (maxL := 2) (ret := (some .int)) (by decide) rfl ?_
  intro p e s m args below meth c s₁ B hml hv
  obtain ⟨rfl, hP, hK⟩ := hv
  have hx := B.exec
  have hb := B.bytes
  have hr := B.returns
  have hts := atoms_spec (ws := (Cond.code yX2_placeAt cX2_placeAt 2 (some .int) :: gT)) B.pre
  have htl : ∀ w ∈ gT, w.before _ s = true := fun w h => hts w (List.mem_cons_of_mem _ h)
  have hown : s.vm.findClass RX2 = some m.cls := findClass_of_methodNamed B.named
  have hlocks := B.notSynchronized
  have hl := lv_entry ([Value.ref (q 1), Value.int (nI a)]) (n := 2) (Nat.le_of_ble_eq_true rfl)
  rw [lg_entry_eq]
  generalize (lg_sl ([Value.ref (q 1), Value.int (nI a)]) ++ List.replicate (2 - (lg_sl ([Value.ref (q 1), Value.int (nI a)])).length) Slot.unset).toArray = ls at hl ⊢
  have hl : lv_has ls 2 [(0, .ref (q 1)), (1, .int (nI a))] := hl
  refine lv_bipush (v := nI 6) hx hb dX2_placeAt_0 (by decide) ?_
  refine lv_aload_n hx hb dX2_placeAt_2 rfl (lv_at hl 0 rfl) ?_
  refine va_get (D := (dC, dI)) (ci := 2) (v := .ref (q 2)) (C := RX2) (T := TX2) (N := 2) hx hb htl iX2 hown hK hP 0 rfl rfl 0 (by decide) (htl _ wd_34) (fun _ h9 => h9) rfl dX2_placeAt_3 ?_
  refine lv_iload_n hx hb dX2_placeAt_6 rfl (lv_at hl 1 rfl) ?_
  have hb1 := hpl a (by omega)
  have hb2 := hpl (a + 1) (by omega)
  refine va_cald hx hb hK hP 1 0 rfl rfl (vp_in_nI (by omega) (by decide)) dX2_placeAt_7 ?_
  refine lv_ri (y := nI (pl a)) (congrArg (fun zj => nI (pl zj)) (nI_clamp (by omega))) ?_
  refine lv_bipush (v := nI 48) hx hb dX2_placeAt_8 (by decide) ?_
  refine lv_isub hx hb dX2_placeAt_10 ?_
  refine lv_ri (y := nI (pl a - 48)) (pk_sub h1) ?_
  refine lv_imul hx hb dX2_placeAt_11 ?_
  refine lv_ri (y := nI (6 * (pl a - 48))) (pk_mul 6 (pl a - 48)) ?_
  refine lv_aload_n hx hb dX2_placeAt_12 rfl (lv_at hl 0 rfl) ?_
  refine va_get (D := (dC, dI)) (ci := 2) (v := .ref (q 2)) (C := RX2) (T := TX2) (N := 2) hx hb htl iX2 hown hK hP 0 rfl rfl 0 (by decide) (htl _ wd_34) (fun _ h9 => h9) rfl dX2_placeAt_13 ?_
  refine lv_iload_n hx hb dX2_placeAt_16 rfl (lv_at hl 1 rfl) ?_
  refine lv_iconst (v := nI 1) hx hb dX2_placeAt_17 (by decide) ?_
  refine lv_iadd hx hb dX2_placeAt_18 ?_
  refine lv_ri (y := nI (a + 1)) (nI_add a 1) ?_
  refine va_cald hx hb hK hP 1 0 rfl rfl (vp_in_nI (by omega) (by decide)) dX2_placeAt_19 ?_
  refine lv_ri (y := nI (pl (a + 1))) (congrArg (fun zj => nI (pl zj)) (nI_clamp (by omega))) ?_
  refine lv_iadd hx hb dX2_placeAt_20 ?_
  refine lv_ri (y := nI ((6 * (pl a - 48)) + (pl (a + 1)))) (nI_add (6 * (pl a - 48)) (pl (a + 1))) ?_
  refine lv_bipush (v := nI 48) hx hb dX2_placeAt_21 (by decide) ?_
  refine lv_isub hx hb dX2_placeAt_23 ?_
  refine lv_ri (y := nI (6 * (pl a - 48) + pl (a + 1) - 48)) (pk_sub (by omega)) ?_
  exact W.iret (v := nI (6 * (pl a - 48) + pl (a + 1) - 48)) hx hb hr (fun t ht hW => ⟨nI (6 * (pl a - 48) + pl (a + 1) - 48), rfl, rfl, ht⟩) (fun q h => by cases h) dX2_placeAt_24
set_option maxHeartbeats 4000000 in
set_option maxRecDepth 100000 in
theorem kX2_write (l : Launch) (dC : Nat → ClassId) (dI : Nat → Nat → Nat) (ca : Nat → ClassId) (sz : Nat) (ch : Nat) (q : Nat → Nat) (ps : Nat) (pl : Nat → Nat) (hps : ps < 28) (hch : ch < 127) : Met l yX2_write (Cond.code yX2_write cX2_write 2 none :: gT) (rk 1) (EFp (dC, dI) [(q 1, .inr (2, [.ref (q 2), .int (nI ps)])), (q 2, .inl (ca 0, 28, .inl (fun zj => nI (pl zj))))] (TY ca) sz [Value.ref (q 1), Value.int (nI ch)]) (va_Qv (fun (_ : Unit) => True) (EFb (dC, dI) (fun (_ : Unit) => [(q 1, .inr (2, [.ref (q 2), .int (nI (ps + 1))])), (q 2, .inl (ca 0, 28, .inl (fun zj => nI (va_up pl ps ch zj))))]) (TY ca) (va_A [(q 1, .inr (2, [.ref (q 2), .int (nI ps)])), (q 2, .inl (ca 0, 28, .inl (fun zj => nI (pl zj))))] sz)) (va_A [(q 1, .inr (2, [.ref (q 2), .int (nI ps)])), (q 2, .inl (ca 0, 28, .inl (fun zj => nI (pl zj))))] sz)) 0 0 (va_A [(q 1, .inr (2, [.ref (q 2), .int (nI ps)])), (q 2, .inl (ca 0, 28, .inl (fun zj => nI (pl zj))))] sz) := by
  refine Met.ofW (cc := cX2_write) (maxL := 2) (ret := none) (by decide) rfl ?_
  intro p e s m args below meth c s₁ B hml hv
  obtain ⟨rfl, hsz, hP, hK, hD0⟩ := hv
  have hx := B.exec
  have hb := B.bytes
  have hr := B.returns
  have hts := atoms_spec (ws := (Cond.code yX2_write cX2_write 2 none :: gT)) B.pre
  have htl : ∀ w ∈ gT, w.before _ s = true := fun w h => hts w (List.mem_cons_of_mem _ h)
  have hown : s.vm.findClass RX2 = some m.cls := findClass_of_methodNamed B.named
  have hlocks := B.notSynchronized
  subst hsz
  have hD := hD0.self (sz := s.heap.size)
  generalize hAe : va_A [(q 1, .inr (2, [.ref (q 2), .int (nI ps)])), (q 2, .inl (ca 0, 28, .inl (fun zj => nI (pl zj))))] s.heap.size = A at hD ⊢
  have hA : ∀ q : Nat, s.heap.size ≤ q → A q := fun q h => by rw [← hAe]; exact Or.inr h
  have hS : va_S A s.heap s.heap [] := va_S.rf
  have hl := lv_entry ([Value.ref (q 1), Value.int (nI ch)]) (n := 2) (Nat.le_of_ble_eq_true rfl)
  rw [lg_entry_eq]
  generalize (lg_sl ([Value.ref (q 1), Value.int (nI ch)]) ++ List.replicate (2 - (lg_sl ([Value.ref (q 1), Value.int (nI ch)])).length) Slot.unset).toArray = ls at hl ⊢
  have hl : lv_has ls 2 [(0, .ref (q 1)), (1, .int (nI ch))] := hl
  refine lv_aload_n hx hb dX2_write_0 rfl (lv_at hl 0 rfl) ?_
  refine va_get (D := (dC, dI)) (ci := 2) (v := .int (nI ps)) (C := RX2) (T := TX2) (N := 2) hx hb htl iX2 hown hK hP 0 rfl rfl 1 (by decide) (htl _ wd_36) (fun _ h9 => h9) rfl dX2_write_1 ?_
  refine lv_bipush (v := nI 28) hx hb dX2_write_4 (by decide) ?_
  refine lv_icmp_ge (tgt := 29) hx hb dX2_write_6 (by decide) (fun c_1 => ?_) (fun c_1 => ?_)
  · exact absurd c_1 (nI_ge (by omega) (by decide))
  · refine lv_aload_n hx hb dX2_write_9 rfl (lv_at hl 0 rfl) ?_
    refine va_get (D := (dC, dI)) (ci := 2) (v := .ref (q 2)) (C := RX2) (T := TX2) (N := 2) hx hb htl iX2 hown hK hP 0 rfl rfl 0 (by decide) (htl _ wd_34) (fun _ h9 => h9) rfl dX2_write_10 ?_
    refine lv_aload_n hx hb dX2_write_13 rfl (lv_at hl 0 rfl) ?_
    refine va_get (D := (dC, dI)) (ci := 2) (v := .int (nI ps)) (C := RX2) (T := TX2) (N := 2) hx hb htl iX2 hown hK hP 0 rfl rfl 1 (by decide) (htl _ wd_36) (fun _ h9 => h9) rfl dX2_write_14 ?_
    refine lv_iload_n hx hb dX2_write_17 rfl (lv_at hl 1 rfl) ?_
    refine va_cast hx hb hK hP hD hS 1 0 rfl rfl (vp_in_nI (by omega) (by decide)) dX2_write_18 (fun H locs hP hD hS => ?_)
    rw [nI_clamp (show ps < 2 ^ 31 by omega)] at hP hD
    rw [nar_c (Nat.lt_trans hch (by decide))] at hP hD
    rw [show (upd (fun zj => nI (pl zj)) ps (nI ch)) = (fun zj => nI (va_up pl ps ch zj)) from upd_nI _ _ _] at hP hD
    have hP : va_P (dC, dI) vwCl [(q 1, .inr (2, [.ref (q 2), .int (nI ps)])), (q 2, .inl (ca 0, 28, .inl (fun zj => nI (va_up pl ps ch zj))))] H := hP
    have hD : va_D A [(q 1, .inr (2, [.ref (q 2), .int (nI ps)])), (q 2, .inl (ca 0, 28, .inl (fun zj => nI (va_up pl ps ch zj))))] := hD
    refine lv_aload_n hx hb dX2_write_19 rfl (lv_at hl 0 rfl) ?_
    refine lv_dup hx hb dX2_write_20 rfl ?_
    refine va_get (D := (dC, dI)) (ci := 2) (v := .int (nI ps)) (C := RX2) (T := TX2) (N := 2) hx hb htl iX2 hown hK hP 0 rfl rfl 1 (by decide) (htl _ wd_36) (fun _ h9 => h9) rfl dX2_write_21 ?_
    refine lv_iconst (v := nI 1) hx hb dX2_write_24 (by decide) ?_
    refine lv_iadd hx hb dX2_write_25 ?_
    refine lv_ri (y := nI (ps + 1)) (nI_add ps 1) ?_
    refine va_put (D := (dC, dI)) (ci := 2) (v := .int (nI (ps + 1))) (ty := .int) (C := RX2) (T := TX2) (N := 2) hx hb htl iX2 tyX2 tyX2_ok nmX2 hown hK hP hD hS 0 rfl rfl 1 (by decide) (htl _ wd_36) (fun _ h9 => h9) rfl (by decide +kernel) rfl rfl (Nat.le_of_ble_eq_true rfl) dX2_write_26 (fun H locs hP hD hS => ?_)
    have hP : va_P (dC, dI) vwCl [(q 1, .inr (2, [.ref (q 2), .int (nI (ps + 1))])), (q 2, .inl (ca 0, 28, .inl (fun zj => nI (va_up pl ps ch zj))))] H := hP
    have hD : va_D A [(q 1, .inr (2, [.ref (q 2), .int (nI (ps + 1))])), (q 2, .inl (ca 0, 28, .inl (fun zj => nI (va_up pl ps ch zj))))] := hD
    have hP9 := hP.sub (ws' := [(q 1, .inr (2, [.ref (q 2), .int (nI (ps + 1))])), (q 2, .inl (ca 0, 28, .inl (fun zj => nI (va_up pl ps ch zj))))]) [0, 1] rfl
    have hD9 := hD.sub (ws' := [(q 1, .inr (2, [.ref (q 2), .int (nI (ps + 1))])), (q 2, .inl (ca 0, 28, .inl (fun zj => nI (va_up pl ps ch zj))))]) [0, 1] (by decide) rfl
    exact W.vret hx hb hr (fun t ht hW => ⟨⟨(), rfl, trivial, by rw [ht]; exact hP9, va_K.moved hW.alike hK, hD9⟩, hS.F ht⟩) hS.2.2 dX2_write_29
