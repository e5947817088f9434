/-- the reference's rows, out of the same words -/
def rwN (kd hm : Nat → Nat) (j : Nat) : Nat := if j % 2 = 0 then kd (j / 2) else hm (j / 2)
theorem rwN_e (kd hm : Nat → Nat) (k : Nat) : rwN kd hm (2 * k) = kd k := by
  unfold rwN
  rw [if_pos (by omega), show 2 * k / 2 = k by omega]
theorem rwN_o (kd hm : Nat → Nat) (k : Nat) : rwN kd hm (2 * k + 1) = hm k := by
  unfold rwN
  rw [if_neg (by omega), show (2 * k + 1) / 2 = k by omega]
def sgN (sn sp sd : Nat → Nat) (j : Nat) : Nat := if j % 3 = 0 then sn (j / 3) else if j % 3 = 1 then sp (j / 3) else sd (j / 3)
theorem sgN_0 (sn sp sd : Nat → Nat) (k : Nat) : sgN sn sp sd (3 * k) = sn k := by
  unfold sgN
  rw [if_pos (by omega), show 3 * k / 3 = k by omega]
theorem sgN_1 (sn sp sd : Nat → Nat) (k : Nat) : sgN sn sp sd (3 * k + 1) = sp k := by
  unfold sgN
  rw [if_neg (by omega), if_pos (by omega), show (3 * k + 1) / 3 = k by omega]
theorem sgN_2 (sn sp sd : Nat → Nat) (k : Nat) : sgN sn sp sd (3 * k + 2) = sd k := by
  unfold sgN
  rw [if_neg (by omega), if_neg (by omega), show (3 * k + 2) / 3 = k by omega]
theorem rwN_up (kd hm : Nat → Nat) (k v : Nat) : va_up (rwN kd hm) (2 * k + 1) v = rwN kd (va_up hm k v) := by
  funext j
  unfold va_up rwN
  by_cases h : j = 2 * k + 1
  · subst h
    rw [if_pos rfl, if_neg (by omega)]
    show v = if (2 * k + 1) / 2 = k then v else hm ((2 * k + 1) / 2)
    rw [if_pos (by omega)]
  · rw [if_neg h]
    by_cases h2 : j % 2 = 0
    · rw [if_pos h2, if_pos h2]
    · rw [if_neg h2, if_neg h2]
      show hm (j / 2) = if j / 2 = k then v else hm (j / 2)
      rw [if_neg (by omega)]
def inB (v a b : Int64) : Bool := !decide (v < a) && !decide (b < v)
theorem inB_i {x : Int32} {a b : Int32} : inB x.toInt64 a.toInt64 b.toInt64 = (!decide (x < a) && !decide (b < x)) := by
  have h1 : (x.toInt64 < a.toInt64) ↔ x < a := by rw [Int64.lt_iff_toInt_lt, Int32.lt_iff_toInt_lt, Int32.toInt_toInt64, Int32.toInt_toInt64]
  have h2 : (b.toInt64 < x.toInt64) ↔ b < x := by rw [Int64.lt_iff_toInt_lt, Int32.lt_iff_toInt_lt, Int32.toInt_toInt64, Int32.toInt_toInt64]
  unfold inB
  simp only [h1, h2]
theorem i32le {x y : Int32} : (x ≤ y) ↔ ¬ y < x := by
  rw [Int32.le_iff_toInt_le, Int32.lt_iff_toInt_lt]
  omega
theorem in_C (x : Int32) : inB x.toInt64 1 126 = okC x := by
  rw [show (1 : Int64) = (nI 1).toInt64 by decide, show (126 : Int64) = (nI 126).toInt64 by decide, inB_i]
  unfold okC
  simp only [i32le (x := x) (y := nI 126), decide_not]
theorem in_R (x : Int32) (n : Nat) (hn : n < 2 ^ 30) : inB x.toInt64 0 (nI n).toInt64 = rng x (n + 1) := by
  rw [show (0 : Int64) = (0 : Int32).toInt64 by decide, inB_i]
  unfold rng
  have h : (nI n < x) ↔ (nI (n + 1) ≤ x) := by
    rw [Int32.lt_iff_toInt_lt, Int32.le_iff_toInt_le, nI_toInt (by omega), nI_toInt (by omega)]
    omega
  simp only [h]
theorem in_N (x : Int32) (n : Nat) (hn : n ≤ 4) : inB x.toInt64 0 (nI n - nI 1).toInt64 = rng x n := by
  rcases Nat.eq_zero_or_pos n with h | h
  · subst h
    rw [show (0 : Int64) = (0 : Int32).toInt64 by decide, inB_i]
    unfold rng
    have e1 : (nI 0 - nI 1 < x) ↔ (nI 0 ≤ x) := by
      rw [Int32.lt_iff_toInt_lt, Int32.le_iff_toInt_le, show (nI 0 - nI 1).toInt = -1 by decide, show (nI 0).toInt = 0 by decide]
      omega
    simp only [e1]
  · obtain ⟨k, rfl⟩ : ∃ k, n = k + 1 := ⟨n - 1, by omega⟩
    rw [pk_sub (by omega), show k + 1 - 1 = k by omega, in_R x k (by omega)]
theorem dig_in : ∀ x, x < 127 → inB (nI x).toInt64 48 53 = dig x := by decide +kernel
def eaI : Option Nat → Int32
  | none => -1
  | some a => nI a
def gdB (pl : Nat → Nat) (oe : Option Nat) (a : Nat) : Bool := match oe with
  | none => fitH pl a
  | some b => fitT pl b a
def gdE (pl : Nat → Nat) (oe : Option Nat) (a : Nat) : Option Nat := match oe with
  | none => if a % 4 = 3 ∧ pl a = 59 then some a else none
  | some b => some b
def fmL (pl : Nat → Nat) : Nat → Nat → Option Nat → Nat × Option Nat
  | 0, k, oe => (k, oe)
  | n + 1, k, oe => if gdB pl oe k = true then fmL pl n (k + 1) (gdE pl oe k) else (k, gdE pl oe k)
set_option maxHeartbeats 4000000 in
set_option maxRecDepth 100000 in
theorem kX9_in (l : Launch) (dC : Nat → ClassId) (dI : Nat → Nat → Nat) (ca : Nat → ClassId) (v1 : Int64) (v2 : Int64) (v3 : Int64) : Met l yX9_in (Cond.code yX9_in cX9_in 6 (some .boolean) :: gT) (rk 1) (ROp (dC, dI) [] (TY ca) [Value.long v1, Value.long v2, Value.long v3]) (vp_Si (fun r => r = bI (inB v1 v2 v3))) 0 0 (fun _ => False) := by
  refine Met.ofW (cc := cX9_in) (maxL := 6) (ret := (some .boolean)) (by decide) rfl ?_
  intro p e s m args below meth c s₁ B hml hv
  obtain ⟨rfl, hP, hK⟩ := hv
  have hx := B.exec
  have hb := B.bytes
  have hr := B.returns
  have hts := atoms_spec (ws := (Cond.code yX9_in cX9_in 6 (some .boolean) :: gT)) B.pre
  have htl : ∀ w ∈ gT, w.before _ s = true := fun w h => hts w (List.mem_cons_of_mem _ h)
  have hown : s.vm.findClass RX9 = some m.cls := findClass_of_methodNamed B.named
  have hlocks := B.notSynchronized
  have hl := lv_entry ([Value.long v1, Value.long v2, Value.long v3]) (n := 6) (Nat.le_of_ble_eq_true rfl)
  rw [lg_entry_eq]
  generalize (lg_sl ([Value.long v1, Value.long v2, Value.long v3]) ++ List.replicate (6 - (lg_sl ([Value.long v1, Value.long v2, Value.long v3])).length) Slot.unset).toArray = ls at hl ⊢
  have hl : lv_has ls 6 [(0, .long v1), (2, .long v2), (4, .long v3)] := hl
  refine lv_lload_n hx hb dX9_in_0 rfl (lv_at hl 0 rfl) ?_
  refine lv_lload_n hx hb dX9_in_1 rfl (lv_at hl 1 rfl) ?_
  refine W.lcmp hx hb dX9_in_2 ?_
  refine lv_if_lt (tgt := 17) hx hb dX9_in_3 (by decide) (fun c_1 => ?_) (fun c_1 => ?_)
  · rw [lgL] at c_1
    refine lv_iconst (v := nI 0) hx hb dX9_in_17 (by decide) ?_
    exact W.zret (v := nI 0) hx hb hr (by decide +kernel) (fun t ht hW => ⟨nI 0, rfl, by show _ = _; simp [inB, c_1]; rfl, ht⟩) (fun q h => by cases h) dX9_in_18
  · rw [lgL] at c_1
    refine lv_lload_n hx hb dX9_in_6 rfl (lv_at hl 0 rfl) ?_
    refine lv_lload hx hb dX9_in_7 (lv_at hl 2 rfl) ?_
    refine W.lcmp hx hb dX9_in_9 ?_
    refine lv_if_gt (tgt := 17) hx hb dX9_in_10 (by decide) (fun c_2 => ?_) (fun c_2 => ?_)
    · rw [lgG] at c_2
      refine lv_iconst (v := nI 0) hx hb dX9_in_17 (by decide) ?_
      exact W.zret (v := nI 0) hx hb hr (by decide +kernel) (fun t ht hW => ⟨nI 0, rfl, by show _ = _; simp [inB, c_1, c_2]; rfl, ht⟩) (fun q h => by cases h) dX9_in_18
    · rw [lgG] at c_2
      refine lv_iconst (v := nI 1) hx hb dX9_in_13 (by decide) ?_
      refine lv_goto (tgt := 18) hx hb dX9_in_14 (by decide) ?_
      exact W.zret (v := nI 1) hx hb hr (by decide +kernel) (fun t ht hW => ⟨nI 1, rfl, by show _ = _; simp [inB, c_1, c_2]; rfl, ht⟩) (fun q h => by cases h) dX9_in_18
def cpyF (f g : Nat → Int32) (n : Nat) : Nat → Int32 := fun j => if j < n then f j else g j
theorem cpyF_up (f g : Nat → Int32) (i : Nat) : upd (cpyF f g i) i (f i) = cpyF f g (i + 1) := by
  funext j
  unfold upd cpyF
  by_cases h : j = i
  · rw [if_pos h, if_pos (by omega), h]
  · rw [if_neg h]
    by_cases h2 : j < i
    · rw [if_pos h2, if_pos (by omega)]
    · rw [if_neg h2, if_neg (by omega)]
theorem cpyF_0 (f g : Nat → Int32) : cpyF f g 0 = g := by
  funext j
  unfold cpyF
  rw [if_neg (by omega)]
set_option maxHeartbeats 4000000 in
set_option maxRecDepth 100000 in
theorem kXcopy_rows (l : Launch) (dC : Nat → ClassId) (dI : Nat → Nat → Nat) (ca : Nat → ClassId) (sz : Nat) (kd : Nat → Nat) (hm : Nat → Nat) (khm : Nat → Nat) (mq : Nat → Nat) (kkd : Nat → Nat) : Met l yX9_copy (Cond.code yX9_copy cX9_copy 3 none :: gT) (rk 1) (EFp (dC, dI) [(mq 2, .inl (ca 14, 8, .inl (fun zj => nI (rwN kd hm zj)))), (mq 7, .inl (ca 19, 8, .inl (fun zj => nI (rwN kkd khm zj))))] (TY ca) sz [Value.ref (mq 2), Value.ref (mq 7)]) (va_Qv (fun (_ : Unit) => True) (EFb (dC, dI) (fun (_ : Unit) => [(mq 2, .inl (ca 14, 8, .inl (fun zj => nI (rwN kd hm zj)))), (mq 7, .inl (ca 19, 8, .inl (fun zj => nI (rwN kd hm zj))))]) (TY ca) (va_A [(mq 2, .inl (ca 14, 8, .inl (fun zj => nI (rwN kd hm zj)))), (mq 7, .inl (ca 19, 8, .inl (fun zj => nI (rwN kkd khm zj))))] sz)) (va_A [(mq 2, .inl (ca 14, 8, .inl (fun zj => nI (rwN kd hm zj)))), (mq 7, .inl (ca 19, 8, .inl (fun zj => nI (rwN kkd khm zj))))] sz)) 0 0 (va_A [(mq 2, .inl (ca 14, 8, .inl (fun zj => nI (rwN kd hm zj)))), (mq 7, .inl (ca 19, 8, .inl (fun zj => nI (rwN kkd khm zj))))] sz) := by
  refine Met.ofW (cc := cX9_copy) (maxL := 3) (ret := none) (by decide) rfl ?_
  intro p e s m args below meth c s₁ B hml hv
  obtain ⟨rfl, hsz, hP, hK, hD0⟩ := hv
  have hx := B.exec
  have hb := B.bytes
  have hr := B.returns
  have hts := atoms_spec (ws := (Cond.code yX9_copy cX9_copy 3 none :: gT)) B.pre
  have htl : ∀ w ∈ gT, w.before _ s = true := fun w h => hts w (List.mem_cons_of_mem _ h)
  have hown : s.vm.findClass RX9 = some m.cls := findClass_of_methodNamed B.named
  have hlocks := B.notSynchronized
  subst hsz
  have hD := hD0.self (sz := s.heap.size)
  generalize hAe : va_A [(mq 2, .inl (ca 14, 8, .inl (fun zj => nI (rwN kd hm zj)))), (mq 7, .inl (ca 19, 8, .inl (fun zj => nI (rwN kkd khm zj))))] s.heap.size = A at hD ⊢
  have hA : ∀ q : Nat, s.heap.size ≤ q → A q := fun q h => by rw [← hAe]; exact Or.inr h
  have hS : va_S A s.heap s.heap [] := va_S.rf
  have hl := lv_entry ([Value.ref (mq 2), Value.ref (mq 7)]) (n := 3) (Nat.le_of_ble_eq_true rfl)
  rw [lg_entry_eq]
  generalize (lg_sl ([Value.ref (mq 2), Value.ref (mq 7)]) ++ List.replicate (3 - (lg_sl ([Value.ref (mq 2), Value.ref (mq 7)])).length) Slot.unset).toArray = ls at hl ⊢
  have hl : lv_has ls 3 [(0, .ref (mq 2)), (1, .ref (mq 7))] := hl
  refine lv_iconst (v := nI 0) hx hb dX9_copy_0 (by decide) ?_
  refine lv_istore_n (lv' := [(2, .int (nI 0)), (0, .ref (mq 2)), (1, .ref (mq 7))]) hx hb dX9_copy_1 rfl hl (by decide) rfl (fun ls hl => ?_)
  have lp2 : ∀ (n : Nat) (i : Nat), (i + n = 8) → ∀ (H : Heap) (locs : List Loc), va_P (dC, dI) vwCl [(mq 2, .inl (ca 14, 8, .inl (fun zj => nI (rwN kd hm zj)))), (mq 7, .inl (ca 19, 8, .inl (cpyF (fun zj => nI (rwN kd hm zj)) (fun zj => nI (rwN kkd khm zj)) i)))] H → va_D A [(mq 2, .inl (ca 14, 8, .inl (fun zj => nI (rwN kd hm zj)))), (mq 7, .inl (ca 19, 8, .inl (cpyF (fun zj => nI (rwN kd hm zj)) (fun zj => nI (rwN kkd khm zj)) i)))] → va_S A s.heap H locs → ∀ (ls : Array Slot), lv_has ls 3 [(2, .int (nI i)), (0, .ref (mq 2)), (1, .ref (mq 7))] → W p l e (headSpec (Cond.code yX9_copy cX9_copy 3 none :: gT) (rk 1)).room s m ([Value.ref (mq 2), Value.ref (mq 7)] : List Value).toArray below meth c H locs 0 0 (MQ below (va_Qv (fun (_ : Unit) => True) (EFb (dC, dI) (fun (_ : Unit) => [(mq 2, .inl (ca 14, 8, .inl (fun zj => nI (rwN kd hm zj)))), (mq 7, .inl (ca 19, 8, .inl (fun zj => nI (rwN kd hm zj))))]) (TY ca) A) A) ([Value.ref (mq 2), Value.ref (mq 7)] : List Value).toArray s 0 0 A) (F0 m 2 ls []) := by
    clear hS hP hD
    clear hl
    intro n
    induction n with
    | zero =>
      intro i hi H locs hP hD hS ls hl
      refine lv_iload_n hx hb dX9_copy_2 rfl (lv_at hl 0 rfl) ?_
      refine lv_aload_n hx hb dX9_copy_3 rfl (lv_at hl 1 rfl) ?_
      refine va_alen (v := nI 8) hx hb hK hP 0 14 rfl rfl rfl dX9_copy_4 ?_
      refine lv_icmp_ge (tgt := 20) hx hb dX9_copy_5 (by decide) (fun c_1 => ?_) (fun c_1 => ?_)
      · have hP9 := hP.sub (ws' := [(mq 2, .inl (ca 14, 8, .inl (fun zj => nI (rwN kd hm zj)))), (mq 7, .inl (ca 19, 8, .inl (cpyF (fun zj => nI (rwN kd hm zj)) (fun zj => nI (rwN kkd khm zj)) i)))]) [0, 1] rfl
        have hD9 := hD.sub (ws' := [(mq 2, .inl (ca 14, 8, .inl (fun zj => nI (rwN kd hm zj)))), (mq 7, .inl (ca 19, 8, .inl (cpyF (fun zj => nI (rwN kd hm zj)) (fun zj => nI (rwN kkd khm zj)) i)))]) [0, 1] (by decide) rfl
        have hP9 := va_P_fn hP9 1 (g := fun zj => nI (rwN kd hm zj)) rfl (fun j hj => by unfold cpyF; rw [if_pos (by omega)])
        have hD9 := va_D.set (e := .inl (ca 19, 8, .inl (fun zj => nI (rwN kd hm zj)))) hD9 (p := 1) rfl
        exact W.vret hx hb hr (fun t ht hW => ⟨⟨(), rfl, trivial, by rw [ht]; exact hP9, va_K.moved hW.alike hK, hD9⟩, hS.F ht⟩) hS.2.2 dX9_copy_20
      · exact absurd (nI_le (by omega) (by omega)) c_1
    | succ n ih2 =>
      intro i hi H locs hP hD hS ls hl
      refine lv_iload_n hx hb dX9_copy_2 rfl (lv_at hl 0 rfl) ?_
      refine lv_aload_n hx hb dX9_copy_3 rfl (lv_at hl 1 rfl) ?_
      refine va_alen (v := nI 8) hx hb hK hP 0 14 rfl rfl rfl dX9_copy_4 ?_
      refine lv_icmp_ge (tgt := 20) hx hb dX9_copy_5 (by decide) (fun c_2 => ?_) (fun c_2 => ?_)
      · exact absurd c_2 (nI_ge (by omega) (by omega))
      · refine lv_aload_n hx hb dX9_copy_8 rfl (lv_at hl 2 rfl) ?_
        refine lv_iload_n hx hb dX9_copy_9 rfl (lv_at hl 0 rfl) ?_
        refine lv_aload_n hx hb dX9_copy_10 rfl (lv_at hl 1 rfl) ?_
        refine lv_iload_n hx hb dX9_copy_11 rfl (lv_at hl 0 rfl) ?_
        refine va_iald hx hb hK hP 0 14 rfl rfl (vp_in_nI (by omega) (by decide)) dX9_copy_12 ?_
        refine lv_ri (y := nI ((rwN kd hm) i)) (congrArg (fun zj => nI (rwN kd hm zj)) (nI_clamp (by omega))) ?_
        refine va_iast hx hb hK hP hD hS 1 19 rfl rfl (vp_in_nI (by omega) (by decide)) dX9_copy_13 (fun H locs hP hD hS => ?_)
        rw [nI_clamp (show i < 2 ^ 31 by omega)] at hP hD
        have hP : va_P (dC, dI) vwCl [(mq 2, .inl (ca 14, 8, .inl (fun zj => nI (rwN kd hm zj)))), (mq 7, .inl (ca 19, 8, .inl (upd (cpyF (fun zj => nI (rwN kd hm zj)) (fun zj => nI (rwN kkd khm zj)) i) i (nI ((rwN kd hm) i)))))] H := hP
        have hD : va_D A [(mq 2, .inl (ca 14, 8, .inl (fun zj => nI (rwN kd hm zj)))), (mq 7, .inl (ca 19, 8, .inl (upd (cpyF (fun zj => nI (rwN kd hm zj)) (fun zj => nI (rwN kkd khm zj)) i) i (nI ((rwN kd hm) i)))))] := hD
        refine lv_iinc (v := nI (i + 1)) (lv' := [(2, .int (nI (i + 1))), (0, .ref (mq 2)), (1, .ref (mq 7))]) hx hb dX9_copy_14 hl (k := 0) rfl (nI_add i 1) (by decide) rfl (fun ls hl => ?_)
        refine lv_goto (tgt := 2) hx hb dX9_copy_17 (by decide) ?_
        have eq9 := cpyF_up (fun zj => nI (rwN kd hm zj)) (fun zj => nI (rwN kkd khm zj)) i
        rw [show upd (cpyF (fun zj => nI (rwN kd hm zj)) (fun zj => nI (rwN kkd khm zj)) i) i (nI ((rwN kd hm) i)) = cpyF (fun zj => nI (rwN kd hm zj)) (fun zj => nI (rwN kkd khm zj)) (i + 1) from eq9] at hP hD
        exact ih2 (i + 1) (by omega) _ _ (hP.sub [0, 1] rfl) (hD.sub [0, 1] (by decide) rfl) hS ls (lv_sub hl [0, 1, 2] rfl)
  exact lp2 8 0 (by omega) _ _ (by rw [cpyF_0]; exact hP) (by rw [cpyF_0]; exact hD) hS ls (lv_sub hl [0, 1, 2] rfl)
set_option maxHeartbeats 4000000 in
set_option maxRecDepth 100000 in
theorem kXcopy_isl (l : Launch) (dC : Nat → ClassId) (dI : Nat → Nat → Nat) (ca : Nat → ClassId) (sz : Nat) (mq : Nat → Nat) (ib : Nat → Bool) (kib : Nat → Bool) : Met l yX9_copy (Cond.code yX9_copy cX9_copy 3 none :: gT) (rk 1) (EFp (dC, dI) [(mq 3, .inl (ca 15, 36, .inl (fun zj => bI (ib zj)))), (mq 8, .inl (ca 20, 36, .inl (fun zj => bI (kib zj))))] (TY ca) sz [Value.ref (mq 3), Value.ref (mq 8)]) (va_Qv (fun (_ : Unit) => True) (EFb (dC, dI) (fun (_ : Unit) => [(mq 3, .inl (ca 15, 36, .inl (fun zj => bI (ib zj)))), (mq 8, .inl (ca 20, 36, .inl (fun zj => bI (ib zj))))]) (TY ca) (va_A [(mq 3, .inl (ca 15, 36, .inl (fun zj => bI (ib zj)))), (mq 8, .inl (ca 20, 36, .inl (fun zj => bI (kib zj))))] sz)) (va_A [(mq 3, .inl (ca 15, 36, .inl (fun zj => bI (ib zj)))), (mq 8, .inl (ca 20, 36, .inl (fun zj => bI (kib zj))))] sz)) 0 0 (va_A [(mq 3, .inl (ca 15, 36, .inl (fun zj => bI (ib zj)))), (mq 8, .inl (ca 20, 36, .inl (fun zj => bI (kib zj))))] sz) := by
  refine Met.ofW (cc := cX9_copy) (maxL := 3) (ret := none) (by decide) rfl ?_
  intro p e s m args below meth c s₁ B hml hv
  obtain ⟨rfl, hsz, hP, hK, hD0⟩ := hv
  have hx := B.exec
  have hb := B.bytes
  have hr := B.returns
  have hts := atoms_spec (ws := (Cond.code yX9_copy cX9_copy 3 none :: gT)) B.pre
  have htl : ∀ w ∈ gT, w.before _ s = true := fun w h => hts w (List.mem_cons_of_mem _ h)
  have hown : s.vm.findClass RX9 = some m.cls := findClass_of_methodNamed B.named
  have hlocks := B.notSynchronized
  subst hsz
  have hD := hD0.self (sz := s.heap.size)
  generalize hAe : va_A [(mq 3, .inl (ca 15, 36, .inl (fun zj => bI (ib zj)))), (mq 8, .inl (ca 20, 36, .inl (fun zj => bI (kib zj))))] s.heap.size = A at hD ⊢
  have hA : ∀ q : Nat, s.heap.size ≤ q → A q := fun q h => by rw [← hAe]; exact Or.inr h
  have hS : va_S A s.heap s.heap [] := va_S.rf
  have hl := lv_entry ([Value.ref (mq 3), Value.ref (mq 8)]) (n := 3) (Nat.le_of_ble_eq_true rfl)
  rw [lg_entry_eq]
  generalize (lg_sl ([Value.ref (mq 3), Value.ref (mq 8)]) ++ List.replicate (3 - (lg_sl ([Value.ref (mq 3), Value.ref (mq 8)])).length) Slot.unset).toArray = ls at hl ⊢
  have hl : lv_has ls 3 [(0, .ref (mq 3)), (1, .ref (mq 8))] := hl
  refine lv_iconst (v := nI 0) hx hb dX9_copy_0 (by decide) ?_
  refine lv_istore_n (lv' := [(2, .int (nI 0)), (0, .ref (mq 3)), (1, .ref (mq 8))]) hx hb dX9_copy_1 rfl hl (by decide) rfl (fun ls hl => ?_)
  have lp2 : ∀ (n : Nat) (i : Nat), (i + n = 36) → ∀ (H : Heap) (locs : List Loc), va_P (dC, dI) vwCl [(mq 3, .inl (ca 15, 36, .inl (fun zj => bI (ib zj)))), (mq 8, .inl (ca 20, 36, .inl (cpyF (fun zj => bI (ib zj)) (fun zj => bI (kib zj)) i)))] H → va_D A [(mq 3, .inl (ca 15, 36, .inl (fun zj => bI (ib zj)))), (mq 8, .inl (ca 20, 36, .inl (cpyF (fun zj => bI (ib zj)) (fun zj => bI (kib zj)) i)))] → va_S A s.heap H locs → ∀ (ls : Array Slot), lv_has ls 3 [(2, .int (nI i)), (0, .ref (mq 3)), (1, .ref (mq 8))] → W p l e (headSpec (Cond.code yX9_copy cX9_copy 3 none :: gT) (rk 1)).room s m ([Value.ref (mq 3), Value.ref (mq 8)] : List Value).toArray below meth c H locs 0 0 (MQ below (va_Qv (fun (_ : Unit) => True) (EFb (dC, dI) (fun (_ : Unit) => [(mq 3, .inl (ca 15, 36, .inl (fun zj => bI (ib zj)))), (mq 8, .inl (ca 20, 36, .inl (fun zj => bI (ib zj))))]) (TY ca) A) A) ([Value.ref (mq 3), Value.ref (mq 8)] : List Value).toArray s 0 0 A) (F0 m 2 ls []) := by
    clear hS hP hD
    clear hl
    intro n
    induction n with
    | zero =>
      intro i hi H locs hP hD hS ls hl
      refine lv_iload_n hx hb dX9_copy_2 rfl (lv_at hl 0 rfl) ?_
      refine lv_aload_n hx hb dX9_copy_3 rfl (lv_at hl 1 rfl) ?_
      refine va_alen (v := nI 36) hx hb hK hP 0 15 rfl rfl rfl dX9_copy_4 ?_
      refine lv_icmp_ge (tgt := 20) hx hb dX9_copy_5 (by decide) (fun c_1 => ?_) (fun c_1 => ?_)
      · have hP9 := hP.sub (ws' := [(mq 3, .inl (ca 15, 36, .inl (fun zj => bI (ib zj)))), (mq 8, .inl (ca 20, 36, .inl (cpyF (fun zj => bI (ib zj)) (fun zj => bI (kib zj)) i)))]) [0, 1] rfl
        have hD9 := hD.sub (ws' := [(mq 3, .inl (ca 15, 36, .inl (fun zj => bI (ib zj)))), (mq 8, .inl (ca 20, 36, .inl (cpyF (fun zj => bI (ib zj)) (fun zj => bI (kib zj)) i)))]) [0, 1] (by decide) rfl
        have hP9 := va_P_fn hP9 1 (g := fun zj => bI (ib zj)) rfl (fun j hj => by unfold cpyF; rw [if_pos (by omega)])
        have hD9 := va_D.set (e := .inl (ca 20, 36, .inl (fun zj => bI (ib zj)))) hD9 (p := 1) rfl
        exact W.vret hx hb hr (fun t ht hW => ⟨⟨(), rfl, trivial, by rw [ht]; exact hP9, va_K.moved hW.alike hK, hD9⟩, hS.F ht⟩) hS.2.2 dX9_copy_20
      · exact absurd (nI_le (by omega) (by omega)) c_1
    | succ n ih2 =>
      intro i hi H locs hP hD hS ls hl
      refine lv_iload_n hx hb dX9_copy_2 rfl (lv_at hl 0 rfl) ?_
      refine lv_aload_n hx hb dX9_copy_3 rfl (lv_at hl 1 rfl) ?_
      refine va_alen (v := nI 36) hx hb hK hP 0 15 rfl rfl rfl dX9_copy_4 ?_
      refine lv_icmp_ge (tgt := 20) hx hb dX9_copy_5 (by decide) (fun c_2 => ?_) (fun c_2 => ?_)
      · exact absurd c_2 (nI_ge (by omega) (by omega))
      · refine lv_aload_n hx hb dX9_copy_8 rfl (lv_at hl 2 rfl) ?_
        refine lv_iload_n hx hb dX9_copy_9 rfl (lv_at hl 0 rfl) ?_
        refine lv_aload_n hx hb dX9_copy_10 rfl (lv_at hl 1 rfl) ?_
        refine lv_iload_n hx hb dX9_copy_11 rfl (lv_at hl 0 rfl) ?_
        refine va_iald hx hb hK hP 0 15 rfl rfl (vp_in_nI (by omega) (by decide)) dX9_copy_12 ?_
        refine lv_ri (y := bI (ib i)) (congrArg (fun zj => bI (ib zj)) (nI_clamp (by omega))) ?_
        refine va_iast hx hb hK hP hD hS 1 20 rfl rfl (vp_in_nI (by omega) (by decide)) dX9_copy_13 (fun H locs hP hD hS => ?_)
        rw [nI_clamp (show i < 2 ^ 31 by omega)] at hP hD
        have hP : va_P (dC, dI) vwCl [(mq 3, .inl (ca 15, 36, .inl (fun zj => bI (ib zj)))), (mq 8, .inl (ca 20, 36, .inl (upd (cpyF (fun zj => bI (ib zj)) (fun zj => bI (kib zj)) i) i (bI (ib i)))))] H := hP
        have hD : va_D A [(mq 3, .inl (ca 15, 36, .inl (fun zj => bI (ib zj)))), (mq 8, .inl (ca 20, 36, .inl (upd (cpyF (fun zj => bI (ib zj)) (fun zj => bI (kib zj)) i) i (bI (ib i)))))] := hD
        refine lv_iinc (v := nI (i + 1)) (lv' := [(2, .int (nI (i + 1))), (0, .ref (mq 3)), (1, .ref (mq 8))]) hx hb dX9_copy_14 hl (k := 0) rfl (nI_add i 1) (by decide) rfl (fun ls hl => ?_)
        refine lv_goto (tgt := 2) hx hb dX9_copy_17 (by decide) ?_
        have eq9 := cpyF_up (fun zj => bI (ib zj)) (fun zj => bI (kib zj)) i
        rw [show upd (cpyF (fun zj => bI (ib zj)) (fun zj => bI (kib zj)) i) i (bI (ib i)) = cpyF (fun zj => bI (ib zj)) (fun zj => bI (kib zj)) (i + 1) from eq9] at hP hD
        exact ih2 (i + 1) (by omega) _ _ (hP.sub [0, 1] rfl) (hD.sub [0, 1] (by decide) rfl) hS ls (lv_sub hl [0, 1, 2] rfl)
  exact lp2 36 0 (by omega) _ _ (by rw [cpyF_0]; exact hP) (by rw [cpyF_0]; exact hD) hS ls (lv_sub hl [0, 1, 2] rfl)
set_option maxHeartbeats 4000000 in
set_option maxRecDepth 100000 in
theorem kXcopy_sig (l : Launch) (dC : Nat → ClassId) (dI : Nat → Nat → Nat) (ca : Nat → ClassId) (sz : Nat) (sn : Nat → Nat) (sp : Nat → Nat) (sd : Nat → Nat) (ksn : Nat → Nat) (ksp : Nat → Nat) (ksd : Nat → Nat) (mq : Nat → Nat) : Met l yX9_copy (Cond.code yX9_copy cX9_copy 3 none :: gT) (rk 1) (EFp (dC, dI) [(mq 5, .inl (ca 17, 18, .inl (fun zj => nI (sgN sn sp sd zj)))), (mq 9, .inl (ca 21, 18, .inl (fun zj => nI (sgN ksn ksp ksd zj))))] (TY ca) sz [Value.ref (mq 5), Value.ref (mq 9)]) (va_Qv (fun (_ : Unit) => True) (EFb (dC, dI) (fun (_ : Unit) => [(mq 5, .inl (ca 17, 18, .inl (fun zj => nI (sgN sn sp sd zj)))), (mq 9, .inl (ca 21, 18, .inl (fun zj => nI (sgN sn sp sd zj))))]) (TY ca) (va_A [(mq 5, .inl (ca 17, 18, .inl (fun zj => nI (sgN sn sp sd zj)))), (mq 9, .inl (ca 21, 18, .inl (fun zj => nI (sgN ksn ksp ksd zj))))] sz)) (va_A [(mq 5, .inl (ca 17, 18, .inl (fun zj => nI (sgN sn sp sd zj)))), (mq 9, .inl (ca 21, 18, .inl (fun zj => nI (sgN ksn ksp ksd zj))))] sz)) 0 0 (va_A [(mq 5, .inl (ca 17, 18, .inl (fun zj => nI (sgN sn sp sd zj)))), (mq 9, .inl (ca 21, 18, .inl (fun zj => nI (sgN ksn ksp ksd zj))))] sz) := by
  refine Met.ofW (cc := cX9_copy) (maxL := 3) (ret := none) (by decide) rfl ?_
  intro p e s m args below meth c s₁ B hml hv
  obtain ⟨rfl, hsz, hP, hK, hD0⟩ := hv
  have hx := B.exec
  have hb := B.bytes
  have hr := B.returns
  have hts := atoms_spec (ws := (Cond.code yX9_copy cX9_copy 3 none :: gT)) B.pre
  have htl : ∀ w ∈ gT, w.before _ s = true := fun w h => hts w (List.mem_cons_of_mem _ h)
  have hown : s.vm.findClass RX9 = some m.cls := findClass_of_methodNamed B.named
  have hlocks := B.notSynchronized
  subst hsz
  have hD := hD0.self (sz := s.heap.size)
  generalize hAe : va_A [(mq 5, .inl (ca 17, 18, .inl (fun zj => nI (sgN sn sp sd zj)))), (mq 9, .inl (ca 21, 18, .inl (fun zj => nI (sgN ksn ksp ksd zj))))] s.heap.size = A at hD ⊢
  have hA : ∀ q : Nat, s.heap.size ≤ q → A q := fun q h => by rw [← hAe]; exact Or.inr h
  have hS : va_S A s.heap s.heap [] := va_S.rf
  have hl := lv_entry ([Value.ref (mq 5), Value.ref (mq 9)]) (n := 3) (Nat.le_of_ble_eq_true rfl)
  rw [lg_entry_eq]
  generalize (lg_sl ([Value.ref (mq 5), Value.ref (mq 9)]) ++ List.replicate (3 - (lg_sl ([Value.ref (mq 5), Value.ref (mq 9)])).length) Slot.unset).toArray = ls at hl ⊢
  have hl : lv_has ls 3 [(0, .ref (mq 5)), (1, .ref (mq 9))] := hl
  refine lv_iconst (v := nI 0) hx hb dX9_copy_0 (by decide) ?_
  refine lv_istore_n (lv' := [(2, .int (nI 0)), (0, .ref (mq 5)), (1, .ref (mq 9))]) hx hb dX9_copy_1 rfl hl (by decide) rfl (fun ls hl => ?_)
  have lp2 : ∀ (n : Nat) (i : Nat), (i + n = 18) → ∀ (H : Heap) (locs : List Loc), va_P (dC, dI) vwCl [(mq 5, .inl (ca 17, 18, .inl (fun zj => nI (sgN sn sp sd zj)))), (mq 9, .inl (ca 21, 18, .inl (cpyF (fun zj => nI (sgN sn sp sd zj)) (fun zj => nI (sgN ksn ksp ksd zj)) i)))] H → va_D A [(mq 5, .inl (ca 17, 18, .inl (fun zj => nI (sgN sn sp sd zj)))), (mq 9, .inl (ca 21, 18, .inl (cpyF (fun zj => nI (sgN sn sp sd zj)) (fun zj => nI (sgN ksn ksp ksd zj)) i)))] → va_S A s.heap H locs → ∀ (ls : Array Slot), lv_has ls 3 [(2, .int (nI i)), (0, .ref (mq 5)), (1, .ref (mq 9))] → W p l e (headSpec (Cond.code yX9_copy cX9_copy 3 none :: gT) (rk 1)).room s m ([Value.ref (mq 5), Value.ref (mq 9)] : List Value).toArray below meth c H locs 0 0 (MQ below (va_Qv (fun (_ : Unit) => True) (EFb (dC, dI) (fun (_ : Unit) => [(mq 5, .inl (ca 17, 18, .inl (fun zj => nI (sgN sn sp sd zj)))), (mq 9, .inl (ca 21, 18, .inl (fun zj => nI (sgN sn sp sd zj))))]) (TY ca) A) A) ([Value.ref (mq 5), Value.ref (mq 9)] : List Value).toArray s 0 0 A) (F0 m 2 ls []) := by
    clear hS hP hD
    clear hl
    intro n
    induction n with
    | zero =>
      intro i hi H locs hP hD hS ls hl
      refine lv_iload_n hx hb dX9_copy_2 rfl (lv_at hl 0 rfl) ?_
      refine lv_aload_n hx hb dX9_copy_3 rfl (lv_at hl 1 rfl) ?_
      refine va_alen (v := nI 18) hx hb hK hP 0 17 rfl rfl rfl dX9_copy_4 ?_
      refine lv_icmp_ge (tgt := 20) hx hb dX9_copy_5 (by decide) (fun c_1 => ?_) (fun c_1 => ?_)
      · have hP9 := hP.sub (ws' := [(mq 5, .inl (ca 17, 18, .inl (fun zj => nI (sgN sn sp sd zj)))), (mq 9, .inl (ca 21, 18, .inl (cpyF (fun zj => nI (sgN sn sp sd zj)) (fun zj => nI (sgN ksn ksp ksd zj)) i)))]) [0, 1] rfl
        have hD9 := hD.sub (ws' := [(mq 5, .inl (ca 17, 18, .inl (fun zj => nI (sgN sn sp sd zj)))), (mq 9, .inl (ca 21, 18, .inl (cpyF (fun zj => nI (sgN sn sp sd zj)) (fun zj => nI (sgN ksn ksp ksd zj)) i)))]) [0, 1] (by decide) rfl
        have hP9 := va_P_fn hP9 1 (g := fun zj => nI (sgN sn sp sd zj)) rfl (fun j hj => by unfold cpyF; rw [if_pos (by omega)])
        have hD9 := va_D.set (e := .inl (ca 21, 18, .inl (fun zj => nI (sgN sn sp sd zj)))) hD9 (p := 1) rfl
        exact W.vret hx hb hr (fun t ht hW => ⟨⟨(), rfl, trivial, by rw [ht]; exact hP9, va_K.moved hW.alike hK, hD9⟩, hS.F ht⟩) hS.2.2 dX9_copy_20
      · exact absurd (nI_le (by omega) (by omega)) c_1
    | succ n ih2 =>
      intro i hi H locs hP hD hS ls hl
      refine lv_iload_n hx hb dX9_copy_2 rfl (lv_at hl 0 rfl) ?_
      refine lv_aload_n hx hb dX9_copy_3 rfl (lv_at hl 1 rfl) ?_
      refine va_alen (v := nI 18) hx hb hK hP 0 17 rfl rfl rfl dX9_copy_4 ?_
      refine lv_icmp_ge (tgt := 20) hx hb dX9_copy_5 (by decide) (fun c_2 => ?_) (fun c_2 => ?_)
      · exact absurd c_2 (nI_ge (by omega) (by omega))
      · refine lv_aload_n hx hb dX9_copy_8 rfl (lv_at hl 2 rfl) ?_
        refine lv_iload_n hx hb dX9_copy_9 rfl (lv_at hl 0 rfl) ?_
        refine lv_aload_n hx hb dX9_copy_10 rfl (lv_at hl 1 rfl) ?_
        refine lv_iload_n hx hb dX9_copy_11 rfl (lv_at hl 0 rfl) ?_
        refine va_iald hx hb hK hP 0 17 rfl rfl (vp_in_nI (by omega) (by decide)) dX9_copy_12 ?_
        refine lv_ri (y := nI ((sgN sn sp sd) i)) (congrArg (fun zj => nI (sgN sn sp sd zj)) (nI_clamp (by omega))) ?_
        refine va_iast hx hb hK hP hD hS 1 21 rfl rfl (vp_in_nI (by omega) (by decide)) dX9_copy_13 (fun H locs hP hD hS => ?_)
        rw [nI_clamp (show i < 2 ^ 31 by omega)] at hP hD
        have hP : va_P (dC, dI) vwCl [(mq 5, .inl (ca 17, 18, .inl (fun zj => nI (sgN sn sp sd zj)))), (mq 9, .inl (ca 21, 18, .inl (upd (cpyF (fun zj => nI (sgN sn sp sd zj)) (fun zj => nI (sgN ksn ksp ksd zj)) i) i (nI ((sgN sn sp sd) i)))))] H := hP
        have hD : va_D A [(mq 5, .inl (ca 17, 18, .inl (fun zj => nI (sgN sn sp sd zj)))), (mq 9, .inl (ca 21, 18, .inl (upd (cpyF (fun zj => nI (sgN sn sp sd zj)) (fun zj => nI (sgN ksn ksp ksd zj)) i) i (nI ((sgN sn sp sd) i)))))] := hD
        refine lv_iinc (v := nI (i + 1)) (lv' := [(2, .int (nI (i + 1))), (0, .ref (mq 5)), (1, .ref (mq 9))]) hx hb dX9_copy_14 hl (k := 0) rfl (nI_add i 1) (by decide) rfl (fun ls hl => ?_)
        refine lv_goto (tgt := 2) hx hb dX9_copy_17 (by decide) ?_
        have eq9 := cpyF_up (fun zj => nI (sgN sn sp sd zj)) (fun zj => nI (sgN ksn ksp ksd zj)) i
        rw [show upd (cpyF (fun zj => nI (sgN sn sp sd zj)) (fun zj => nI (sgN ksn ksp ksd zj)) i) i (nI ((sgN sn sp sd) i)) = cpyF (fun zj => nI (sgN sn sp sd zj)) (fun zj => nI (sgN ksn ksp ksd zj)) (i + 1) from eq9] at hP hD
        exact ih2 (i + 1) (by omega) _ _ (hP.sub [0, 1] rfl) (hD.sub [0, 1] (by decide) rfl) hS ls (lv_sub hl [0, 1, 2] rfl)
  exact lp2 18 0 (by omega) _ _ (by rw [cpyF_0]; exact hP) (by rw [cpyF_0]; exact hD) hS ls (lv_sub hl [0, 1, 2] rfl)
set_option maxHeartbeats 4000000 in
set_option maxRecDepth 100000 in
theorem kXcopy_krows (l : Launch) (dC : Nat → ClassId) (dI : Nat → Nat → Nat) (ca : Nat → ClassId) (sz : Nat) (kd : Nat → Nat) (hm : Nat → Nat) (khm : Nat → Nat) (mq : Nat → Nat) (kkd : Nat → Nat) : Met l yX9_copy (Cond.code yX9_copy cX9_copy 3 none :: gT) (rk 1) (EFp (dC, dI) [(mq 7, .inl (ca 19, 8, .inl (fun zj => nI (rwN kkd khm zj)))), (mq 2, .inl (ca 14, 8, .inl (fun zj => nI (rwN kd hm zj))))] (TY ca) sz [Value.ref (mq 7), Value.ref (mq 2)]) (va_Qv (fun (_ : Unit) => True) (EFb (dC, dI) (fun (_ : Unit) => [(mq 7, .inl (ca 19, 8, .inl (fun zj => nI (rwN kkd khm zj)))), (mq 2, .inl (ca 14, 8, .inl (fun zj => nI (rwN kkd khm zj))))]) (TY ca) (va_A [(mq 7, .inl (ca 19, 8, .inl (fun zj => nI (rwN kkd khm zj)))), (mq 2, .inl (ca 14, 8, .inl (fun zj => nI (rwN kd hm zj))))] sz)) (va_A [(mq 7, .inl (ca 19, 8, .inl (fun zj => nI (rwN kkd khm zj)))), (mq 2, .inl (ca 14, 8, .inl (fun zj => nI (rwN kd hm zj))))] sz)) 0 0 (va_A [(mq 7, .inl (ca 19, 8, .inl (fun zj => nI (rwN kkd khm zj)))), (mq 2, .inl (ca 14, 8, .inl (fun zj => nI (rwN kd hm zj))))] sz) := by
  refine Met.ofW (cc := cX9_copy) (maxL := 3) (ret := none) (by decide) rfl ?_
  intro p e s m args below meth c s₁ B hml hv
  obtain ⟨rfl, hsz, hP, hK, hD0⟩ := hv
  have hx := B.exec
  have hb := B.bytes
  have hr := B.returns
  have hts := atoms_spec (ws := (Cond.code yX9_copy cX9_copy 3 none :: gT)) B.pre
  have htl : ∀ w ∈ gT, w.before _ s = true := fun w h => hts w (List.mem_cons_of_mem _ h)
  have hown : s.vm.findClass RX9 = some m.cls := findClass_of_methodNamed B.named
  have hlocks := B.notSynchronized
  subst hsz
  have hD := hD0.self (sz := s.heap.size)
  generalize hAe : va_A [(mq 7, .inl (ca 19, 8, .inl (fun zj => nI (rwN kkd khm zj)))), (mq 2, .inl (ca 14, 8, .inl (fun zj => nI (rwN kd hm zj))))] s.heap.size = A at hD ⊢
  have hA : ∀ q : Nat, s.heap.size ≤ q → A q := fun q h => by rw [← hAe]; exact Or.inr h
  have hS : va_S A s.heap s.heap [] := va_S.rf
  have hl := lv_entry ([Value.ref (mq 7), Value.ref (mq 2)]) (n := 3) (Nat.le_of_ble_eq_true rfl)
  rw [lg_entry_eq]
  generalize (lg_sl ([Value.ref (mq 7), Value.ref (mq 2)]) ++ List.replicate (3 - (lg_sl ([Value.ref (mq 7), Value.ref (mq 2)])).length) Slot.unset).toArray = ls at hl ⊢
  have hl : lv_has ls 3 [(0, .ref (mq 7)), (1, .ref (mq 2))] := hl
  refine lv_iconst (v := nI 0) hx hb dX9_copy_0 (by decide) ?_
  refine lv_istore_n (lv' := [(2, .int (nI 0)), (0, .ref (mq 7)), (1, .ref (mq 2))]) hx hb dX9_copy_1 rfl hl (by decide) rfl (fun ls hl => ?_)
  have lp2 : ∀ (n : Nat) (i : Nat), (i + n = 8) → ∀ (H : Heap) (locs : List Loc), va_P (dC, dI) vwCl [(mq 7, .inl (ca 19, 8, .inl (fun zj => nI (rwN kkd khm zj)))), (mq 2, .inl (ca 14, 8, .inl (cpyF (fun zj => nI (rwN kkd khm zj)) (fun zj => nI (rwN kd hm zj)) i)))] H → va_D A [(mq 7, .inl (ca 19, 8, .inl (fun zj => nI (rwN kkd khm zj)))), (mq 2, .inl (ca 14, 8, .inl (cpyF (fun zj => nI (rwN kkd khm zj)) (fun zj => nI (rwN kd hm zj)) i)))] → va_S A s.heap H locs → ∀ (ls : Array Slot), lv_has ls 3 [(2, .int (nI i)), (0, .ref (mq 7)), (1, .ref (mq 2))] → W p l e (headSpec (Cond.code yX9_copy cX9_copy 3 none :: gT) (rk 1)).room s m ([Value.ref (mq 7), Value.ref (mq 2)] : List Value).toArray below meth c H locs 0 0 (MQ below (va_Qv (fun (_ : Unit) => True) (EFb (dC, dI) (fun (_ : Unit) => [(mq 7, .inl (ca 19, 8, .inl (fun zj => nI (rwN kkd khm zj)))), (mq 2, .inl (ca 14, 8, .inl (fun zj => nI (rwN kkd khm zj))))]) (TY ca) A) A) ([Value.ref (mq 7), Value.ref (mq 2)] : List Value).toArray s 0 0 A) (F0 m 2 ls []) := by
    clear hS hP hD
    clear hl
    intro n
    induction n with
    | zero =>
      intro i hi H locs hP hD hS ls hl
      refine lv_iload_n hx hb dX9_copy_2 rfl (lv_at hl 0 rfl) ?_
      refine lv_aload_n hx hb dX9_copy_3 rfl (lv_at hl 1 rfl) ?_
      refine va_alen (v := nI 8) hx hb hK hP 0 19 rfl rfl rfl dX9_copy_4 ?_
      refine lv_icmp_ge (tgt := 20) hx hb dX9_copy_5 (by decide) (fun c_1 => ?_) (fun c_1 => ?_)
      · have hP9 := hP.sub (ws' := [(mq 7, .inl (ca 19, 8, .inl (fun zj => nI (rwN kkd khm zj)))), (mq 2, .inl (ca 14, 8, .inl (cpyF (fun zj => nI (rwN kkd khm zj)) (fun zj => nI (rwN kd hm zj)) i)))]) [0, 1] rfl
        have hD9 := hD.sub (ws' := [(mq 7, .inl (ca 19, 8, .inl (fun zj => nI (rwN kkd khm zj)))), (mq 2, .inl (ca 14, 8, .inl (cpyF (fun zj => nI (rwN kkd khm zj)) (fun zj => nI (rwN kd hm zj)) i)))]) [0, 1] (by decide) rfl
        have hP9 := va_P_fn hP9 1 (g := fun zj => nI (rwN kkd khm zj)) rfl (fun j hj => by unfold cpyF; rw [if_pos (by omega)])
        have hD9 := va_D.set (e := .inl (ca 14, 8, .inl (fun zj => nI (rwN kkd khm zj)))) hD9 (p := 1) rfl
        exact W.vret hx hb hr (fun t ht hW => ⟨⟨(), rfl, trivial, by rw [ht]; exact hP9, va_K.moved hW.alike hK, hD9⟩, hS.F ht⟩) hS.2.2 dX9_copy_20
      · exact absurd (nI_le (by omega) (by omega)) c_1
    | succ n ih2 =>
      intro i hi H locs hP hD hS ls hl
      refine lv_iload_n hx hb dX9_copy_2 rfl (lv_at hl 0 rfl) ?_
      refine lv_aload_n hx hb dX9_copy_3 rfl (lv_at hl 1 rfl) ?_
      refine va_alen (v := nI 8) hx hb hK hP 0 19 rfl rfl rfl dX9_copy_4 ?_
      refine lv_icmp_ge (tgt := 20) hx hb dX9_copy_5 (by decide) (fun c_2 => ?_) (fun c_2 => ?_)
      · exact absurd c_2 (nI_ge (by omega) (by omega))
      · refine lv_aload_n hx hb dX9_copy_8 rfl (lv_at hl 2 rfl) ?_
        refine lv_iload_n hx hb dX9_copy_9 rfl (lv_at hl 0 rfl) ?_
        refine lv_aload_n hx hb dX9_copy_10 rfl (lv_at hl 1 rfl) ?_
        refine lv_iload_n hx hb dX9_copy_11 rfl (lv_at hl 0 rfl) ?_
        refine va_iald hx hb hK hP 0 19 rfl rfl (vp_in_nI (by omega) (by decide)) dX9_copy_12 ?_
        refine lv_ri (y := nI ((rwN kkd khm) i)) (congrArg (fun zj => nI (rwN kkd khm zj)) (nI_clamp (by omega))) ?_
        refine va_iast hx hb hK hP hD hS 1 14 rfl rfl (vp_in_nI (by omega) (by decide)) dX9_copy_13 (fun H locs hP hD hS => ?_)
        rw [nI_clamp (show i < 2 ^ 31 by omega)] at hP hD
        have hP : va_P (dC, dI) vwCl [(mq 7, .inl (ca 19, 8, .inl (fun zj => nI (rwN kkd khm zj)))), (mq 2, .inl (ca 14, 8, .inl (upd (cpyF (fun zj => nI (rwN kkd khm zj)) (fun zj => nI (rwN kd hm zj)) i) i (nI ((rwN kkd khm) i)))))] H := hP
        have hD : va_D A [(mq 7, .inl (ca 19, 8, .inl (fun zj => nI (rwN kkd khm zj)))), (mq 2, .inl (ca 14, 8, .inl (upd (cpyF (fun zj => nI (rwN kkd khm zj)) (fun zj => nI (rwN kd hm zj)) i) i (nI ((rwN kkd khm) i)))))] := hD
        refine lv_iinc (v := nI (i + 1)) (lv' := [(2, .int (nI (i + 1))), (0, .ref (mq 7)), (1, .ref (mq 2))]) hx hb dX9_copy_14 hl (k := 0) rfl (nI_add i 1) (by decide) rfl (fun ls hl => ?_)
        refine lv_goto (tgt := 2) hx hb dX9_copy_17 (by decide) ?_
        have eq9 := cpyF_up (fun zj => nI (rwN kkd khm zj)) (fun zj => nI (rwN kd hm zj)) i
        rw [show upd (cpyF (fun zj => nI (rwN kkd khm zj)) (fun zj => nI (rwN kd hm zj)) i) i (nI ((rwN kkd khm) i)) = cpyF (fun zj => nI (rwN kkd khm zj)) (fun zj => nI (rwN kd hm zj)) (i + 1) from eq9] at hP hD
        exact ih2 (i + 1) (by omega) _ _ (hP.sub [0, 1] rfl) (hD.sub [0, 1] (by decide) rfl) hS ls (lv_sub hl [0, 1, 2] rfl)
  exact lp2 8 0 (by omega) _ _ (by rw [cpyF_0]; exact hP) (by rw [cpyF_0]; exact hD) hS ls (lv_sub hl [0, 1, 2] rfl)
set_option maxHeartbeats 4000000 in
set_option maxRecDepth 100000 in
theorem kXcopy_kisl (l : Launch) (dC : Nat → ClassId) (dI : Nat → Nat → Nat) (ca : Nat → ClassId) (sz : Nat) (mq : Nat → Nat) (ib : Nat → Bool) (kib : Nat → Bool) : Met l yX9_copy (Cond.code yX9_copy cX9_copy 3 none :: gT) (rk 1) (EFp (dC, dI) [(mq 8, .inl (ca 20, 36, .inl (fun zj => bI (kib zj)))), (mq 3, .inl (ca 15, 36, .inl (fun zj => bI (ib zj))))] (TY ca) sz [Value.ref (mq 8), Value.ref (mq 3)]) (va_Qv (fun (_ : Unit) => True) (EFb (dC, dI) (fun (_ : Unit) => [(mq 8, .inl (ca 20, 36, .inl (fun zj => bI (kib zj)))), (mq 3, .inl (ca 15, 36, .inl (fun zj => bI (kib zj))))]) (TY ca) (va_A [(mq 8, .inl (ca 20, 36, .inl (fun zj => bI (kib zj)))), (mq 3, .inl (ca 15, 36, .inl (fun zj => bI (ib zj))))] sz)) (va_A [(mq 8, .inl (ca 20, 36, .inl (fun zj => bI (kib zj)))), (mq 3, .inl (ca 15, 36, .inl (fun zj => bI (ib zj))))] sz)) 0 0 (va_A [(mq 8, .inl (ca 20, 36, .inl (fun zj => bI (kib zj)))), (mq 3, .inl (ca 15, 36, .inl (fun zj => bI (ib zj))))] sz) := by
  refine Met.ofW (cc := cX9_copy) (maxL := 3) (ret := none) (by decide) rfl ?_
  intro p e s m args below meth c s₁ B hml hv
  obtain ⟨rfl, hsz, hP, hK, hD0⟩ := hv
  have hx := B.exec
  have hb := B.bytes
  have hr := B.returns
  have hts := atoms_spec (ws := (Cond.code yX9_copy cX9_copy 3 none :: gT)) B.pre
  have htl : ∀ w ∈ gT, w.before _ s = true := fun w h => hts w (List.mem_cons_of_mem _ h)
  have hown : s.vm.findClass RX9 = some m.cls := findClass_of_methodNamed B.named
  have hlocks := B.notSynchronized
  subst hsz
  have hD := hD0.self (sz := s.heap.size)
  generalize hAe : va_A [(mq 8, .inl (ca 20, 36, .inl (fun zj => bI (kib zj)))), (mq 3, .inl (ca 15, 36, .inl (fun zj => bI (ib zj))))] s.heap.size = A at hD ⊢
  have hA : ∀ q : Nat, s.heap.size ≤ q → A q := fun q h => by rw [← hAe]; exact Or.inr h
  have hS : va_S A s.heap s.heap [] := va_S.rf
  have hl := lv_entry ([Value.ref (mq 8), Value.ref (mq 3)]) (n := 3) (Nat.le_of_ble_eq_true rfl)
  rw [lg_entry_eq]
  generalize (lg_sl ([Value.ref (mq 8), Value.ref (mq 3)]) ++ List.replicate (3 - (lg_sl ([Value.ref (mq 8), Value.ref (mq 3)])).length) Slot.unset).toArray = ls at hl ⊢
  have hl : lv_has ls 3 [(0, .ref (mq 8)), (1, .ref (mq 3))] := hl
  refine lv_iconst (v := nI 0) hx hb dX9_copy_0 (by decide) ?_
  refine lv_istore_n (lv' := [(2, .int (nI 0)), (0, .ref (mq 8)), (1, .ref (mq 3))]) hx hb dX9_copy_1 rfl hl (by decide) rfl (fun ls hl => ?_)
  have lp2 : ∀ (n : Nat) (i : Nat), (i + n = 36) → ∀ (H : Heap) (locs : List Loc), va_P (dC, dI) vwCl [(mq 8, .inl (ca 20, 36, .inl (fun zj => bI (kib zj)))), (mq 3, .inl (ca 15, 36, .inl (cpyF (fun zj => bI (kib zj)) (fun zj => bI (ib zj)) i)))] H → va_D A [(mq 8, .inl (ca 20, 36, .inl (fun zj => bI (kib zj)))), (mq 3, .inl (ca 15, 36, .inl (cpyF (fun zj => bI (kib zj)) (fun zj => bI (ib zj)) i)))] → va_S A s.heap H locs → ∀ (ls : Array Slot), lv_has ls 3 [(2, .int (nI i)), (0, .ref (mq 8)), (1, .ref (mq 3))] → W p l e (headSpec (Cond.code yX9_copy cX9_copy 3 none :: gT) (rk 1)).room s m ([Value.ref (mq 8), Value.ref (mq 3)] : List Value).toArray below meth c H locs 0 0 (MQ below (va_Qv (fun (_ : Unit) => True) (EFb (dC, dI) (fun (_ : Unit) => [(mq 8, .inl (ca 20, 36, .inl (fun zj => bI (kib zj)))), (mq 3, .inl (ca 15, 36, .inl (fun zj => bI (kib zj))))]) (TY ca) A) A) ([Value.ref (mq 8), Value.ref (mq 3)] : List Value).toArray s 0 0 A) (F0 m 2 ls []) := by
    clear hS hP hD
    clear hl
    intro n
    induction n with
    | zero =>
      intro i hi H locs hP hD hS ls hl
      refine lv_iload_n hx hb dX9_copy_2 rfl (lv_at hl 0 rfl) ?_
      refine lv_aload_n hx hb dX9_copy_3 rfl (lv_at hl 1 rfl) ?_
      refine va_alen (v := nI 36) hx hb hK hP 0 20 rfl rfl rfl dX9_copy_4 ?_
      refine lv_icmp_ge (tgt := 20) hx hb dX9_copy_5 (by decide) (fun c_1 => ?_) (fun c_1 => ?_)
      · have hP9 := hP.sub (ws' := [(mq 8, .inl (ca 20, 36, .inl (fun zj => bI (kib zj)))), (mq 3, .inl (ca 15, 36, .inl (cpyF (fun zj => bI (kib zj)) (fun zj => bI (ib zj)) i)))]) [0, 1] rfl
        have hD9 := hD.sub (ws' := [(mq 8, .inl (ca 20, 36, .inl (fun zj => bI (kib zj)))), (mq 3, .inl (ca 15, 36, .inl (cpyF (fun zj => bI (kib zj)) (fun zj => bI (ib zj)) i)))]) [0, 1] (by decide) rfl
        have hP9 := va_P_fn hP9 1 (g := fun zj => bI (kib zj)) rfl (fun j hj => by unfold cpyF; rw [if_pos (by omega)])
        have hD9 := va_D.set (e := .inl (ca 15, 36, .inl (fun zj => bI (kib zj)))) hD9 (p := 1) rfl
        exact W.vret hx hb hr (fun t ht hW => ⟨⟨(), rfl, trivial, by rw [ht]; exact hP9, va_K.moved hW.alike hK, hD9⟩, hS.F ht⟩) hS.2.2 dX9_copy_20
      · exact absurd (nI_le (by omega) (by omega)) c_1
    | succ n ih2 =>
      intro i hi H locs hP hD hS ls hl
      refine lv_iload_n hx hb dX9_copy_2 rfl (lv_at hl 0 rfl) ?_
      refine lv_aload_n hx hb dX9_copy_3 rfl (lv_at hl 1 rfl) ?_
      refine va_alen (v := nI 36) hx hb hK hP 0 20 rfl rfl rfl dX9_copy_4 ?_
      refine lv_icmp_ge (tgt := 20) hx hb dX9_copy_5 (by decide) (fun c_2 => ?_) (fun c_2 => ?_)
      · exact absurd c_2 (nI_ge (by omega) (by omega))
      · refine lv_aload_n hx hb dX9_copy_8 rfl (lv_at hl 2 rfl) ?_
        refine lv_iload_n hx hb dX9_copy_9 rfl (lv_at hl 0 rfl) ?_
        refine lv_aload_n hx hb dX9_copy_10 rfl (lv_at hl 1 rfl) ?_
        refine lv_iload_n hx hb dX9_copy_11 rfl (lv_at hl 0 rfl) ?_
        refine va_iald hx hb hK hP 0 20 rfl rfl (vp_in_nI (by omega) (by decide)) dX9_copy_12 ?_
        refine lv_ri (y := bI (kib i)) (congrArg (fun zj => bI (kib zj)) (nI_clamp (by omega))) ?_
        refine va_iast hx hb hK hP hD hS 1 15 rfl rfl (vp_in_nI (by omega) (by decide)) dX9_copy_13 (fun H locs hP hD hS => ?_)
        rw [nI_clamp (show i < 2 ^ 31 by omega)] at hP hD
        have hP : va_P (dC, dI) vwCl [(mq 8, .inl (ca 20, 36, .inl (fun zj => bI (kib zj)))), (mq 3, .inl (ca 15, 36, .inl (upd (cpyF (fun zj => bI (kib zj)) (fun zj => bI (ib zj)) i) i (bI (kib i)))))] H := hP
        have hD : va_D A [(mq 8, .inl (ca 20, 36, .inl (fun zj => bI (kib zj)))), (mq 3, .inl (ca 15, 36, .inl (upd (cpyF (fun zj => bI (kib zj)) (fun zj => bI (ib zj)) i) i (bI (kib i)))))] := hD
        refine lv_iinc (v := nI (i + 1)) (lv' := [(2, .int (nI (i + 1))), (0, .ref (mq 8)), (1, .ref (mq 3))]) hx hb dX9_copy_14 hl (k := 0) rfl (nI_add i 1) (by decide) rfl (fun ls hl => ?_)
        refine lv_goto (tgt := 2) hx hb dX9_copy_17 (by decide) ?_
        have eq9 := cpyF_up (fun zj => bI (kib zj)) (fun zj => bI (ib zj)) i
        rw [show upd (cpyF (fun zj => bI (kib zj)) (fun zj => bI (ib zj)) i) i (bI (kib i)) = cpyF (fun zj => bI (kib zj)) (fun zj => bI (ib zj)) (i + 1) from eq9] at hP hD
        exact ih2 (i + 1) (by omega) _ _ (hP.sub [0, 1] rfl) (hD.sub [0, 1] (by decide) rfl) hS ls (lv_sub hl [0, 1, 2] rfl)
  exact lp2 36 0 (by omega) _ _ (by rw [cpyF_0]; exact hP) (by rw [cpyF_0]; exact hD) hS ls (lv_sub hl [0, 1, 2] rfl)
set_option maxHeartbeats 4000000 in
set_option maxRecDepth 100000 in
theorem kXcopy_ksig (l : Launch) (dC : Nat → ClassId) (dI : Nat → Nat → Nat) (ca : Nat → ClassId) (sz : Nat) (sn : Nat → Nat) (sp : Nat → Nat) (sd : Nat → Nat) (ksn : Nat → Nat) (ksp : Nat → Nat) (ksd : Nat → Nat) (mq : Nat → Nat) : Met l yX9_copy (Cond.code yX9_copy cX9_copy 3 none :: gT) (rk 1) (EFp (dC, dI) [(mq 9, .inl (ca 21, 18, .inl (fun zj => nI (sgN ksn ksp ksd zj)))), (mq 5, .inl (ca 17, 18, .inl (fun zj => nI (sgN sn sp sd zj))))] (TY ca) sz [Value.ref (mq 9), Value.ref (mq 5)]) (va_Qv (fun (_ : Unit) => True) (EFb (dC, dI) (fun (_ : Unit) => [(mq 9, .inl (ca 21, 18, .inl (fun zj => nI (sgN ksn ksp ksd zj)))), (mq 5, .inl (ca 17, 18, .inl (fun zj => nI (sgN ksn ksp ksd zj))))]) (TY ca) (va_A [(mq 9, .inl (ca 21, 18, .inl (fun zj => nI (sgN ksn ksp ksd zj)))), (mq 5, .inl (ca 17, 18, .inl (fun zj => nI (sgN sn sp sd zj))))] sz)) (va_A [(mq 9, .inl (ca 21, 18, .inl (fun zj => nI (sgN ksn ksp ksd zj)))), (mq 5, .inl (ca 17, 18, .inl (fun zj => nI (sgN sn sp sd zj))))] sz)) 0 0 (va_A [(mq 9, .inl (ca 21, 18, .inl (fun zj => nI (sgN ksn ksp ksd zj)))), (mq 5, .inl (ca 17, 18, .inl (fun zj => nI (sgN sn sp sd zj))))] sz) := by
  refine Met.ofW (cc := cX9_copy) (maxL := 3) (ret := none) (by decide) rfl ?_
  intro p e s m args below meth c s₁ B hml hv
  obtain ⟨rfl, hsz, hP, hK, hD0⟩ := hv
  have hx := B.exec
  have hb := B.bytes
  have hr := B.returns
  have hts := atoms_spec (ws := (Cond.code yX9_copy cX9_copy 3 none :: gT)) B.pre
  have htl : ∀ w ∈ gT, w.before _ s = true := fun w h => hts w (List.mem_cons_of_mem _ h)
  have hown : s.vm.findClass RX9 = some m.cls := findClass_of_methodNamed B.named
  have hlocks := B.notSynchronized
  subst hsz
  have hD := hD0.self (sz := s.heap.size)
  generalize hAe : va_A [(mq 9, .inl (ca 21, 18, .inl (fun zj => nI (sgN ksn ksp ksd zj)))), (mq 5, .inl (ca 17, 18, .inl (fun zj => nI (sgN sn sp sd zj))))] s.heap.size = A at hD ⊢
  have hA : ∀ q : Nat, s.heap.size ≤ q → A q := fun q h => by rw [← hAe]; exact Or.inr h
  have hS : va_S A s.heap s.heap [] := va_S.rf
  have hl := lv_entry ([Value.ref (mq 9), Value.ref (mq 5)]) (n := 3) (Nat.le_of_ble_eq_true rfl)
  rw [lg_entry_eq]
  generalize (lg_sl ([Value.ref (mq 9), Value.ref (mq 5)]) ++ List.replicate (3 - (lg_sl ([Value.ref (mq 9), Value.ref (mq 5)])).length) Slot.unset).toArray = ls at hl ⊢
  have hl : lv_has ls 3 [(0, .ref (mq 9)), (1, .ref (mq 5))] := hl
  refine lv_iconst (v := nI 0) hx hb dX9_copy_0 (by decide) ?_
  refine lv_istore_n (lv' := [(2, .int (nI 0)), (0, .ref (mq 9)), (1, .ref (mq 5))]) hx hb dX9_copy_1 rfl hl (by decide) rfl (fun ls hl => ?_)
  have lp2 : ∀ (n : Nat) (i : Nat), (i + n = 18) → ∀ (H : Heap) (locs : List Loc), va_P (dC, dI) vwCl [(mq 9, .inl (ca 21, 18, .inl (fun zj => nI (sgN ksn ksp ksd zj)))), (mq 5, .inl (ca 17, 18, .inl (cpyF (fun zj => nI (sgN ksn ksp ksd zj)) (fun zj => nI (sgN sn sp sd zj)) i)))] H → va_D A [(mq 9, .inl (ca 21, 18, .inl (fun zj => nI (sgN ksn ksp ksd zj)))), (mq 5, .inl (ca 17, 18, .inl (cpyF (fun zj => nI (sgN ksn ksp ksd zj)) (fun zj => nI (sgN sn sp sd zj)) i)))] → va_S A s.heap H locs → ∀ (ls : Array Slot), lv_has ls 3 [(2, .int (nI i)), (0, .ref (mq 9)), (1, .ref (mq 5))] → W p l e (headSpec (Cond.code yX9_copy cX9_copy 3 none :: gT) (rk 1)).room s m ([Value.ref (mq 9), Value.ref (mq 5)] : List Value).toArray below meth c H locs 0 0 (MQ below (va_Qv (fun (_ : Unit) => True) (EFb (dC, dI) (fun (_ : Unit) => [(mq 9, .inl (ca 21, 18, .inl (fun zj => nI (sgN ksn ksp ksd zj)))), (mq 5, .inl (ca 17, 18, .inl (fun zj => nI (sgN ksn ksp ksd zj))))]) (TY ca) A) A) ([Value.ref (mq 9), Value.ref (mq 5)] : List Value).toArray s 0 0 A) (F0 m 2 ls []) := by
    clear hS hP hD
    clear hl
    intro n
    induction n with
    | zero =>
      intro i hi H locs hP hD hS ls hl
      refine lv_iload_n hx hb dX9_copy_2 rfl (lv_at hl 0 rfl) ?_
      refine lv_aload_n hx hb dX9_copy_3 rfl (lv_at hl 1 rfl) ?_
      refine va_alen (v := nI 18) hx hb hK hP 0 21 rfl rfl rfl dX9_copy_4 ?_
      refine lv_icmp_ge (tgt := 20) hx hb dX9_copy_5 (by decide) (fun c_1 => ?_) (fun c_1 => ?_)
      · have hP9 := hP.sub (ws' := [(mq 9, .inl (ca 21, 18, .inl (fun zj => nI (sgN ksn ksp ksd zj)))), (mq 5, .inl (ca 17, 18, .inl (cpyF (fun zj => nI (sgN ksn ksp ksd zj)) (fun zj => nI (sgN sn sp sd zj)) i)))]) [0, 1] rfl
        have hD9 := hD.sub (ws' := [(mq 9, .inl (ca 21, 18, .inl (fun zj => nI (sgN ksn ksp ksd zj)))), (mq 5, .inl (ca 17, 18, .inl (cpyF (fun zj => nI (sgN ksn ksp ksd zj)) (fun zj => nI (sgN sn sp sd zj)) i)))]) [0, 1] (by decide) rfl
        have hP9 := va_P_fn hP9 1 (g := fun zj => nI (sgN ksn ksp ksd zj)) rfl (fun j hj => by unfold cpyF; rw [if_pos (by omega)])
        have hD9 := va_D.set (e := .inl (ca 17, 18, .inl (fun zj => nI (sgN ksn ksp ksd zj)))) hD9 (p := 1) rfl
        exact W.vret hx hb hr (fun t ht hW => ⟨⟨(), rfl, trivial, by rw [ht]; exact hP9, va_K.moved hW.alike hK, hD9⟩, hS.F ht⟩) hS.2.2 dX9_copy_20
      · exact absurd (nI_le (by omega) (by omega)) c_1
    | succ n ih2 =>
      intro i hi H locs hP hD hS ls hl
      refine lv_iload_n hx hb dX9_copy_2 rfl (lv_at hl 0 rfl) ?_
      refine lv_aload_n hx hb dX9_copy_3 rfl (lv_at hl 1 rfl) ?_
      refine va_alen (v := nI 18) hx hb hK hP 0 21 rfl rfl rfl dX9_copy_4 ?_
      refine lv_icmp_ge (tgt := 20) hx hb dX9_copy_5 (by decide) (fun c_2 => ?_) (fun c_2 => ?_)
      · exact absurd c_2 (nI_ge (by omega) (by omega))
      · refine lv_aload_n hx hb dX9_copy_8 rfl (lv_at hl 2 rfl) ?_
        refine lv_iload_n hx hb dX9_copy_9 rfl (lv_at hl 0 rfl) ?_
        refine lv_aload_n hx hb dX9_copy_10 rfl (lv_at hl 1 rfl) ?_
        refine lv_iload_n hx hb dX9_copy_11 rfl (lv_at hl 0 rfl) ?_
        refine va_iald hx hb hK hP 0 21 rfl rfl (vp_in_nI (by omega) (by decide)) dX9_copy_12 ?_
        refine lv_ri (y := nI ((sgN ksn ksp ksd) i)) (congrArg (fun zj => nI (sgN ksn ksp ksd zj)) (nI_clamp (by omega))) ?_
        refine va_iast hx hb hK hP hD hS 1 17 rfl rfl (vp_in_nI (by omega) (by decide)) dX9_copy_13 (fun H locs hP hD hS => ?_)
        rw [nI_clamp (show i < 2 ^ 31 by omega)] at hP hD
        have hP : va_P (dC, dI) vwCl [(mq 9, .inl (ca 21, 18, .inl (fun zj => nI (sgN ksn ksp ksd zj)))), (mq 5, .inl (ca 17, 18, .inl (upd (cpyF (fun zj => nI (sgN ksn ksp ksd zj)) (fun zj => nI (sgN sn sp sd zj)) i) i (nI ((sgN ksn ksp ksd) i)))))] H := hP
        have hD : va_D A [(mq 9, .inl (ca 21, 18, .inl (fun zj => nI (sgN ksn ksp ksd zj)))), (mq 5, .inl (ca 17, 18, .inl (upd (cpyF (fun zj => nI (sgN ksn ksp ksd zj)) (fun zj => nI (sgN sn sp sd zj)) i) i (nI ((sgN ksn ksp ksd) i)))))] := hD
        refine lv_iinc (v := nI (i + 1)) (lv' := [(2, .int (nI (i + 1))), (0, .ref (mq 9)), (1, .ref (mq 5))]) hx hb dX9_copy_14 hl (k := 0) rfl (nI_add i 1) (by decide) rfl (fun ls hl => ?_)
        refine lv_goto (tgt := 2) hx hb dX9_copy_17 (by decide) ?_
        have eq9 := cpyF_up (fun zj => nI (sgN ksn ksp ksd zj)) (fun zj => nI (sgN sn sp sd zj)) i
        rw [show upd (cpyF (fun zj => nI (sgN ksn ksp ksd zj)) (fun zj => nI (sgN sn sp sd zj)) i) i (nI ((sgN ksn ksp ksd) i)) = cpyF (fun zj => nI (sgN ksn ksp ksd zj)) (fun zj => nI (sgN sn sp sd zj)) (i + 1) from eq9] at hP hD
        exact ih2 (i + 1) (by omega) _ _ (hP.sub [0, 1] rfl) (hD.sub [0, 1] (by decide) rfl) hS ls (lv_sub hl [0, 1, 2] rfl)
  exact lp2 18 0 (by omega) _ _ (by rw [cpyF_0]; exact hP) (by rw [cpyF_0]; exact hD) hS ls (lv_sub hl [0, 1, 2] rfl)
set_option maxHeartbeats 4000000 in
set_option maxRecDepth 100000 in
theorem kX9_letter (l : Launch) (dC : Nat → ClassId) (dI : Nat → Nat → Nat) (ca : Nat → ClassId) (sz : Nat) (x1 : Int32) (nc : Nat) (sr : Int32) (ps : Nat) (pl : Nat → Nat) (br : Nat) (st : Int32) (so : Int32) (se : Nat) (kbr : Nat) (kst : Int32) (kso : Int32) (kse : Nat) (mq : Nat → Nat) (ea : Int32) (fe : Int32) (fs : Int32) (sw : Int32) (ks : Int32) (hs : Int64) (hps : ps ≤ 28) : Met l yX9_letter (Cond.code yX9_letter cX9_letter 2 (some .int) :: gT) (rk 2) (EFp (dC, dI) [(mq 0, .inr (9, [.ref (mq 1), .int (nI ps), .int ea, .int (nI nc), .int (nI br), .int st, .int so, .int sr, .ref (mq 2), .ref (mq 3), .int fe, .int fs, .ref (mq 4), .int (nI se), .ref (mq 5), .ref (mq 6), .int sw, .int ks, .int (nI kbr), .int kst, .int kso, .int (nI kse), .ref (mq 7), .ref (mq 8), .ref (mq 9), .long hs])), (mq 1, .inl (ca 13, 28, .inl (fun zj => nI (pl zj))))] (TY ca) sz [Value.ref (mq 0), Value.int x1]) (va_Qi (fun (r : Int32) (_ : Unit) => r = letterR ps x1) (EFb (dC, dI) (fun (_ : Unit) => [(mq 0, .inr (9, [.ref (mq 1), .int (nI (if okL ps x1 = true then ps + 1 else ps)), .int ea, .int (nI nc), .int (nI br), .int st, .int so, .int sr, .ref (mq 2), .ref (mq 3), .int fe, .int fs, .ref (mq 4), .int (nI se), .ref (mq 5), .ref (mq 6), .int sw, .int ks, .int (nI kbr), .int kst, .int kso, .int (nI kse), .ref (mq 7), .ref (mq 8), .ref (mq 9), .long hs])), (mq 1, .inl (ca 13, 28, .inl (fun zj => nI ((if okL ps x1 = true then va_up pl ps (tn x1) else pl) zj))))]) (TY ca) (va_A [(mq 0, .inr (9, [.ref (mq 1), .int (nI ps), .int ea, .int (nI nc), .int (nI br), .int st, .int so, .int sr, .ref (mq 2), .ref (mq 3), .int fe, .int fs, .ref (mq 4), .int (nI se), .ref (mq 5), .ref (mq 6), .int sw, .int ks, .int (nI kbr), .int kst, .int kso, .int (nI kse), .ref (mq 7), .ref (mq 8), .ref (mq 9), .long hs])), (mq 1, .inl (ca 13, 28, .inl (fun zj => nI (pl zj))))] sz)) (va_A [(mq 0, .inr (9, [.ref (mq 1), .int (nI ps), .int ea, .int (nI nc), .int (nI br), .int st, .int so, .int sr, .ref (mq 2), .ref (mq 3), .int fe, .int fs, .ref (mq 4), .int (nI se), .ref (mq 5), .ref (mq 6), .int sw, .int ks, .int (nI kbr), .int kst, .int kso, .int (nI kse), .ref (mq 7), .ref (mq 8), .ref (mq 9), .long hs])), (mq 1, .inl (ca 13, 28, .inl (fun zj => nI (pl zj))))] sz)) 0 0 (va_A [(mq 0, .inr (9, [.ref (mq 1), .int (nI ps), .int ea, .int (nI nc), .int (nI br), .int st, .int so, .int sr, .ref (mq 2), .ref (mq 3), .int fe, .int fs, .ref (mq 4), .int (nI se), .ref (mq 5), .ref (mq 6), .int sw, .int ks, .int (nI kbr), .int kst, .int kso, .int (nI kse), .ref (mq 7), .ref (mq 8), .ref (mq 9), .long hs])), (mq 1, .inl (ca 13, 28, .inl (fun zj => nI (pl zj))))] sz) := by
  refine Met.ofW (cc := cX9_letter) (maxL := 2) (ret := (some .int)) (by decide) rfl ?_
  intro p e s m args below meth c s₁ B hml hv
  obtain ⟨rfl, hsz, hP, hK, hD0⟩ := hv
  have hx := B.exec
  have hb := B.bytes
  have hr := B.returns
  have hts := atoms_spec (ws := (Cond.code yX9_letter cX9_letter 2 (some .int) :: gT)) B.pre
  have htl : ∀ w ∈ gT, w.before _ s = true := fun w h => hts w (List.mem_cons_of_mem _ h)
  have hown : s.vm.findClass RX9 = some m.cls := findClass_of_methodNamed B.named
  have hlocks := B.notSynchronized
  subst hsz
  have hD := hD0.self (sz := s.heap.size)
  generalize hAe : va_A [(mq 0, .inr (9, [.ref (mq 1), .int (nI ps), .int ea, .int (nI nc), .int (nI br), .int st, .int so, .int sr, .ref (mq 2), .ref (mq 3), .int fe, .int fs, .ref (mq 4), .int (nI se), .ref (mq 5), .ref (mq 6), .int sw, .int ks, .int (nI kbr), .int kst, .int kso, .int (nI kse), .ref (mq 7), .ref (mq 8), .ref (mq 9), .long hs])), (mq 1, .inl (ca 13, 28, .inl (fun zj => nI (pl zj))))] s.heap.size = A at hD ⊢
  have hA : ∀ q : Nat, s.heap.size ≤ q → A q := fun q h => by rw [← hAe]; exact Or.inr h
  have hS : va_S A s.heap s.heap [] := va_S.rf
  have hl := lv_entry ([Value.ref (mq 0), Value.int x1]) (n := 2) (Nat.le_of_ble_eq_true rfl)
  rw [lg_entry_eq]
  generalize (lg_sl ([Value.ref (mq 0), Value.int x1]) ++ List.replicate (2 - (lg_sl ([Value.ref (mq 0), Value.int x1])).length) Slot.unset).toArray = ls at hl ⊢
  have hl : lv_has ls 2 [(0, .ref (mq 0)), (1, .int x1)] := hl
  refine lv_iload_n hx hb dX9_letter_0 rfl (lv_at hl 1 rfl) ?_
  refine lv_i2l (v := x1.toInt64) hx hb dX9_letter_1 rfl ?_
  refine lv_lconst (v := 1) hx hb dX9_letter_2 (by decide) ?_
  refine lv_ldc2 (v := 126) hx hb hown (htl _ wd_634) dX9_letter_3 ?_
  refine roS (As := [Value.long x1.toInt64, Value.long 1, Value.long 126]) (rest := []) (kX9_in l dC dI ca x1.toInt64 1 126 ) ⟨hx, hb, hml, hown, htl⟩ (cSg 3 htl wd_635 wd_636 wd_6 wd_637 rfl rfl (by decide +kernel) ⟨Nat.le_of_ble_eq_true rfl, Nat.le_of_ble_eq_true rfl⟩) (hP.sub [] rfl) hK rfl hl.1 rfl (Nat.le_of_ble_eq_true rfl) dX9_letter_6 ⟨Nat.zero_le _, Nat.zero_le _⟩ (fun r hr9 => ?_)
  subst hr9
  refine lv_if_ne (tgt := 15) hx hb dX9_letter_9 (by decide) (fun c_1 => ?_) (fun c_1 => ?_)
  · replace c_1 := bI_t c_1
    refine lv_aload_n hx hb dX9_letter_15 rfl (lv_at hl 0 rfl) ?_
    refine va_get (D := (dC, dI)) (ci := 9) (v := .int (nI ps)) (C := RX9) (T := TX9) (N := 26) hx hb htl iX9 hown hK hP 0 rfl rfl 1 (by decide) (htl _ wd_552) (fun _ h9 => h9) rfl dX9_letter_16 ?_
    refine lv_bipush (v := nI 28) hx hb dX9_letter_19 (by decide) ?_
    refine lv_icmp_ne (tgt := 27) hx hb dX9_letter_21 (by decide) (fun c_2 => ?_) (fun c_2 => ?_)
    · rw [nI_eq (by omega) (by decide)] at c_2
      have hok : okC x1 = true := by rw [← in_C]; exact c_1
      have hlt : ps < 28 := by omega
      obtain ⟨d, hd1, hd2, rfl⟩ := okC_ex hok
      refine lv_aload_n hx hb dX9_letter_27 rfl (lv_at hl 0 rfl) ?_
      refine va_get (D := (dC, dI)) (ci := 9) (v := .ref (mq 1)) (C := RX9) (T := TX9) (N := 26) hx hb htl iX9 hown hK hP 0 rfl rfl 0 (by decide) (htl _ wd_551) (fun _ h9 => h9) rfl dX9_letter_28 ?_
      refine lv_aload_n hx hb dX9_letter_31 rfl (lv_at hl 0 rfl) ?_
      refine va_get (D := (dC, dI)) (ci := 9) (v := .int (nI ps)) (C := RX9) (T := TX9) (N := 26) hx hb htl iX9 hown hK hP 0 rfl rfl 1 (by decide) (htl _ wd_552) (fun _ h9 => h9) rfl dX9_letter_32 ?_
      refine lv_iload_n hx hb dX9_letter_35 rfl (lv_at hl 1 rfl) ?_
      refine va_iast hx hb hK hP hD hS 1 13 rfl rfl (vp_in_nI (by omega) (by decide)) dX9_letter_36 (fun H locs hP hD hS => ?_)
      rw [nI_clamp (show ps < 2 ^ 31 by omega)] at hP hD
      rw [show (upd (fun zj => nI (pl zj)) ps (nI d)) = (fun zj => nI (va_up pl ps d zj)) from upd_nI _ _ _] at hP hD
      have hP : va_P (dC, dI) vwCl [(mq 0, .inr (9, [.ref (mq 1), .int (nI ps), .int ea, .int (nI nc), .int (nI br), .int st, .int so, .int sr, .ref (mq 2), .ref (mq 3), .int fe, .int fs, .ref (mq 4), .int (nI se), .ref (mq 5), .ref (mq 6), .int sw, .int ks, .int (nI kbr), .int kst, .int kso, .int (nI kse), .ref (mq 7), .ref (mq 8), .ref (mq 9), .long hs])), (mq 1, .inl (ca 13, 28, .inl (fun zj => nI (va_up pl ps d zj))))] H := hP
      have hD : va_D A [(mq 0, .inr (9, [.ref (mq 1), .int (nI ps), .int ea, .int (nI nc), .int (nI br), .int st, .int so, .int sr, .ref (mq 2), .ref (mq 3), .int fe, .int fs, .ref (mq 4), .int (nI se), .ref (mq 5), .ref (mq 6), .int sw, .int ks, .int (nI kbr), .int kst, .int kso, .int (nI kse), .ref (mq 7), .ref (mq 8), .ref (mq 9), .long hs])), (mq 1, .inl (ca 13, 28, .inl (fun zj => nI (va_up pl ps d zj))))] := hD
      refine lv_aload_n hx hb dX9_letter_37 rfl (lv_at hl 0 rfl) ?_
      refine lv_dup hx hb dX9_letter_38 rfl ?_
      refine va_get (D := (dC, dI)) (ci := 9) (v := .int (nI ps)) (C := RX9) (T := TX9) (N := 26) hx hb htl iX9 hown hK hP 0 rfl rfl 1 (by decide) (htl _ wd_552) (fun _ h9 => h9) rfl dX9_letter_39 ?_
      refine lv_iconst (v := nI 1) hx hb dX9_letter_42 (by decide) ?_
      refine lv_iadd hx hb dX9_letter_43 ?_
      refine lv_ri (y := nI (ps + 1)) (nI_add ps 1) ?_
      refine va_put (D := (dC, dI)) (ci := 9) (v := .int (nI (ps + 1))) (ty := .int) (C := RX9) (T := TX9) (N := 26) hx hb htl iX9 tyX9 tyX9_ok nmX9 hown hK hP hD hS 0 rfl rfl 1 (by decide) (htl _ wd_552) (fun _ h9 => h9) rfl (by decide +kernel) rfl rfl (Nat.le_of_ble_eq_true rfl) dX9_letter_44 (fun H locs hP hD hS => ?_)
      have hP : va_P (dC, dI) vwCl [(mq 0, .inr (9, [.ref (mq 1), .int (nI (ps + 1)), .int ea, .int (nI nc), .int (nI br), .int st, .int so, .int sr, .ref (mq 2), .ref (mq 3), .int fe, .int fs, .ref (mq 4), .int (nI se), .ref (mq 5), .ref (mq 6), .int sw, .int ks, .int (nI kbr), .int kst, .int kso, .int (nI kse), .ref (mq 7), .ref (mq 8), .ref (mq 9), .long hs])), (mq 1, .inl (ca 13, 28, .inl (fun zj => nI (va_up pl ps d zj))))] H := hP
      have hD : va_D A [(mq 0, .inr (9, [.ref (mq 1), .int (nI (ps + 1)), .int ea, .int (nI nc), .int (nI br), .int st, .int so, .int sr, .ref (mq 2), .ref (mq 3), .int fe, .int fs, .ref (mq 4), .int (nI se), .ref (mq 5), .ref (mq 6), .int sw, .int ks, .int (nI kbr), .int kst, .int kso, .int (nI kse), .ref (mq 7), .ref (mq 8), .ref (mq 9), .long hs])), (mq 1, .inl (ca 13, 28, .inl (fun zj => nI (va_up pl ps d zj))))] := hD
      refine lv_aload_n hx hb dX9_letter_47 rfl (lv_at hl 0 rfl) ?_
      refine va_get (D := (dC, dI)) (ci := 9) (v := .int (nI (ps + 1))) (C := RX9) (T := TX9) (N := 26) hx hb htl iX9 hown hK hP 0 rfl rfl 1 (by decide) (htl _ wd_552) (fun _ h9 => h9) rfl dX9_letter_48 ?_
      have hP9 := hP.sub (ws' := [(mq 0, .inr (9, [.ref (mq 1), .int (nI (ps + 1)), .int ea, .int (nI nc), .int (nI br), .int st, .int so, .int sr, .ref (mq 2), .ref (mq 3), .int fe, .int fs, .ref (mq 4), .int (nI se), .ref (mq 5), .ref (mq 6), .int sw, .int ks, .int (nI kbr), .int kst, .int kso, .int (nI kse), .ref (mq 7), .ref (mq 8), .ref (mq 9), .long hs])), (mq 1, .inl (ca 13, 28, .inl (fun zj => nI (va_up pl ps d zj))))]) [0, 1] rfl
      have hD9 := hD.sub (ws' := [(mq 0, .inr (9, [.ref (mq 1), .int (nI (ps + 1)), .int ea, .int (nI nc), .int (nI br), .int st, .int so, .int sr, .ref (mq 2), .ref (mq 3), .int fe, .int fs, .ref (mq 4), .int (nI se), .ref (mq 5), .ref (mq 6), .int sw, .int ks, .int (nI kbr), .int kst, .int kso, .int (nI kse), .ref (mq 7), .ref (mq 8), .ref (mq 9), .long hs])), (mq 1, .inl (ca 13, 28, .inl (fun zj => nI (va_up pl ps d zj))))]) [0, 1] (by decide) rfl
      have hk : okL ps (nI d) = true := by simp [okL, hok, hlt]
      exact W.iret (v := nI (ps + 1)) hx hb hr (fun t ht hW => ⟨⟨nI (ps + 1), (), rfl, by show _ = _; simp [letterR, hok, hlt], by rw [ht]; simp only [hk, ↓reduceIte, nI_clamp (show d < 2 ^ 31 by omega)]; exact hP9, va_K.moved hW.alike hK, (by simp only [hk, ↓reduceIte, nI_clamp (show d < 2 ^ 31 by omega)]; exact hD9)⟩, hS.F ht⟩) hS.2.2 dX9_letter_51
    · rw [nI_eq (by omega) (by decide)] at c_2
      refine lv_bipush (v := (-104)) hx hb dX9_letter_24 (by decide) ?_
      have hP9 := hP.sub (ws' := [(mq 0, .inr (9, [.ref (mq 1), .int (nI ps), .int ea, .int (nI nc), .int (nI br), .int st, .int so, .int sr, .ref (mq 2), .ref (mq 3), .int fe, .int fs, .ref (mq 4), .int (nI se), .ref (mq 5), .ref (mq 6), .int sw, .int ks, .int (nI kbr), .int kst, .int kso, .int (nI kse), .ref (mq 7), .ref (mq 8), .ref (mq 9), .long hs])), (mq 1, .inl (ca 13, 28, .inl (fun zj => nI (pl zj))))]) [0, 1] rfl
      have hD9 := hD.sub (ws' := [(mq 0, .inr (9, [.ref (mq 1), .int (nI ps), .int ea, .int (nI nc), .int (nI br), .int st, .int so, .int sr, .ref (mq 2), .ref (mq 3), .int fe, .int fs, .ref (mq 4), .int (nI se), .ref (mq 5), .ref (mq 6), .int sw, .int ks, .int (nI kbr), .int kst, .int kso, .int (nI kse), .ref (mq 7), .ref (mq 8), .ref (mq 9), .long hs])), (mq 1, .inl (ca 13, 28, .inl (fun zj => nI (pl zj))))]) [0, 1] (by decide) rfl
      have hk : okL ps x1 = false := by simp [okL, c_2]
      exact W.iret (v := (-104)) hx hb hr (fun t ht hW => ⟨⟨(-104), (), rfl, by show _ = _; rw [in_C] at c_1; simp [letterR, c_1, c_2], by rw [ht]; simp only [hk, Bool.false_eq_true, ↓reduceIte]; exact hP9, va_K.moved hW.alike hK, (by simp only [hk, Bool.false_eq_true, ↓reduceIte]; exact hD9)⟩, hS.F ht⟩) hS.2.2 dX9_letter_26
  · replace c_1 := bI_f c_1
    refine lv_bipush (v := (-102)) hx hb dX9_letter_12 (by decide) ?_
    have hP9 := hP.sub (ws' := [(mq 0, .inr (9, [.ref (mq 1), .int (nI ps), .int ea, .int (nI nc), .int (nI br), .int st, .int so, .int sr, .ref (mq 2), .ref (mq 3), .int fe, .int fs, .ref (mq 4), .int (nI se), .ref (mq 5), .ref (mq 6), .int sw, .int ks, .int (nI kbr), .int kst, .int kso, .int (nI kse), .ref (mq 7), .ref (mq 8), .ref (mq 9), .long hs])), (mq 1, .inl (ca 13, 28, .inl (fun zj => nI (pl zj))))]) [0, 1] rfl
    have hD9 := hD.sub (ws' := [(mq 0, .inr (9, [.ref (mq 1), .int (nI ps), .int ea, .int (nI nc), .int (nI br), .int st, .int so, .int sr, .ref (mq 2), .ref (mq 3), .int fe, .int fs, .ref (mq 4), .int (nI se), .ref (mq 5), .ref (mq 6), .int sw, .int ks, .int (nI kbr), .int kst, .int kso, .int (nI kse), .ref (mq 7), .ref (mq 8), .ref (mq 9), .long hs])), (mq 1, .inl (ca 13, 28, .inl (fun zj => nI (pl zj))))]) [0, 1] (by decide) rfl
    have hk : okL ps x1 = false := by rw [in_C] at c_1; simp [okL, c_1]
    exact W.iret (v := (-102)) hx hb hr (fun t ht hW => ⟨⟨(-102), (), rfl, by show _ = _; rw [in_C] at c_1; simp [letterR, c_1], by rw [ht]; simp only [hk, Bool.false_eq_true, ↓reduceIte]; exact hP9, va_K.moved hW.alike hK, (by simp only [hk, Bool.false_eq_true, ↓reduceIte]; exact hD9)⟩, hS.F ht⟩) hS.2.2 dX9_letter_14
set_option maxHeartbeats 4000000 in
set_option maxRecDepth 100000 in
theorem kX9_blank (l : Launch) (dC : Nat → ClassId) (dI : Nat → Nat → Nat) (ca : Nat → ClassId) (sz : Nat) (nc : Nat) (sr : Int32) (ps : Nat) (br : Nat) (st : Int32) (so : Int32) (se : Nat) (kbr : Nat) (kst : Int32) (kso : Int32) (kse : Nat) (mq : Nat → Nat) (ea : Int32) (fe : Int32) (fs : Int32) (sw : Int32) (ks : Int32) (hs : Int64) : Met l yX9_blank (Cond.code yX9_blank cX9_blank 2 (some .int) :: gT) (rk 1) (EFp (dC, dI) [(mq 0, .inr (9, [.ref (mq 1), .int (nI ps), .int ea, .int (nI nc), .int (nI br), .int st, .int so, .int sr, .ref (mq 2), .ref (mq 3), .int fe, .int fs, .ref (mq 4), .int (nI se), .ref (mq 5), .ref (mq 6), .int sw, .int ks, .int (nI kbr), .int kst, .int kso, .int (nI kse), .ref (mq 7), .ref (mq 8), .ref (mq 9), .long hs]))] (TY ca) sz [Value.ref (mq 0)]) (va_Qi (fun (r : Int32) (_ : Unit) => r = nI ps) (EFb (dC, dI) (fun (_ : Unit) => [(mq 0, .inr (9, [.ref (mq 1), .int (nI 0), .int ea, .int (nI nc), .int (nI br), .int st, .int so, .int sr, .ref (mq 2), .ref (mq 3), .int fe, .int fs, .ref (mq 4), .int (nI se), .ref (mq 5), .ref (mq 6), .int sw, .int ks, .int (nI kbr), .int kst, .int kso, .int (nI kse), .ref (mq 7), .ref (mq 8), .ref (mq 9), .long hs]))]) (TY ca) (va_A [(mq 0, .inr (9, [.ref (mq 1), .int (nI ps), .int ea, .int (nI nc), .int (nI br), .int st, .int so, .int sr, .ref (mq 2), .ref (mq 3), .int fe, .int fs, .ref (mq 4), .int (nI se), .ref (mq 5), .ref (mq 6), .int sw, .int ks, .int (nI kbr), .int kst, .int kso, .int (nI kse), .ref (mq 7), .ref (mq 8), .ref (mq 9), .long hs]))] sz)) (va_A [(mq 0, .inr (9, [.ref (mq 1), .int (nI ps), .int ea, .int (nI nc), .int (nI br), .int st, .int so, .int sr, .ref (mq 2), .ref (mq 3), .int fe, .int fs, .ref (mq 4), .int (nI se), .ref (mq 5), .ref (mq 6), .int sw, .int ks, .int (nI kbr), .int kst, .int kso, .int (nI kse), .ref (mq 7), .ref (mq 8), .ref (mq 9), .long hs]))] sz)) 0 0 (va_A [(mq 0, .inr (9, [.ref (mq 1), .int (nI ps), .int ea, .int (nI nc), .int (nI br), .int st, .int so, .int sr, .ref (mq 2), .ref (mq 3), .int fe, .int fs, .ref (mq 4), .int (nI se), .ref (mq 5), .ref (mq 6), .int sw, .int ks, .int (nI kbr), .int kst, .int kso, .int (nI kse), .ref (mq 7), .ref (mq 8), .ref (mq 9), .long hs]))] sz) := by
  refine Met.ofW (cc := cX9_blank) (maxL := 2) (ret := (some .int)) (by decide) rfl ?_
  intro p e s m args below meth c s₁ B hml hv
  obtain ⟨rfl, hsz, hP, hK, hD0⟩ := hv
  have hx := B.exec
  have hb := B.bytes
  have hr := B.returns
  have hts := atoms_spec (ws := (Cond.code yX9_blank cX9_blank 2 (some .int) :: gT)) B.pre
  have htl : ∀ w ∈ gT, w.before _ s = true := fun w h => hts w (List.mem_cons_of_mem _ h)
  have hown : s.vm.findClass RX9 = some m.cls := findClass_of_methodNamed B.named
  have hlocks := B.notSynchronized
  subst hsz
  have hD := hD0.self (sz := s.heap.size)
  generalize hAe : va_A [(mq 0, .inr (9, [.ref (mq 1), .int (nI ps), .int ea, .int (nI nc), .int (nI br), .int st, .int so, .int sr, .ref (mq 2), .ref (mq 3), .int fe, .int fs, .ref (mq 4), .int (nI se), .ref (mq 5), .ref (mq 6), .int sw, .int ks, .int (nI kbr), .int kst, .int kso, .int (nI kse), .ref (mq 7), .ref (mq 8), .ref (mq 9), .long hs]))] s.heap.size = A at hD ⊢
  have hA : ∀ q : Nat, s.heap.size ≤ q → A q := fun q h => by rw [← hAe]; exact Or.inr h
  have hS : va_S A s.heap s.heap [] := va_S.rf
  have hl := lv_entry ([Value.ref (mq 0)]) (n := 2) (Nat.le_of_ble_eq_true rfl)
  rw [lg_entry_eq]
  generalize (lg_sl ([Value.ref (mq 0)]) ++ List.replicate (2 - (lg_sl ([Value.ref (mq 0)])).length) Slot.unset).toArray = ls at hl ⊢
  have hl : lv_has ls 2 [(0, .ref (mq 0))] := hl
  refine lv_aload_n hx hb dX9_blank_0 rfl (lv_at hl 0 rfl) ?_
  refine va_get (D := (dC, dI)) (ci := 9) (v := .int (nI ps)) (C := RX9) (T := TX9) (N := 26) hx hb htl iX9 hown hK hP 0 rfl rfl 1 (by decide) (htl _ wd_552) (fun _ h9 => h9) rfl dX9_blank_1 ?_
  refine lv_istore_n (lv' := [(1, .int (nI ps)), (0, .ref (mq 0))]) hx hb dX9_blank_4 rfl hl (by decide) rfl (fun ls hl => ?_)
  refine lv_aload_n hx hb dX9_blank_5 rfl (lv_at hl 1 rfl) ?_
  refine lv_iconst (v := nI 0) hx hb dX9_blank_6 (by decide) ?_
  refine va_put (D := (dC, dI)) (ci := 9) (v := .int (nI 0)) (ty := .int) (C := RX9) (T := TX9) (N := 26) hx hb htl iX9 tyX9 tyX9_ok nmX9 hown hK hP hD hS 0 rfl rfl 1 (by decide) (htl _ wd_552) (fun _ h9 => h9) rfl (by decide +kernel) rfl rfl (Nat.le_of_ble_eq_true rfl) dX9_blank_7 (fun H locs hP hD hS => ?_)
  have hP : va_P (dC, dI) vwCl [(mq 0, .inr (9, [.ref (mq 1), .int (nI 0), .int ea, .int (nI nc), .int (nI br), .int st, .int so, .int sr, .ref (mq 2), .ref (mq 3), .int fe, .int fs, .ref (mq 4), .int (nI se), .ref (mq 5), .ref (mq 6), .int sw, .int ks, .int (nI kbr), .int kst, .int kso, .int (nI kse), .ref (mq 7), .ref (mq 8), .ref (mq 9), .long hs]))] H := hP
  have hD : va_D A [(mq 0, .inr (9, [.ref (mq 1), .int (nI 0), .int ea, .int (nI nc), .int (nI br), .int st, .int so, .int sr, .ref (mq 2), .ref (mq 3), .int fe, .int fs, .ref (mq 4), .int (nI se), .ref (mq 5), .ref (mq 6), .int sw, .int ks, .int (nI kbr), .int kst, .int kso, .int (nI kse), .ref (mq 7), .ref (mq 8), .ref (mq 9), .long hs]))] := hD
  refine lv_iload_n hx hb dX9_blank_10 rfl (lv_at hl 0 rfl) ?_
  have hP9 := hP.sub (ws' := [(mq 0, .inr (9, [.ref (mq 1), .int (nI 0), .int ea, .int (nI nc), .int (nI br), .int st, .int so, .int sr, .ref (mq 2), .ref (mq 3), .int fe, .int fs, .ref (mq 4), .int (nI se), .ref (mq 5), .ref (mq 6), .int sw, .int ks, .int (nI kbr), .int kst, .int kso, .int (nI kse), .ref (mq 7), .ref (mq 8), .ref (mq 9), .long hs]))]) [0] rfl
  have hD9 := hD.sub (ws' := [(mq 0, .inr (9, [.ref (mq 1), .int (nI 0), .int ea, .int (nI nc), .int (nI br), .int st, .int so, .int sr, .ref (mq 2), .ref (mq 3), .int fe, .int fs, .ref (mq 4), .int (nI se), .ref (mq 5), .ref (mq 6), .int sw, .int ks, .int (nI kbr), .int kst, .int kso, .int (nI kse), .ref (mq 7), .ref (mq 8), .ref (mq 9), .long hs]))]) [0] (by decide) rfl
  exact W.iret (v := nI ps) hx hb hr (fun t ht hW => ⟨⟨nI ps, (), rfl, rfl, by rw [ht]; exact hP9, va_K.moved hW.alike hK, hD9⟩, hS.F ht⟩) hS.2.2 dX9_blank_11
set_option maxHeartbeats 4000000 in
set_option maxRecDepth 100000 in
theorem kX9_kindBy (l : Launch) (dC : Nat → ClassId) (dI : Nat → Nat → Nat) (ca : Nat → ClassId) (ch : Nat) (hch : ch < 127) : Met l yX9_kindBy (Cond.code yX9_kindBy cX9_kindBy 1 (some .int) :: gT) (rk 1) (ROp (dC, dI) [] (TY ca) [Value.int (nI ch)]) (vp_Si (fun r => r = kindI ch)) 0 0 (fun _ => False) := by
  refine Met.ofW (cc := cX9_kindBy) (maxL := 1) (ret := (some .int)) (by decide) rfl ?_
  intro p e s m args below meth c s₁ B hml hv
  obtain ⟨rfl, hP, hK⟩ := hv
  have hx := B.exec
  have hb := B.bytes
  have hr := B.returns
  have hts := atoms_spec (ws := (Cond.code yX9_kindBy cX9_kindBy 1 (some .int) :: gT)) B.pre
  have htl : ∀ w ∈ gT, w.before _ s = true := fun w h => hts w (List.mem_cons_of_mem _ h)
  have hown : s.vm.findClass RX9 = some m.cls := findClass_of_methodNamed B.named
  have hlocks := B.notSynchronized
  have hl := lv_entry ([Value.int (nI ch)]) (n := 1) (Nat.le_of_ble_eq_true rfl)
  rw [lg_entry_eq]
  generalize (lg_sl ([Value.int (nI ch)]) ++ List.replicate (1 - (lg_sl ([Value.int (nI ch)])).length) Slot.unset).toArray = ls at hl ⊢
  have hl : lv_has ls 1 [(0, .int (nI ch))] := hl
  refine lv_iload_n hx hb dX9_kindBy_0 rfl (lv_at hl 0 rfl) ?_
  refine lv_bipush (v := nI 110) hx hb dX9_kindBy_1 (by decide) ?_
  refine lv_icmp_ne (tgt := 10) hx hb dX9_kindBy_3 (by decide) (fun c_1 => ?_) (fun c_1 => ?_)
  · rw [nI_eq (by omega) (by decide)] at c_1
    refine lv_iload_n hx hb dX9_kindBy_10 rfl (lv_at hl 0 rfl) ?_
    refine lv_bipush (v := nI 115) hx hb dX9_kindBy_11 (by decide) ?_
    refine lv_icmp_ne (tgt := 20) hx hb dX9_kindBy_13 (by decide) (fun c_2 => ?_) (fun c_2 => ?_)
    · rw [nI_eq (by omega) (by decide)] at c_2
      refine lv_iload_n hx hb dX9_kindBy_20 rfl (lv_at hl 0 rfl) ?_
      refine lv_bipush (v := nI 108) hx hb dX9_kindBy_21 (by decide) ?_
      refine lv_icmp_ne (tgt := 30) hx hb dX9_kindBy_23 (by decide) (fun c_3 => ?_) (fun c_3 => ?_)
      · rw [nI_eq (by omega) (by decide)] at c_3
        refine lv_iload_n hx hb dX9_kindBy_30 rfl (lv_at hl 0 rfl) ?_
        refine lv_bipush (v := nI 116) hx hb dX9_kindBy_31 (by decide) ?_
        refine lv_icmp_ne (tgt := 40) hx hb dX9_kindBy_33 (by decide) (fun c_4 => ?_) (fun c_4 => ?_)
        · rw [nI_eq (by omega) (by decide)] at c_4
          refine lv_iload_n hx hb dX9_kindBy_40 rfl (lv_at hl 0 rfl) ?_
          refine lv_bipush (v := nI 111) hx hb dX9_kindBy_41 (by decide) ?_
          refine lv_icmp_ne (tgt := 50) hx hb dX9_kindBy_43 (by decide) (fun c_5 => ?_) (fun c_5 => ?_)
          · rw [nI_eq (by omega) (by decide)] at c_5
            refine lv_iconst (v := (-1)) hx hb dX9_kindBy_50 (by decide) ?_
            exact W.iret (v := (-1)) hx hb hr (fun t ht hW => ⟨(-1), rfl, by show _ = _; unfold kindI; rw [if_neg (fun h => c_1 h.symm), if_neg (fun h => c_2 h.symm), if_neg (fun h => c_3 h.symm), if_neg (fun h => c_4 h.symm), if_neg (fun h => c_5 h.symm)], ht⟩) (fun q h => by cases h) dX9_kindBy_51
          · rw [nI_eq (by omega) (by decide)] at c_5
            refine lv_iconst (v := nI 4) hx hb dX9_kindBy_46 (by decide) ?_
            refine lv_goto (tgt := 51) hx hb dX9_kindBy_47 (by decide) ?_
            exact W.iret (v := nI 4) hx hb hr (fun t ht hW => ⟨nI 4, rfl, by show _ = _; unfold kindI; rw [if_neg (fun h => c_1 h.symm), if_neg (fun h => c_2 h.symm), if_neg (fun h => c_3 h.symm), if_neg (fun h => c_4 h.symm), if_pos c_5.symm], ht⟩) (fun q h => by cases h) dX9_kindBy_51
        · rw [nI_eq (by omega) (by decide)] at c_4
          refine lv_iconst (v := nI 3) hx hb dX9_kindBy_36 (by decide) ?_
          refine lv_goto (tgt := 51) hx hb dX9_kindBy_37 (by decide) ?_
          exact W.iret (v := nI 3) hx hb hr (fun t ht hW => ⟨nI 3, rfl, by show _ = _; unfold kindI; rw [if_neg (fun h => c_1 h.symm), if_neg (fun h => c_2 h.symm), if_neg (fun h => c_3 h.symm), if_pos c_4.symm], ht⟩) (fun q h => by cases h) dX9_kindBy_51
      · rw [nI_eq (by omega) (by decide)] at c_3
        refine lv_iconst (v := nI 2) hx hb dX9_kindBy_26 (by decide) ?_
        refine lv_goto (tgt := 51) hx hb dX9_kindBy_27 (by decide) ?_
        exact W.iret (v := nI 2) hx hb hr (fun t ht hW => ⟨nI 2, rfl, by show _ = _; unfold kindI; rw [if_neg (fun h => c_1 h.symm), if_neg (fun h => c_2 h.symm), if_pos c_3.symm], ht⟩) (fun q h => by cases h) dX9_kindBy_51
    · rw [nI_eq (by omega) (by decide)] at c_2
      refine lv_iconst (v := nI 1) hx hb dX9_kindBy_16 (by decide) ?_
      refine lv_goto (tgt := 51) hx hb dX9_kindBy_17 (by decide) ?_
      exact W.iret (v := nI 1) hx hb hr (fun t ht hW => ⟨nI 1, rfl, by show _ = _; unfold kindI; rw [if_neg (fun h => c_1 h.symm), if_pos c_2.symm], ht⟩) (fun q h => by cases h) dX9_kindBy_51
  · rw [nI_eq (by omega) (by decide)] at c_1
    refine lv_iconst (v := nI 0) hx hb dX9_kindBy_6 (by decide) ?_
    refine lv_goto (tgt := 51) hx hb dX9_kindBy_7 (by decide) ?_
    exact W.iret (v := nI 0) hx hb hr (fun t ht hW => ⟨nI 0, rfl, by show _ = _; unfold kindI; rw [if_pos c_1.symm], ht⟩) (fun q h => by cases h) dX9_kindBy_51
set_option maxHeartbeats 4000000 in
set_option maxRecDepth 100000 in
theorem kX9_isDigit (l : Launch) (dC : Nat → ClassId) (dI : Nat → Nat → Nat) (ca : Nat → ClassId) (ch : Nat) (hch : ch < 127) : Met l yX9_isDigit (Cond.code yX9_isDigit cX9_isDigit 1 (some .boolean) :: gT) (rk 2) (ROp (dC, dI) [] (TY ca) [Value.int (nI ch)]) (vp_Si (fun r => r = bI (dig ch))) 0 0 (fun _ => False) := by
  refine Met.ofW (cc := cX9_isDigit) (maxL := 1) (ret := (some .boolean)) (by decide) rfl ?_
  intro p e s m args below meth c s₁ B hml hv
  obtain ⟨rfl, hP, hK⟩ := hv
  have hx := B.exec
  have hb := B.bytes
  have hr := B.returns
  have hts := atoms_spec (ws := (Cond.code yX9_isDigit cX9_isDigit 1 (some .boolean) :: gT)) B.pre
  have htl : ∀ w ∈ gT, w.before _ s = true := fun w h => hts w (List.mem_cons_of_mem _ h)
  have hown : s.vm.findClass RX9 = some m.cls := findClass_of_methodNamed B.named
  have hlocks := B.notSynchronized
  have hl := lv_entry ([Value.int (nI ch)]) (n := 1) (Nat.le_of_ble_eq_true rfl)
  rw [lg_entry_eq]
  generalize (lg_sl ([Value.int (nI ch)]) ++ List.replicate (1 - (lg_sl ([Value.int (nI ch)])).length) Slot.unset).toArray = ls at hl ⊢
  have hl : lv_has ls 1 [(0, .int (nI ch))] := hl
  refine lv_iload_n hx hb dX9_isDigit_0 rfl (lv_at hl 0 rfl) ?_
  refine lv_i2l (v := (nI ch).toInt64) hx hb dX9_isDigit_1 rfl ?_
  refine lv_ldc2 (v := 48) hx hb hown (htl _ wd_657) dX9_isDigit_2 ?_
  refine lv_ldc2 (v := 53) hx hb hown (htl _ wd_658) dX9_isDigit_5 ?_
  refine roS (As := [Value.long ((nI ch).toInt64), Value.long 48, Value.long 53]) (rest := []) (kX9_in l dC dI ca ((nI ch).toInt64) 48 53 ) ⟨hx, hb, hml, hown, htl⟩ (cSg 3 htl wd_635 wd_636 wd_6 wd_637 rfl rfl (by decide +kernel) ⟨Nat.le_of_ble_eq_true rfl, Nat.le_of_ble_eq_true rfl⟩) (hP.sub [] rfl) hK rfl hl.1 rfl (Nat.le_of_ble_eq_true rfl) dX9_isDigit_8 ⟨Nat.zero_le _, Nat.zero_le _⟩ (fun r hr9 => ?_)
  subst hr9
  exact W.zret (v := bI (inB ((nI ch).toInt64) 48 53)) hx hb hr (bI_n _) (fun t ht hW => ⟨bI (inB ((nI ch).toInt64) 48 53), rfl, by show _ = _; rw [dig_in ch hch], ht⟩) (fun q h => by cases h) dX9_isDigit_11
theorem nI_ne1 {a : Nat} (h : a < 2 ^ 31) : ¬ nI a = -1 := by
  intro q
  have := congrArg Int32.toInt q
  rw [nI_toInt h] at this
  have e : (-1 : Int32).toInt = -1 := by decide
  rw [e] at this
  omega
set_option maxHeartbeats 4000000 in
set_option maxRecDepth 100000 in
theorem kX9_isGood_n (l : Launch) (dC : Nat → ClassId) (dI : Nat → Nat → Nat) (ca : Nat → ClassId) (sz : Nat) (a : Nat) (nc : Nat) (sr : Int32) (ps : Nat) (pl : Nat → Nat) (br : Nat) (st : Int32) (so : Int32) (se : Nat) (kbr : Nat) (kst : Int32) (kso : Int32) (kse : Nat) (mq : Nat → Nat) (fe : Int32) (fs : Int32) (sw : Int32) (ks : Int32) (hs : Int64) (ha : a < 28) (hpl : ∀ j, j < 28 → pl j < 127) : Met l yX9_isGood (Cond.code yX9_isGood cX9_isGood 3 (some .boolean) :: gT) (rk 3) (EFp (dC, dI) [(mq 0, .inr (9, [.ref (mq 1), .int (nI ps), .int (-1), .int (nI nc), .int (nI br), .int st, .int so, .int sr, .ref (mq 2), .ref (mq 3), .int fe, .int fs, .ref (mq 4), .int (nI se), .ref (mq 5), .ref (mq 6), .int sw, .int ks, .int (nI kbr), .int kst, .int kso, .int (nI kse), .ref (mq 7), .ref (mq 8), .ref (mq 9), .long hs])), (mq 1, .inl (ca 13, 28, .inl (fun zj => nI (pl zj))))] (TY ca) sz [Value.ref (mq 0), Value.int (nI a)]) (va_Qi (fun (r : Int32) (_ : Unit) => r = bI (gdB pl none a)) (EFb (dC, dI) (fun (_ : Unit) => [(mq 0, .inr (9, [.ref (mq 1), .int (nI ps), .int (eaI (gdE pl none a)), .int (nI nc), .int (nI br), .int st, .int so, .int sr, .ref (mq 2), .ref (mq 3), .int fe, .int fs, .ref (mq 4), .int (nI se), .ref (mq 5), .ref (mq 6), .int sw, .int ks, .int (nI kbr), .int kst, .int kso, .int (nI kse), .ref (mq 7), .ref (mq 8), .ref (mq 9), .long hs])), (mq 1, .inl (ca 13, 28, .inl (fun zj => nI (pl zj))))]) (TY ca) (va_A [(mq 0, .inr (9, [.ref (mq 1), .int (nI ps), .int (-1), .int (nI nc), .int (nI br), .int st, .int so, .int sr, .ref (mq 2), .ref (mq 3), .int fe, .int fs, .ref (mq 4), .int (nI se), .ref (mq 5), .ref (mq 6), .int sw, .int ks, .int (nI kbr), .int kst, .int kso, .int (nI kse), .ref (mq 7), .ref (mq 8), .ref (mq 9), .long hs])), (mq 1, .inl (ca 13, 28, .inl (fun zj => nI (pl zj))))] sz)) (va_A [(mq 0, .inr (9, [.ref (mq 1), .int (nI ps), .int (-1), .int (nI nc), .int (nI br), .int st, .int so, .int sr, .ref (mq 2), .ref (mq 3), .int fe, .int fs, .ref (mq 4), .int (nI se), .ref (mq 5), .ref (mq 6), .int sw, .int ks, .int (nI kbr), .int kst, .int kso, .int (nI kse), .ref (mq 7), .ref (mq 8), .ref (mq 9), .long hs])), (mq 1, .inl (ca 13, 28, .inl (fun zj => nI (pl zj))))] sz)) 0 0 (va_A [(mq 0, .inr (9, [.ref (mq 1), .int (nI ps), .int (-1), .int (nI nc), .int (nI br), .int st, .int so, .int sr, .ref (mq 2), .ref (mq 3), .int fe, .int fs, .ref (mq 4), .int (nI se), .ref (mq 5), .ref (mq 6), .int sw, .int ks, .int (nI kbr), .int kst, .int kso, .int (nI kse), .ref (mq 7), .ref (mq 8), .ref (mq 9), .long hs])), (mq 1, .inl (ca 13, 28, .inl (fun zj => nI (pl zj))))] sz) := by
  refine Met.ofW (cc := cX9_isGood) (maxL := 3) (ret := (some .boolean)) (by decide) rfl ?_
  intro p e s m args below meth c s₁ B hml hv
  obtain ⟨rfl, hsz, hP, hK, hD0⟩ := hv
  have hx := B.exec
  have hb := B.bytes
  have hr := B.returns
  have hts := atoms_spec (ws := (Cond.code yX9_isGood cX9_isGood 3 (some .boolean) :: gT)) B.pre
  have htl : ∀ w ∈ gT, w.before _ s = true := fun w h => hts w (List.mem_cons_of_mem _ h)
  have hown : s.vm.findClass RX9 = some m.cls := findClass_of_methodNamed B.named
  have hlocks := B.notSynchronized
  subst hsz
  have hD := hD0.self (sz := s.heap.size)
  generalize hAe : va_A [(mq 0, .inr (9, [.ref (mq 1), .int (nI ps), .int (-1), .int (nI nc), .int (nI br), .int st, .int so, .int sr, .ref (mq 2), .ref (mq 3), .int fe, .int fs, .ref (mq 4), .int (nI se), .ref (mq 5), .ref (mq 6), .int sw, .int ks, .int (nI kbr), .int kst, .int kso, .int (nI kse), .ref (mq 7), .ref (mq 8), .ref (mq 9), .long hs])), (mq 1, .inl (ca 13, 28, .inl (fun zj => nI (pl zj))))] s.heap.size = A at hD ⊢
  have hA : ∀ q : Nat, s.heap.size ≤ q → A q := fun q h => by rw [← hAe]; exact Or.inr h
  have hS : va_S A s.heap s.heap [] := va_S.rf
  have hl := lv_entry ([Value.ref (mq 0), Value.int (nI a)]) (n := 3) (Nat.le_of_ble_eq_true rfl)
  rw [lg_entry_eq]
  generalize (lg_sl ([Value.ref (mq 0), Value.int (nI a)]) ++ List.replicate (3 - (lg_sl ([Value.ref (mq 0), Value.int (nI a)])).length) Slot.unset).toArray = ls at hl ⊢
  have hl : lv_has ls 3 [(0, .ref (mq 0)), (1, .int (nI a))] := hl
  refine lv_aload_n hx hb dX9_isGood_0 rfl (lv_at hl 0 rfl) ?_
  refine va_get (D := (dC, dI)) (ci := 9) (v := .ref (mq 1)) (C := RX9) (T := TX9) (N := 26) hx hb htl iX9 hown hK hP 0 rfl rfl 0 (by decide) (htl _ wd_551) (fun _ h9 => h9) rfl dX9_isGood_1 ?_
  refine lv_iload_n hx hb dX9_isGood_4 rfl (lv_at hl 1 rfl) ?_
  refine va_iald hx hb hK hP 1 13 rfl rfl (vp_in_nI (by omega) (by decide)) dX9_isGood_5 ?_
  refine lv_ri (y := nI (pl a)) (congrArg (fun zj => nI (pl zj)) (nI_clamp (by omega))) ?_
  refine lv_istore_n (lv' := [(2, .int (nI (pl a))), (0, .ref (mq 0)), (1, .int (nI a))]) hx hb dX9_isGood_6 rfl hl (by decide) rfl (fun ls hl => ?_)
  refine lv_aload_n hx hb dX9_isGood_7 rfl (lv_at hl 1 rfl) ?_
  refine va_get (D := (dC, dI)) (ci := 9) (v := .int (-1)) (C := RX9) (T := TX9) (N := 26) hx hb htl iX9 hown hK hP 0 rfl rfl 2 (by decide) (htl _ wd_553) (fun _ h9 => h9) rfl dX9_isGood_8 ?_
  refine lv_iconst (v := (-1)) hx hb dX9_isGood_11 (by decide) ?_
  refine lv_icmp_eq (tgt := 39) hx hb dX9_isGood_12 (by decide) (fun c_1 => ?_) (fun c_1 => ?_)
  · refine lv_iload_n hx hb dX9_isGood_39 rfl (lv_at hl 2 rfl) ?_
    refine lv_iconst (v := nI 4) hx hb dX9_isGood_40 (by decide) ?_
    refine lv_irem hx hb dX9_isGood_41 (by decide) ?_
    refine lv_ri (y := nI (a % 4)) (pk_rem (by omega) (by decide) (by decide)) ?_
    by_cases c_2 : (nI (a % 4)) = nI 0
    · refine lv_ri c_2 ?_
      refine lv_tableIn (off := 26) (tgt := 68) hx hb dX9_isGood_42 (by decide) (by decide) rfl (by decide) ?_
      refine lv_iload_n hx hb dX9_isGood_68 rfl (lv_at hl 0 rfl) ?_
      refine roS (As := [Value.int (nI (pl a))]) (rest := []) (kX9_kindBy l dC dI ca (pl a) (hpl a ha)) ⟨hx, hb, hml, hown, htl⟩ (cSg 1 htl wd_659 wd_660 wd_6 wd_661 rfl rfl (by decide +kernel) ⟨Nat.le_of_ble_eq_true rfl, Nat.le_of_ble_eq_true rfl⟩) (hP.sub [] rfl) hK rfl hl.1 rfl (Nat.le_of_ble_eq_true rfl) dX9_isGood_69 ⟨Nat.zero_le _, Nat.zero_le _⟩ (fun r hr9 => ?_)
      subst hr9
      refine lv_iconst (v := (-1)) hx hb dX9_isGood_72 (by decide) ?_
      refine lv_icmp_eq (tgt := 80) hx hb dX9_isGood_73 (by decide) (fun c_3 => ?_) (fun c_3 => ?_)
      · refine lv_iconst (v := nI 0) hx hb dX9_isGood_80 (by decide) ?_
        have hP9 := hP.sub (ws' := [(mq 0, .inr (9, [.ref (mq 1), .int (nI ps), .int (-1), .int (nI nc), .int (nI br), .int st, .int so, .int sr, .ref (mq 2), .ref (mq 3), .int fe, .int fs, .ref (mq 4), .int (nI se), .ref (mq 5), .ref (mq 6), .int sw, .int ks, .int (nI kbr), .int kst, .int kso, .int (nI kse), .ref (mq 7), .ref (mq 8), .ref (mq 9), .long hs])), (mq 1, .inl (ca 13, 28, .inl (fun zj => nI (pl zj))))]) [0, 1] rfl
        have hD9 := hD.sub (ws' := [(mq 0, .inr (9, [.ref (mq 1), .int (nI ps), .int (-1), .int (nI nc), .int (nI br), .int st, .int so, .int sr, .ref (mq 2), .ref (mq 3), .int fe, .int fs, .ref (mq 4), .int (nI se), .ref (mq 5), .ref (mq 6), .int sw, .int ks, .int (nI kbr), .int kst, .int kso, .int (nI kse), .ref (mq 7), .ref (mq 8), .ref (mq 9), .long hs])), (mq 1, .inl (ca 13, 28, .inl (fun zj => nI (pl zj))))]) [0, 1] (by decide) rfl
        have z0 : a % 4 = 0 := (nI_eq (by omega) (by decide)).mp c_2
        have hE9 : gdE pl none a = none := by unfold gdE; simp; omega
        exact W.zret (v := nI 0) hx hb hr (by decide +kernel) (fun t ht hW => ⟨⟨nI 0, (), rfl, by show nI 0 = bI (fitH pl a); unfold fitH; rw [if_pos z0]; simp only [c_3]; rfl, by rw [ht]; simp only [hE9]; exact hP9, va_K.moved hW.alike hK, (by simp only [hE9]; exact hD9)⟩, hS.F ht⟩) hS.2.2 dX9_isGood_81
      · refine lv_iconst (v := nI 1) hx hb dX9_isGood_76 (by decide) ?_
        refine lv_goto (tgt := 81) hx hb dX9_isGood_77 (by decide) ?_
        have hP9 := hP.sub (ws' := [(mq 0, .inr (9, [.ref (mq 1), .int (nI ps), .int (-1), .int (nI nc), .int (nI br), .int st, .int so, .int sr, .ref (mq 2), .ref (mq 3), .int fe, .int fs, .ref (mq 4), .int (nI se), .ref (mq 5), .ref (mq 6), .int sw, .int ks, .int (nI kbr), .int kst, .int kso, .int (nI kse), .ref (mq 7), .ref (mq 8), .ref (mq 9), .long hs])), (mq 1, .inl (ca 13, 28, .inl (fun zj => nI (pl zj))))]) [0, 1] rfl
        have hD9 := hD.sub (ws' := [(mq 0, .inr (9, [.ref (mq 1), .int (nI ps), .int (-1), .int (nI nc), .int (nI br), .int st, .int so, .int sr, .ref (mq 2), .ref (mq 3), .int fe, .int fs, .ref (mq 4), .int (nI se), .ref (mq 5), .ref (mq 6), .int sw, .int ks, .int (nI kbr), .int kst, .int kso, .int (nI kse), .ref (mq 7), .ref (mq 8), .ref (mq 9), .long hs])), (mq 1, .inl (ca 13, 28, .inl (fun zj => nI (pl zj))))]) [0, 1] (by decide) rfl
        have z0 : a % 4 = 0 := (nI_eq (by omega) (by decide)).mp c_2
        have hE9 : gdE pl none a = none := by unfold gdE; simp; omega
        exact W.zret (v := nI 1) hx hb hr (by decide +kernel) (fun t ht hW => ⟨⟨nI 1, (), rfl, by show nI 1 = bI (fitH pl a); unfold fitH; rw [if_pos z0]; simp only [c_3]; rfl, by rw [ht]; simp only [hE9]; exact hP9, va_K.moved hW.alike hK, (by simp only [hE9]; exact hD9)⟩, hS.F ht⟩) hS.2.2 dX9_isGood_81
    by_cases c_4 : (nI (a % 4)) = nI 1
    · refine lv_ri c_4 ?_
      refine lv_tableIn (off := 40) (tgt := 82) hx hb dX9_isGood_42 (by decide) (by decide) rfl (by decide) ?_
      refine lv_iload_n hx hb dX9_isGood_82 rfl (lv_at hl 0 rfl) ?_
      refine roS (As := [Value.int (nI (pl a))]) (rest := []) (kX9_isDigit l dC dI ca (pl a) (hpl a ha)) ⟨hx, hb, hml, hown, htl⟩ (cSg 1 htl wd_654 wd_655 wd_6 wd_656 rfl rfl (by decide +kernel) ⟨Nat.le_of_ble_eq_true rfl, Nat.le_of_ble_eq_true rfl⟩) (hP.sub [] rfl) hK rfl hl.1 rfl (Nat.le_of_ble_eq_true rfl) dX9_isGood_83 ⟨Nat.zero_le _, Nat.zero_le _⟩ (fun r hr9 => ?_)
      subst hr9
      have hP9 := hP.sub (ws' := [(mq 0, .inr (9, [.ref (mq 1), .int (nI ps), .int (-1), .int (nI nc), .int (nI br), .int st, .int so, .int sr, .ref (mq 2), .ref (mq 3), .int fe, .int fs, .ref (mq 4), .int (nI se), .ref (mq 5), .ref (mq 6), .int sw, .int ks, .int (nI kbr), .int kst, .int kso, .int (nI kse), .ref (mq 7), .ref (mq 8), .ref (mq 9), .long hs])), (mq 1, .inl (ca 13, 28, .inl (fun zj => nI (pl zj))))]) [0, 1] rfl
      have hD9 := hD.sub (ws' := [(mq 0, .inr (9, [.ref (mq 1), .int (nI ps), .int (-1), .int (nI nc), .int (nI br), .int st, .int so, .int sr, .ref (mq 2), .ref (mq 3), .int fe, .int fs, .ref (mq 4), .int (nI se), .ref (mq 5), .ref (mq 6), .int sw, .int ks, .int (nI kbr), .int kst, .int kso, .int (nI kse), .ref (mq 7), .ref (mq 8), .ref (mq 9), .long hs])), (mq 1, .inl (ca 13, 28, .inl (fun zj => nI (pl zj))))]) [0, 1] (by decide) rfl
      have z0 : ¬ a % 4 = 0 := (fun h => c_2 ((nI_eq (by omega) (by decide)).mpr h))
      have z1 : a % 4 = 1 := (nI_eq (by omega) (by decide)).mp c_4
      have hE9 : gdE pl none a = none := by unfold gdE; simp; omega
      exact W.zret (v := bI (dig (pl a))) hx hb hr (bI_n _) (fun t ht hW => ⟨⟨bI (dig (pl a)), (), rfl, by show bI (dig (pl a)) = bI (fitH pl a); unfold fitH; rw [if_neg (by omega), if_neg (by omega)], by rw [ht]; simp only [hE9]; exact hP9, va_K.moved hW.alike hK, (by simp only [hE9]; exact hD9)⟩, hS.F ht⟩) hS.2.2 dX9_isGood_86
    by_cases c_5 : (nI (a % 4)) = nI 2
    · refine lv_ri c_5 ?_
      refine lv_tableIn (off := 40) (tgt := 82) hx hb dX9_isGood_42 (by decide) (by decide) rfl (by decide) ?_
      refine lv_iload_n hx hb dX9_isGood_82 rfl (lv_at hl 0 rfl) ?_
      refine roS (As := [Value.int (nI (pl a))]) (rest := []) (kX9_isDigit l dC dI ca (pl a) (hpl a ha)) ⟨hx, hb, hml, hown, htl⟩ (cSg 1 htl wd_654 wd_655 wd_6 wd_656 rfl rfl (by decide +kernel) ⟨Nat.le_of_ble_eq_true rfl, Nat.le_of_ble_eq_true rfl⟩) (hP.sub [] rfl) hK rfl hl.1 rfl (Nat.le_of_ble_eq_true rfl) dX9_isGood_83 ⟨Nat.zero_le _, Nat.zero_le _⟩ (fun r hr9 => ?_)
      subst hr9
      have hP9 := hP.sub (ws' := [(mq 0, .inr (9, [.ref (mq 1), .int (nI ps), .int (-1), .int (nI nc), .int (nI br), .int st, .int so, .int sr, .ref (mq 2), .ref (mq 3), .int fe, .int fs, .ref (mq 4), .int (nI se), .ref (mq 5), .ref (mq 6), .int sw, .int ks, .int (nI kbr), .int kst, .int kso, .int (nI kse), .ref (mq 7), .ref (mq 8), .ref (mq 9), .long hs])), (mq 1, .inl (ca 13, 28, .inl (fun zj => nI (pl zj))))]) [0, 1] rfl
      have hD9 := hD.sub (ws' := [(mq 0, .inr (9, [.ref (mq 1), .int (nI ps), .int (-1), .int (nI nc), .int (nI br), .int st, .int so, .int sr, .ref (mq 2), .ref (mq 3), .int fe, .int fs, .ref (mq 4), .int (nI se), .ref (mq 5), .ref (mq 6), .int sw, .int ks, .int (nI kbr), .int kst, .int kso, .int (nI kse), .ref (mq 7), .ref (mq 8), .ref (mq 9), .long hs])), (mq 1, .inl (ca 13, 28, .inl (fun zj => nI (pl zj))))]) [0, 1] (by decide) rfl
      have z0 : ¬ a % 4 = 0 := (fun h => c_2 ((nI_eq (by omega) (by decide)).mpr h))
      have z1 : ¬ a % 4 = 1 := (fun h => c_4 ((nI_eq (by omega) (by decide)).mpr h))
      have z2 : a % 4 = 2 := (nI_eq (by omega) (by decide)).mp c_5
      have hE9 : gdE pl none a = none := by unfold gdE; simp; omega
      exact W.zret (v := bI (dig (pl a))) hx hb hr (bI_n _) (fun t ht hW => ⟨⟨bI (dig (pl a)), (), rfl, by show bI (dig (pl a)) = bI (fitH pl a); unfold fitH; rw [if_neg (by omega), if_neg (by omega)], by rw [ht]; simp only [hE9]; exact hP9, va_K.moved hW.alike hK, (by simp only [hE9]; exact hD9)⟩, hS.F ht⟩) hS.2.2 dX9_isGood_86
    have ho_42 : (nI (a % 4)).toInt < 0 ∨ 2 < (nI (a % 4)).toInt := by
      have q0 := lv_neT (k := nI 0) (a := 0) c_2 (by decide)
      have q1 := lv_neT (k := nI 1) (a := 1) c_4 (by decide)
      have q2 := lv_neT (k := nI 2) (a := 2) c_5 (by decide)
      omega
    refine lv_tableOut (tgt := 87) hx hb dX9_isGood_42 ho_42 (by decide) ?_
    refine lv_aload_n hx hb dX9_isGood_87 rfl (lv_at hl 1 rfl) ?_
    refine lv_iload_n hx hb dX9_isGood_88 rfl (lv_at hl 0 rfl) ?_
    refine lv_bipush (v := nI 59) hx hb dX9_isGood_89 (by decide) ?_
    refine lv_icmp_ne (tgt := 98) hx hb dX9_isGood_91 (by decide) (fun c_6 => ?_) (fun c_6 => ?_)
    · rw [nI_eq (Nat.lt_trans (hpl a ha) (by decide)) (by decide)] at c_6
      refine lv_iconst (v := (-1)) hx hb dX9_isGood_98 (by decide) ?_
      refine va_put (D := (dC, dI)) (ci := 9) (v := .int (-1)) (ty := .int) (C := RX9) (T := TX9) (N := 26) hx hb htl iX9 tyX9 tyX9_ok nmX9 hown hK hP hD hS 0 rfl rfl 2 (by decide) (htl _ wd_553) (fun _ h9 => h9) rfl (by decide +kernel) rfl rfl (Nat.le_of_ble_eq_true rfl) dX9_isGood_99 (fun H locs hP hD hS => ?_)
      have hP : va_P (dC, dI) vwCl [(mq 0, .inr (9, [.ref (mq 1), .int (nI ps), .int (-1), .int (nI nc), .int (nI br), .int st, .int so, .int sr, .ref (mq 2), .ref (mq 3), .int fe, .int fs, .ref (mq 4), .int (nI se), .ref (mq 5), .ref (mq 6), .int sw, .int ks, .int (nI kbr), .int kst, .int kso, .int (nI kse), .ref (mq 7), .ref (mq 8), .ref (mq 9), .long hs])), (mq 1, .inl (ca 13, 28, .inl (fun zj => nI (pl zj))))] H := hP
      have hD : va_D A [(mq 0, .inr (9, [.ref (mq 1), .int (nI ps), .int (-1), .int (nI nc), .int (nI br), .int st, .int so, .int sr, .ref (mq 2), .ref (mq 3), .int fe, .int fs, .ref (mq 4), .int (nI se), .ref (mq 5), .ref (mq 6), .int sw, .int ks, .int (nI kbr), .int kst, .int kso, .int (nI kse), .ref (mq 7), .ref (mq 8), .ref (mq 9), .long hs])), (mq 1, .inl (ca 13, 28, .inl (fun zj => nI (pl zj))))] := hD
      refine lv_iload_n hx hb dX9_isGood_102 rfl (lv_at hl 0 rfl) ?_
      refine lv_bipush (v := nI 59) hx hb dX9_isGood_103 (by decide) ?_
      refine lv_icmp_eq (tgt := 120) hx hb dX9_isGood_105 (by decide) (fun c_7 => ?_) (fun c_7 => ?_)
      · (rw [nI_eq (Nat.lt_trans (hpl a ha) (by decide)) (by decide)] at c_7; exact absurd c_7 c_6)
      · rw [nI_eq (Nat.lt_trans (hpl a ha) (by decide)) (by decide)] at c_7
        refine lv_iload_n hx hb dX9_isGood_108 rfl (lv_at hl 0 rfl) ?_
        refine lv_bipush (v := nI 44) hx hb dX9_isGood_109 (by decide) ?_
        refine lv_icmp_ne (tgt := 124) hx hb dX9_isGood_111 (by decide) (fun c_8 => ?_) (fun c_8 => ?_)
        · rw [nI_eq (Nat.lt_trans (hpl a ha) (by decide)) (by decide)] at c_8
          refine lv_iconst (v := nI 0) hx hb dX9_isGood_124 (by decide) ?_
          have hP9 := hP.sub (ws' := [(mq 0, .inr (9, [.ref (mq 1), .int (nI ps), .int (-1), .int (nI nc), .int (nI br), .int st, .int so, .int sr, .ref (mq 2), .ref (mq 3), .int fe, .int fs, .ref (mq 4), .int (nI se), .ref (mq 5), .ref (mq 6), .int sw, .int ks, .int (nI kbr), .int kst, .int kso, .int (nI kse), .ref (mq 7), .ref (mq 8), .ref (mq 9), .long hs])), (mq 1, .inl (ca 13, 28, .inl (fun zj => nI (pl zj))))]) [0, 1] rfl
          have hD9 := hD.sub (ws' := [(mq 0, .inr (9, [.ref (mq 1), .int (nI ps), .int (-1), .int (nI nc), .int (nI br), .int st, .int so, .int sr, .ref (mq 2), .ref (mq 3), .int fe, .int fs, .ref (mq 4), .int (nI se), .ref (mq 5), .ref (mq 6), .int sw, .int ks, .int (nI kbr), .int kst, .int kso, .int (nI kse), .ref (mq 7), .ref (mq 8), .ref (mq 9), .long hs])), (mq 1, .inl (ca 13, 28, .inl (fun zj => nI (pl zj))))]) [0, 1] (by decide) rfl
          have z0 : ¬ a % 4 = 0 := (fun h => c_2 ((nI_eq (by omega) (by decide)).mpr h))
          have z1 : ¬ a % 4 = 1 := (fun h => c_4 ((nI_eq (by omega) (by decide)).mpr h))
          have z2 : ¬ a % 4 = 2 := (fun h => c_5 ((nI_eq (by omega) (by decide)).mpr h))
          have hE9 : gdE pl none a = none := by unfold gdE; simp; omega
          exact W.zret (v := nI 0) hx hb hr (by decide +kernel) (fun t ht hW => ⟨⟨nI 0, (), rfl, by show nI 0 = bI (fitH pl a); unfold fitH; rw [if_neg (by omega), if_pos (by omega), show (decide (pl a = 59) || (decide (pl a = 44) && decide (a / 4 < 3))) = false by simp; omega]; rfl, by rw [ht]; simp only [hE9]; exact hP9, va_K.moved hW.alike hK, (by simp only [hE9]; exact hD9)⟩, hS.F ht⟩) hS.2.2 dX9_isGood_125
        · rw [nI_eq (Nat.lt_trans (hpl a ha) (by decide)) (by decide)] at c_8
          refine lv_iload_n hx hb dX9_isGood_114 rfl (lv_at hl 2 rfl) ?_
          refine lv_bipush (v := nI 15) hx hb dX9_isGood_115 (by decide) ?_
          refine lv_icmp_ge (tgt := 124) hx hb dX9_isGood_117 (by decide) (fun c_9 => ?_) (fun c_9 => ?_)
          · rw [nI_leI (by decide) (by omega)] at c_9
            refine lv_iconst (v := nI 0) hx hb dX9_isGood_124 (by decide) ?_
            have hP9 := hP.sub (ws' := [(mq 0, .inr (9, [.ref (mq 1), .int (nI ps), .int (-1), .int (nI nc), .int (nI br), .int st, .int so, .int sr, .ref (mq 2), .ref (mq 3), .int fe, .int fs, .ref (mq 4), .int (nI se), .ref (mq 5), .ref (mq 6), .int sw, .int ks, .int (nI kbr), .int kst, .int kso, .int (nI kse), .ref (mq 7), .ref (mq 8), .ref (mq 9), .long hs])), (mq 1, .inl (ca 13, 28, .inl (fun zj => nI (pl zj))))]) [0, 1] rfl
            have hD9 := hD.sub (ws' := [(mq 0, .inr (9, [.ref (mq 1), .int (nI ps), .int (-1), .int (nI nc), .int (nI br), .int st, .int so, .int sr, .ref (mq 2), .ref (mq 3), .int fe, .int fs, .ref (mq 4), .int (nI se), .ref (mq 5), .ref (mq 6), .int sw, .int ks, .int (nI kbr), .int kst, .int kso, .int (nI kse), .ref (mq 7), .ref (mq 8), .ref (mq 9), .long hs])), (mq 1, .inl (ca 13, 28, .inl (fun zj => nI (pl zj))))]) [0, 1] (by decide) rfl
            have z0 : ¬ a % 4 = 0 := (fun h => c_2 ((nI_eq (by omega) (by decide)).mpr h))
            have z1 : ¬ a % 4 = 1 := (fun h => c_4 ((nI_eq (by omega) (by decide)).mpr h))
            have z2 : ¬ a % 4 = 2 := (fun h => c_5 ((nI_eq (by omega) (by decide)).mpr h))
            have hE9 : gdE pl none a = none := by unfold gdE; simp; omega
            exact W.zret (v := nI 0) hx hb hr (by decide +kernel) (fun t ht hW => ⟨⟨nI 0, (), rfl, by show nI 0 = bI (fitH pl a); unfold fitH; rw [if_neg (by omega), if_pos (by omega), show (decide (pl a = 59) || (decide (pl a = 44) && decide (a / 4 < 3))) = false by simp; omega]; rfl, by rw [ht]; simp only [hE9]; exact hP9, va_K.moved hW.alike hK, (by simp only [hE9]; exact hD9)⟩, hS.F ht⟩) hS.2.2 dX9_isGood_125
          · rw [nI_leI (by decide) (by omega)] at c_9
            refine lv_iconst (v := nI 1) hx hb dX9_isGood_120 (by decide) ?_
            refine lv_goto (tgt := 125) hx hb dX9_isGood_121 (by decide) ?_
            have hP9 := hP.sub (ws' := [(mq 0, .inr (9, [.ref (mq 1), .int (nI ps), .int (-1), .int (nI nc), .int (nI br), .int st, .int so, .int sr, .ref (mq 2), .ref (mq 3), .int fe, .int fs, .ref (mq 4), .int (nI se), .ref (mq 5), .ref (mq 6), .int sw, .int ks, .int (nI kbr), .int kst, .int kso, .int (nI kse), .ref (mq 7), .ref (mq 8), .ref (mq 9), .long hs])), (mq 1, .inl (ca 13, 28, .inl (fun zj => nI (pl zj))))]) [0, 1] rfl
            have hD9 := hD.sub (ws' := [(mq 0, .inr (9, [.ref (mq 1), .int (nI ps), .int (-1), .int (nI nc), .int (nI br), .int st, .int so, .int sr, .ref (mq 2), .ref (mq 3), .int fe, .int fs, .ref (mq 4), .int (nI se), .ref (mq 5), .ref (mq 6), .int sw, .int ks, .int (nI kbr), .int kst, .int kso, .int (nI kse), .ref (mq 7), .ref (mq 8), .ref (mq 9), .long hs])), (mq 1, .inl (ca 13, 28, .inl (fun zj => nI (pl zj))))]) [0, 1] (by decide) rfl
            have z0 : ¬ a % 4 = 0 := (fun h => c_2 ((nI_eq (by omega) (by decide)).mpr h))
            have z1 : ¬ a % 4 = 1 := (fun h => c_4 ((nI_eq (by omega) (by decide)).mpr h))
            have z2 : ¬ a % 4 = 2 := (fun h => c_5 ((nI_eq (by omega) (by decide)).mpr h))
            have hE9 : gdE pl none a = none := by unfold gdE; simp; omega
            exact W.zret (v := nI 1) hx hb hr (by decide +kernel) (fun t ht hW => ⟨⟨nI 1, (), rfl, by show nI 1 = bI (fitH pl a); unfold fitH; rw [if_neg (by omega), if_pos (by omega), show (decide (pl a = 59) || (decide (pl a = 44) && decide (a / 4 < 3))) = true by simp; omega]; rfl, by rw [ht]; simp only [hE9]; exact hP9, va_K.moved hW.alike hK, (by simp only [hE9]; exact hD9)⟩, hS.F ht⟩) hS.2.2 dX9_isGood_125
    · rw [nI_eq (Nat.lt_trans (hpl a ha) (by decide)) (by decide)] at c_6
      refine lv_iload_n hx hb dX9_isGood_94 rfl (lv_at hl 2 rfl) ?_
      refine lv_goto (tgt := 99) hx hb dX9_isGood_95 (by decide) ?_
      refine va_put (D := (dC, dI)) (ci := 9) (v := .int (nI a)) (ty := .int) (C := RX9) (T := TX9) (N := 26) hx hb htl iX9 tyX9 tyX9_ok nmX9 hown hK hP hD hS 0 rfl rfl 2 (by decide) (htl _ wd_553) (fun _ h9 => h9) rfl (by decide +kernel) rfl rfl (Nat.le_of_ble_eq_true rfl) dX9_isGood_99 (fun H locs hP hD hS => ?_)
      have hP : va_P (dC, dI) vwCl [(mq 0, .inr (9, [.ref (mq 1), .int (nI ps), .int (nI a), .int (nI nc), .int (nI br), .int st, .int so, .int sr, .ref (mq 2), .ref (mq 3), .int fe, .int fs, .ref (mq 4), .int (nI se), .ref (mq 5), .ref (mq 6), .int sw, .int ks, .int (nI kbr), .int kst, .int kso, .int (nI kse), .ref (mq 7), .ref (mq 8), .ref (mq 9), .long hs])), (mq 1, .inl (ca 13, 28, .inl (fun zj => nI (pl zj))))] H := hP
      have hD : va_D A [(mq 0, .inr (9, [.ref (mq 1), .int (nI ps), .int (nI a), .int (nI nc), .int (nI br), .int st, .int so, .int sr, .ref (mq 2), .ref (mq 3), .int fe, .int fs, .ref (mq 4), .int (nI se), .ref (mq 5), .ref (mq 6), .int sw, .int ks, .int (nI kbr), .int kst, .int kso, .int (nI kse), .ref (mq 7), .ref (mq 8), .ref (mq 9), .long hs])), (mq 1, .inl (ca 13, 28, .inl (fun zj => nI (pl zj))))] := hD
      refine lv_iload_n hx hb dX9_isGood_102 rfl (lv_at hl 0 rfl) ?_
      refine lv_bipush (v := nI 59) hx hb dX9_isGood_103 (by decide) ?_
      refine lv_icmp_eq (tgt := 120) hx hb dX9_isGood_105 (by decide) (fun c_10 => ?_) (fun c_10 => ?_)
      · rw [nI_eq (Nat.lt_trans (hpl a ha) (by decide)) (by decide)] at c_10
        refine lv_iconst (v := nI 1) hx hb dX9_isGood_120 (by decide) ?_
        refine lv_goto (tgt := 125) hx hb dX9_isGood_121 (by decide) ?_
        have hP9 := hP.sub (ws' := [(mq 0, .inr (9, [.ref (mq 1), .int (nI ps), .int (nI a), .int (nI nc), .int (nI br), .int st, .int so, .int sr, .ref (mq 2), .ref (mq 3), .int fe, .int fs, .ref (mq 4), .int (nI se), .ref (mq 5), .ref (mq 6), .int sw, .int ks, .int (nI kbr), .int kst, .int kso, .int (nI kse), .ref (mq 7), .ref (mq 8), .ref (mq 9), .long hs])), (mq 1, .inl (ca 13, 28, .inl (fun zj => nI (pl zj))))]) [0, 1] rfl
        have hD9 := hD.sub (ws' := [(mq 0, .inr (9, [.ref (mq 1), .int (nI ps), .int (nI a), .int (nI nc), .int (nI br), .int st, .int so, .int sr, .ref (mq 2), .ref (mq 3), .int fe, .int fs, .ref (mq 4), .int (nI se), .ref (mq 5), .ref (mq 6), .int sw, .int ks, .int (nI kbr), .int kst, .int kso, .int (nI kse), .ref (mq 7), .ref (mq 8), .ref (mq 9), .long hs])), (mq 1, .inl (ca 13, 28, .inl (fun zj => nI (pl zj))))]) [0, 1] (by decide) rfl
        have z0 : ¬ a % 4 = 0 := (fun h => c_2 ((nI_eq (by omega) (by decide)).mpr h))
        have z1 : ¬ a % 4 = 1 := (fun h => c_4 ((nI_eq (by omega) (by decide)).mpr h))
        have z2 : ¬ a % 4 = 2 := (fun h => c_5 ((nI_eq (by omega) (by decide)).mpr h))
        have hE9 : gdE pl none a = some a := by unfold gdE; simp; omega
        exact W.zret (v := nI 1) hx hb hr (by decide +kernel) (fun t ht hW => ⟨⟨nI 1, (), rfl, by show nI 1 = bI (fitH pl a); unfold fitH; rw [if_neg (by omega), if_pos (by omega), show (decide (pl a = 59) || (decide (pl a = 44) && decide (a / 4 < 3))) = true by simp; omega]; rfl, by rw [ht]; simp only [hE9]; exact hP9, va_K.moved hW.alike hK, (by simp only [hE9]; exact hD9)⟩, hS.F ht⟩) hS.2.2 dX9_isGood_125
      · (rw [nI_eq (Nat.lt_trans (hpl a ha) (by decide)) (by decide)] at c_10; exact absurd c_6 c_10)
  · exact absurd rfl c_1
set_option maxHeartbeats 4000000 in
set_option maxRecDepth 100000 in
theorem kX9_isGood_s (l : Launch) (dC : Nat → ClassId) (dI : Nat → Nat → Nat) (ca : Nat → ClassId) (sz : Nat) (a : Nat) (b : Nat) (nc : Nat) (sr : Int32) (ps : Nat) (pl : Nat → Nat) (br : Nat) (st : Int32) (so : Int32) (se : Nat) (kbr : Nat) (kst : Int32) (kso : Int32) (kse : Nat) (mq : Nat → Nat) (fe : Int32) (fs : Int32) (sw : Int32) (ks : Int32) (hs : Int64) (ha : a < 28) (hb9 : b ≤ a) (hpl : ∀ j, j < 28 → pl j < 127) : Met l yX9_isGood (Cond.code yX9_isGood cX9_isGood 3 (some .boolean) :: gT) (rk 3) (EFp (dC, dI) [(mq 0, .inr (9, [.ref (mq 1), .int (nI ps), .int (nI b), .int (nI nc), .int (nI br), .int st, .int so, .int sr, .ref (mq 2), .ref (mq 3), .int fe, .int fs, .ref (mq 4), .int (nI se), .ref (mq 5), .ref (mq 6), .int sw, .int ks, .int (nI kbr), .int kst, .int kso, .int (nI kse), .ref (mq 7), .ref (mq 8), .ref (mq 9), .long hs])), (mq 1, .inl (ca 13, 28, .inl (fun zj => nI (pl zj))))] (TY ca) sz [Value.ref (mq 0), Value.int (nI a)]) (va_Qi (fun (r : Int32) (_ : Unit) => r = bI (gdB pl (some b) a)) (EFb (dC, dI) (fun (_ : Unit) => [(mq 0, .inr (9, [.ref (mq 1), .int (nI ps), .int (eaI (gdE pl (some b) a)), .int (nI nc), .int (nI br), .int st, .int so, .int sr, .ref (mq 2), .ref (mq 3), .int fe, .int fs, .ref (mq 4), .int (nI se), .ref (mq 5), .ref (mq 6), .int sw, .int ks, .int (nI kbr), .int kst, .int kso, .int (nI kse), .ref (mq 7), .ref (mq 8), .ref (mq 9), .long hs])), (mq 1, .inl (ca 13, 28, .inl (fun zj => nI (pl zj))))]) (TY ca) (va_A [(mq 0, .inr (9, [.ref (mq 1), .int (nI ps), .int (nI b), .int (nI nc), .int (nI br), .int st, .int so, .int sr, .ref (mq 2), .ref (mq 3), .int fe, .int fs, .ref (mq 4), .int (nI se), .ref (mq 5), .ref (mq 6), .int sw, .int ks, .int (nI kbr), .int kst, .int kso, .int (nI kse), .ref (mq 7), .ref (mq 8), .ref (mq 9), .long hs])), (mq 1, .inl (ca 13, 28, .inl (fun zj => nI (pl zj))))] sz)) (va_A [(mq 0, .inr (9, [.ref (mq 1), .int (nI ps), .int (nI b), .int (nI nc), .int (nI br), .int st, .int so, .int sr, .ref (mq 2), .ref (mq 3), .int fe, .int fs, .ref (mq 4), .int (nI se), .ref (mq 5), .ref (mq 6), .int sw, .int ks, .int (nI kbr), .int kst, .int kso, .int (nI kse), .ref (mq 7), .ref (mq 8), .ref (mq 9), .long hs])), (mq 1, .inl (ca 13, 28, .inl (fun zj => nI (pl zj))))] sz)) 0 0 (va_A [(mq 0, .inr (9, [.ref (mq 1), .int (nI ps), .int (nI b), .int (nI nc), .int (nI br), .int st, .int so, .int sr, .ref (mq 2), .ref (mq 3), .int fe, .int fs, .ref (mq 4), .int (nI se), .ref (mq 5), .ref (mq 6), .int sw, .int ks, .int (nI kbr), .int kst, .int kso, .int (nI kse), .ref (mq 7), .ref (mq 8), .ref (mq 9), .long hs])), (mq 1, .inl (ca 13, 28, .inl (fun zj => nI (pl zj))))] sz) := by
  refine Met.ofW (cc := cX9_isGood) (maxL := 3) (ret := (some .boolean)) (by decide) rfl ?_
  intro p e s m args below meth c s₁ B hml hv
  obtain ⟨rfl, hsz, hP, hK, hD0⟩ := hv
  have hx := B.exec
  have hb := B.bytes
  have hr := B.returns
  have hts := atoms_spec (ws := (Cond.code yX9_isGood cX9_isGood 3 (some .boolean) :: gT)) B.pre
  have htl : ∀ w ∈ gT, w.before _ s = true := fun w h => hts w (List.mem_cons_of_mem _ h)
  have hown : s.vm.findClass RX9 = some m.cls := findClass_of_methodNamed B.named
  have hlocks := B.notSynchronized
  subst hsz
  have hD := hD0.self (sz := s.heap.size)
  generalize hAe : va_A [(mq 0, .inr (9, [.ref (mq 1), .int (nI ps), .int (nI b), .int (nI nc), .int (nI br), .int st, .int so, .int sr, .ref (mq 2), .ref (mq 3), .int fe, .int fs, .ref (mq 4), .int (nI se), .ref (mq 5), .ref (mq 6), .int sw, .int ks, .int (nI kbr), .int kst, .int kso, .int (nI kse), .ref (mq 7), .ref (mq 8), .ref (mq 9), .long hs])), (mq 1, .inl (ca 13, 28, .inl (fun zj => nI (pl zj))))] s.heap.size = A at hD ⊢
  have hA : ∀ q : Nat, s.heap.size ≤ q → A q := fun q h => by rw [← hAe]; exact Or.inr h
  have hS : va_S A s.heap s.heap [] := va_S.rf
  have hl := lv_entry ([Value.ref (mq 0), Value.int (nI a)]) (n := 3) (Nat.le_of_ble_eq_true rfl)
  rw [lg_entry_eq]
  generalize (lg_sl ([Value.ref (mq 0), Value.int (nI a)]) ++ List.replicate (3 - (lg_sl ([Value.ref (mq 0), Value.int (nI a)])).length) Slot.unset).toArray = ls at hl ⊢
  have hl : lv_has ls 3 [(0, .ref (mq 0)), (1, .int (nI a))] := hl
  refine lv_aload_n hx hb dX9_isGood_0 rfl (lv_at hl 0 rfl) ?_
  refine va_get (D := (dC, dI)) (ci := 9) (v := .ref (mq 1)) (C := RX9) (T := TX9) (N := 26) hx hb htl iX9 hown hK hP 0 rfl rfl 0 (by decide) (htl _ wd_551) (fun _ h9 => h9) rfl dX9_isGood_1 ?_
  refine lv_iload_n hx hb dX9_isGood_4 rfl (lv_at hl 1 rfl) ?_
  refine va_iald hx hb hK hP 1 13 rfl rfl (vp_in_nI (by omega) (by decide)) dX9_isGood_5 ?_
  refine lv_ri (y := nI (pl a)) (congrArg (fun zj => nI (pl zj)) (nI_clamp (by omega))) ?_
  refine lv_istore_n (lv' := [(2, .int (nI (pl a))), (0, .ref (mq 0)), (1, .int (nI a))]) hx hb dX9_isGood_6 rfl hl (by decide) rfl (fun ls hl => ?_)
  refine lv_aload_n hx hb dX9_isGood_7 rfl (lv_at hl 1 rfl) ?_
  refine va_get (D := (dC, dI)) (ci := 9) (v := .int (nI b)) (C := RX9) (T := TX9) (N := 26) hx hb htl iX9 hown hK hP 0 rfl rfl 2 (by decide) (htl _ wd_553) (fun _ h9 => h9) rfl dX9_isGood_8 ?_
  refine lv_iconst (v := (-1)) hx hb dX9_isGood_11 (by decide) ?_
  refine lv_icmp_eq (tgt := 39) hx hb dX9_isGood_12 (by decide) (fun c_1 => ?_) (fun c_1 => ?_)
  · exact absurd c_1 (nI_ne1 (by omega))
  · refine lv_iload_n hx hb dX9_isGood_15 rfl (lv_at hl 2 rfl) ?_
    refine lv_aload_n hx hb dX9_isGood_16 rfl (lv_at hl 1 rfl) ?_
    refine va_get (D := (dC, dI)) (ci := 9) (v := .int (nI b)) (C := RX9) (T := TX9) (N := 26) hx hb htl iX9 hown hK hP 0 rfl rfl 2 (by decide) (htl _ wd_553) (fun _ h9 => h9) rfl dX9_isGood_17 ?_
    refine lv_isub hx hb dX9_isGood_20 ?_
    refine lv_ri (y := nI (a - b)) (pk_sub hb9) ?_
    refine lv_bipush (v := nI 11) hx hb dX9_isGood_21 (by decide) ?_
    refine lv_icmp_ge (tgt := 37) hx hb dX9_isGood_23 (by decide) (fun c_2 => ?_) (fun c_2 => ?_)
    · rw [nI_leI (by decide) (by omega)] at c_2
      refine lv_iconst (v := nI 0) hx hb dX9_isGood_37 (by decide) ?_
      have hP9 := hP.sub (ws' := [(mq 0, .inr (9, [.ref (mq 1), .int (nI ps), .int (nI b), .int (nI nc), .int (nI br), .int st, .int so, .int sr, .ref (mq 2), .ref (mq 3), .int fe, .int fs, .ref (mq 4), .int (nI se), .ref (mq 5), .ref (mq 6), .int sw, .int ks, .int (nI kbr), .int kst, .int kso, .int (nI kse), .ref (mq 7), .ref (mq 8), .ref (mq 9), .long hs])), (mq 1, .inl (ca 13, 28, .inl (fun zj => nI (pl zj))))]) [0, 1] rfl
      have hD9 := hD.sub (ws' := [(mq 0, .inr (9, [.ref (mq 1), .int (nI ps), .int (nI b), .int (nI nc), .int (nI br), .int st, .int so, .int sr, .ref (mq 2), .ref (mq 3), .int fe, .int fs, .ref (mq 4), .int (nI se), .ref (mq 5), .ref (mq 6), .int sw, .int ks, .int (nI kbr), .int kst, .int kso, .int (nI kse), .ref (mq 7), .ref (mq 8), .ref (mq 9), .long hs])), (mq 1, .inl (ca 13, 28, .inl (fun zj => nI (pl zj))))]) [0, 1] (by decide) rfl
      exact W.zret (v := nI 0) hx hb hr (by decide +kernel) (fun t ht hW => ⟨⟨nI 0, (), rfl, by show _ = _; show nI 0 = bI (fitT pl b a); rw [show fitT pl b a = false by unfold fitT; simp; (try omega)]; rfl, by rw [ht]; exact hP9, va_K.moved hW.alike hK, hD9⟩, hS.F ht⟩) hS.2.2 dX9_isGood_38
    · rw [nI_leI (by decide) (by omega)] at c_2
      refine lv_iload_n hx hb dX9_isGood_26 rfl (lv_at hl 0 rfl) ?_
      refine roS (As := [Value.int (nI (pl a))]) (rest := []) (kX9_isDigit l dC dI ca (pl a) (hpl a ha)) ⟨hx, hb, hml, hown, htl⟩ (cSg 1 htl wd_654 wd_655 wd_6 wd_656 rfl rfl (by decide +kernel) ⟨Nat.le_of_ble_eq_true rfl, Nat.le_of_ble_eq_true rfl⟩) (hP.sub [] rfl) hK rfl hl.1 rfl (Nat.le_of_ble_eq_true rfl) dX9_isGood_27 ⟨Nat.zero_le _, Nat.zero_le _⟩ (fun r hr9 => ?_)
      subst hr9
      refine lv_if_eq (tgt := 37) hx hb dX9_isGood_30 (by decide) (fun c_3 => ?_) (fun c_3 => ?_)
      · replace c_3 := bI_f c_3
        refine lv_iconst (v := nI 0) hx hb dX9_isGood_37 (by decide) ?_
        have hP9 := hP.sub (ws' := [(mq 0, .inr (9, [.ref (mq 1), .int (nI ps), .int (nI b), .int (nI nc), .int (nI br), .int st, .int so, .int sr, .ref (mq 2), .ref (mq 3), .int fe, .int fs, .ref (mq 4), .int (nI se), .ref (mq 5), .ref (mq 6), .int sw, .int ks, .int (nI kbr), .int kst, .int kso, .int (nI kse), .ref (mq 7), .ref (mq 8), .ref (mq 9), .long hs])), (mq 1, .inl (ca 13, 28, .inl (fun zj => nI (pl zj))))]) [0, 1] rfl
        have hD9 := hD.sub (ws' := [(mq 0, .inr (9, [.ref (mq 1), .int (nI ps), .int (nI b), .int (nI nc), .int (nI br), .int st, .int so, .int sr, .ref (mq 2), .ref (mq 3), .int fe, .int fs, .ref (mq 4), .int (nI se), .ref (mq 5), .ref (mq 6), .int sw, .int ks, .int (nI kbr), .int kst, .int kso, .int (nI kse), .ref (mq 7), .ref (mq 8), .ref (mq 9), .long hs])), (mq 1, .inl (ca 13, 28, .inl (fun zj => nI (pl zj))))]) [0, 1] (by decide) rfl
        exact W.zret (v := nI 0) hx hb hr (by decide +kernel) (fun t ht hW => ⟨⟨nI 0, (), rfl, by show _ = _; show nI 0 = bI (fitT pl b a); rw [show fitT pl b a = false by unfold fitT; simp [c_3]; (try omega)]; rfl, by rw [ht]; exact hP9, va_K.moved hW.alike hK, hD9⟩, hS.F ht⟩) hS.2.2 dX9_isGood_38
      · replace c_3 := bI_t c_3
        refine lv_iconst (v := nI 1) hx hb dX9_isGood_33 (by decide) ?_
        refine lv_goto (tgt := 38) hx hb dX9_isGood_34 (by decide) ?_
        have hP9 := hP.sub (ws' := [(mq 0, .inr (9, [.ref (mq 1), .int (nI ps), .int (nI b), .int (nI nc), .int (nI br), .int st, .int so, .int sr, .ref (mq 2), .ref (mq 3), .int fe, .int fs, .ref (mq 4), .int (nI se), .ref (mq 5), .ref (mq 6), .int sw, .int ks, .int (nI kbr), .int kst, .int kso, .int (nI kse), .ref (mq 7), .ref (mq 8), .ref (mq 9), .long hs])), (mq 1, .inl (ca 13, 28, .inl (fun zj => nI (pl zj))))]) [0, 1] rfl
        have hD9 := hD.sub (ws' := [(mq 0, .inr (9, [.ref (mq 1), .int (nI ps), .int (nI b), .int (nI nc), .int (nI br), .int st, .int so, .int sr, .ref (mq 2), .ref (mq 3), .int fe, .int fs, .ref (mq 4), .int (nI se), .ref (mq 5), .ref (mq 6), .int sw, .int ks, .int (nI kbr), .int kst, .int kso, .int (nI kse), .ref (mq 7), .ref (mq 8), .ref (mq 9), .long hs])), (mq 1, .inl (ca 13, 28, .inl (fun zj => nI (pl zj))))]) [0, 1] (by decide) rfl
        exact W.zret (v := nI 1) hx hb hr (by decide +kernel) (fun t ht hW => ⟨⟨nI 1, (), rfl, by show _ = _; show nI 1 = bI (fitT pl b a); rw [show fitT pl b a = true by unfold fitT; simp [c_3]; (try omega)]; rfl, by rw [ht]; exact hP9, va_K.moved hW.alike hK, hD9⟩, hS.F ht⟩) hS.2.2 dX9_isGood_38
set_option maxHeartbeats 4000000 in
set_option maxRecDepth 100000 in
theorem kX9_faultOf (l : Launch) (dC : Nat → ClassId) (dI : Nat → Nat → Nat) (ca : Nat → ClassId) (sz : Nat) (nc : Nat) (sr : Int32) (ps : Nat) (pl : Nat → Nat) (br : Nat) (st : Int32) (so : Int32) (se : Nat) (kbr : Nat) (kst : Int32) (kso : Int32) (kse : Nat) (mq : Nat → Nat) (ea : Int32) (fe : Int32) (fs : Int32) (sw : Int32) (ks : Int32) (hs : Int64) (hps : ps ≤ 28) (hpl : ∀ j, j < 28 → pl j < 127) : Met l yX9_faultOf (Cond.code yX9_faultOf cX9_faultOf 2 (some .int) :: gT) (rk 4) (EFp (dC, dI) [(mq 0, .inr (9, [.ref (mq 1), .int (nI ps), .int ea, .int (nI nc), .int (nI br), .int st, .int so, .int sr, .ref (mq 2), .ref (mq 3), .int fe, .int fs, .ref (mq 4), .int (nI se), .ref (mq 5), .ref (mq 6), .int sw, .int ks, .int (nI kbr), .int kst, .int kso, .int (nI kse), .ref (mq 7), .ref (mq 8), .ref (mq 9), .long hs])), (mq 1, .inl (ca 13, 28, .inl (fun zj => nI (pl zj))))] (TY ca) sz [Value.ref (mq 0)]) (va_Qi (fun (r : Int32) (_ : Unit) => r = nI (fmL pl ps 0 none).1) (EFb (dC, dI) (fun (_ : Unit) => [(mq 0, .inr (9, [.ref (mq 1), .int (nI ps), .int (eaI (fmL pl ps 0 none).2), .int (nI nc), .int (nI br), .int st, .int so, .int sr, .ref (mq 2), .ref (mq 3), .int fe, .int fs, .ref (mq 4), .int (nI se), .ref (mq 5), .ref (mq 6), .int sw, .int ks, .int (nI kbr), .int kst, .int kso, .int (nI kse), .ref (mq 7), .ref (mq 8), .ref (mq 9), .long hs])), (mq 1, .inl (ca 13, 28, .inl (fun zj => nI (pl zj))))]) (TY ca) (va_A [(mq 0, .inr (9, [.ref (mq 1), .int (nI ps), .int ea, .int (nI nc), .int (nI br), .int st, .int so, .int sr, .ref (mq 2), .ref (mq 3), .int fe, .int fs, .ref (mq 4), .int (nI se), .ref (mq 5), .ref (mq 6), .int sw, .int ks, .int (nI kbr), .int kst, .int kso, .int (nI kse), .ref (mq 7), .ref (mq 8), .ref (mq 9), .long hs])), (mq 1, .inl (ca 13, 28, .inl (fun zj => nI (pl zj))))] sz)) (va_A [(mq 0, .inr (9, [.ref (mq 1), .int (nI ps), .int ea, .int (nI nc), .int (nI br), .int st, .int so, .int sr, .ref (mq 2), .ref (mq 3), .int fe, .int fs, .ref (mq 4), .int (nI se), .ref (mq 5), .ref (mq 6), .int sw, .int ks, .int (nI kbr), .int kst, .int kso, .int (nI kse), .ref (mq 7), .ref (mq 8), .ref (mq 9), .long hs])), (mq 1, .inl (ca 13, 28, .inl (fun zj => nI (pl zj))))] sz)) 0 0 (va_A [(mq 0, .inr (9, [.ref (mq 1), .int (nI ps), .int ea, .int (nI nc), .int (nI br), .int st, .int so, .int sr, .ref (mq 2), .ref (mq 3), .int fe, .int fs, .ref (mq 4), .int (nI se), .ref (mq 5), .ref (mq 6), .int sw, .int ks, .int (nI kbr), .int kst, .int kso, .int (nI kse), .ref (mq 7), .ref (mq 8), .ref (mq 9), .long hs])), (mq 1, .inl (ca 13, 28, .inl (fun zj => nI (pl zj))))] sz) := by
  refine Met.ofW (cc := cX9_faultOf) (maxL := 2) (ret := (some .int)) (by decide) rfl ?_
  intro p e s m args below meth c s₁ B hml hv
  obtain ⟨rfl, hsz, hP, hK, hD0⟩ := hv
  have hx := B.exec
  have hb := B.bytes
  have hr := B.returns
  have hts := atoms_spec (ws := (Cond.code yX9_faultOf cX9_faultOf 2 (some .int) :: gT)) B.pre
  have htl : ∀ w ∈ gT, w.before _ s = true := fun w h => hts w (List.mem_cons_of_mem _ h)
  have hown : s.vm.findClass RX9 = some m.cls := findClass_of_methodNamed B.named
  have hlocks := B.notSynchronized
  subst hsz
  have hD := hD0.self (sz := s.heap.size)
  generalize hAe : va_A [(mq 0, .inr (9, [.ref (mq 1), .int (nI ps), .int ea, .int (nI nc), .int (nI br), .int st, .int so, .int sr, .ref (mq 2), .ref (mq 3), .int fe, .int fs, .ref (mq 4), .int (nI se), .ref (mq 5), .ref (mq 6), .int sw, .int ks, .int (nI kbr), .int kst, .int kso, .int (nI kse), .ref (mq 7), .ref (mq 8), .ref (mq 9), .long hs])), (mq 1, .inl (ca 13, 28, .inl (fun zj => nI (pl zj))))] s.heap.size = A at hD ⊢
  have hA : ∀ q : Nat, s.heap.size ≤ q → A q := fun q h => by rw [← hAe]; exact Or.inr h
  have hS : va_S A s.heap s.heap [] := va_S.rf
  have hl := lv_entry ([Value.ref (mq 0)]) (n := 2) (Nat.le_of_ble_eq_true rfl)
  rw [lg_entry_eq]
  generalize (lg_sl ([Value.ref (mq 0)]) ++ List.replicate (2 - (lg_sl ([Value.ref (mq 0)])).length) Slot.unset).toArray = ls at hl ⊢
  have hl : lv_has ls 2 [(0, .ref (mq 0))] := hl
  refine lv_aload_n hx hb dX9_faultOf_0 rfl (lv_at hl 0 rfl) ?_
  refine lv_iconst (v := (-1)) hx hb dX9_faultOf_1 (by decide) ?_
  refine va_put (D := (dC, dI)) (ci := 9) (v := .int (-1)) (ty := .int) (C := RX9) (T := TX9) (N := 26) hx hb htl iX9 tyX9 tyX9_ok nmX9 hown hK hP hD hS 0 rfl rfl 2 (by decide) (htl _ wd_553) (fun _ h9 => h9) rfl (by decide +kernel) rfl rfl (Nat.le_of_ble_eq_true rfl) dX9_faultOf_2 (fun H locs hP hD hS => ?_)
  have hP : va_P (dC, dI) vwCl [(mq 0, .inr (9, [.ref (mq 1), .int (nI ps), .int (-1), .int (nI nc), .int (nI br), .int st, .int so, .int sr, .ref (mq 2), .ref (mq 3), .int fe, .int fs, .ref (mq 4), .int (nI se), .ref (mq 5), .ref (mq 6), .int sw, .int ks, .int (nI kbr), .int kst, .int kso, .int (nI kse), .ref (mq 7), .ref (mq 8), .ref (mq 9), .long hs])), (mq 1, .inl (ca 13, 28, .inl (fun zj => nI (pl zj))))] H := hP
  have hD : va_D A [(mq 0, .inr (9, [.ref (mq 1), .int (nI ps), .int (-1), .int (nI nc), .int (nI br), .int st, .int so, .int sr, .ref (mq 2), .ref (mq 3), .int fe, .int fs, .ref (mq 4), .int (nI se), .ref (mq 5), .ref (mq 6), .int sw, .int ks, .int (nI kbr), .int kst, .int kso, .int (nI kse), .ref (mq 7), .ref (mq 8), .ref (mq 9), .long hs])), (mq 1, .inl (ca 13, 28, .inl (fun zj => nI (pl zj))))] := hD
  refine lv_iconst (v := nI 0) hx hb dX9_faultOf_5 (by decide) ?_
  refine lv_istore_n (lv' := [(1, .int (nI 0)), (0, .ref (mq 0))]) hx hb dX9_faultOf_6 rfl hl (by decide) rfl (fun ls hl => ?_)
  have lp7 : ∀ (n : Nat) (a : Nat) (oe : Option Nat), (a + n = ps) → (∀ b, oe = some b → b < a) → (fmL pl n a oe = fmL pl ps 0 none) → ∀ (H : Heap) (locs : List Loc), va_P (dC, dI) vwCl [(mq 0, .inr (9, [.ref (mq 1), .int (nI ps), .int (eaI oe), .int (nI nc), .int (nI br), .int st, .int so, .int sr, .ref (mq 2), .ref (mq 3), .int fe, .int fs, .ref (mq 4), .int (nI se), .ref (mq 5), .ref (mq 6), .int sw, .int ks, .int (nI kbr), .int kst, .int kso, .int (nI kse), .ref (mq 7), .ref (mq 8), .ref (mq 9), .long hs])), (mq 1, .inl (ca 13, 28, .inl (fun zj => nI (pl zj))))] H → va_D A [(mq 0, .inr (9, [.ref (mq 1), .int (nI ps), .int (eaI oe), .int (nI nc), .int (nI br), .int st, .int so, .int sr, .ref (mq 2), .ref (mq 3), .int fe, .int fs, .ref (mq 4), .int (nI se), .ref (mq 5), .ref (mq 6), .int sw, .int ks, .int (nI kbr), .int kst, .int kso, .int (nI kse), .ref (mq 7), .ref (mq 8), .ref (mq 9), .long hs])), (mq 1, .inl (ca 13, 28, .inl (fun zj => nI (pl zj))))] → va_S A s.heap H locs → ∀ (ls : Array Slot), lv_has ls 2 [(1, .int (nI a)), (0, .ref (mq 0))] → W p l e (headSpec (Cond.code yX9_faultOf cX9_faultOf 2 (some .int) :: gT) (rk 4)).room s m ([Value.ref (mq 0)] : List Value).toArray below meth c H locs 0 0 (MQ below (va_Qi (fun (r : Int32) (_ : Unit) => r = nI (fmL pl ps 0 none).1) (EFb (dC, dI) (fun (_ : Unit) => [(mq 0, .inr (9, [.ref (mq 1), .int (nI ps), .int (eaI (fmL pl ps 0 none).2), .int (nI nc), .int (nI br), .int st, .int so, .int sr, .ref (mq 2), .ref (mq 3), .int fe, .int fs, .ref (mq 4), .int (nI se), .ref (mq 5), .ref (mq 6), .int sw, .int ks, .int (nI kbr), .int kst, .int kso, .int (nI kse), .ref (mq 7), .ref (mq 8), .ref (mq 9), .long hs])), (mq 1, .inl (ca 13, 28, .inl (fun zj => nI (pl zj))))]) (TY ca) A) A) ([Value.ref (mq 0)] : List Value).toArray s 0 0 A) (F0 m 7 ls []) := by
    clear hS hP hD
    clear hl
    intro n
    induction n with
    | zero =>
      intro a oe hj hoe hR H locs hP hD hS ls hl
      refine lv_iload_n hx hb dX9_faultOf_7 rfl (lv_at hl 0 rfl) ?_
      refine lv_aload_n hx hb dX9_faultOf_8 rfl (lv_at hl 1 rfl) ?_
      refine va_get (D := (dC, dI)) (ci := 9) (v := .int (nI ps)) (C := RX9) (T := TX9) (N := 26) hx hb htl iX9 hown hK hP 0 rfl rfl 1 (by decide) (htl _ wd_552) (fun _ h9 => h9) rfl dX9_faultOf_9 ?_
      refine lv_icmp_ge (tgt := 29) hx hb dX9_faultOf_12 (by decide) (fun c_1 => ?_) (fun c_1 => ?_)
      · refine lv_iload_n hx hb dX9_faultOf_29 rfl (lv_at hl 0 rfl) ?_
        have hP9 := hP.sub (ws' := [(mq 0, .inr (9, [.ref (mq 1), .int (nI ps), .int (eaI oe), .int (nI nc), .int (nI br), .int st, .int so, .int sr, .ref (mq 2), .ref (mq 3), .int fe, .int fs, .ref (mq 4), .int (nI se), .ref (mq 5), .ref (mq 6), .int sw, .int ks, .int (nI kbr), .int kst, .int kso, .int (nI kse), .ref (mq 7), .ref (mq 8), .ref (mq 9), .long hs])), (mq 1, .inl (ca 13, 28, .inl (fun zj => nI (pl zj))))]) [0, 1] rfl
        have hD9 := hD.sub (ws' := [(mq 0, .inr (9, [.ref (mq 1), .int (nI ps), .int (eaI oe), .int (nI nc), .int (nI br), .int st, .int so, .int sr, .ref (mq 2), .ref (mq 3), .int fe, .int fs, .ref (mq 4), .int (nI se), .ref (mq 5), .ref (mq 6), .int sw, .int ks, .int (nI kbr), .int kst, .int kso, .int (nI kse), .ref (mq 7), .ref (mq 8), .ref (mq 9), .long hs])), (mq 1, .inl (ca 13, 28, .inl (fun zj => nI (pl zj))))]) [0, 1] (by decide) rfl
        exact W.iret (v := nI a) hx hb hr (fun t ht hW => ⟨⟨nI a, (), rfl, by show _ = _; rw [← hR]; rfl, by rw [ht]; rw [← hR]; exact hP9, va_K.moved hW.alike hK, (by rw [← hR]; exact hD9)⟩, hS.F ht⟩) hS.2.2 dX9_faultOf_30
      · exact absurd (nI_le (by omega) (by omega)) c_1
    | succ n ih7 =>
      intro a oe hj hoe hR H locs hP hD hS ls hl
      refine lv_iload_n hx hb dX9_faultOf_7 rfl (lv_at hl 0 rfl) ?_
      refine lv_aload_n hx hb dX9_faultOf_8 rfl (lv_at hl 1 rfl) ?_
      refine va_get (D := (dC, dI)) (ci := 9) (v := .int (nI ps)) (C := RX9) (T := TX9) (N := 26) hx hb htl iX9 hown hK hP 0 rfl rfl 1 (by decide) (htl _ wd_552) (fun _ h9 => h9) rfl dX9_faultOf_9 ?_
      refine lv_icmp_ge (tgt := 29) hx hb dX9_faultOf_12 (by decide) (fun c_2 => ?_) (fun c_2 => ?_)
      · exact absurd c_2 (nI_ge (by omega) (by omega))
      · refine lv_aload_n hx hb dX9_faultOf_15 rfl (lv_at hl 1 rfl) ?_
        refine lv_iload_n hx hb dX9_faultOf_16 rfl (lv_at hl 0 rfl) ?_
        rcases oe with _ | b
        · have hP : va_P (dC, dI) vwCl [(mq 0, .inr (9, [.ref (mq 1), .int (nI ps), .int (-1), .int (nI nc), .int (nI br), .int st, .int so, .int sr, .ref (mq 2), .ref (mq 3), .int fe, .int fs, .ref (mq 4), .int (nI se), .ref (mq 5), .ref (mq 6), .int sw, .int ks, .int (nI kbr), .int kst, .int kso, .int (nI kse), .ref (mq 7), .ref (mq 8), .ref (mq 9), .long hs])), (mq 1, .inl (ca 13, 28, .inl (fun zj => nI (pl zj))))] H := hP
          have hD : va_D A [(mq 0, .inr (9, [.ref (mq 1), .int (nI ps), .int (-1), .int (nI nc), .int (nI br), .int st, .int so, .int sr, .ref (mq 2), .ref (mq 3), .int fe, .int fs, .ref (mq 4), .int (nI se), .ref (mq 5), .ref (mq 6), .int sw, .int ks, .int (nI kbr), .int kst, .int kso, .int (nI kse), .ref (mq 7), .ref (mq 8), .ref (mq 9), .long hs])), (mq 1, .inl (ca 13, 28, .inl (fun zj => nI (pl zj))))] := hD
          refine efV (As := [Value.int (nI a)]) (rest := []) (wr := []) (kX9_isGood_n l dC dI ca _ a nc sr ps pl br st so se kbr kst kso kse mq fe fs sw ks hs (by omega) hpl) ⟨hx, hb, hml, hown, htl⟩ (cVg (C := RX9) 1 htl wd_650 wd_652 wp_16 wd_6 wd_653 rfl rfl (by decide +kernel) ⟨Nat.le_of_ble_eq_true rfl, Nat.le_of_ble_eq_true rfl⟩) hP hD hS hA hK [0, 1] [] rfl rfl (by decide) (by decide) (by decide) (va_recv hK hP (ci := 9) (q0 := 0) rfl rfl) rfl hl.1 rfl (Nat.le_of_ble_eq_true rfl) dX9_faultOf_17 ⟨Nat.zero_le _, Nat.zero_le _⟩ (fun r_3 u H locs hw_17 hP hD hS => ?_)
          have hP : va_P (dC, dI) vwCl [(mq 0, .inr (9, [.ref (mq 1), .int (nI ps), .int (eaI (gdE pl none a)), .int (nI nc), .int (nI br), .int st, .int so, .int sr, .ref (mq 2), .ref (mq 3), .int fe, .int fs, .ref (mq 4), .int (nI se), .ref (mq 5), .ref (mq 6), .int sw, .int ks, .int (nI kbr), .int kst, .int kso, .int (nI kse), .ref (mq 7), .ref (mq 8), .ref (mq 9), .long hs])), (mq 1, .inl (ca 13, 28, .inl (fun zj => nI (pl zj))))] H := hP
          have hD : va_D A [(mq 0, .inr (9, [.ref (mq 1), .int (nI ps), .int (eaI (gdE pl none a)), .int (nI nc), .int (nI br), .int st, .int so, .int sr, .ref (mq 2), .ref (mq 3), .int fe, .int fs, .ref (mq 4), .int (nI se), .ref (mq 5), .ref (mq 6), .int sw, .int ks, .int (nI kbr), .int kst, .int kso, .int (nI kse), .ref (mq 7), .ref (mq 8), .ref (mq 9), .long hs])), (mq 1, .inl (ca 13, 28, .inl (fun zj => nI (pl zj))))] := hD
          have hw_17 : r_3 = bI (gdB pl none a) := hw_17
          refine lv_ri (y := bI (gdB pl none a)) hw_17 ?_
          refine lv_if_eq (tgt := 29) hx hb dX9_faultOf_20 (by decide) (fun c_4 => ?_) (fun c_4 => ?_)
          · replace c_4 := bI_f c_4
            refine lv_iload_n hx hb dX9_faultOf_29 rfl (lv_at hl 0 rfl) ?_
            have hP9 := hP.sub (ws' := [(mq 0, .inr (9, [.ref (mq 1), .int (nI ps), .int (eaI (gdE pl none a)), .int (nI nc), .int (nI br), .int st, .int so, .int sr, .ref (mq 2), .ref (mq 3), .int fe, .int fs, .ref (mq 4), .int (nI se), .ref (mq 5), .ref (mq 6), .int sw, .int ks, .int (nI kbr), .int kst, .int kso, .int (nI kse), .ref (mq 7), .ref (mq 8), .ref (mq 9), .long hs])), (mq 1, .inl (ca 13, 28, .inl (fun zj => nI (pl zj))))]) [0, 1] rfl
            have hD9 := hD.sub (ws' := [(mq 0, .inr (9, [.ref (mq 1), .int (nI ps), .int (eaI (gdE pl none a)), .int (nI nc), .int (nI br), .int st, .int so, .int sr, .ref (mq 2), .ref (mq 3), .int fe, .int fs, .ref (mq 4), .int (nI se), .ref (mq 5), .ref (mq 6), .int sw, .int ks, .int (nI kbr), .int kst, .int kso, .int (nI kse), .ref (mq 7), .ref (mq 8), .ref (mq 9), .long hs])), (mq 1, .inl (ca 13, 28, .inl (fun zj => nI (pl zj))))]) [0, 1] (by decide) rfl
            have hR9 : (a, gdE pl none a) = fmL pl ps 0 none := by rw [← hR]; simp only [fmL, c_4, ↓reduceIte, Bool.false_eq_true]
            exact W.iret (v := nI a) hx hb hr (fun t ht hW => ⟨⟨nI a, (), rfl, by show _ = _; rw [← hR9], by rw [ht]; rw [← hR9]; exact hP9, va_K.moved hW.alike hK, (by rw [← hR9]; exact hD9)⟩, hS.F ht⟩) hS.2.2 dX9_faultOf_30
          · replace c_4 := bI_t c_4
            refine lv_iinc (v := nI (a + 1)) (lv' := [(1, .int (nI (a + 1))), (0, .ref (mq 0))]) hx hb dX9_faultOf_23 hl (k := 0) rfl (nI_add a 1) (by decide) rfl (fun ls hl => ?_)
            refine lv_goto (tgt := 7) hx hb dX9_faultOf_26 (by decide) ?_
            have hoe9 : ∀ b, gdE pl none a = some b → b < a + 1 := by
              intro b hb9
              unfold gdE at hb9
              simp at hb9
              omega
            exact ih7 (a + 1) (gdE pl none a) (by omega) hoe9 (by rw [← hR]; simp only [fmL, c_4, ↓reduceIte]) _ _ (hP.sub [0, 1] rfl) (hD.sub [0, 1] (by decide) rfl) hS ls (lv_sub hl [0, 1] rfl)
        · have hP : va_P (dC, dI) vwCl [(mq 0, .inr (9, [.ref (mq 1), .int (nI ps), .int (nI b), .int (nI nc), .int (nI br), .int st, .int so, .int sr, .ref (mq 2), .ref (mq 3), .int fe, .int fs, .ref (mq 4), .int (nI se), .ref (mq 5), .ref (mq 6), .int sw, .int ks, .int (nI kbr), .int kst, .int kso, .int (nI kse), .ref (mq 7), .ref (mq 8), .ref (mq 9), .long hs])), (mq 1, .inl (ca 13, 28, .inl (fun zj => nI (pl zj))))] H := hP
          have hD : va_D A [(mq 0, .inr (9, [.ref (mq 1), .int (nI ps), .int (nI b), .int (nI nc), .int (nI br), .int st, .int so, .int sr, .ref (mq 2), .ref (mq 3), .int fe, .int fs, .ref (mq 4), .int (nI se), .ref (mq 5), .ref (mq 6), .int sw, .int ks, .int (nI kbr), .int kst, .int kso, .int (nI kse), .ref (mq 7), .ref (mq 8), .ref (mq 9), .long hs])), (mq 1, .inl (ca 13, 28, .inl (fun zj => nI (pl zj))))] := hD
          refine efV (As := [Value.int (nI a)]) (rest := []) (wr := []) (kX9_isGood_s l dC dI ca _ a b nc sr ps pl br st so se kbr kst kso kse mq fe fs sw ks hs (by omega) (Nat.le_of_lt (hoe b rfl)) hpl) ⟨hx, hb, hml, hown, htl⟩ (cVg (C := RX9) 1 htl wd_650 wd_652 wp_16 wd_6 wd_653 rfl rfl (by decide +kernel) ⟨Nat.le_of_ble_eq_true rfl, Nat.le_of_ble_eq_true rfl⟩) hP hD hS hA hK [0, 1] [] rfl rfl (by decide) (by decide) (by decide) (va_recv hK hP (ci := 9) (q0 := 0) rfl rfl) rfl hl.1 rfl (Nat.le_of_ble_eq_true rfl) dX9_faultOf_17 ⟨Nat.zero_le _, Nat.zero_le _⟩ (fun r_5 u H locs hw_17 hP hD hS => ?_)
          have hP : va_P (dC, dI) vwCl [(mq 0, .inr (9, [.ref (mq 1), .int (nI ps), .int (eaI (gdE pl (some b) a)), .int (nI nc), .int (nI br), .int st, .int so, .int sr, .ref (mq 2), .ref (mq 3), .int fe, .int fs, .ref (mq 4), .int (nI se), .ref (mq 5), .ref (mq 6), .int sw, .int ks, .int (nI kbr), .int kst, .int kso, .int (nI kse), .ref (mq 7), .ref (mq 8), .ref (mq 9), .long hs])), (mq 1, .inl (ca 13, 28, .inl (fun zj => nI (pl zj))))] H := hP
          have hD : va_D A [(mq 0, .inr (9, [.ref (mq 1), .int (nI ps), .int (eaI (gdE pl (some b) a)), .int (nI nc), .int (nI br), .int st, .int so, .int sr, .ref (mq 2), .ref (mq 3), .int fe, .int fs, .ref (mq 4), .int (nI se), .ref (mq 5), .ref (mq 6), .int sw, .int ks, .int (nI kbr), .int kst, .int kso, .int (nI kse), .ref (mq 7), .ref (mq 8), .ref (mq 9), .long hs])), (mq 1, .inl (ca 13, 28, .inl (fun zj => nI (pl zj))))] := hD
          have hw_17 : r_5 = bI (gdB pl (some b) a) := hw_17
          refine lv_ri (y := bI (gdB pl (some b) a)) hw_17 ?_
          refine lv_if_eq (tgt := 29) hx hb dX9_faultOf_20 (by decide) (fun c_6 => ?_) (fun c_6 => ?_)
          · replace c_6 := bI_f c_6
            refine lv_iload_n hx hb dX9_faultOf_29 rfl (lv_at hl 0 rfl) ?_
            have hP9 := hP.sub (ws' := [(mq 0, .inr (9, [.ref (mq 1), .int (nI ps), .int (eaI (gdE pl (some b) a)), .int (nI nc), .int (nI br), .int st, .int so, .int sr, .ref (mq 2), .ref (mq 3), .int fe, .int fs, .ref (mq 4), .int (nI se), .ref (mq 5), .ref (mq 6), .int sw, .int ks, .int (nI kbr), .int kst, .int kso, .int (nI kse), .ref (mq 7), .ref (mq 8), .ref (mq 9), .long hs])), (mq 1, .inl (ca 13, 28, .inl (fun zj => nI (pl zj))))]) [0, 1] rfl
            have hD9 := hD.sub (ws' := [(mq 0, .inr (9, [.ref (mq 1), .int (nI ps), .int (eaI (gdE pl (some b) a)), .int (nI nc), .int (nI br), .int st, .int so, .int sr, .ref (mq 2), .ref (mq 3), .int fe, .int fs, .ref (mq 4), .int (nI se), .ref (mq 5), .ref (mq 6), .int sw, .int ks, .int (nI kbr), .int kst, .int kso, .int (nI kse), .ref (mq 7), .ref (mq 8), .ref (mq 9), .long hs])), (mq 1, .inl (ca 13, 28, .inl (fun zj => nI (pl zj))))]) [0, 1] (by decide) rfl
            have hR9 : (a, gdE pl (some b) a) = fmL pl ps 0 none := by rw [← hR]; simp only [fmL, c_6, ↓reduceIte, Bool.false_eq_true]
            exact W.iret (v := nI a) hx hb hr (fun t ht hW => ⟨⟨nI a, (), rfl, by show _ = _; rw [← hR9], by rw [ht]; rw [← hR9]; exact hP9, va_K.moved hW.alike hK, (by rw [← hR9]; exact hD9)⟩, hS.F ht⟩) hS.2.2 dX9_faultOf_30
          · replace c_6 := bI_t c_6
            refine lv_iinc (v := nI (a + 1)) (lv' := [(1, .int (nI (a + 1))), (0, .ref (mq 0))]) hx hb dX9_faultOf_23 hl (k := 0) rfl (nI_add a 1) (by decide) rfl (fun ls hl => ?_)
            refine lv_goto (tgt := 7) hx hb dX9_faultOf_26 (by decide) ?_
            have hoe9 : ∀ b9, gdE pl (some b) a = some b9 → b9 < a + 1 := by
              intro b9 hb9
              have h1 : some b = some b9 := hb9
              have h2 := hoe b rfl
              cases h1
              omega
            exact ih7 (a + 1) (gdE pl (some b) a) (by omega) hoe9 (by rw [← hR]; simp only [fmL, c_6, ↓reduceIte]) _ _ (hP.sub [0, 1] rfl) (hD.sub [0, 1] (by decide) rfl) hS ls (lv_sub hl [0, 1] rfl)
  exact lp7 ps 0 none (by omega) (fun b h => by cases h) rfl _ _ hP hD hS ls (lv_sub hl [0, 1] rfl)
set_option maxHeartbeats 4000000 in
set_option maxRecDepth 100000 in
theorem kX9_fault (l : Launch) (dC : Nat → ClassId) (dI : Nat → Nat → Nat) (ca : Nat → ClassId) (sz : Nat) (nc : Nat) (sr : Int32) (ps : Nat) (pl : Nat → Nat) (br : Nat) (st : Int32) (so : Int32) (se : Nat) (kbr : Nat) (kst : Int32) (kso : Int32) (kse : Nat) (mq : Nat → Nat) (ea : Int32) (fe : Int32) (fs : Int32) (sw : Int32) (ks : Int32) (hs : Int64) (hps : ps ≤ 28) (hpl : ∀ j, j < 28 → pl j < 127) : Met l yX9_fault (Cond.code yX9_fault cX9_fault 1 (some .int) :: gT) (rk 5) (EFp (dC, dI) [(mq 0, .inr (9, [.ref (mq 1), .int (nI ps), .int ea, .int (nI nc), .int (nI br), .int st, .int so, .int sr, .ref (mq 2), .ref (mq 3), .int fe, .int fs, .ref (mq 4), .int (nI se), .ref (mq 5), .ref (mq 6), .int sw, .int ks, .int (nI kbr), .int kst, .int kso, .int (nI kse), .ref (mq 7), .ref (mq 8), .ref (mq 9), .long hs])), (mq 1, .inl (ca 13, 28, .inl (fun zj => nI (pl zj))))] (TY ca) sz [Value.ref (mq 0)]) (va_Qi (fun (r : Int32) (_ : Unit) => r = nI (fmL pl ps 0 none).1) (EFb (dC, dI) (fun (_ : Unit) => [(mq 0, .inr (9, [.ref (mq 1), .int (nI ps), .int (eaI (fmL pl ps 0 none).2), .int (nI nc), .int (nI br), .int st, .int so, .int sr, .ref (mq 2), .ref (mq 3), .int fe, .int fs, .ref (mq 4), .int (nI se), .ref (mq 5), .ref (mq 6), .int sw, .int ks, .int (nI kbr), .int kst, .int kso, .int (nI kse), .ref (mq 7), .ref (mq 8), .ref (mq 9), .long hs])), (mq 1, .inl (ca 13, 28, .inl (fun zj => nI (pl zj))))]) (TY ca) (va_A [(mq 0, .inr (9, [.ref (mq 1), .int (nI ps), .int ea, .int (nI nc), .int (nI br), .int st, .int so, .int sr, .ref (mq 2), .ref (mq 3), .int fe, .int fs, .ref (mq 4), .int (nI se), .ref (mq 5), .ref (mq 6), .int sw, .int ks, .int (nI kbr), .int kst, .int kso, .int (nI kse), .ref (mq 7), .ref (mq 8), .ref (mq 9), .long hs])), (mq 1, .inl (ca 13, 28, .inl (fun zj => nI (pl zj))))] sz)) (va_A [(mq 0, .inr (9, [.ref (mq 1), .int (nI ps), .int ea, .int (nI nc), .int (nI br), .int st, .int so, .int sr, .ref (mq 2), .ref (mq 3), .int fe, .int fs, .ref (mq 4), .int (nI se), .ref (mq 5), .ref (mq 6), .int sw, .int ks, .int (nI kbr), .int kst, .int kso, .int (nI kse), .ref (mq 7), .ref (mq 8), .ref (mq 9), .long hs])), (mq 1, .inl (ca 13, 28, .inl (fun zj => nI (pl zj))))] sz)) 0 0 (va_A [(mq 0, .inr (9, [.ref (mq 1), .int (nI ps), .int ea, .int (nI nc), .int (nI br), .int st, .int so, .int sr, .ref (mq 2), .ref (mq 3), .int fe, .int fs, .ref (mq 4), .int (nI se), .ref (mq 5), .ref (mq 6), .int sw, .int ks, .int (nI kbr), .int kst, .int kso, .int (nI kse), .ref (mq 7), .ref (mq 8), .ref (mq 9), .long hs])), (mq 1, .inl (ca 13, 28, .inl (fun zj => nI (pl zj))))] sz) := by
  refine Met.ofW (cc := cX9_fault) (maxL := 1) (ret := (some .int)) (by decide) rfl ?_
  intro p e s m args below meth c s₁ B hml hv
  obtain ⟨rfl, hsz, hP, hK, hD0⟩ := hv
  have hx := B.exec
  have hb := B.bytes
  have hr := B.returns
  have hts := atoms_spec (ws := (Cond.code yX9_fault cX9_fault 1 (some .int) :: gT)) B.pre
  have htl : ∀ w ∈ gT, w.before _ s = true := fun w h => hts w (List.mem_cons_of_mem _ h)
  have hown : s.vm.findClass RX9 = some m.cls := findClass_of_methodNamed B.named
  have hlocks := B.notSynchronized
  subst hsz
  have hD := hD0.self (sz := s.heap.size)
  generalize hAe : va_A [(mq 0, .inr (9, [.ref (mq 1), .int (nI ps), .int ea, .int (nI nc), .int (nI br), .int st, .int so, .int sr, .ref (mq 2), .ref (mq 3), .int fe, .int fs, .ref (mq 4), .int (nI se), .ref (mq 5), .ref (mq 6), .int sw, .int ks, .int (nI kbr), .int kst, .int kso, .int (nI kse), .ref (mq 7), .ref (mq 8), .ref (mq 9), .long hs])), (mq 1, .inl (ca 13, 28, .inl (fun zj => nI (pl zj))))] s.heap.size = A at hD ⊢
  have hA : ∀ q : Nat, s.heap.size ≤ q → A q := fun q h => by rw [← hAe]; exact Or.inr h
  have hS : va_S A s.heap s.heap [] := va_S.rf
  have hl := lv_entry ([Value.ref (mq 0)]) (n := 1) (Nat.le_of_ble_eq_true rfl)
  rw [lg_entry_eq]
  generalize (lg_sl ([Value.ref (mq 0)]) ++ List.replicate (1 - (lg_sl ([Value.ref (mq 0)])).length) Slot.unset).toArray = ls at hl ⊢
  have hl : lv_has ls 1 [(0, .ref (mq 0))] := hl
  refine lv_aload_n hx hb dX9_fault_0 rfl (lv_at hl 0 rfl) ?_
  refine efV (As := []) (rest := []) (wr := []) (kX9_faultOf l dC dI ca _ nc sr ps pl br st so se kbr kst kso kse mq ea fe fs sw ks hs hps hpl) ⟨hx, hb, hml, hown, htl⟩ (cVg (C := RX9) 0 htl wd_646 wd_648 wp_15 wd_6 wd_649 rfl rfl (by decide +kernel) ⟨Nat.le_of_ble_eq_true rfl, Nat.le_of_ble_eq_true rfl⟩) hP hD hS hA hK [0, 1] [] rfl rfl (by decide) (by decide) (by decide) (va_recv hK hP (ci := 9) (q0 := 0) rfl rfl) rfl hl.1 rfl (Nat.le_of_ble_eq_true rfl) dX9_fault_1 ⟨Nat.zero_le _, Nat.zero_le _⟩ (fun r_1 u H locs hw_1 hP hD hS => ?_)
  have hP : va_P (dC, dI) vwCl [(mq 0, .inr (9, [.ref (mq 1), .int (nI ps), .int (eaI (fmL pl ps 0 none).2), .int (nI nc), .int (nI br), .int st, .int so, .int sr, .ref (mq 2), .ref (mq 3), .int fe, .int fs, .ref (mq 4), .int (nI se), .ref (mq 5), .ref (mq 6), .int sw, .int ks, .int (nI kbr), .int kst, .int kso, .int (nI kse), .ref (mq 7), .ref (mq 8), .ref (mq 9), .long hs])), (mq 1, .inl (ca 13, 28, .inl (fun zj => nI (pl zj))))] H := hP
  have hD : va_D A [(mq 0, .inr (9, [.ref (mq 1), .int (nI ps), .int (eaI (fmL pl ps 0 none).2), .int (nI nc), .int (nI br), .int st, .int so, .int sr, .ref (mq 2), .ref (mq 3), .int fe, .int fs, .ref (mq 4), .int (nI se), .ref (mq 5), .ref (mq 6), .int sw, .int ks, .int (nI kbr), .int kst, .int kso, .int (nI kse), .ref (mq 7), .ref (mq 8), .ref (mq 9), .long hs])), (mq 1, .inl (ca 13, 28, .inl (fun zj => nI (pl zj))))] := hD
  have hw_1 : r_1 = nI (fmL pl ps 0 none).1 := hw_1
  refine lv_ri (y := nI (fmL pl ps 0 none).1) hw_1 ?_
  have hP9 := hP.sub (ws' := [(mq 0, .inr (9, [.ref (mq 1), .int (nI ps), .int (eaI (fmL pl ps 0 none).2), .int (nI nc), .int (nI br), .int st, .int so, .int sr, .ref (mq 2), .ref (mq 3), .int fe, .int fs, .ref (mq 4), .int (nI se), .ref (mq 5), .ref (mq 6), .int sw, .int ks, .int (nI kbr), .int kst, .int kso, .int (nI kse), .ref (mq 7), .ref (mq 8), .ref (mq 9), .long hs])), (mq 1, .inl (ca 13, 28, .inl (fun zj => nI (pl zj))))]) [0, 1] rfl
  have hD9 := hD.sub (ws' := [(mq 0, .inr (9, [.ref (mq 1), .int (nI ps), .int (eaI (fmL pl ps 0 none).2), .int (nI nc), .int (nI br), .int st, .int so, .int sr, .ref (mq 2), .ref (mq 3), .int fe, .int fs, .ref (mq 4), .int (nI se), .ref (mq 5), .ref (mq 6), .int sw, .int ks, .int (nI kbr), .int kst, .int kso, .int (nI kse), .ref (mq 7), .ref (mq 8), .ref (mq 9), .long hs])), (mq 1, .inl (ca 13, 28, .inl (fun zj => nI (pl zj))))]) [0, 1] (by decide) rfl
  exact W.iret (v := nI ((fmL pl ps 0 none).1)) hx hb hr (fun t ht hW => ⟨⟨nI ((fmL pl ps 0 none).1), (), rfl, rfl, by rw [ht]; exact hP9, va_K.moved hW.alike hK, hD9⟩, hS.F ht⟩) hS.2.2 dX9_fault_4
set_option maxHeartbeats 4000000 in
set_option maxRecDepth 100000 in
theorem kX9_placeAt (l : Launch) (dC : Nat → ClassId) (dI : Nat → Nat → Nat) (ca : Nat → ClassId) (a : Nat) (nc : Nat) (sr : Int32) (ps : Nat) (pl : Nat → Nat) (br : Nat) (st : Int32) (so : Int32) (se : Nat) (kbr : Nat) (kst : Int32) (kso : Int32) (kse : Nat) (mq : Nat → Nat) (ea : Int32) (fe : Int32) (fs : Int32) (sw : Int32) (ks : Int32) (hs : Int64) (ha : a + 1 < 28) (h1 : 48 ≤ pl a) (h2 : 48 ≤ pl (a + 1)) (hpl : ∀ j, j < 28 → pl j < 127) : Met l yX9_placeAt (Cond.code yX9_placeAt cX9_placeAt 2 (some .int) :: gT) (rk 1) (ROp (dC, dI) [(mq 0, .inr (9, [.ref (mq 1), .int (nI ps), .int ea, .int (nI nc), .int (nI br), .int st, .int so, .int sr, .ref (mq 2), .ref (mq 3), .int fe, .int fs, .ref (mq 4), .int (nI se), .ref (mq 5), .ref (mq 6), .int sw, .int ks, .int (nI kbr), .int kst, .int kso, .int (nI kse), .ref (mq 7), .ref (mq 8), .ref (mq 9), .long hs])), (mq 1, .inl (ca 13, 28, .inl (fun zj => nI (pl zj))))] (TY ca) [Value.ref (mq 0), Value.int (nI a)]) (vp_Si (fun r => r = nI (plcN pl a))) 0 0 (fun _ => False) := by
  refine Met.ofW (cc := cX9_placeAt) (maxL := 2) (ret := (some .int)) (by decide) rfl ?_
  intro p e s m args below meth c s₁ B hml hv
  obtain ⟨rfl, hP, hK⟩ := hv
  have hx := B.exec
  have hb := B.bytes
  have hr := B.returns
  have hts := atoms_spec (ws := (Cond.code yX9_placeAt cX9_placeAt 2 (some .int) :: gT)) B.pre
  have htl : ∀ w ∈ gT, w.before _ s = true := fun w h => hts w (List.mem_cons_of_mem _ h)
  have hown : s.vm.findClass RX9 = some m.cls := findClass_of_methodNamed B.named
  have hlocks := B.notSynchronized
  have hl := lv_entry ([Value.ref (mq 0), Value.int (nI a)]) (n := 2) (Nat.le_of_ble_eq_true rfl)
  rw [lg_entry_eq]
  generalize (lg_sl ([Value.ref (mq 0), Value.int (nI a)]) ++ List.replicate (2 - (lg_sl ([Value.ref (mq 0), Value.int (nI a)])).length) Slot.unset).toArray = ls at hl ⊢
  have hl : lv_has ls 2 [(0, .ref (mq 0)), (1, .int (nI a))] := hl
  refine lv_bipush (v := nI 6) hx hb dX9_placeAt_0 (by decide) ?_
  refine lv_aload_n hx hb dX9_placeAt_2 rfl (lv_at hl 0 rfl) ?_
  refine va_get (D := (dC, dI)) (ci := 9) (v := .ref (mq 1)) (C := RX9) (T := TX9) (N := 26) hx hb htl iX9 hown hK hP 0 rfl rfl 0 (by decide) (htl _ wd_551) (fun _ h9 => h9) rfl dX9_placeAt_3 ?_
  refine lv_iload_n hx hb dX9_placeAt_6 rfl (lv_at hl 1 rfl) ?_
  have hb1 := hpl a (by omega)
  have hb2 := hpl (a + 1) (by omega)
  refine va_iald hx hb hK hP 1 13 rfl rfl (vp_in_nI (by omega) (by decide)) dX9_placeAt_7 ?_
  refine lv_ri (y := nI (pl a)) (congrArg (fun zj => nI (pl zj)) (nI_clamp (by omega))) ?_
  refine lv_bipush (v := nI 48) hx hb dX9_placeAt_8 (by decide) ?_
  refine lv_isub hx hb dX9_placeAt_10 ?_
  refine lv_ri (y := nI (pl a - 48)) (pk_sub h1) ?_
  refine lv_imul hx hb dX9_placeAt_11 ?_
  refine lv_ri (y := nI (6 * (pl a - 48))) (pk_mul 6 (pl a - 48)) ?_
  refine lv_aload_n hx hb dX9_placeAt_12 rfl (lv_at hl 0 rfl) ?_
  refine va_get (D := (dC, dI)) (ci := 9) (v := .ref (mq 1)) (C := RX9) (T := TX9) (N := 26) hx hb htl iX9 hown hK hP 0 rfl rfl 0 (by decide) (htl _ wd_551) (fun _ h9 => h9) rfl dX9_placeAt_13 ?_
  refine lv_iload_n hx hb dX9_placeAt_16 rfl (lv_at hl 1 rfl) ?_
  refine lv_iconst (v := nI 1) hx hb dX9_placeAt_17 (by decide) ?_
  refine lv_iadd hx hb dX9_placeAt_18 ?_
  refine lv_ri (y := nI (a + 1)) (nI_add a 1) ?_
  refine va_iald hx hb hK hP 1 13 rfl rfl (vp_in_nI (by omega) (by decide)) dX9_placeAt_19 ?_
  refine lv_ri (y := nI (pl (a + 1))) (congrArg (fun zj => nI (pl zj)) (nI_clamp (by omega))) ?_
  refine lv_iadd hx hb dX9_placeAt_20 ?_
  refine lv_ri (y := nI ((6 * (pl a - 48)) + (pl (a + 1)))) (nI_add (6 * (pl a - 48)) (pl (a + 1))) ?_
  refine lv_bipush (v := nI 48) hx hb dX9_placeAt_21 (by decide) ?_
  refine lv_isub hx hb dX9_placeAt_23 ?_
  refine lv_ri (y := nI (6 * (pl a - 48) + pl (a + 1) - 48)) (pk_sub (by omega)) ?_
  exact W.iret (v := nI (6 * (pl a - 48) + pl (a + 1) - 48)) hx hb hr (fun t ht hW => ⟨nI (6 * (pl a - 48) + pl (a + 1) - 48), rfl, rfl, ht⟩) (fun q h => by cases h) dX9_placeAt_24
set_option maxHeartbeats 4000000 in
set_option maxRecDepth 100000 in
theorem kX9_lacks (l : Launch) (dC : Nat → ClassId) (dI : Nat → Nat → Nat) (ca : Nat → ClassId) (nc : Nat) (sr : Int32) (ps : Nat) (br : Nat) (st : Int32) (so : Int32) (se : Nat) (kbr : Nat) (kst : Int32) (kso : Int32) (kse : Nat) (mq : Nat → Nat) (ea : Int32) (fe : Int32) (fs : Int32) (sw : Int32) (ks : Int32) (hs : Int64) (hnc : nc ≤ 4) : Met l yX9_lacks (Cond.code yX9_lacks cX9_lacks 1 (some .boolean) :: gT) (rk 1) (ROp (dC, dI) [(mq 0, .inr (9, [.ref (mq 1), .int (nI ps), .int ea, .int (nI nc), .int (nI br), .int st, .int so, .int sr, .ref (mq 2), .ref (mq 3), .int fe, .int fs, .ref (mq 4), .int (nI se), .ref (mq 5), .ref (mq 6), .int sw, .int ks, .int (nI kbr), .int kst, .int kso, .int (nI kse), .ref (mq 7), .ref (mq 8), .ref (mq 9), .long hs]))] (TY ca) [Value.ref (mq 0)]) (vp_Si (fun r => r = bI (decide (nc = 0)))) 0 0 (fun _ => False) := by
  refine Met.ofW (cc := cX9_lacks) (maxL := 1) (ret := (some .boolean)) (by decide) rfl ?_
  intro p e s m args below meth c s₁ B hml hv
  obtain ⟨rfl, hP, hK⟩ := hv
  have hx := B.exec
  have hb := B.bytes
  have hr := B.returns
  have hts := atoms_spec (ws := (Cond.code yX9_lacks cX9_lacks 1 (some .boolean) :: gT)) B.pre
  have htl : ∀ w ∈ gT, w.before _ s = true := fun w h => hts w (List.mem_cons_of_mem _ h)
  have hown : s.vm.findClass RX9 = some m.cls := findClass_of_methodNamed B.named
  have hlocks := B.notSynchronized
  have hl := lv_entry ([Value.ref (mq 0)]) (n := 1) (Nat.le_of_ble_eq_true rfl)
  rw [lg_entry_eq]
  generalize (lg_sl ([Value.ref (mq 0)]) ++ List.replicate (1 - (lg_sl ([Value.ref (mq 0)])).length) Slot.unset).toArray = ls at hl ⊢
  have hl : lv_has ls 1 [(0, .ref (mq 0))] := hl
  refine lv_aload_n hx hb dX9_lacks_0 rfl (lv_at hl 0 rfl) ?_
  refine va_get (D := (dC, dI)) (ci := 9) (v := .int (nI nc)) (C := RX9) (T := TX9) (N := 26) hx hb htl iX9 hown hK hP 0 rfl rfl 3 (by decide) (htl _ wd_554) (fun _ h9 => h9) rfl dX9_lacks_1 ?_
  refine lv_if_ne (tgt := 11) hx hb dX9_lacks_4 (by decide) (fun c_1 => ?_) (fun c_1 => ?_)
  · rw [nI_z (by omega)] at c_1
    refine lv_iconst (v := nI 0) hx hb dX9_lacks_11 (by decide) ?_
    exact W.zret (v := nI 0) hx hb hr (by decide +kernel) (fun t ht hW => ⟨nI 0, rfl, by show _ = _; simp [c_1]; rfl, ht⟩) (fun q h => by cases h) dX9_lacks_12
  · rw [nI_z (by omega)] at c_1
    refine lv_iconst (v := nI 1) hx hb dX9_lacks_7 (by decide) ?_
    refine lv_goto (tgt := 12) hx hb dX9_lacks_8 (by decide) ?_
    exact W.zret (v := nI 1) hx hb hr (by decide +kernel) (fun t ht hW => ⟨nI 1, rfl, by show _ = _; simp [c_1]; rfl, ht⟩) (fun q h => by cases h) dX9_lacks_12
set_option maxHeartbeats 4000000 in
set_option maxRecDepth 100000 in
theorem kX9_isNeedle (l : Launch) (dC : Nat → ClassId) (dI : Nat → Nat → Nat) (ca : Nat → ClassId) (x1 : Int32) (nc : Nat) (sr : Int32) (ps : Nat) (br : Nat) (st : Int32) (so : Int32) (se : Nat) (kbr : Nat) (kst : Int32) (kso : Int32) (kse : Nat) (mq : Nat → Nat) (ea : Int32) (fe : Int32) (fs : Int32) (sw : Int32) (ks : Int32) (hs : Int64) (hnc : nc ≤ 4) : Met l yX9_isNeedle (Cond.code yX9_isNeedle cX9_isNeedle 2 (some .boolean) :: gT) (rk 2) (ROp (dC, dI) [(mq 0, .inr (9, [.ref (mq 1), .int (nI ps), .int ea, .int (nI nc), .int (nI br), .int st, .int so, .int sr, .ref (mq 2), .ref (mq 3), .int fe, .int fs, .ref (mq 4), .int (nI se), .ref (mq 5), .ref (mq 6), .int sw, .int ks, .int (nI kbr), .int kst, .int kso, .int (nI kse), .ref (mq 7), .ref (mq 8), .ref (mq 9), .long hs]))] (TY ca) [Value.ref (mq 0), Value.int x1]) (vp_Si (fun r => r = bI (rng x1 nc))) 0 0 (fun _ => False) := by
  refine Met.ofW (cc := cX9_isNeedle) (maxL := 2) (ret := (some .boolean)) (by decide) rfl ?_
  intro p e s m args below meth c s₁ B hml hv
  obtain ⟨rfl, hP, hK⟩ := hv
  have hx := B.exec
  have hb := B.bytes
  have hr := B.returns
  have hts := atoms_spec (ws := (Cond.code yX9_isNeedle cX9_isNeedle 2 (some .boolean) :: gT)) B.pre
  have htl : ∀ w ∈ gT, w.before _ s = true := fun w h => hts w (List.mem_cons_of_mem _ h)
  have hown : s.vm.findClass RX9 = some m.cls := findClass_of_methodNamed B.named
  have hlocks := B.notSynchronized
  have hl := lv_entry ([Value.ref (mq 0), Value.int x1]) (n := 2) (Nat.le_of_ble_eq_true rfl)
  rw [lg_entry_eq]
  generalize (lg_sl ([Value.ref (mq 0), Value.int x1]) ++ List.replicate (2 - (lg_sl ([Value.ref (mq 0), Value.int x1])).length) Slot.unset).toArray = ls at hl ⊢
  have hl : lv_has ls 2 [(0, .ref (mq 0)), (1, .int x1)] := hl
  refine lv_iload_n hx hb dX9_isNeedle_0 rfl (lv_at hl 1 rfl) ?_
  refine lv_i2l (v := x1.toInt64) hx hb dX9_isNeedle_1 rfl ?_
  refine lv_lconst (v := 0) hx hb dX9_isNeedle_2 (by decide) ?_
  refine lv_aload_n hx hb dX9_isNeedle_3 rfl (lv_at hl 0 rfl) ?_
  refine va_get (D := (dC, dI)) (ci := 9) (v := .int (nI nc)) (C := RX9) (T := TX9) (N := 26) hx hb htl iX9 hown hK hP 0 rfl rfl 3 (by decide) (htl _ wd_554) (fun _ h9 => h9) rfl dX9_isNeedle_4 ?_
  refine lv_iconst (v := nI 1) hx hb dX9_isNeedle_7 (by decide) ?_
  refine lv_isub hx hb dX9_isNeedle_8 ?_
  refine lv_i2l (v := ((nI nc) - (nI 1)).toInt64) hx hb dX9_isNeedle_9 rfl ?_
  refine roS (As := [Value.long x1.toInt64, Value.long 0, Value.long (((nI nc) - (nI 1)).toInt64)]) (rest := []) (kX9_in l dC dI ca x1.toInt64 0 (((nI nc) - (nI 1)).toInt64) ) ⟨hx, hb, hml, hown, htl⟩ (cSg 3 htl wd_635 wd_636 wd_6 wd_637 rfl rfl (by decide +kernel) ⟨Nat.le_of_ble_eq_true rfl, Nat.le_of_ble_eq_true rfl⟩) (hP.sub [] rfl) hK rfl hl.1 rfl (Nat.le_of_ble_eq_true rfl) dX9_isNeedle_10 ⟨Nat.zero_le _, Nat.zero_le _⟩ (fun r hr9 => ?_)
  subst hr9
  exact W.zret (v := bI (inB x1.toInt64 0 (((nI nc) - (nI 1)).toInt64))) hx hb hr (bI_n _) (fun t ht hW => ⟨bI (inB x1.toInt64 0 (((nI nc) - (nI 1)).toInt64)), rfl, by show _ = _; rw [in_N x1 nc hnc], ht⟩) (fun q h => by cases h) dX9_isNeedle_13
set_option maxHeartbeats 4000000 in
set_option maxRecDepth 100000 in
theorem kX9_isPlace (l : Launch) (dC : Nat → ClassId) (dI : Nat → Nat → Nat) (ca : Nat → ClassId) (x1 : Int32) (nc : Nat) (sr : Int32) (ps : Nat) (br : Nat) (st : Int32) (so : Int32) (se : Nat) (kbr : Nat) (kst : Int32) (kso : Int32) (kse : Nat) (mq : Nat → Nat) (ea : Int32) (fe : Int32) (fs : Int32) (sw : Int32) (ks : Int32) (hs : Int64) (hnc : nc ≤ 4) : Met l yX9_isPlace (Cond.code yX9_isPlace cX9_isPlace 2 (some .boolean) :: gT) (rk 2) (ROp (dC, dI) [(mq 0, .inr (9, [.ref (mq 1), .int (nI ps), .int ea, .int (nI nc), .int (nI br), .int st, .int so, .int sr, .ref (mq 2), .ref (mq 3), .int fe, .int fs, .ref (mq 4), .int (nI se), .ref (mq 5), .ref (mq 6), .int sw, .int ks, .int (nI kbr), .int kst, .int kso, .int (nI kse), .ref (mq 7), .ref (mq 8), .ref (mq 9), .long hs]))] (TY ca) [Value.ref (mq 0), Value.int x1]) (vp_Si (fun r => r = bI (!decide (nc = 0) && rng x1 36))) 0 0 (fun _ => False) := by
  refine Met.ofW (cc := cX9_isPlace) (maxL := 2) (ret := (some .boolean)) (by decide) rfl ?_
  intro p e s m args below meth c s₁ B hml hv
  obtain ⟨rfl, hP, hK⟩ := hv
  have hx := B.exec
  have hb := B.bytes
  have hr := B.returns
  have hts := atoms_spec (ws := (Cond.code yX9_isPlace cX9_isPlace 2 (some .boolean) :: gT)) B.pre
  have htl : ∀ w ∈ gT, w.before _ s = true := fun w h => hts w (List.mem_cons_of_mem _ h)
  have hown : s.vm.findClass RX9 = some m.cls := findClass_of_methodNamed B.named
  have hlocks := B.notSynchronized
  have hl := lv_entry ([Value.ref (mq 0), Value.int x1]) (n := 2) (Nat.le_of_ble_eq_true rfl)
  rw [lg_entry_eq]
  generalize (lg_sl ([Value.ref (mq 0), Value.int x1]) ++ List.replicate (2 - (lg_sl ([Value.ref (mq 0), Value.int x1])).length) Slot.unset).toArray = ls at hl ⊢
  have hl : lv_has ls 2 [(0, .ref (mq 0)), (1, .int x1)] := hl
  refine lv_aload_n hx hb dX9_isPlace_0 rfl (lv_at hl 0 rfl) ?_
  refine roV (As := []) (rest := []) (kX9_lacks l dC dI ca nc sr ps br st so se kbr kst kso kse mq ea fe fs sw ks hs hnc) ⟨hx, hb, hml, hown, htl⟩ (cVg (C := RX9) 0 htl wd_737 wd_739 wp_29 wd_6 wd_740 rfl rfl (by decide +kernel) ⟨Nat.le_of_ble_eq_true rfl, Nat.le_of_ble_eq_true rfl⟩) (hP.sub [0] rfl) hK (va_recv hK hP (ci := 9) (q0 := 0) rfl rfl) rfl hl.1 rfl (Nat.le_of_ble_eq_true rfl) dX9_isPlace_1 ⟨Nat.zero_le _, Nat.zero_le _⟩ (fun r hr9 => ?_)
  subst hr9
  refine lv_if_ne (tgt := 23) hx hb dX9_isPlace_4 (by decide) (fun c_1 => ?_) (fun c_1 => ?_)
  · replace c_1 := bI_t c_1
    refine lv_iconst (v := nI 0) hx hb dX9_isPlace_23 (by decide) ?_
    exact W.zret (v := nI 0) hx hb hr (by decide +kernel) (fun t ht hW => ⟨nI 0, rfl, by show _ = _; simp at *; simp [c_1]; rfl, ht⟩) (fun q h => by cases h) dX9_isPlace_24
  · replace c_1 := bI_f c_1
    refine lv_iload_n hx hb dX9_isPlace_7 rfl (lv_at hl 1 rfl) ?_
    refine lv_i2l (v := x1.toInt64) hx hb dX9_isPlace_8 rfl ?_
    refine lv_lconst (v := 0) hx hb dX9_isPlace_9 (by decide) ?_
    refine lv_ldc2 (v := 35) hx hb hown (htl _ wd_741) dX9_isPlace_10 ?_
    refine roS (As := [Value.long x1.toInt64, Value.long 0, Value.long 35]) (rest := []) (kX9_in l dC dI ca x1.toInt64 0 35 ) ⟨hx, hb, hml, hown, htl⟩ (cSg 3 htl wd_635 wd_636 wd_6 wd_637 rfl rfl (by decide +kernel) ⟨Nat.le_of_ble_eq_true rfl, Nat.le_of_ble_eq_true rfl⟩) (hP.sub [] rfl) hK rfl hl.1 rfl (Nat.le_of_ble_eq_true rfl) dX9_isPlace_13 ⟨Nat.zero_le _, Nat.zero_le _⟩ (fun r hr9 => ?_)
    subst hr9
    refine lv_if_eq (tgt := 23) hx hb dX9_isPlace_16 (by decide) (fun c_2 => ?_) (fun c_2 => ?_)
    · replace c_2 := bI_f c_2
      refine lv_iconst (v := nI 0) hx hb dX9_isPlace_23 (by decide) ?_
      exact W.zret (v := nI 0) hx hb hr (by decide +kernel) (fun t ht hW => ⟨nI 0, rfl, by show _ = _; rw [show (35 : Int64) = (nI 35).toInt64 by decide, in_R x1 35 (by decide)] at *; simp at *; simp [c_1, c_2]; rfl, ht⟩) (fun q h => by cases h) dX9_isPlace_24
    · replace c_2 := bI_t c_2
      refine lv_iconst (v := nI 1) hx hb dX9_isPlace_19 (by decide) ?_
      refine lv_goto (tgt := 24) hx hb dX9_isPlace_20 (by decide) ?_
      exact W.zret (v := nI 1) hx hb hr (by decide +kernel) (fun t ht hW => ⟨nI 1, rfl, by show _ = _; rw [show (35 : Int64) = (nI 35).toInt64 by decide, in_R x1 35 (by decide)] at *; simp at *; simp [c_1, c_2]; rfl, ht⟩) (fun q h => by cases h) dX9_isPlace_24
