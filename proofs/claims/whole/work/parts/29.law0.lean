/-! THE CLAIM OUT OF ONE WALK OF THE LAW'S BODY. Your part is whole_start (and what it stands on); all else here is the same for every law, but numbers. -/
def R_law : String := "HomeNeedlesLaw"
def lw_P (b : Addr) (xs : List Int32) (args : Array Value) (s : State) : Prop := args = #[.ref b] ∧ s.IntsAt b xs ∧ xs.length ≤ 256 ∧ (Jvm.Cond.and given_1 narrow_1).before args s = true
def lw_Q (_ : Array Value) (s : State) (o : Outcome) (t : State) : Prop := o = .returned (some (.int 1)) ∧ Framed s o t [] 600000 7302250
def lw_Z (below : List Frame) (a : Array Value) (s : State) : State → Prop := fun t => ∃ o, t.status = .running ∧ Ended t below o ∧ lw_Q a s o t
/-- the law's own end, with 1 on the stack, nothing written that was there before, its room as the claim has it -/
theorem lw_ret {p : Program} {l : Launch} {e : Env} {s : State} {m : MethodId} {below : List Frame} {meth : Method} {c : Code} {b : Nat} (hx : p.tables.exec = Jvm.exec) (hb : c.code = code) (hr : meth.sig.returnType = ret) (hlocks : meth.locks = false) {pc : Nat} {H : Heap} {ls : Array Slot} (hdg : decode code pc = .ok (.ireturn, 1)) : W p l e room_1 s m #[Value.ref b] below meth c H [] 600000 7302250 (lw_Z below #[Value.ref b] s) (F0 m pc ls [.int 1]) := by
  intro T hT X
  obtain ⟨fs, hret, hrun, hended, hW, hframe⟩ := X.leave (v := some (.int 1)) (hlocks := hlocks) (fun h => by rw [hr] at h; cases h)
  have hmeth' : T.vm.method? m = some meth := X.method'
  refine ⟨T.setFrames fs, ?_, .returned (some (.int 1)), hrun, hended, rfl, ⟨_, rfl⟩, hW, hframe⟩
  jvm_step X.here [X.here.top, hx, hb, hdg, hmeth', hr, ret, narrow_b1]
  (try refine ⟨rfl, ?_⟩); (try refine ⟨rfl, ?_⟩)
  first | (intro acts; rw [hret _ acts rfl rfl rfl]) | rw [hret _ _ rfl rfl rfl]
  exact Steps.refl _
/-- what holds at the law's entry: the machine, the code, the tables' words (any of lw_tbl by 'hts w (by decide +kernel)'), the script of L ints xs at the cell b, what the Statement gives of the start (any of its parts by flat_of_before) -/
def lw_At (p : Program) (s : State) (m : MethodId) (meth : Method) (c : Code) (b L : Nat) (xs : Nat → Int32) : Prop :=
  p.tables.exec = Jvm.exec ∧ c.code = code ∧ meth.sig.returnType = ret ∧ c.maxLocals = 4 ∧ s.vm.findClass R_law = some m.cls ∧ (∀ w ∈ lw_tbl, w.before #[Value.ref b] s = true) ∧ va_X b L xs s s.heap ∧ b < s.heap.size ∧ meth.locks = false ∧ (Jvm.Cond.and given_1 narrow_1).before #[Value.ref b] s = true
/-! the law: what holds between the two worlds, at each turn -/
def vOK (br se : Nat) (hm sn sp sd : Nat → Nat) (isl : Int64) : Prop := br < 36 ∧ (∀ j, j < 4 → hm j < 36) ∧ se ≤ 6 ∧ (∀ j, j < 6 → sn j < 4) ∧ (∀ j, j < 6 → sp j < 36) ∧ (∀ j, j < 6 → sd j < 9) ∧ okI isl
def kOK (k : Nat) (sr ik ks : Int32) (kkd kd : Nat → Nat) : Prop := (∃ n, n ≤ k ∧ sr = nI n ∧ (ks = -1 ∨ ∃ j, j ≤ n ∧ ks = nI j)) ∧ (ik = 0 ↔ ¬ ks = sr) ∧ (¬ ik = 0 → kkd = kd)
def INV (k : Nat) (kd : Nat → Nat) (nc : Nat) (sr ik : Int32) (ps : Nat) (pl : Nat → Nat) (isl : Int64) (br se : Nat) (hm sn sp sd : Nat → Nat) (kisl : Int64) (kbr kse : Nat) (khm ksn ksp ksd : Nat → Nat) (ks : Int32) (kkd : Nat → Nat) : Prop :=
  nc ≤ 4 ∧ (∀ j, j < 4 → kd j < 5) ∧ vOK br se hm sn sp sd isl ∧ vOK kbr kse khm ksn ksp ksd kisl ∧ (ps ≤ 28 ∧ ∀ j, j < 28 → pl j < 127) ∧ kOK k sr ik ks kkd kd
theorem kOK.up {k : Nat} {sr ik ks : Int32} {kkd kd : Nat → Nat} (h : kOK k sr ik ks kkd kd) : kOK (k + 1) sr ik ks kkd kd := by
  obtain ⟨⟨n, h1, h2, h3⟩, h4⟩ := h
  exact ⟨⟨n, by omega, h2, h3⟩, h4⟩
theorem tn_lt {x : Int32} {n : Nat} (h : rng x n = true) (hn : n < 2 ^ 31) : tn x < n := by
  obtain ⟨d, hd, rfl⟩ := rng_ex h hn
  rw [show tn (nI d) = d from nI_clamp (by omega)]
  exact hd
section INVS
variable {k : Nat} {kd : Nat → Nat} {nc : Nat} {sr ik : Int32} {ps : Nat} {pl : Nat → Nat} {isl : Int64} {br se : Nat} {hm sn sp sd : Nat → Nat} {kisl : Int64} {kbr kse : Nat} {khm ksn ksp ksd : Nat → Nat} {ks : Int32} {kkd : Nat → Nat}
theorem INV.up (h : INV k kd nc sr ik ps pl isl br se hm sn sp sd kisl kbr kse khm ksn ksp ksd ks kkd) : INV (k + 1) kd nc sr ik ps pl isl br se hm sn sp sd kisl kbr kse khm ksn ksp ksd ks kkd := ⟨h.1, h.2.1, h.2.2.1, h.2.2.2.1, h.2.2.2.2.1, h.2.2.2.2.2.up⟩
theorem INV.letter (h : INV k kd nc sr ik ps pl isl br se hm sn sp sd kisl kbr kse khm ksn ksp ksd ks kkd) (x : Int32) : INV (k + 1) kd nc sr ik (if okL ps x = true then ps + 1 else ps) (if okL ps x = true then va_up pl ps (tn x) else pl) isl br se hm sn sp sd kisl kbr kse khm ksn ksp ksd ks kkd := by
  refine ⟨h.1, h.2.1, h.2.2.1, h.2.2.2.1, ?_, h.2.2.2.2.2.up⟩
  obtain ⟨h1, h2⟩ := h.2.2.2.2.1
  by_cases hc : okL ps x = true
  · rw [if_pos hc, if_pos hc]
    unfold okL at hc
    simp only [Bool.and_eq_true, decide_eq_true_eq] at hc
    obtain ⟨d, hd1, hd2, rfl⟩ := okC_ex hc.1
    refine ⟨by omega, fun j hj => ?_⟩
    unfold va_up
    by_cases hq : j = ps
    · rw [if_pos hq, show tn (nI d) = d from nI_clamp (by omega)]
      omega
    · rw [if_neg hq]
      exact h2 j hj
  · rw [if_neg hc, if_neg hc]
    exact ⟨h1, h2⟩
theorem INV.blank (h : INV k kd nc sr ik ps pl isl br se hm sn sp sd kisl kbr kse khm ksn ksp ksd ks kkd) : INV (k + 1) kd nc sr ik 0 pl isl br se hm sn sp sd kisl kbr kse khm ksn ksp ksd ks kkd := ⟨h.1, h.2.1, h.2.2.1, h.2.2.2.1, ⟨by omega, h.2.2.2.2.1.2⟩, h.2.2.2.2.2.up⟩
theorem INV.swing (h : INV k kd nc sr ik ps pl isl br se hm sn sp sd kisl kbr kse khm ksn ksp ksd ks kkd) (x y : Int32) : INV (k + 1) kd nc sr ik ps pl isl br se (if (rng x nc && rng y 36) = true then va_up hm (tn x) (tn y) else hm) sn sp sd kisl kbr kse khm ksn ksp ksd ks kkd := by
  refine ⟨h.1, h.2.1, ?_, h.2.2.2.1, h.2.2.2.2.1, h.2.2.2.2.2.up⟩
  obtain ⟨h1, h2, h3⟩ := h.2.2.1
  refine ⟨h1, ?_, h3⟩
  by_cases hc : (rng x nc && rng y 36) = true
  · rw [if_pos hc]
    have h4 := tn_lt (Bool.and_eq_true _ _ ▸ hc).2 (by decide)
    intro j hj
    unfold va_up
    by_cases hq : j = tn x
    · rw [if_pos hq]
      exact h4
    · rw [if_neg hq]
      exact h2 j hj
  · rw [if_neg hc]
    exact h2
theorem INV.raise (h : INV k kd nc sr ik ps pl isl br se hm sn sp sd kisl kbr kse khm ksn ksp ksd ks kkd) (x y : Int32) : INV (k + 1) kd nc sr ik ps pl (if (!decide (nc = 0) && rng x 36) = true then setI isl (tn x) y else isl) br se hm sn sp sd kisl kbr kse khm ksn ksp ksd ks kkd := by
  refine ⟨h.1, h.2.1, ?_, h.2.2.2.1, h.2.2.2.2.1, h.2.2.2.2.2.up⟩
  obtain ⟨h1, h2, h3, h4, h5, h6, h7⟩ := h.2.2.1
  refine ⟨h1, h2, h3, h4, h5, h6, ?_⟩
  by_cases hc : (!decide (nc = 0) && rng x 36) = true
  · rw [if_pos hc]
    exact okI_set h7 (tn_lt (Bool.and_eq_true _ _ ▸ hc).2 (by decide)) y
  · rw [if_neg hc]
    exact h7
theorem raise_ib (hI : okI isl) (nc : Nat) (x y : Int32) : (if (!decide (nc = 0) && rng x 36) = true then va_up (xb isl) (tn x) (!decide (y = 0)) else xb isl) = xb (if (!decide (nc = 0) && rng x 36) = true then setI isl (tn x) y else isl) := by
  by_cases hc : (!decide (nc = 0) && rng x 36) = true
  · rw [if_pos hc, if_pos hc, xb_set hI (tn_lt (Bool.and_eq_true _ _ ▸ hc).2 (by decide)) y]
  · rw [if_neg hc, if_neg hc]
theorem INV.go (h : INV k kd nc sr ik ps pl isl br se hm sn sp sd kisl kbr kse khm ksn ksp ksd ks kkd) (c : Prop) [Decidable c] (d : Nat) : INV (k + 1) kd nc sr ik ps pl isl (if c then stepN (xb isl) br d else br) se hm sn sp sd kisl kbr kse khm ksn ksp ksd ks kkd := by
  refine ⟨h.1, h.2.1, ?_, h.2.2.2.1, h.2.2.2.2.1, h.2.2.2.2.2.up⟩
  obtain ⟨h1, h2⟩ := h.2.2.1
  refine ⟨?_, h2⟩
  by_cases hc : c
  · rw [if_pos hc]
    exact stepN_lt h1
  · rw [if_neg hc]
    exact h1
theorem INV.see (h : INV k kd nc sr ik ps pl isl br se hm sn sp sd kisl kbr kse khm ksn ksp ksd ks kkd) (x y z : Int32) : INV (k + 1) kd nc sr ik ps pl isl br (if okE nc se x y z = true then se + 1 else se) hm (if okE nc se x y z = true then va_up sn se (tn x) else sn) (if okE nc se x y z = true then va_up sp se (tn y) else sp) (if okE nc se x y z = true then va_up sd se (tn z) else sd) kisl kbr kse khm ksn ksp ksd ks kkd := by
  refine ⟨h.1, h.2.1, ?_, h.2.2.2.1, h.2.2.2.2.1, h.2.2.2.2.2.up⟩
  have hnc := h.1
  obtain ⟨h1, h2, h3, h4, h5, h6, h7⟩ := h.2.2.1
  by_cases hc : okE nc se x y z = true
  · rw [if_pos hc, if_pos hc, if_pos hc, if_pos hc]
    unfold okE at hc
    simp only [Bool.and_eq_true, decide_eq_true_eq] at hc
    obtain ⟨⟨a1, a2⟩, a3, a4⟩ := hc
    have b1 := tn_lt a1 (by omega)
    have b2 := tn_lt a2 (by decide)
    have b3 := tn_lt a3 (by decide)
    refine ⟨h1, h2, by omega, fun j hj => ?_, fun j hj => ?_, fun j hj => ?_, h7⟩ <;> unfold va_up <;> by_cases hq : j = se
    · rw [if_pos hq]
      omega
    · rw [if_neg hq]
      exact h4 j hj
    · rw [if_pos hq]
      exact b2
    · rw [if_neg hq]
      exact h5 j hj
    · rw [if_pos hq]
      exact b3
    · rw [if_neg hq]
      exact h6 j hj
  · rw [if_neg hc, if_neg hc, if_neg hc, if_neg hc]
    exact ⟨h1, h2, h3, h4, h5, h6, h7⟩
theorem INV.forget (h : INV k kd nc sr ik ps pl isl br se hm sn sp sd kisl kbr kse khm ksn ksp ksd ks kkd) : INV (k + 1) kd nc sr ik ps pl isl br 0 hm sn sp sd kisl kbr kse khm ksn ksp ksd ks kkd := ⟨h.1, h.2.1, ⟨h.2.2.1.1, h.2.2.1.2.1, Nat.zero_le _, h.2.2.1.2.2.2⟩, h.2.2.2.1, h.2.2.2.2.1, h.2.2.2.2.2.up⟩
theorem INV.image (h : INV k kd nc sr ik ps pl isl br se hm sn sp sd kisl kbr kse khm ksn ksp ksd ks kkd) : INV (k + 1) kd nc sr (if nc = 0 then ik else nI 1) ps pl isl br se hm sn sp sd (if nc = 0 then kisl else isl) (if nc = 0 then kbr else br) (if nc = 0 then kse else se) (if nc = 0 then khm else hm) (if nc = 0 then ksn else sn) (if nc = 0 then ksp else sp) (if nc = 0 then ksd else sd) (if nc = 0 then ks else sr) (if nc = 0 then kkd else kd) := by
  by_cases hc : nc = 0
  · simp only [if_pos hc]
    exact h.up
  · simp only [if_neg hc]
    obtain ⟨⟨n, a1, a2, a3⟩, -⟩ := h.2.2.2.2.2
    exact ⟨h.1, h.2.1, h.2.2.1, h.2.2.1, h.2.2.2.2.1, ⟨n, by omega, a2, Or.inr ⟨n, Nat.le_refl _, a2⟩⟩, ⟨fun q => absurd q (by decide), fun q => absurd rfl q⟩, fun _ => rfl⟩
theorem INV.restore (h : INV k kd nc sr ik ps pl isl br se hm sn sp sd kisl kbr kse khm ksn ksp ksd ks kkd) : INV (k + 1) kd nc sr ik ps pl (if ik = 0 then isl else kisl) (if ik = 0 then br else kbr) (if ik = 0 then se else kse) (if ik = 0 then hm else khm) (if ik = 0 then sn else ksn) (if ik = 0 then sp else ksp) (if ik = 0 then sd else ksd) kisl kbr kse khm ksn ksp ksd ks kkd := by
  by_cases hc : ik = 0
  · simp only [if_pos hc]
    exact h.up
  · simp only [if_neg hc]
    exact ⟨h.1, h.2.1, h.2.2.2.1, h.2.2.2.1, h.2.2.2.2.1, h.2.2.2.2.2.up⟩
theorem sea_isl (hps : ps ≤ 28) (hw : whN pl ps = true) : okI (isI pl (hE pl ps + 3) ((ps - hE pl ps - 3) / 2)) ∧ xb (isI pl (hE pl ps + 3) ((ps - hE pl ps - 3) / 2)) = isT pl (hE pl ps + 3) ((ps - hE pl ps - 3) / 2) := by
  obtain ⟨w1, w2, w3, w4, w5, w6, w7, w8⟩ := whN_ok hw
  exact isI_ok pl (hE pl ps + 3) _ (fun n hn => plcN_lt (w8 _ (by omega) (by omega)) (w8 _ (by omega) (by omega)))
theorem sea_ib (hps : ps ≤ 28) : (if whN pl ps = true then isT pl (hE pl ps + 3) ((ps - hE pl ps - 3) / 2) else xb isl) = xb (if whN pl ps = true then isI pl (hE pl ps + 3) ((ps - hE pl ps - 3) / 2) else isl) := by
  by_cases hw : whN pl ps = true
  · rw [if_pos hw, if_pos hw, (sea_isl hps hw).2]
  · rw [if_neg hw, if_neg hw]
theorem INV.sea (h : INV k kd nc sr ik ps pl isl br se hm sn sp sd kisl kbr kse khm ksn ksp ksd ks kkd) (hk : k ≤ 64) : INV (k + 1) (if whN pl ps = true then kdL pl kd ((hE pl ps + 1) / 4) else kd) (if whN pl ps = true then (hE pl ps + 1) / 4 else nc) (if whN pl ps = true then sr + nI 1 else sr) (if whN pl ps = true then nI 0 else ik) (if whN pl ps = true then 0 else ps) pl (if whN pl ps = true then isI pl (hE pl ps + 3) ((ps - hE pl ps - 3) / 2) else isl) (if whN pl ps = true then plcN pl (hE pl ps + 1) else br) (if whN pl ps = true then 0 else se) (if whN pl ps = true then hmL pl hm ((hE pl ps + 1) / 4) else hm) sn sp sd kisl kbr kse khm ksn ksp ksd ks kkd := by
  by_cases hw : whN pl ps = true
  · simp only [if_pos hw]
    obtain ⟨w1, w2, w3, w4, w5, w6, w7, w8⟩ := whN_ok hw
    obtain ⟨⟨n, a1, a2, a3⟩, a4, a5⟩ := h.2.2.2.2.2
    obtain ⟨h1, h2, h3, h4, h5, h6, h7⟩ := h.2.2.1
    refine ⟨by omega, fun j hj => ?_, ⟨plcN_lt (w8 _ (by omega) (by omega)) (w8 _ (by omega) (by omega)), fun j hj => ?_, Nat.zero_le _, h4, h5, h6, (sea_isl h.2.2.2.2.1.1 hw).1⟩, h.2.2.2.1, ⟨Nat.zero_le _, h.2.2.2.2.1.2⟩, ⟨n + 1, by omega, by rw [a2, nI_add], a3.imp id (fun ⟨j, q1, q2⟩ => ⟨j, by omega, q2⟩)⟩, ⟨fun _ q => ?_, fun _ => by decide⟩, fun q => absurd (by decide) q⟩
    · unfold kdL
      by_cases hq : j < (hE pl ps + 1) / 4
      · rw [if_pos hq]
        exact kN_lt _
      · rw [if_neg hq]
        exact h.2.1 j hj
    · unfold hmL
      by_cases hq : j < (hE pl ps + 1) / 4
      · rw [if_pos hq]
        exact plcN_lt (w7 _ (by omega) (by omega)) (w7 _ (by omega) (by omega))
      · rw [if_neg hq]
        exact h2 j hj
    · rw [a2, nI_add] at q
      rcases a3 with z | ⟨j, z1, z2⟩
      · rw [z] at q
        exact nIm1 (by omega) q.symm
      · rw [z2] at q
        have := nIq (by omega) (by omega) q
        omega
  · simp only [if_neg hw]
    exact h.up
theorem iteF {α : Type} (h : ik = 0 ↔ ¬ ks = sr) (a b : α) : (if ks = sr then a else b) = (if ik = 0 then b else a) := by
  by_cases hc : ks = sr
  · rw [if_pos hc, if_neg (fun q => (h.mp q) hc)]
  · rw [if_neg hc, if_pos (h.mpr hc)]
theorem kd_ite (h : ¬ ik = 0 → kkd = kd) : (if ik = 0 then kd else kkd) = kd := by
  by_cases hc : ik = 0
  · rw [if_pos hc]
  · rw [if_neg hc, h hc]
theorem xb_ite (c : Prop) [Decidable c] (a b : Int64) : (if c then xb a else xb b) = xb (if c then a else b) := by
  by_cases hc : c
  · rw [if_pos hc, if_pos hc]
  · rw [if_neg hc, if_neg hc]
theorem dig_eq (gn : Nat → Nat → Int32) (hom : Int32) (fi pg : Nat → Int32) (st so dn : Int32) (hnc : nc ≤ 4) (hbr : br < 36) (hhm : ∀ j, j < 4 → hm j < 36) (hoI : okI isl) :
    digR nc ps (fun i => (fun w => tellM kd hm (xb isl) br se sn sp sd i (nI w))) gn (lookM (kd 0) (chN (kd 0) 0 se sn sp sd)) fi hom pg (fun w => countR nc br (iaL (xb isl) 36 0 (nI 0)) st so dn se ps sr (nI w)) = digR nc ps (fun i => (fun w => needleX nc kd hm (xb isl) br se sn sp sd (nI i) (nI w))) gn (lookI (kd 0) (phL (chN (kd 0) 0 se sn sp sd) 36 0 0)) fi hom pg (fun w => countR nc br (popc isl) st so dn se ps sr (nI w)) := by
  have e : dgL (fun i => withN (fun w => tellM kd hm (xb isl) br se sn sp sd i (nI w)) (gn i)) nc 0 1091 = dgL (fun i => withN (fun w => needleX nc kd hm (xb isl) br se sn sp sd (nI i) (nI w)) (gn i)) nc 0 1091 := by
    refine dgL_cg nc 0 1091 (fun j h1 h2 z => ?_)
    have e2 : ∀ w, tellM kd hm (xb isl) br se sn sp sd j (nI w) = needleX nc kd hm (xb isl) br se sn sp sd (nI j) (nI w) := by
      intro w
      rw [needle_eq kd hm (xb isl) se sn sp sd (nI j) (nI w) hnc hbr hhm]
      unfold needleM
      rw [if_pos (rng_nI (by omega) (by omega)), show tn (nI j) = j from nI_clamp (by omega)]
    have e3 : (fun w => tellM kd hm (xb isl) br se sn sp sd j (nI w)) = fun w => needleX nc kd hm (xb isl) br se sn sp sd (nI j) (nI w) := funext e2
    show withN (fun w => tellM kd hm (xb isl) br se sn sp sd j (nI w)) (gn j) z = withN (fun w => needleX nc kd hm (xb isl) br se sn sp sd (nI j) (nI w)) (gn j) z
    rw [e3]
  unfold digR
  rw [e, look_eq, isl_cnt hoI]
end INVS
theorem TFS_bl {k1 k2 : Nat → Nat} {B : Nat → Prop} : Ebl (fun U => TF U ∧ SFA k1 k2 B U U.heap) := fun _ _ _ _ h => ⟨h.1.call, h.2.call⟩
