/-! facts of the tables that stay: casts, nest mates; methods that make cells -/
abbrev rkA (k c s : Nat) : Room := { frames := k, cells := c, slots := s, locals := 32 * k }
def ncL : List (String × String) := [(RX1, RX3), (RX0, RX3), (RX6, RX3), (RX4, RX3), (RX1, RX0), (RX3, RX0), (RX6, RX0), (RX1, RX6), (RX3, RX6), (RX0, RX6), (RX4, RX6), (RX1, RX4), (RX3, RX4), (RX0, RX4), (RX6, RX4)]
def cyL : List (String × String) := [(RX4, RX0), (RX3, RX1), (RX0, RX1), (RX6, RX1), (RX4, RX1)]
def nsL : List (String × Nat × MethodName) := [(RX8, 9, yX2_init), (RX8, 24, yX7_init), (RX8, 34, yX5_init), (RX8, 60, yX1_init), (RX8, 270, yX3_init), (RX3, 3, yX1_init), (RX8, 273, yX0_init), (RX0, 3, yX1_init), (RX8, 276, yX6_init), (RX6, 3, yX1_init), (RX8, 279, yX4_init), (RX4, 3, yX0_init)]
def TF (U : State) : Prop := (∀ q ∈ ncL, va_Nc q.1 q.2 U) ∧ (∀ q ∈ cyL, va_Nw (.castable q.1 q.2) U) ∧ (∀ q ∈ nsL, va_Nw (.methodLinkNest q.1 q.2.1 q.2.2 "HomeNeedles") U) ∧ va_AO RX1 U
theorem TF.warm {s U : State} (hW : s.WarmedH U.vm) (h : TF s) : TF U := ⟨fun q hq => va_Nc.moved hW.alike (h.1 q hq), fun q hq => va_Nw.warmC hW (h.2.1 q hq), fun q hq => va_Nw.warmM hW (h.2.2.1 q hq), va_AO.moved hW.alike h.2.2.2⟩
theorem TF.call {U : State} {g : JFrame} {mk : MethodId} {a : Array Value} (h : TF U) : TF (U.calling g mk a) := ⟨fun q hq => va_Nc.moved (u := U) (U := U.calling g mk a) (Vm.Alike.refl U.vm) (h.1 q hq), fun q hq => va_Nw.same (u := U) (U := U.calling g mk a) rfl rfl (h.2.1 q hq), fun q hq => va_Nw.same (u := U) (U := U.calling g mk a) rfl rfl (h.2.2.1 q hq), va_AO.moved (u := U) (U := U.calling g mk a) (Vm.Alike.refl U.vm) h.2.2.2⟩
/-- the String constant lies outside what may be written -/
def SFA (k1 k2 : Nat → Nat) (A : Nat → Prop) (U : State) (H : Heap) : Prop := vk_S 1 [5] [[110, 115, 108, 116, 111]] k1 k2 A U H ∧ vk_R RX2 42 "nslto" (k1 0) U ∧ va_Z "java/lang/String" "COMPACT_STRINGS" "Z" (.int 1) A U H
theorem SFA.warm {k1 k2 : Nat → Nat} {A : Nat → Prop} {s U : State} {H : Heap} (hW : s.WarmedH U.vm) (h : SFA k1 k2 A s H) : SFA k1 k2 A U H := ⟨vk_S.moved hW.alike h.1, vk_R.warm hW h.2.1, va_Z.moved hW.alike h.2.2⟩
theorem SFA.call {k1 k2 : Nat → Nat} {A : Nat → Prop} {U : State} {H : Heap} {g : JFrame} {mk : MethodId} {a : Array Value} (h : SFA k1 k2 A U H) : SFA k1 k2 A (U.calling g mk a) H := ⟨vk_S.moved (u := U) (U := U.calling g mk a) (Vm.Alike.refl U.vm) h.1, vk_R.same (u := U) (U := U.calling g mk a) rfl h.2.1, va_Z.moved (u := U) (U := U.calling g mk a) (Vm.Alike.refl U.vm) h.2.2⟩
theorem SFA.kept {k1 k2 : Nat → Nat} {A : Nat → Prop} {U : State} {H H1 : Heap} (h : SFA k1 k2 A U H) (hq : ∀ a : Nat, a < H.size → ¬ A a → H1[a]? = H[a]?) : SFA k1 k2 A U H1 := ⟨h.1.kept hq, h.2.1, h.2.2.kept hq⟩
theorem SFA.narrow {k1 k2 : Nat → Nat} {A B : Nat → Prop} {U : State} {H : Heap} (h : SFA k1 k2 A U H) (hAB : ∀ q, B q → A q) : SFA k1 k2 B U H := ⟨h.1.narrow hAB, h.2.1, h.2.2.narrow hAB⟩
theorem SFA.h {k1 k2 : Nat → Nat} {A : Nat → Prop} {U : State} {H : Heap} (h : SFA k1 k2 A U H) : SFh k1 k2 U H := h.narrow (fun _ q => q.elim)
abbrev ROx (D : va_G) (ws : va_W) (tys : List (ClassId × FieldType)) (E : State → Prop) (av : List Value) : Array Value → State → Prop := va_Pc av (fun U => va_P D vwCl ws U.heap ∧ va_K D vwCl tys U ∧ E U)
abbrev EFx (D : va_G) (ws : va_W) (tys : List (ClassId × FieldType)) (sz : Nat) (E : State → Prop) (av : List Value) : Array Value → State → Prop := va_Pc av (fun U => U.heap.size = sz ∧ va_P D vwCl ws U.heap ∧ va_K D vwCl tys U ∧ va_D (fun _ => True) ws ∧ E U)
def Ebl (E : State → Prop) : Prop := ∀ (a : Array Value) (U : State) (g : JFrame) (mk : MethodId), E U → E (U.calling g mk a)
theorem TF_bl : Ebl TF := fun _ _ _ _ h => h.call
theorem rx_bl {D : va_G} {ws : va_W} {tys : List (ClassId × FieldType)} {E : State → Prop} {av : List Value} (hE : Ebl E) : FrameBlind (ROx D ws tys E av) := fun a U g mk q => ⟨q.1, q.2.1, va_K.moved (u := U) (U := U.calling g mk a) (Vm.Alike.refl U.vm) q.2.2.1, hE a U g mk q.2.2.2⟩
theorem ex_bl {D : va_G} {ws : va_W} {tys : List (ClassId × FieldType)} {sz : Nat} {E : State → Prop} {av : List Value} (hE : Ebl E) : FrameBlind (EFx D ws tys sz E av) := fun a U g mk q => ⟨q.1, q.2.1, q.2.2.1, va_K.moved (u := U) (U := U.calling g mk a) (Vm.Alike.refl U.vm) q.2.2.2.1, q.2.2.2.2.1, hE a U g mk q.2.2.2.2.2⟩
section HLQ
variable {p : Program} {l : Launch} {e : Env} {R : Room} {s : State} {m : MethodId} {args : Array Value} {below : List Frame} {meth : Method} {c : Code} {H : Heap} {locs : List Loc} {cells slots : Nat} {Q : State → Prop}
variable {cc : ByteArray} {pc : Nat} {ls : Array Slot} {rest st0 : List Value}
variable {D : va_G} {ws wc wr : va_W} {tys : List (ClassId × FieldType)} {y : MethodName} {bytes : ByteArray} {maxL nL n index : Nat} {ret : Option FieldType} {rm : Room} {own C : String} {b : Nat} {As : List Value} {E : State → Prop}
theorem roSx {post : Int32 → Prop} (hM : Met l y (Cond.code y bytes maxL ret :: gT) rm (ROx D wc tys E As) (vp_Si post) 0 0 (fun _ => False)) (hbl : Ebl E) (hE : ∀ U : State, U.heap = H → s.WarmedH U.vm → E U) (S : CallFix p m c cc nL s args gT own) (cw : CallB R s args own index y bytes maxL ret (Cond.code y bytes maxL ret :: gT) rm 0 0 n ∧ (Cond.static y).before args s = true) (hP : va_P D vwCl wc H) (hK : va_K D vwCl tys s)
    (hn : As.length = n) (hsize : ls.size = nL) (hst : st0 = As.reverse ++ rest) (hW : (rest.map fun v => v.category).sum ≤ 8) (hdg : decode cc pc = .ok (.invokestatic index, 3)) (hf : cells ≤ R.cells ∧ slots ≤ R.slots)
    (kk : ∀ r : Int32, post r → W p l e R s m args below meth c H locs cells slots Q (F0 m (pc + 3) ls (.int r :: rest))) : W p l e R s m args below meth c H locs cells slots Q (F0 m pc ls st0) :=
  vp_callSi (va_Run.run (va_runS (g := F0 m pc ls st0) S hM cw ⟨rx_bl hbl, fun U hU hW => ⟨rfl, by rw [hU]; exact hP, va_K.moved hW.alike hK, hE U hU hW⟩⟩ rfl hn hsize hst (lv_room hW) hdg hf)) kk
theorem roVx {post : Int32 → Prop} (hM : Met l y (Cond.code y bytes maxL ret :: gT) rm (ROx D wc tys E (.ref b :: As)) (vp_Si post) 0 0 (fun _ => False)) (hbl : Ebl E) (hE : ∀ U : State, U.heap = H → s.WarmedH U.vm → E U) (S : CallFix p m c cc nL s args gT own) (cw : CallW R s args own C index y bytes maxL ret (Cond.code y bytes maxL ret :: gT) rm 0 0 n) (hP : va_P D vwCl wc H) (hK : va_K D vwCl tys s) (hr : ∃ cell : Cell, H[b]? = some cell ∧ cell.vm.isStatics = false ∧ s.vm.findClass C = some cell.cls)
    (hn : As.length = n) (hsize : ls.size = nL) (hst : st0 = As.reverse ++ .ref b :: rest) (hW : (rest.map fun v => v.category).sum ≤ 8) (hdg : decode cc pc = .ok (.invokevirtual index, 3)) (hf : cells ≤ R.cells ∧ slots ≤ R.slots)
    (kk : ∀ r : Int32, post r → W p l e R s m args below meth c H locs cells slots Q (F0 m (pc + 3) ls (.int r :: rest))) : W p l e R s m args below meth c H locs cells slots Q (F0 m pc ls st0) :=
  vp_callSi (va_Run.run (va_runV (g := F0 m pc ls st0) S hM cw ⟨rx_bl hbl, hr, fun U hU hW => ⟨rfl, by rw [hU]; exact hP, va_K.moved hW.alike hK, hE U hU hW⟩⟩ rfl hn hsize hst (lv_room hW) hdg hf)) kk
variable {A0 : Nat → Prop} {H0 : Heap} {T : Type} {w1 : T → va_W} {isC isR : List Nat} {mc ms : Nat}
theorem cutP (hP : va_P D vwCl ws H) (hC : isC.map (fun i => ws[i]?) = wc.map some) : va_P D vwCl wc H := fun k q hk => by
  have h1 : (isC.map (fun i => ws[i]?))[k]? = some (some q) := by rw [hC, List.getElem?_map, hk]; rfl
  rw [List.getElem?_map] at h1
  cases hi : isC[k]? with
  | none => rw [hi] at h1; cases h1
  | some i => rw [hi] at h1; exact hP i q (Option.some.inj h1)
/-- a method that makes cells, on what is cut out -/
theorem efVx {post : Int32 → T → Prop} (hM : Met l y (Cond.code y bytes maxL ret :: gT) rm (EFx D wc tys H.size E (.ref b :: As)) (va_Qi post (EFb D w1 tys (va_A wc H.size)) (va_A wc H.size)) mc ms (va_A wc H.size)) (hbl : Ebl E) (hE : (∀ q, va_A wc H.size q → A0 q) → ∀ U : State, U.heap = H → s.WarmedH U.vm → E U) (S : CallFix p m c cc nL s args gT own) (cw : CallW R s args own C index y bytes maxL ret (Cond.code y bytes maxL ret :: gT) rm mc ms n)
    (hP : va_P D vwCl ws H) (hD : va_D A0 ws) (hS : va_S A0 H0 H locs) (hA : ∀ q, H0.size ≤ q → A0 q) (hK : va_K D vwCl tys s) (isC isR : List Nat) (hC : isC.map (fun i => ws[i]?) = wc.map some) (hR : isR.map (fun i => ws[i]?) = wr.map some) (hnc : va_nd isC = true) (hnr : va_nd isR = true) (hdis : ∀ i ∈ isR, i ∉ isC)
    (hr : ∃ cell : Cell, H[b]? = some cell ∧ cell.vm.isStatics = false ∧ s.vm.findClass C = some cell.cls) (hn : As.length = n) (hsize : ls.size = nL) (hst : st0 = As.reverse ++ .ref b :: rest) (hW : (rest.map fun v => v.category).sum ≤ 8) (hdg : decode cc pc = .ok (.invokevirtual index, 3)) (hf : cells + mc ≤ R.cells ∧ slots + ms ≤ R.slots)
    (kk : ∀ (r : Int32) (u : T) (H1 : Heap) (locs1 : List Loc), post r u → va_P D vwCl (wr ++ w1 u) H1 → va_D A0 (wr ++ w1 u) → va_S A0 H0 H1 locs1 → W p l e R s m args below meth c H1 locs1 (cells + mc) (slots + ms) Q (F0 m (pc + 3) ls (.int r :: rest))) : W p l e R s m args below meth c H locs cells slots Q (F0 m pc ls st0) := by
  have hDc := hD.sub isC hnc hC
  have hPc := cutP hP hC
  have hFc := va_free (wc := wc) hD hS hA isC hC
  refine va_calli (va_runV (g := F0 m pc ls st0) S hM cw ⟨ex_bl hbl, hr, fun U hU hW => ⟨rfl, by rw [hU], by rw [hU]; exact hPc, va_K.moved hW.alike hK, hDc.weaken (fun _ _ _ _ => trivial), hE hFc U hU hW⟩⟩ rfl hn hsize hst (lv_room hW) hdg hf) hS (fun q _ h => hFc q h) hFc (fun r u t H1 locs1 ht hvm hw hB hz1 hk1 hS => ?_)
  obtain ⟨hP1, hK1, hD1⟩ := hB
  rw [ht] at hP1
  obtain ⟨hP2, hD2⟩ := va_join (wr := wr) (w1 := w1 u) hP hD isC isR hC hR hnr hdis hk1 hFc hP1 hD1
  exact kk r u H1 locs1 hw hP2 hD2 hS
/-- a static maker: what comes stands at an address of its own -/
theorem efSm {e1 : va_E} (hM : Met l y (Cond.code y bytes maxL ret :: gT) rm (EFx D [] tys H.size E As) (va_Qr (fun (_ : Unit) => True) (fun _ a t => va_P D vwCl [(a, e1)] t.heap ∧ va_K D vwCl tys t ∧ va_D (va_A [] H.size) [(a, e1)]) (va_A [] H.size)) mc ms (va_A [] H.size)) (hbl : Ebl E) (hE : ∀ U : State, U.heap = H → s.WarmedH U.vm → E U) (S : CallFix p m c cc nL s args gT own) (cw : CallB R s args own index y bytes maxL ret (Cond.code y bytes maxL ret :: gT) rm mc ms n ∧ (Cond.static y).before args s = true)
    (hP : va_P D vwCl ws H) (hD : va_D A0 ws) (hS : va_S A0 H0 H locs) (hA : ∀ q, H0.size ≤ q → A0 q) (hK : va_K D vwCl tys s) (isR : List Nat) (hR : isR.map (fun i => ws[i]?) = ws.map some) (hnr : va_nd isR = true)
    (hn : As.length = n) (hsize : ls.size = nL) (hst : st0 = As.reverse ++ rest) (hW : (rest.map fun v => v.category).sum ≤ 8) (hdg : decode cc pc = .ok (.invokestatic index, 3)) (hf : cells + mc ≤ R.cells ∧ slots + ms ≤ R.slots)
    (kk : ∀ (a : Nat) (H1 : Heap) (locs1 : List Loc), va_P D vwCl (ws ++ [(a, e1)]) H1 → va_D A0 (ws ++ [(a, e1)]) → va_S A0 H0 H1 locs1 → W p l e R s m args below meth c H1 locs1 (cells + mc) (slots + ms) Q (F0 m (pc + 3) ls (.ref a :: rest))) : W p l e R s m args below meth c H locs cells slots Q (F0 m pc ls st0) := by
  have hFc := va_free (wc := []) hD hS hA [] rfl
  refine va_callr (va_runS (g := F0 m pc ls st0) S hM cw ⟨ex_bl hbl, fun U hU hW => ⟨rfl, by rw [hU], fun k q h => by simp at h, va_K.moved hW.alike hK, ⟨fun i j p q h => by simp at h, fun k q h => by simp at h⟩, hE U hU hW⟩⟩ rfl hn hsize hst (lv_room hW) hdg hf) hS (fun q _ h => hFc q h) hFc (fun u a t H1 locs1 ht hvm hw hB hz1 hk1 hS => ?_)
  obtain ⟨hP1, hK1, hD1⟩ := hB
  rw [ht] at hP1
  obtain ⟨hP2, hD2⟩ := va_join (wr := ws) (w1 := [(a, e1)]) hP hD [] isR rfl hR hnr (fun i _ h => by cases h) hk1 hFc hP1 hD1
  exact kk a H1 locs1 hP2 hD2 hS
/-- a constructor of a nest mate: new rows' classes come with it -/
theorem efIx {tys1 : T → List (ClassId × FieldType)} {host : String} (hM : Met l y (Cond.code y bytes maxL none :: gT) rm (EFx D wc [] H.size E (.ref b :: As)) (va_Qv (fun (_ : T) => True) (fun u t => va_P D vwCl (w1 u) t.heap ∧ va_K D vwCl (tys1 u) t ∧ va_D (va_A wc H.size) (w1 u)) (va_A wc H.size)) mc ms (va_A wc H.size)) (hbl : Ebl E) (hE : ∀ U : State, U.heap = H → s.WarmedH U.vm → E U) (S : CallFix p m c cc nL s args gT own) (cw : va_CN R s args own index y host bytes maxL none (Cond.code y bytes maxL none :: gT) rm mc ms n ∧ y.name = "<init>" ∧ (Cond.instanceMethod y).before args s = true)
    (hP : va_P D vwCl ws H) (hD : va_D A0 ws) (hS : va_S A0 H0 H locs) (hA : ∀ q, H0.size ≤ q → A0 q) (hK : va_K D vwCl tys s) (isC isR : List Nat) (hC : isC.map (fun i => ws[i]?) = wc.map some) (hR : isR.map (fun i => ws[i]?) = wr.map some) (hnc : va_nd isC = true) (hnr : va_nd isR = true) (hdis : ∀ i ∈ isR, i ∉ isC)
    (hn : As.length = n) (hsize : ls.size = nL) (hst : st0 = As.reverse ++ .ref b :: rest) (hW : (rest.map fun v => v.category).sum ≤ 8) (hdg : decode cc pc = .ok (.invokespecial index, 3)) (hf : cells + mc ≤ R.cells ∧ slots + ms ≤ R.slots)
    (kk : ∀ (u : T) (H1 : Heap) (locs1 : List Loc), va_P D vwCl (wr ++ w1 u) H1 → va_D A0 (wr ++ w1 u) → va_K D vwCl (tys ++ tys1 u) s → va_S A0 H0 H1 locs1 → W p l e R s m args below meth c H1 locs1 (cells + mc) (slots + ms) Q (F0 m (pc + 3) ls rest)) : W p l e R s m args below meth c H locs cells slots Q (F0 m pc ls st0) := by
  have hDc := hD.sub isC hnc hC
  have hPc := cutP hP hC
  have hFc := va_free (wc := wc) hD hS hA isC hC
  refine va_callv (va_runIN (g := F0 m pc ls st0) S hM cw ⟨ex_bl hbl, fun U hU hW => ⟨rfl, by rw [hU], by rw [hU]; exact hPc, va_K.moved hW.alike (hK.sub [] rfl), hDc.weaken (fun _ _ _ _ => trivial), hE U hU hW⟩⟩ rfl hn hsize hst (lv_room hW) hdg hf) hS (fun q _ h => hFc q h) hFc (fun u t H1 locs1 ht hvm hw hB hz1 hk1 hS => ?_)
  obtain ⟨hP1, hK1, hD1⟩ := hB
  rw [ht] at hP1
  obtain ⟨hP2, hD2⟩ := va_join (wr := wr) (w1 := w1 u) hP hD isC isR hC hR hnr hdis hk1 hFc hP1 hD1
  exact kk u H1 locs1 hP2 hD2 (hK.app (va_K.moved hvm.symm hK1)) hS
/-- .. and of a class whose constructor is open to all -/
theorem efIp {post : T → Prop} {tys1 : T → List (ClassId × FieldType)} (hM : Met l y (Cond.code y bytes maxL none :: gT) rm (EFx D wc [] H.size E (.ref b :: As)) (va_Qv post (fun u t => va_P D vwCl (w1 u) t.heap ∧ va_K D vwCl (tys1 u) t ∧ va_D (va_A wc H.size) (w1 u)) (va_A wc H.size)) mc ms (va_A wc H.size)) (hbl : Ebl E) (hE : ∀ U : State, U.heap = H → s.WarmedH U.vm → E U) (S : CallFix p m c cc nL s args gT own) (cw : CallB R s args own index y bytes maxL none (Cond.code y bytes maxL none :: gT) rm mc ms n ∧ y.name = "<init>" ∧ (Cond.instanceMethod y).before args s = true)
    (hP : va_P D vwCl ws H) (hD : va_D A0 ws) (hS : va_S A0 H0 H locs) (hA : ∀ q, H0.size ≤ q → A0 q) (hK : va_K D vwCl tys s) (isC isR : List Nat) (hC : isC.map (fun i => ws[i]?) = wc.map some) (hR : isR.map (fun i => ws[i]?) = wr.map some) (hnc : va_nd isC = true) (hnr : va_nd isR = true) (hdis : ∀ i ∈ isR, i ∉ isC)
    (hn : As.length = n) (hsize : ls.size = nL) (hst : st0 = As.reverse ++ .ref b :: rest) (hW : (rest.map fun v => v.category).sum ≤ 8) (hdg : decode cc pc = .ok (.invokespecial index, 3)) (hf : cells + mc ≤ R.cells ∧ slots + ms ≤ R.slots)
    (kk : ∀ (u : T) (H1 : Heap) (locs1 : List Loc), post u → va_P D vwCl (wr ++ w1 u) H1 → va_D A0 (wr ++ w1 u) → va_K D vwCl (tys ++ tys1 u) s → va_S A0 H0 H1 locs1 → W p l e R s m args below meth c H1 locs1 (cells + mc) (slots + ms) Q (F0 m (pc + 3) ls rest)) : W p l e R s m args below meth c H locs cells slots Q (F0 m pc ls st0) := by
  have hDc := hD.sub isC hnc hC
  have hPc := cutP hP hC
  have hFc := va_free (wc := wc) hD hS hA isC hC
  refine va_callv (va_runI (g := F0 m pc ls st0) S hM cw ⟨ex_bl hbl, fun U hU hW => ⟨rfl, by rw [hU], by rw [hU]; exact hPc, va_K.moved hW.alike (hK.sub [] rfl), hDc.weaken (fun _ _ _ _ => trivial), hE U hU hW⟩⟩ rfl hn hsize hst (lv_room hW) hdg hf) hS (fun q _ h => hFc q h) hFc (fun u t H1 locs1 ht hvm hw hB hz1 hk1 hS => ?_)
  obtain ⟨hP1, hK1, hD1⟩ := hB
  rw [ht] at hP1
  obtain ⟨hP2, hD2⟩ := va_join (wr := wr) (w1 := w1 u) hP hD isC isR hC hR hnr hdis hk1 hFc hP1 hD1
  exact kk u H1 locs1 hw hP2 hD2 (hK.app (va_K.moved hvm.symm hK1)) hS
end HLQ
