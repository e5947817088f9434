section
-- ===== PART A: goes FIRST, ahead of the names: the tables' words, and 'selects' of the private methods out of them =====
/-- a private method of a class that the tables say can be made, by its rows of tables_1 -/
def lw_okq (q : MethodName × Nat) : Prop := (q.1.cls ≠ "java/lang/invoke/MethodHandle" ∧ q.1.cls ≠ "java/lang/invoke/VarHandle") ∧ Cond.instantiable q.1.cls q.2 ∈ tables_1 ∧ Cond.privateMethod q.1 ∈ tables_1 ∧ Cond.instanceMethod q.1 ∈ tables_1
theorem lw_p0 : lw_okq (⟨"HomeNeedles$Page", "fitsHead", "(I)Z"⟩, 2) := ⟨⟨by decide +kernel, by decide +kernel⟩, List.mem_of_getElem? (i := 29) (by decide +kernel), List.mem_of_getElem? (i := 170) (by decide +kernel), List.mem_of_getElem? (i := 171) (by decide +kernel)⟩
theorem lw_p1 : lw_okq (⟨"HomeNeedles$Page", "fitsTail", "(II)Z"⟩, 2) := ⟨⟨by decide +kernel, by decide +kernel⟩, List.mem_of_getElem? (i := 29) (by decide +kernel), List.mem_of_getElem? (i := 268) (by decide +kernel), List.mem_of_getElem? (i := 269) (by decide +kernel)⟩
theorem lw_p2 : lw_okq (⟨"HomeNeedles", "isNeedle", "(I)Z"⟩, 11) := ⟨⟨by decide +kernel, by decide +kernel⟩, List.mem_of_getElem? (i := 21) (by decide +kernel), List.mem_of_getElem? (i := 333) (by decide +kernel), List.mem_of_getElem? (i := 334) (by decide +kernel)⟩
theorem lw_p3 : lw_okq (⟨"HomeNeedles", "pointing", "(II)I"⟩, 11) := ⟨⟨by decide +kernel, by decide +kernel⟩, List.mem_of_getElem? (i := 21) (by decide +kernel), List.mem_of_getElem? (i := 354) (by decide +kernel), List.mem_of_getElem? (i := 355) (by decide +kernel)⟩
theorem lw_p4 : lw_okq (⟨"HomeNeedles", "trailOf", "(I)LHomeNeedles$Trail;"⟩, 11) := ⟨⟨by decide +kernel, by decide +kernel⟩, List.mem_of_getElem? (i := 21) (by decide +kernel), List.mem_of_getElem? (i := 381) (by decide +kernel), List.mem_of_getElem? (i := 382) (by decide +kernel)⟩
theorem lw_p5 : lw_okq (⟨"HomeNeedles", "fewestSteps", "(I)I"⟩, 11) := ⟨⟨by decide +kernel, by decide +kernel⟩, List.mem_of_getElem? (i := 21) (by decide +kernel), List.mem_of_getElem? (i := 393) (by decide +kernel), List.mem_of_getElem? (i := 394) (by decide +kernel)⟩
theorem lw_p6 : lw_okq (⟨"HomeNeedles", "possibleHomes", "(I)J"⟩, 11) := ⟨⟨by decide +kernel, by decide +kernel⟩, List.mem_of_getElem? (i := 21) (by decide +kernel), List.mem_of_getElem? (i := 400) (by decide +kernel), List.mem_of_getElem? (i := 401) (by decide +kernel)⟩
theorem lw_p7 : lw_okq (⟨"HomeNeedles", "canBeHome", "(II)Z"⟩, 11) := ⟨⟨by decide +kernel, by decide +kernel⟩, List.mem_of_getElem? (i := 21) (by decide +kernel), List.mem_of_getElem? (i := 404) (by decide +kernel), List.mem_of_getElem? (i := 405) (by decide +kernel)⟩
theorem lw_p8 : lw_okq (⟨"HomeNeedles", "bestLook", "(IJ)I"⟩, 11) := ⟨⟨by decide +kernel, by decide +kernel⟩, List.mem_of_getElem? (i := 21) (by decide +kernel), List.mem_of_getElem? (i := 417) (by decide +kernel), List.mem_of_getElem? (i := 418) (by decide +kernel)⟩
theorem lw_p9 : lw_okq (⟨"HomeNeedles", "leftAtWorst", "(LHomeNeedles$Needle;JI)I"⟩, 11) := ⟨⟨by decide +kernel, by decide +kernel⟩, List.mem_of_getElem? (i := 21) (by decide +kernel), List.mem_of_getElem? (i := 421) (by decide +kernel), List.mem_of_getElem? (i := 422) (by decide +kernel)⟩
theorem lw_p10 : lw_okq (⟨"HomeNeedles", "hasSea", "()Z"⟩, 11) := ⟨⟨by decide +kernel, by decide +kernel⟩, List.mem_of_getElem? (i := 21) (by decide +kernel), List.mem_of_getElem? (i := 448) (by decide +kernel), List.mem_of_getElem? (i := 449) (by decide +kernel)⟩
theorem lw_p11 : lw_okq (⟨"HomeNeedles", "homingBits", "()I"⟩, 11) := ⟨⟨by decide +kernel, by decide +kernel⟩, List.mem_of_getElem? (i := 21) (by decide +kernel), List.mem_of_getElem? (i := 477) (by decide +kernel), List.mem_of_getElem? (i := 478) (by decide +kernel)⟩
theorem lw_p12 : lw_okq (⟨"HomeNeedles", "needlesDownAt", "(I)I"⟩, 11) := ⟨⟨by decide +kernel, by decide +kernel⟩, List.mem_of_getElem? (i := 21) (by decide +kernel), List.mem_of_getElem? (i := 504) (by decide +kernel), List.mem_of_getElem? (i := 505) (by decide +kernel)⟩
theorem lw_p13 : lw_okq (⟨"HomeNeedles", "withNeedle", "(JI)J"⟩, 11) := ⟨⟨by decide +kernel, by decide +kernel⟩, List.mem_of_getElem? (i := 21) (by decide +kernel), List.mem_of_getElem? (i := 532) (by decide +kernel), List.mem_of_getElem? (i := 533) (by decide +kernel)⟩
theorem lw_p14 : lw_okq (⟨"HomeNeedles", "withSea", "(J)J"⟩, 11) := ⟨⟨by decide +kernel, by decide +kernel⟩, List.mem_of_getElem? (i := 21) (by decide +kernel), List.mem_of_getElem? (i := 541) (by decide +kernel), List.mem_of_getElem? (i := 542) (by decide +kernel)⟩
theorem lw_p15 : lw_okq (⟨"HomeNeedlesModel", "faultOf", "()I"⟩, 26) := ⟨⟨by decide +kernel, by decide +kernel⟩, List.mem_of_getElem? (i := 546) (by decide +kernel), List.mem_of_getElem? (i := 647) (by decide +kernel), List.mem_of_getElem? (i := 648) (by decide +kernel)⟩
def lw_privs_1 : List (MethodName × Nat) := [(⟨"HomeNeedles$Page", "fitsHead", "(I)Z"⟩, 2), (⟨"HomeNeedles$Page", "fitsTail", "(II)Z"⟩, 2), (⟨"HomeNeedles", "isNeedle", "(I)Z"⟩, 11), (⟨"HomeNeedles", "pointing", "(II)I"⟩, 11), (⟨"HomeNeedles", "trailOf", "(I)LHomeNeedles$Trail;"⟩, 11), (⟨"HomeNeedles", "fewestSteps", "(I)I"⟩, 11), (⟨"HomeNeedles", "possibleHomes", "(I)J"⟩, 11), (⟨"HomeNeedles", "canBeHome", "(II)Z"⟩, 11), (⟨"HomeNeedles", "bestLook", "(IJ)I"⟩, 11), (⟨"HomeNeedles", "leftAtWorst", "(LHomeNeedles$Needle;JI)I"⟩, 11), (⟨"HomeNeedles", "hasSea", "()Z"⟩, 11), (⟨"HomeNeedles", "homingBits", "()I"⟩, 11), (⟨"HomeNeedles", "needlesDownAt", "(I)I"⟩, 11), (⟨"HomeNeedles", "withNeedle", "(JI)J"⟩, 11), (⟨"HomeNeedles", "withSea", "(J)J"⟩, 11), (⟨"HomeNeedlesModel", "faultOf", "()I"⟩, 26)]
theorem lw_r1 : ∀ q ∈ lw_privs_1, lw_okq q := List.forall_mem_cons.mpr ⟨lw_p0, List.forall_mem_cons.mpr ⟨lw_p1, List.forall_mem_cons.mpr ⟨lw_p2, List.forall_mem_cons.mpr ⟨lw_p3, List.forall_mem_cons.mpr ⟨lw_p4, List.forall_mem_cons.mpr ⟨lw_p5, List.forall_mem_cons.mpr ⟨lw_p6, List.forall_mem_cons.mpr ⟨lw_p7, List.forall_mem_cons.mpr ⟨lw_p8, List.forall_mem_cons.mpr ⟨lw_p9, List.forall_mem_cons.mpr ⟨lw_p10, List.forall_mem_cons.mpr ⟨lw_p11, List.forall_mem_cons.mpr ⟨lw_p12, List.forall_mem_cons.mpr ⟨lw_p13, List.forall_mem_cons.mpr ⟨lw_p14, List.forall_mem_cons.mpr ⟨lw_p15, fun _ h => absurd h List.not_mem_nil⟩⟩⟩⟩⟩⟩⟩⟩⟩⟩⟩⟩⟩⟩⟩⟩
theorem lw_p16 : lw_okq (⟨"HomeNeedlesModel", "isGood", "(I)Z"⟩, 26) := ⟨⟨by decide +kernel, by decide +kernel⟩, List.mem_of_getElem? (i := 546) (by decide +kernel), List.mem_of_getElem? (i := 651) (by decide +kernel), List.mem_of_getElem? (i := 652) (by decide +kernel)⟩
theorem lw_p17 : lw_okq (⟨"HomeNeedlesModel", "placeAt", "(I)I"⟩, 26) := ⟨⟨by decide +kernel, by decide +kernel⟩, List.mem_of_getElem? (i := 546) (by decide +kernel), List.mem_of_getElem? (i := 667) (by decide +kernel), List.mem_of_getElem? (i := 668) (by decide +kernel)⟩
theorem lw_p18 : lw_okq (⟨"HomeNeedlesModel", "isNeedle", "(I)Z"⟩, 26) := ⟨⟨by decide +kernel, by decide +kernel⟩, List.mem_of_getElem? (i := 546) (by decide +kernel), List.mem_of_getElem? (i := 675) (by decide +kernel), List.mem_of_getElem? (i := 676) (by decide +kernel)⟩
theorem lw_p19 : lw_okq (⟨"HomeNeedlesModel", "tell", "(II)I"⟩, 26) := ⟨⟨by decide +kernel, by decide +kernel⟩, List.mem_of_getElem? (i := 546) (by decide +kernel), List.mem_of_getElem? (i := 679) (by decide +kernel), List.mem_of_getElem? (i := 680) (by decide +kernel)⟩
theorem lw_p20 : lw_okq (⟨"HomeNeedlesModel", "pointsOf", "(II)I"⟩, 26) := ⟨⟨by decide +kernel, by decide +kernel⟩, List.mem_of_getElem? (i := 546) (by decide +kernel), List.mem_of_getElem? (i := 683) (by decide +kernel), List.mem_of_getElem? (i := 684) (by decide +kernel)⟩
theorem lw_p21 : lw_okq (⟨"HomeNeedlesModel", "followOf", "(II)I"⟩, 26) := ⟨⟨by decide +kernel, by decide +kernel⟩, List.mem_of_getElem? (i := 546) (by decide +kernel), List.mem_of_getElem? (i := 696) (by decide +kernel), List.mem_of_getElem? (i := 697) (by decide +kernel)⟩
theorem lw_p22 : lw_okq (⟨"HomeNeedlesModel", "layFollow", "(I)V"⟩, 26) := ⟨⟨by decide +kernel, by decide +kernel⟩, List.mem_of_getElem? (i := 546) (by decide +kernel), List.mem_of_getElem? (i := 700) (by decide +kernel), List.mem_of_getElem? (i := 701) (by decide +kernel)⟩
theorem lw_p23 : lw_okq (⟨"HomeNeedlesModel", "stepped", "(II)I"⟩, 26) := ⟨⟨by decide +kernel, by decide +kernel⟩, List.mem_of_getElem? (i := 546) (by decide +kernel), List.mem_of_getElem? (i := 704) (by decide +kernel), List.mem_of_getElem? (i := 705) (by decide +kernel)⟩
theorem lw_p24 : lw_okq (⟨"HomeNeedlesModel", "fewOf", "(I)I"⟩, 26) := ⟨⟨by decide +kernel, by decide +kernel⟩, List.mem_of_getElem? (i := 546) (by decide +kernel), List.mem_of_getElem? (i := 709) (by decide +kernel), List.mem_of_getElem? (i := 710) (by decide +kernel)⟩
theorem lw_p25 : lw_okq (⟨"HomeNeedlesModel", "homesOf", "(II)I"⟩, 26) := ⟨⟨by decide +kernel, by decide +kernel⟩, List.mem_of_getElem? (i := 546) (by decide +kernel), List.mem_of_getElem? (i := 713) (by decide +kernel), List.mem_of_getElem? (i := 714) (by decide +kernel)⟩
theorem lw_p26 : lw_okq (⟨"HomeNeedlesModel", "isHome", "(II)Z"⟩, 26) := ⟨⟨by decide +kernel, by decide +kernel⟩, List.mem_of_getElem? (i := 546) (by decide +kernel), List.mem_of_getElem? (i := 717) (by decide +kernel), List.mem_of_getElem? (i := 718) (by decide +kernel)⟩
theorem lw_p27 : lw_okq (⟨"HomeNeedlesModel", "lookOf", "(I)I"⟩, 26) := ⟨⟨by decide +kernel, by decide +kernel⟩, List.mem_of_getElem? (i := 546) (by decide +kernel), List.mem_of_getElem? (i := 721) (by decide +kernel), List.mem_of_getElem? (i := 722) (by decide +kernel)⟩
theorem lw_p28 : lw_okq (⟨"HomeNeedlesModel", "isPlace", "(I)Z"⟩, 26) := ⟨⟨by decide +kernel, by decide +kernel⟩, List.mem_of_getElem? (i := 546) (by decide +kernel), List.mem_of_getElem? (i := 734) (by decide +kernel), List.mem_of_getElem? (i := 735) (by decide +kernel)⟩
theorem lw_p29 : lw_okq (⟨"HomeNeedlesModel", "lacks", "()Z"⟩, 26) := ⟨⟨by decide +kernel, by decide +kernel⟩, List.mem_of_getElem? (i := 546) (by decide +kernel), List.mem_of_getElem? (i := 738) (by decide +kernel), List.mem_of_getElem? (i := 739) (by decide +kernel)⟩
theorem lw_p30 : lw_okq (⟨"HomeNeedlesModel", "go", "(I)I"⟩, 26) := ⟨⟨by decide +kernel, by decide +kernel⟩, List.mem_of_getElem? (i := 546) (by decide +kernel), List.mem_of_getElem? (i := 760) (by decide +kernel), List.mem_of_getElem? (i := 761) (by decide +kernel)⟩
theorem lw_p31 : lw_okq (⟨"HomeNeedlesModel", "homingOf", "()I"⟩, 26) := ⟨⟨by decide +kernel, by decide +kernel⟩, List.mem_of_getElem? (i := 546) (by decide +kernel), List.mem_of_getElem? (i := 772) (by decide +kernel), List.mem_of_getElem? (i := 773) (by decide +kernel)⟩
def lw_privs_2 : List (MethodName × Nat) := [(⟨"HomeNeedlesModel", "isGood", "(I)Z"⟩, 26), (⟨"HomeNeedlesModel", "placeAt", "(I)I"⟩, 26), (⟨"HomeNeedlesModel", "isNeedle", "(I)Z"⟩, 26), (⟨"HomeNeedlesModel", "tell", "(II)I"⟩, 26), (⟨"HomeNeedlesModel", "pointsOf", "(II)I"⟩, 26), (⟨"HomeNeedlesModel", "followOf", "(II)I"⟩, 26), (⟨"HomeNeedlesModel", "layFollow", "(I)V"⟩, 26), (⟨"HomeNeedlesModel", "stepped", "(II)I"⟩, 26), (⟨"HomeNeedlesModel", "fewOf", "(I)I"⟩, 26), (⟨"HomeNeedlesModel", "homesOf", "(II)I"⟩, 26), (⟨"HomeNeedlesModel", "isHome", "(II)Z"⟩, 26), (⟨"HomeNeedlesModel", "lookOf", "(I)I"⟩, 26), (⟨"HomeNeedlesModel", "isPlace", "(I)Z"⟩, 26), (⟨"HomeNeedlesModel", "lacks", "()Z"⟩, 26), (⟨"HomeNeedlesModel", "go", "(I)I"⟩, 26), (⟨"HomeNeedlesModel", "homingOf", "()I"⟩, 26)]
theorem lw_r2 : ∀ q ∈ lw_privs_2, lw_okq q := List.forall_mem_cons.mpr ⟨lw_p16, List.forall_mem_cons.mpr ⟨lw_p17, List.forall_mem_cons.mpr ⟨lw_p18, List.forall_mem_cons.mpr ⟨lw_p19, List.forall_mem_cons.mpr ⟨lw_p20, List.forall_mem_cons.mpr ⟨lw_p21, List.forall_mem_cons.mpr ⟨lw_p22, List.forall_mem_cons.mpr ⟨lw_p23, List.forall_mem_cons.mpr ⟨lw_p24, List.forall_mem_cons.mpr ⟨lw_p25, List.forall_mem_cons.mpr ⟨lw_p26, List.forall_mem_cons.mpr ⟨lw_p27, List.forall_mem_cons.mpr ⟨lw_p28, List.forall_mem_cons.mpr ⟨lw_p29, List.forall_mem_cons.mpr ⟨lw_p30, List.forall_mem_cons.mpr ⟨lw_p31, fun _ h => absurd h List.not_mem_nil⟩⟩⟩⟩⟩⟩⟩⟩⟩⟩⟩⟩⟩⟩⟩⟩
theorem lw_p32 : lw_okq (⟨"HomeNeedlesModel", "draw", "(I)I"⟩, 26) := ⟨⟨by decide +kernel, by decide +kernel⟩, List.mem_of_getElem? (i := 546) (by decide +kernel), List.mem_of_getElem? (i := 790) (by decide +kernel), List.mem_of_getElem? (i := 791) (by decide +kernel)⟩
theorem lw_p33 : lw_okq (⟨"HomeNeedlesModel", "downsAt", "(I)I"⟩, 26) := ⟨⟨by decide +kernel, by decide +kernel⟩, List.mem_of_getElem? (i := 546) (by decide +kernel), List.mem_of_getElem? (i := 798) (by decide +kernel), List.mem_of_getElem? (i := 799) (by decide +kernel)⟩
theorem lw_p34 : lw_okq (⟨"HomeNeedlesModel", "countOf", "(I)I"⟩, 26) := ⟨⟨by decide +kernel, by decide +kernel⟩, List.mem_of_getElem? (i := 546) (by decide +kernel), List.mem_of_getElem? (i := 817) (by decide +kernel), List.mem_of_getElem? (i := 818) (by decide +kernel)⟩
theorem lw_p35 : lw_okq (⟨"HomeNeedlesModel", "islandsAll", "()I"⟩, 26) := ⟨⟨by decide +kernel, by decide +kernel⟩, List.mem_of_getElem? (i := 546) (by decide +kernel), List.mem_of_getElem? (i := 821) (by decide +kernel), List.mem_of_getElem? (i := 822) (by decide +kernel)⟩
theorem lw_p36 : lw_okq (⟨"HomeNeedlesModel", "say", "(J)V"⟩, 26) := ⟨⟨by decide +kernel, by decide +kernel⟩, List.mem_of_getElem? (i := 546) (by decide +kernel), List.mem_of_getElem? (i := 830) (by decide +kernel), List.mem_of_getElem? (i := 831) (by decide +kernel)⟩
def lw_privs_3 : List (MethodName × Nat) := [(⟨"HomeNeedlesModel", "draw", "(I)I"⟩, 26), (⟨"HomeNeedlesModel", "downsAt", "(I)I"⟩, 26), (⟨"HomeNeedlesModel", "countOf", "(I)I"⟩, 26), (⟨"HomeNeedlesModel", "islandsAll", "()I"⟩, 26), (⟨"HomeNeedlesModel", "say", "(J)V"⟩, 26)]
theorem lw_r3 : ∀ q ∈ lw_privs_3, lw_okq q := List.forall_mem_cons.mpr ⟨lw_p32, List.forall_mem_cons.mpr ⟨lw_p33, List.forall_mem_cons.mpr ⟨lw_p34, List.forall_mem_cons.mpr ⟨lw_p35, List.forall_mem_cons.mpr ⟨lw_p36, fun _ h => absurd h List.not_mem_nil⟩⟩⟩⟩⟩
def lw_privs : List (MethodName × Nat) := lw_privs_1 ++ (lw_privs_2 ++ (lw_privs_3))
def lw_tbl : List Cond := k2_sels lw_privs ++ tables_1
theorem lw_privs_ok : ∀ q ∈ lw_privs, lw_okq q := by
  show ∀ q ∈ lw_privs_1 ++ (lw_privs_2 ++ (lw_privs_3)), lw_okq q
  exact List.forall_mem_append.mpr ⟨lw_r1, List.forall_mem_append.mpr ⟨lw_r2, lw_r3⟩⟩

/-! the words that hold at every warm state, of the whole table: one list for all contracts -/
def gT : List Cond := lw_tbl.filter goodWord
theorem gT_in {w : Cond} (h : w ∈ lw_tbl) (hg : goodWord w = true) : w ∈ gT := List.mem_filter.mpr ⟨h, hg⟩
theorem gT_at (i : Nat) {w : Cond} (h : tables_1[i]? = some w) (hg : goodWord w = true) : w ∈ gT := gT_in (List.mem_append_right _ (List.mem_of_getElem? h)) hg
theorem gT_pr (i : Nat) {w : Cond} (h : (k2_sels lw_privs)[i]? = some w) (hg : goodWord w = true) : w ∈ gT := gT_in (List.mem_append_left _ (List.mem_of_getElem? h)) hg
theorem gT_ht {args : Array Value} {s : State} (h : ∀ w ∈ lw_tbl, w.before args s = true) : ∀ w ∈ gT, w.before args s = true := fun w hw => h w (List.mem_filter.mp hw).1
theorem gT_good {w : Cond} (h : w ∈ gT) : w ∈ gT ∧ ((w.onTables && w.keeps) = true ∨ ∃ ty, w = .arrayClass ty) := ⟨h, good_of_word (List.mem_filter.mp h).2⟩
theorem gT_gi : GoodIn gT gT := fun _ h => gT_good h
theorem gT_cons {w : Cond} (h : w ∈ gT) : GoodIn gT (w :: gT) := fun v hv => (List.mem_cons.mp hv).elim (fun e => by rw [e]; exact gT_good h) gT_good
theorem gT_V {own : String} {idx : Nat} {C : String} {y : MethodName} {w : Cond} (w1 : Cond.methodLink own idx y ∈ gT) (w2 : Cond.instanceMethod y ∈ gT) (w3 : Cond.selects C y y ∈ gT) (w4 : Cond.initialized C ∈ gT) (w5 : w ∈ gT) : GoodIn gT (wsV own idx C y (w :: gT)) := by
  intro v hv
  unfold wsV at hv
  rcases List.mem_append.mp hv with h | h
  · simp only [List.mem_cons, List.not_mem_nil, or_false] at h
    rcases h with rfl | rfl | rfl | rfl <;> first | exact gT_good w1 | exact gT_good w2 | exact gT_good w3 | exact gT_good w4
  · exact gT_cons w5 v h
theorem gT_S {own : String} {idx : Nat} {y : MethodName} {w : Cond} (w1 : Cond.methodLink own idx y ∈ gT) (w2 : Cond.static y ∈ gT) (w4 : Cond.initialized y.cls ∈ gT) (w5 : w ∈ gT) : GoodIn gT (va_wsS own idx y (w :: gT)) := by
  intro v hv
  unfold va_wsS at hv
  rcases List.mem_append.mp hv with h | h
  · simp only [List.mem_cons, List.not_mem_nil, or_false] at h
    rcases h with rfl | rfl | rfl <;> first | exact gT_good w1 | exact gT_good w2 | exact gT_good w4
  · exact gT_cons w5 v h
end
section
def RX0 : String := "HomeNeedles$Lazy"
def TX0 : u_T := fun k => match k with
  | _ => ("", "", "", false)
def tyX0 : Nat → FieldType := fun k => match k with
  | _ => .int
theorem nmX0 : ∀ a, a < 0 → ∀ b, b < 0 → a ≠ b → (TX0 a).2.1 ≠ (TX0 b).2.1 := by decide +kernel
theorem tyX0_ok : ∀ k, k < 0 → parseFieldDescriptor (TX0 k).2.2.1 = some (tyX0 k) := by decide +kernel
abbrev cX0_init : ByteArray := prog_2_method_1_code
def yX0_init : MethodName := ⟨RX0, "<init>", "()V"⟩
abbrev cX0_kind : ByteArray := prog_2_method_2_code
def yX0_kind : MethodName := ⟨RX0, "kind", "()I"⟩
abbrev cX0_turn : ByteArray := prog_2_method_3_code
def yX0_turn : MethodName := ⟨RX0, "turn", "(II)I"⟩
def RX1 : String := "HomeNeedles$Needle"
def TX1 : u_T := fun k => match k with
  | _ => ("", "", "", false)
def tyX1 : Nat → FieldType := fun k => match k with
  | _ => .int
theorem nmX1 : ∀ a, a < 0 → ∀ b, b < 0 → a ≠ b → (TX1 a).2.1 ≠ (TX1 b).2.1 := by decide +kernel
theorem tyX1_ok : ∀ k, k < 0 → parseFieldDescriptor (TX1 k).2.2.1 = some (tyX1 k) := by decide +kernel
abbrev cX1_init : ByteArray := prog_3_method_1_code
def yX1_init : MethodName := ⟨RX1, "<init>", "()V"⟩
abbrev cX1_kind : ByteArray := prog_3_method_2_code
def yX1_kind : MethodName := ⟨RX1, "kind", "()I"⟩
abbrev cX1_turn : ByteArray := prog_3_method_3_code
def yX1_turn : MethodName := ⟨RX1, "turn", "(II)I"⟩
def RX2 : String := "HomeNeedles$Page"
def TX2 : u_T := fun k => match k with
  | 0 => ("HomeNeedles$Page", "letters", "[C", true)
  | _ => ("HomeNeedles$Page", "size", "I", false)
def tyX2 : Nat → FieldType := fun k => match k with
  | 0 => .array .char
  | _ => .int
theorem nmX2 : ∀ a, a < 2 → ∀ b, b < 2 → a ≠ b → (TX2 a).2.1 ≠ (TX2 b).2.1 := by decide +kernel
theorem tyX2_ok : ∀ k, k < 2 → parseFieldDescriptor (TX2 k).2.2.1 = some (tyX2 k) := by decide +kernel
abbrev cX2_init : ByteArray := prog_4_method_1_code
def yX2_init : MethodName := ⟨RX2, "<init>", "()V"⟩
abbrev cX2_write : ByteArray := prog_4_method_2_code
def yX2_write : MethodName := ⟨RX2, "write", "(C)V"⟩
abbrev cX2_headEnd : ByteArray := prog_4_method_3_code
def yX2_headEnd : MethodName := ⟨RX2, "headEnd", "()I"⟩
abbrev cX2_firstWrong : ByteArray := prog_4_method_4_code
def yX2_firstWrong : MethodName := ⟨RX2, "firstWrong", "()I"⟩
abbrev cX2_isWhole : ByteArray := prog_4_method_5_code
def yX2_isWhole : MethodName := ⟨RX2, "isWhole", "()Z"⟩
abbrev cX2_fitsHead : ByteArray := prog_4_method_6_code
def yX2_fitsHead : MethodName := ⟨RX2, "fitsHead", "(I)Z"⟩
abbrev cX2_fitsTail : ByteArray := prog_4_method_7_code
def yX2_fitsTail : MethodName := ⟨RX2, "fitsTail", "(II)Z"⟩
abbrev cX2_isDigit : ByteArray := prog_4_method_8_code
def yX2_isDigit : MethodName := ⟨RX2, "isDigit", "(C)Z"⟩
abbrev cX2_kindAt : ByteArray := prog_4_method_9_code
def yX2_kindAt : MethodName := ⟨RX2, "kindAt", "(I)I"⟩
abbrev cX2_placeAt : ByteArray := prog_4_method_10_code
def yX2_placeAt : MethodName := ⟨RX2, "placeAt", "(I)I"⟩
def RX3 : String := "HomeNeedles$Shy"
def TX3 : u_T := fun k => match k with
  | _ => ("", "", "", false)
def tyX3 : Nat → FieldType := fun k => match k with
  | _ => .int
theorem nmX3 : ∀ a, a < 0 → ∀ b, b < 0 → a ≠ b → (TX3 a).2.1 ≠ (TX3 b).2.1 := by decide +kernel
theorem tyX3_ok : ∀ k, k < 0 → parseFieldDescriptor (TX3 k).2.2.1 = some (tyX3 k) := by decide +kernel
abbrev cX3_init : ByteArray := prog_5_method_1_code
def yX3_init : MethodName := ⟨RX3, "<init>", "()V"⟩
abbrev cX3_kind : ByteArray := prog_5_method_2_code
def yX3_kind : MethodName := ⟨RX3, "kind", "()I"⟩
abbrev cX3_turn : ByteArray := prog_5_method_3_code
def yX3_turn : MethodName := ⟨RX3, "turn", "(II)I"⟩
def RX4 : String := "HomeNeedles$Slow"
def TX4 : u_T := fun k => match k with
  | _ => ("", "", "", false)
def tyX4 : Nat → FieldType := fun k => match k with
  | _ => .int
theorem nmX4 : ∀ a, a < 0 → ∀ b, b < 0 → a ≠ b → (TX4 a).2.1 ≠ (TX4 b).2.1 := by decide +kernel
theorem tyX4_ok : ∀ k, k < 0 → parseFieldDescriptor (TX4 k).2.2.1 = some (tyX4 k) := by decide +kernel
abbrev cX4_init : ByteArray := prog_6_method_1_code
def yX4_init : MethodName := ⟨RX4, "<init>", "()V"⟩
abbrev cX4_kind : ByteArray := prog_6_method_2_code
def yX4_kind : MethodName := ⟨RX4, "kind", "()I"⟩
abbrev cX4_turn : ByteArray := prog_6_method_3_code
def yX4_turn : MethodName := ⟨RX4, "turn", "(II)I"⟩
def RX5 : String := "HomeNeedles$Trail"
def TX5 : u_T := fun k => match k with
  | 0 => ("HomeNeedles$Trail", "steps", "I", false)
  | _ => ("HomeNeedles$Trail", "place", "I", false)
def tyX5 : Nat → FieldType := fun k => match k with
  | 0 => .int
  | _ => .int
theorem nmX5 : ∀ a, a < 2 → ∀ b, b < 2 → a ≠ b → (TX5 a).2.1 ≠ (TX5 b).2.1 := by decide +kernel
theorem tyX5_ok : ∀ k, k < 2 → parseFieldDescriptor (TX5 k).2.2.1 = some (tyX5 k) := by decide +kernel
abbrev cX5_init : ByteArray := prog_7_method_1_code
def yX5_init : MethodName := ⟨RX5, "<init>", "()V"⟩
def RX6 : String := "HomeNeedles$Turned"
def TX6 : u_T := fun k => match k with
  | _ => ("", "", "", false)
def tyX6 : Nat → FieldType := fun k => match k with
  | _ => .int
theorem nmX6 : ∀ a, a < 0 → ∀ b, b < 0 → a ≠ b → (TX6 a).2.1 ≠ (TX6 b).2.1 := by decide +kernel
theorem tyX6_ok : ∀ k, k < 0 → parseFieldDescriptor (TX6 k).2.2.1 = some (tyX6 k) := by decide +kernel
abbrev cX6_init : ByteArray := prog_8_method_1_code
def yX6_init : MethodName := ⟨RX6, "<init>", "()V"⟩
abbrev cX6_kind : ByteArray := prog_8_method_2_code
def yX6_kind : MethodName := ⟨RX6, "kind", "()I"⟩
abbrev cX6_turn : ByteArray := prog_8_method_3_code
def yX6_turn : MethodName := ⟨RX6, "turn", "(II)I"⟩
def RX7 : String := "HomeNeedles$Voyage"
def TX7 : u_T := fun k => match k with
  | 0 => ("HomeNeedles$Voyage", "homes", "[I", true)
  | 1 => ("HomeNeedles$Voyage", "seenNeedles", "[I", true)
  | 2 => ("HomeNeedles$Voyage", "seenPlaces", "[I", true)
  | 3 => ("HomeNeedles$Voyage", "seenDirections", "[I", true)
  | 4 => ("HomeNeedles$Voyage", "islands", "J", false)
  | 5 => ("HomeNeedles$Voyage", "bearer", "I", false)
  | 6 => ("HomeNeedles$Voyage", "steps", "I", false)
  | 7 => ("HomeNeedles$Voyage", "stepsOn", "I", false)
  | _ => ("HomeNeedles$Voyage", "seen", "I", false)
def tyX7 : Nat → FieldType := fun k => match k with
  | 0 => .array .int
  | 1 => .array .int
  | 2 => .array .int
  | 3 => .array .int
  | 4 => .long
  | 5 => .int
  | 6 => .int
  | 7 => .int
  | _ => .int
theorem nmX7 : ∀ a, a < 9 → ∀ b, b < 9 → a ≠ b → (TX7 a).2.1 ≠ (TX7 b).2.1 := by decide +kernel
theorem tyX7_ok : ∀ k, k < 9 → parseFieldDescriptor (TX7 k).2.2.1 = some (tyX7 k) := by decide +kernel
abbrev cX7_init : ByteArray := prog_9_method_1_code
def yX7_init : MethodName := ⟨RX7, "<init>", "()V"⟩
abbrev cX7_clear : ByteArray := prog_9_method_2_code
def yX7_clear : MethodName := ⟨RX7, "clear", "()V"⟩
abbrev cX7_copyFrom : ByteArray := prog_9_method_3_code
def yX7_copyFrom : MethodName := ⟨RX7, "copyFrom", "(LHomeNeedles$Voyage;)V"⟩
abbrev cX7_isIsland : ByteArray := prog_9_method_4_code
def yX7_isIsland : MethodName := ⟨RX7, "isIsland", "(I)Z"⟩
abbrev cX7_setIsland : ByteArray := prog_9_method_5_code
def yX7_setIsland : MethodName := ⟨RX7, "setIsland", "(IZ)V"⟩
abbrev cX7_placeBehind : ByteArray := prog_9_method_6_code
def yX7_placeBehind : MethodName := ⟨RX7, "placeBehind", "(II)I"⟩
abbrev cX7_move : ByteArray := prog_9_method_7_code
def yX7_move : MethodName := ⟨RX7, "move", "(I)I"⟩
abbrev cX7_addSeen : ByteArray := prog_9_method_8_code
def yX7_addSeen : MethodName := ⟨RX7, "addSeen", "(III)V"⟩
def RX8 : String := "HomeNeedles"
def TX8 : u_T := fun k => match k with
  | 0 => ("HomeNeedles", "page", "LHomeNeedles$Page;", true)
  | 1 => ("HomeNeedles", "needles", "[LHomeNeedles$Needle;", true)
  | 2 => ("HomeNeedles", "now", "LHomeNeedles$Voyage;", true)
  | 3 => ("HomeNeedles", "kept", "LHomeNeedles$Voyage;", true)
  | 4 => ("HomeNeedles", "trail", "LHomeNeedles$Trail;", true)
  | 5 => ("HomeNeedles", "stepsAway", "[I", true)
  | 6 => ("HomeNeedles", "waiting", "[I", true)
  | 7 => ("HomeNeedles", "leftByDirection", "[I", true)
  | 8 => ("HomeNeedles", "needleCount", "I", false)
  | 9 => ("HomeNeedles", "seasRead", "I", false)
  | _ => ("HomeNeedles", "imageKept", "Z", false)
def tyX8 : Nat → FieldType := fun k => match k with
  | 0 => .object "HomeNeedles$Page"
  | 1 => .array (.object "HomeNeedles$Needle")
  | 2 => .object "HomeNeedles$Voyage"
  | 3 => .object "HomeNeedles$Voyage"
  | 4 => .object "HomeNeedles$Trail"
  | 5 => .array .int
  | 6 => .array .int
  | 7 => .array .int
  | 8 => .int
  | 9 => .int
  | _ => .boolean
theorem nmX8 : ∀ a, a < 11 → ∀ b, b < 11 → a ≠ b → (TX8 a).2.1 ≠ (TX8 b).2.1 := by decide +kernel
theorem tyX8_ok : ∀ k, k < 11 → parseFieldDescriptor (TX8 k).2.2.1 = some (tyX8 k) := by decide +kernel
abbrev cX8_init : ByteArray := prog_1_method_1_code
def yX8_init : MethodName := ⟨RX8, "<init>", "()V"⟩
abbrev cX8_letter : ByteArray := prog_1_method_2_code
def yX8_letter : MethodName := ⟨RX8, "letter", "(I)I"⟩
abbrev cX8_blank : ByteArray := prog_1_method_3_code
def yX8_blank : MethodName := ⟨RX8, "blank", "()I"⟩
abbrev cX8_fault : ByteArray := prog_1_method_4_code
def yX8_fault : MethodName := ⟨RX8, "fault", "()I"⟩
abbrev cX8_sea : ByteArray := prog_1_method_5_code
def yX8_sea : MethodName := ⟨RX8, "sea", "()I"⟩
abbrev cX8_needle : ByteArray := prog_1_method_6_code
def yX8_needle : MethodName := ⟨RX8, "needle", "(II)I"⟩
abbrev cX8_as : ByteArray := prog_1_method_7_code
def yX8_as : MethodName := ⟨RX8, "as", "(II)I"⟩
abbrev cX8_points : ByteArray := prog_1_method_8_code
def yX8_points : MethodName := ⟨RX8, "points", "(II)I"⟩
abbrev cX8_swing : ByteArray := prog_1_method_9_code
def yX8_swing : MethodName := ⟨RX8, "swing", "(II)I"⟩
abbrev cX8_island : ByteArray := prog_1_method_10_code
def yX8_island : MethodName := ⟨RX8, "island", "(I)I"⟩
abbrev cX8_raise : ByteArray := prog_1_method_11_code
def yX8_raise : MethodName := ⟨RX8, "raise", "(IZ)I"⟩
abbrev cX8_step : ByteArray := prog_1_method_12_code
def yX8_step : MethodName := ⟨RX8, "step", "(I)I"⟩
abbrev cX8_follow : ByteArray := prog_1_method_13_code
def yX8_follow : MethodName := ⟨RX8, "follow", "(I)I"⟩
abbrev cX8_homing : ByteArray := prog_1_method_14_code
def yX8_homing : MethodName := ⟨RX8, "homing", "()I"⟩
abbrev cX8_see : ByteArray := prog_1_method_15_code
def yX8_see : MethodName := ⟨RX8, "see", "(III)I"⟩
abbrev cX8_forget : ByteArray := prog_1_method_16_code
def yX8_forget : MethodName := ⟨RX8, "forget", "()I"⟩
abbrev cX8_storms : ByteArray := prog_1_method_17_code
def yX8_storms : MethodName := ⟨RX8, "storms", "(III)I"⟩
abbrev cX8_image : ByteArray := prog_1_method_18_code
def yX8_image : MethodName := ⟨RX8, "image", "()I"⟩
abbrev cX8_restore : ByteArray := prog_1_method_19_code
def yX8_restore : MethodName := ⟨RX8, "restore", "()I"⟩
abbrev cX8_count : ByteArray := prog_1_method_20_code
def yX8_count : MethodName := ⟨RX8, "count", "(I)I"⟩
abbrev cX8_digest : ByteArray := prog_1_method_21_code
def yX8_digest : MethodName := ⟨RX8, "digest", "()J"⟩
abbrev cX8_with : ByteArray := prog_1_method_22_code
def yX8_with : MethodName := ⟨RX8, "with", "(JJ)J"⟩
abbrev cX8_withNeedle : ByteArray := prog_1_method_23_code
def yX8_withNeedle : MethodName := ⟨RX8, "withNeedle", "(JI)J"⟩
abbrev cX8_withSea : ByteArray := prog_1_method_24_code
def yX8_withSea : MethodName := ⟨RX8, "withSea", "(J)J"⟩
abbrev cX8_hasSea : ByteArray := prog_1_method_25_code
def yX8_hasSea : MethodName := ⟨RX8, "hasSea", "()Z"⟩
abbrev cX8_isNeedle : ByteArray := prog_1_method_26_code
def yX8_isNeedle : MethodName := ⟨RX8, "isNeedle", "(I)Z"⟩
abbrev cX8_isPlace : ByteArray := prog_1_method_27_code
def yX8_isPlace : MethodName := ⟨RX8, "isPlace", "(I)Z"⟩
abbrev cX8_isDirection : ByteArray := prog_1_method_28_code
def yX8_isDirection : MethodName := ⟨RX8, "isDirection", "(I)Z"⟩
abbrev cX8_pointing : ByteArray := prog_1_method_29_code
def yX8_pointing : MethodName := ⟨RX8, "pointing", "(II)I"⟩
abbrev cX8_pointingHome : ByteArray := prog_1_method_30_code
def yX8_pointingHome : MethodName := ⟨RX8, "pointingHome", "(LHomeNeedles$Needle;II)I"⟩
abbrev cX8_nearer : ByteArray := prog_1_method_31_code
def yX8_nearer : MethodName := ⟨RX8, "nearer", "(II)I"⟩
abbrev cX8_needlesDownAt : ByteArray := prog_1_method_32_code
def yX8_needlesDownAt : MethodName := ⟨RX8, "needlesDownAt", "(I)I"⟩
abbrev cX8_trailOf : ByteArray := prog_1_method_33_code
def yX8_trailOf : MethodName := ⟨RX8, "trailOf", "(I)LHomeNeedles$Trail;"⟩
abbrev cX8_homingBits : ByteArray := prog_1_method_34_code
def yX8_homingBits : MethodName := ⟨RX8, "homingBits", "()I"⟩
abbrev cX8_fewestSteps : ByteArray := prog_1_method_35_code
def yX8_fewestSteps : MethodName := ⟨RX8, "fewestSteps", "(I)I"⟩
abbrev cX8_possibleHomes : ByteArray := prog_1_method_36_code
def yX8_possibleHomes : MethodName := ⟨RX8, "possibleHomes", "(I)J"⟩
abbrev cX8_canBeHome : ByteArray := prog_1_method_37_code
def yX8_canBeHome : MethodName := ⟨RX8, "canBeHome", "(II)Z"⟩
abbrev cX8_leastPlace : ByteArray := prog_1_method_38_code
def yX8_leastPlace : MethodName := ⟨RX8, "leastPlace", "(J)I"⟩
abbrev cX8_bestLook : ByteArray := prog_1_method_39_code
def yX8_bestLook : MethodName := ⟨RX8, "bestLook", "(IJ)I"⟩
abbrev cX8_leftAtWorst : ByteArray := prog_1_method_40_code
def yX8_leftAtWorst : MethodName := ⟨RX8, "leftAtWorst", "(LHomeNeedles$Needle;JI)I"⟩
abbrev cX8_seedBehind : ByteArray := prog_1_method_41_code
def yX8_seedBehind : MethodName := ⟨RX8, "seedBehind", "(I)I"⟩
abbrev cX8_newNeedle : ByteArray := prog_1_method_42_code
def yX8_newNeedle : MethodName := ⟨RX8, "newNeedle", "(I)LHomeNeedles$Needle;"⟩
abbrev cX8_isOfKind : ByteArray := prog_1_method_43_code
def yX8_isOfKind : MethodName := ⟨RX8, "isOfKind", "(LHomeNeedles$Needle;I)Z"⟩
def RX9 : String := "HomeNeedlesModel"
def TX9 : u_T := fun k => match k with
  | 0 => ("HomeNeedlesModel", "page", "[I", true)
  | 1 => ("HomeNeedlesModel", "pageMany", "I", false)
  | 2 => ("HomeNeedlesModel", "endAt", "I", false)
  | 3 => ("HomeNeedlesModel", "needles", "I", false)
  | 4 => ("HomeNeedlesModel", "place", "I", false)
  | 5 => ("HomeNeedlesModel", "stepsNow", "I", false)
  | 6 => ("HomeNeedlesModel", "ledOn", "I", false)
  | 7 => ("HomeNeedlesModel", "seasRead", "I", false)
  | 8 => ("HomeNeedlesModel", "rows", "[I", true)
  | 9 => ("HomeNeedlesModel", "islands", "[I", true)
  | 10 => ("HomeNeedlesModel", "followEnd", "I", false)
  | 11 => ("HomeNeedlesModel", "followSteps", "I", false)
  | 12 => ("HomeNeedlesModel", "far", "[I", true)
  | 13 => ("HomeNeedlesModel", "seenMany", "I", false)
  | 14 => ("HomeNeedlesModel", "sights", "[I", true)
  | 15 => ("HomeNeedlesModel", "parts", "[I", true)
  | 16 => ("HomeNeedlesModel", "seedNow", "I", false)
  | 17 => ("HomeNeedlesModel", "keptSea", "I", false)
  | 18 => ("HomeNeedlesModel", "keptPlace", "I", false)
  | 19 => ("HomeNeedlesModel", "keptSteps", "I", false)
  | 20 => ("HomeNeedlesModel", "keptLed", "I", false)
  | 21 => ("HomeNeedlesModel", "keptSeen", "I", false)
  | 22 => ("HomeNeedlesModel", "keptRows", "[I", true)
  | 23 => ("HomeNeedlesModel", "keptIslands", "[I", true)
  | 24 => ("HomeNeedlesModel", "keptSights", "[I", true)
  | _ => ("HomeNeedlesModel", "hash", "J", false)
def tyX9 : Nat → FieldType := fun k => match k with
  | 0 => .array .int
  | 1 => .int
  | 2 => .int
  | 3 => .int
  | 4 => .int
  | 5 => .int
  | 6 => .int
  | 7 => .int
  | 8 => .array .int
  | 9 => .array .int
  | 10 => .int
  | 11 => .int
  | 12 => .array .int
  | 13 => .int
  | 14 => .array .int
  | 15 => .array .int
  | 16 => .int
  | 17 => .int
  | 18 => .int
  | 19 => .int
  | 20 => .int
  | 21 => .int
  | 22 => .array .int
  | 23 => .array .int
  | 24 => .array .int
  | _ => .long
theorem nmX9 : ∀ a, a < 26 → ∀ b, b < 26 → a ≠ b → (TX9 a).2.1 ≠ (TX9 b).2.1 := by decide +kernel
theorem tyX9_ok : ∀ k, k < 26 → parseFieldDescriptor (TX9 k).2.2.1 = some (tyX9 k) := by decide +kernel
abbrev cX9_init : ByteArray := prog_11_method_1_code
def yX9_init : MethodName := ⟨RX9, "<init>", "()V"⟩
abbrev cX9_in : ByteArray := prog_11_method_2_code
def yX9_in : MethodName := ⟨RX9, "in", "(JJJ)Z"⟩
abbrev cX9_copy : ByteArray := prog_11_method_3_code
def yX9_copy : MethodName := ⟨RX9, "copy", "([I[I)V"⟩
abbrev cX9_letter : ByteArray := prog_11_method_4_code
def yX9_letter : MethodName := ⟨RX9, "letter", "(I)I"⟩
abbrev cX9_blank : ByteArray := prog_11_method_5_code
def yX9_blank : MethodName := ⟨RX9, "blank", "()I"⟩
abbrev cX9_kindBy : ByteArray := prog_11_method_6_code
def yX9_kindBy : MethodName := ⟨RX9, "kindBy", "(I)I"⟩
abbrev cX9_isDigit : ByteArray := prog_11_method_7_code
def yX9_isDigit : MethodName := ⟨RX9, "isDigit", "(I)Z"⟩
abbrev cX9_isGood : ByteArray := prog_11_method_8_code
def yX9_isGood : MethodName := ⟨RX9, "isGood", "(I)Z"⟩
abbrev cX9_faultOf : ByteArray := prog_11_method_9_code
def yX9_faultOf : MethodName := ⟨RX9, "faultOf", "()I"⟩
abbrev cX9_fault : ByteArray := prog_11_method_10_code
def yX9_fault : MethodName := ⟨RX9, "fault", "()I"⟩
abbrev cX9_placeAt : ByteArray := prog_11_method_11_code
def yX9_placeAt : MethodName := ⟨RX9, "placeAt", "(I)I"⟩
abbrev cX9_sea : ByteArray := prog_11_method_12_code
def yX9_sea : MethodName := ⟨RX9, "sea", "()I"⟩
abbrev cX9_lacks : ByteArray := prog_11_method_13_code
def yX9_lacks : MethodName := ⟨RX9, "lacks", "()Z"⟩
abbrev cX9_isNeedle : ByteArray := prog_11_method_14_code
def yX9_isNeedle : MethodName := ⟨RX9, "isNeedle", "(I)Z"⟩
abbrev cX9_isPlace : ByteArray := prog_11_method_15_code
def yX9_isPlace : MethodName := ⟨RX9, "isPlace", "(I)Z"⟩
abbrev cX9_signOf : ByteArray := prog_11_method_16_code
def yX9_signOf : MethodName := ⟨RX9, "signOf", "(I)I"⟩
abbrev cX9_directionBy : ByteArray := prog_11_method_17_code
def yX9_directionBy : MethodName := ⟨RX9, "directionBy", "(II)I"⟩
abbrev cX9_pointsBy : ByteArray := prog_11_method_18_code
def yX9_pointsBy : MethodName := ⟨RX9, "pointsBy", "(III)I"⟩
abbrev cX9_pointsOf : ByteArray := prog_11_method_19_code
def yX9_pointsOf : MethodName := ⟨RX9, "pointsOf", "(II)I"⟩
abbrev cX9_stepped : ByteArray := prog_11_method_20_code
def yX9_stepped : MethodName := ⟨RX9, "stepped", "(II)I"⟩
abbrev cX9_layFollow : ByteArray := prog_11_method_21_code
def yX9_layFollow : MethodName := ⟨RX9, "layFollow", "(I)V"⟩
abbrev cX9_followOf : ByteArray := prog_11_method_22_code
def yX9_followOf : MethodName := ⟨RX9, "followOf", "(II)I"⟩
abbrev cX9_fewOf : ByteArray := prog_11_method_23_code
def yX9_fewOf : MethodName := ⟨RX9, "fewOf", "(I)I"⟩
abbrev cX9_tell : ByteArray := prog_11_method_24_code
def yX9_tell : MethodName := ⟨RX9, "tell", "(II)I"⟩
abbrev cX9_needle : ByteArray := prog_11_method_25_code
def yX9_needle : MethodName := ⟨RX9, "needle", "(II)I"⟩
abbrev cX9_as : ByteArray := prog_11_method_26_code
def yX9_as : MethodName := ⟨RX9, "as", "(II)I"⟩
abbrev cX9_points : ByteArray := prog_11_method_27_code
def yX9_points : MethodName := ⟨RX9, "points", "(II)I"⟩
abbrev cX9_swing : ByteArray := prog_11_method_28_code
def yX9_swing : MethodName := ⟨RX9, "swing", "(II)I"⟩
abbrev cX9_island : ByteArray := prog_11_method_29_code
def yX9_island : MethodName := ⟨RX9, "island", "(I)I"⟩
abbrev cX9_raise : ByteArray := prog_11_method_30_code
def yX9_raise : MethodName := ⟨RX9, "raise", "(IZ)I"⟩
abbrev cX9_go : ByteArray := prog_11_method_31_code
def yX9_go : MethodName := ⟨RX9, "go", "(I)I"⟩
abbrev cX9_step : ByteArray := prog_11_method_32_code
def yX9_step : MethodName := ⟨RX9, "step", "(I)I"⟩
abbrev cX9_follow : ByteArray := prog_11_method_33_code
def yX9_follow : MethodName := ⟨RX9, "follow", "(I)I"⟩
abbrev cX9_homingOf : ByteArray := prog_11_method_34_code
def yX9_homingOf : MethodName := ⟨RX9, "homingOf", "()I"⟩
abbrev cX9_homing : ByteArray := prog_11_method_35_code
def yX9_homing : MethodName := ⟨RX9, "homing", "()I"⟩
abbrev cX9_see : ByteArray := prog_11_method_36_code
def yX9_see : MethodName := ⟨RX9, "see", "(III)I"⟩
abbrev cX9_forget : ByteArray := prog_11_method_37_code
def yX9_forget : MethodName := ⟨RX9, "forget", "()I"⟩
abbrev cX9_isHome : ByteArray := prog_11_method_38_code
def yX9_isHome : MethodName := ⟨RX9, "isHome", "(II)Z"⟩
abbrev cX9_homesOf : ByteArray := prog_11_method_39_code
def yX9_homesOf : MethodName := ⟨RX9, "homesOf", "(II)I"⟩
abbrev cX9_lookOf : ByteArray := prog_11_method_40_code
def yX9_lookOf : MethodName := ⟨RX9, "lookOf", "(I)I"⟩
abbrev cX9_draw : ByteArray := prog_11_method_41_code
def yX9_draw : MethodName := ⟨RX9, "draw", "(I)I"⟩
abbrev cX9_downsAt : ByteArray := prog_11_method_42_code
def yX9_downsAt : MethodName := ⟨RX9, "downsAt", "(I)I"⟩
abbrev cX9_storms : ByteArray := prog_11_method_43_code
def yX9_storms : MethodName := ⟨RX9, "storms", "(III)I"⟩
abbrev cX9_image : ByteArray := prog_11_method_44_code
def yX9_image : MethodName := ⟨RX9, "image", "()I"⟩
abbrev cX9_restore : ByteArray := prog_11_method_45_code
def yX9_restore : MethodName := ⟨RX9, "restore", "()I"⟩
abbrev cX9_islandsAll : ByteArray := prog_11_method_46_code
def yX9_islandsAll : MethodName := ⟨RX9, "islandsAll", "()I"⟩
abbrev cX9_countOf : ByteArray := prog_11_method_47_code
def yX9_countOf : MethodName := ⟨RX9, "countOf", "(I)I"⟩
abbrev cX9_count : ByteArray := prog_11_method_48_code
def yX9_count : MethodName := ⟨RX9, "count", "(I)I"⟩
abbrev cX9_say : ByteArray := prog_11_method_49_code
def yX9_say : MethodName := ⟨RX9, "say", "(J)V"⟩
abbrev cX9_digest : ByteArray := prog_11_method_50_code
def yX9_digest : MethodName := ⟨RX9, "digest", "()J"⟩
def RJx145de : String := "java/io/Serializable"
def TJx145de : u_T := fun k => match k with
  | _ => ("", "", "", false)
def tyJx145de : Nat → FieldType := fun k => match k with
  | _ => .int
theorem nmJx145de : ∀ a, a < 0 → ∀ b, b < 0 → a ≠ b → (TJx145de a).2.1 ≠ (TJx145de b).2.1 := by decide +kernel
theorem tyJx145de_ok : ∀ k, k < 0 → parseFieldDescriptor (TJx145de k).2.2.1 = some (tyJx145de k) := by decide +kernel
def RJx9f9b0 : String := "java/lang/CharSequence"
def TJx9f9b0 : u_T := fun k => match k with
  | _ => ("", "", "", false)
def tyJx9f9b0 : Nat → FieldType := fun k => match k with
  | _ => .int
theorem nmJx9f9b0 : ∀ a, a < 0 → ∀ b, b < 0 → a ≠ b → (TJx9f9b0 a).2.1 ≠ (TJx9f9b0 b).2.1 := by decide +kernel
theorem tyJx9f9b0_ok : ∀ k, k < 0 → parseFieldDescriptor (TJx9f9b0 k).2.2.1 = some (tyJx9f9b0 k) := by decide +kernel
def RJ11 : String := "java/lang/Character"
def TJ11 : u_T := fun k => match k with
  | _ => ("", "", "", false)
def tyJ11 : Nat → FieldType := fun k => match k with
  | _ => .int
theorem nmJ11 : ∀ a, a < 0 → ∀ b, b < 0 → a ≠ b → (TJ11 a).2.1 ≠ (TJ11 b).2.1 := by decide +kernel
theorem tyJ11_ok : ∀ k, k < 0 → parseFieldDescriptor (TJ11 k).2.2.1 = some (tyJ11 k) := by decide +kernel
abbrev cJ11_isValidCodePoint_9a6ad : ByteArray := prog_12_method_11_code
def yJ11_isValidCodePoint_9a6ad : MethodName := ⟨RJ11, "isValidCodePoint", "(I)Z"⟩
abbrev cJ11_highSurrogate_5068e : ByteArray := prog_12_method_28_code
def yJ11_highSurrogate_5068e : MethodName := ⟨RJ11, "highSurrogate", "(I)C"⟩
abbrev cJ11_lowSurrogate_5068e : ByteArray := prog_12_method_29_code
def yJ11_lowSurrogate_5068e : MethodName := ⟨RJ11, "lowSurrogate", "(I)C"⟩
def RJxb160c : String := "java/lang/Comparable"
def TJxb160c : u_T := fun k => match k with
  | _ => ("", "", "", false)
def tyJxb160c : Nat → FieldType := fun k => match k with
  | _ => .int
theorem nmJxb160c : ∀ a, a < 0 → ∀ b, b < 0 → a ≠ b → (TJxb160c a).2.1 ≠ (TJxb160c b).2.1 := by decide +kernel
theorem tyJxb160c_ok : ∀ k, k < 0 → parseFieldDescriptor (TJxb160c k).2.2.1 = some (tyJxb160c k) := by decide +kernel
def RJ13 : String := "java/lang/Long"
def TJ13 : u_T := fun k => match k with
  | _ => ("", "", "", false)
def tyJ13 : Nat → FieldType := fun k => match k with
  | _ => .int
theorem nmJ13 : ∀ a, a < 0 → ∀ b, b < 0 → a ≠ b → (TJ13 a).2.1 ≠ (TJ13 b).2.1 := by decide +kernel
theorem tyJ13_ok : ∀ k, k < 0 → parseFieldDescriptor (TJ13 k).2.2.1 = some (tyJ13 k) := by decide +kernel
abbrev cJ13_bitCount_95d88 : ByteArray := prog_13_method_50_code
def yJ13_bitCount_95d88 : MethodName := ⟨RJ13, "bitCount", "(J)I"⟩
def RJ9 : String := "java/lang/Math"
def TJ9 : u_T := fun k => match k with
  | _ => ("", "", "", false)
def tyJ9 : Nat → FieldType := fun k => match k with
  | _ => .int
theorem nmJ9 : ∀ a, a < 0 → ∀ b, b < 0 → a ≠ b → (TJ9 a).2.1 ≠ (TJ9 b).2.1 := by decide +kernel
theorem tyJ9_ok : ∀ k, k < 0 → parseFieldDescriptor (TJ9 k).2.2.1 = some (tyJ9 k) := by decide +kernel
abbrev cJ9_max_7cf53 : ByteArray := prog_14_method_65_code
def yJ9_max_7cf53 : MethodName := ⟨RJ9, "max", "(II)I"⟩
abbrev cJ9_min_7cf53 : ByteArray := prog_14_method_69_code
def yJ9_min_7cf53 : MethodName := ⟨RJ9, "min", "(II)I"⟩
def RJ0 : String := "java/lang/String"
def TJ0 : u_T := fun k => match k with
  | _ => ("", "", "", false)
def tyJ0 : Nat → FieldType := fun k => match k with
  | _ => .int
theorem nmJ0 : ∀ a, a < 0 → ∀ b, b < 0 → a ≠ b → (TJ0 a).2.1 ≠ (TJ0 b).2.1 := by decide +kernel
theorem tyJ0_ok : ∀ k, k < 0 → parseFieldDescriptor (TJ0 k).2.2.1 = some (tyJ0 k) := by decide +kernel
abbrev cJ0_length_8abf5 : ByteArray := prog_15_method_54_code
def yJ0_length_8abf5 : MethodName := ⟨RJ0, "length", "()I"⟩
abbrev cJ0_indexOf_0f7a4 : ByteArray := prog_15_method_79_code
def yJ0_indexOf_0f7a4 : MethodName := ⟨RJ0, "indexOf", "(I)I"⟩
abbrev cJ0_indexOf_7cf53 : ByteArray := prog_15_method_80_code
def yJ0_indexOf_7cf53 : MethodName := ⟨RJ0, "indexOf", "(II)I"⟩
abbrev cJ0_coder_7d493 : ByteArray := prog_15_method_152_code
def yJ0_coder_7d493 : MethodName := ⟨RJ0, "coder", "()B"⟩
abbrev cJ0_isLatin1_aae02 : ByteArray := prog_15_method_154_code
def yJ0_isLatin1_aae02 : MethodName := ⟨RJ0, "isLatin1", "()Z"⟩
abbrev cJ0_checkBoundsBeginEnd_23922 : ByteArray := prog_15_method_158_code
def yJ0_checkBoundsBeginEnd_23922 : MethodName := ⟨RJ0, "checkBoundsBeginEnd", "(III)V"⟩
def RJ1 : String := "java/lang/StringLatin1"
def TJ1 : u_T := fun k => match k with
  | _ => ("", "", "", false)
def tyJ1 : Nat → FieldType := fun k => match k with
  | _ => .int
theorem nmJ1 : ∀ a, a < 0 → ∀ b, b < 0 → a ≠ b → (TJ1 a).2.1 ≠ (TJ1 b).2.1 := by decide +kernel
theorem tyJ1_ok : ∀ k, k < 0 → parseFieldDescriptor (TJ1 k).2.2.1 = some (tyJ1 k) := by decide +kernel
abbrev cJ1_canEncode_9a6ad : ByteArray := prog_16_method_4_code
def yJ1_canEncode_9a6ad : MethodName := ⟨RJ1, "canEncode", "(I)Z"⟩
abbrev cJ1_indexOf_4cfef : ByteArray := prog_16_method_22_code
def yJ1_indexOf_4cfef : MethodName := ⟨RJ1, "indexOf", "([BIII)I"⟩
abbrev cJ1_indexOfChar_4cfef : ByteArray := prog_16_method_23_code
def yJ1_indexOfChar_4cfef : MethodName := ⟨RJ1, "indexOfChar", "([BIII)I"⟩
def RJ2 : String := "java/lang/StringUTF16"
def TJ2 : u_T := fun k => match k with
  | _ => ("", "", "", false)
def tyJ2 : Nat → FieldType := fun k => match k with
  | _ => .int
theorem nmJ2 : ∀ a, a < 0 → ∀ b, b < 0 → a ≠ b → (TJ2 a).2.1 ≠ (TJ2 b).2.1 := by decide +kernel
theorem tyJ2_ok : ∀ k, k < 0 → parseFieldDescriptor (TJ2 k).2.2.1 = some (tyJ2 k) := by decide +kernel
abbrev cJ2_getChar_3b067 : ByteArray := prog_17_method_5_code
def yJ2_getChar_3b067 : MethodName := ⟨RJ2, "getChar", "([BI)C"⟩
abbrev cJ2_length_9d52b : ByteArray := prog_17_method_6_code
def yJ2_length_9d52b : MethodName := ⟨RJ2, "length", "([B)I"⟩
abbrev cJ2_indexOf_4cfef : ByteArray := prog_17_method_40_code
def yJ2_indexOf_4cfef : MethodName := ⟨RJ2, "indexOf", "([BIII)I"⟩
abbrev cJ2_indexOfChar_4cfef : ByteArray := prog_17_method_47_code
def yJ2_indexOfChar_4cfef : MethodName := ⟨RJ2, "indexOfChar", "([BIII)I"⟩
abbrev cJ2_indexOfCharUnsafe_4cfef : ByteArray := prog_17_method_48_code
def yJ2_indexOfCharUnsafe_4cfef : MethodName := ⟨RJ2, "indexOfCharUnsafe", "([BIII)I"⟩
abbrev cJ2_indexOfSupplementary_4cfef : ByteArray := prog_17_method_49_code
def yJ2_indexOfSupplementary_4cfef : MethodName := ⟨RJ2, "indexOfSupplementary", "([BIII)I"⟩
abbrev cJ2_checkBoundsBeginEnd_d044e : ByteArray := prog_17_method_93_code
def yJ2_checkBoundsBeginEnd_d044e : MethodName := ⟨RJ2, "checkBoundsBeginEnd", "(II[B)V"⟩
def RJ10 : String := "java/lang/System"
def TJ10 : u_T := fun k => match k with
  | _ => ("", "", "", false)
def tyJ10 : Nat → FieldType := fun k => match k with
  | _ => .int
theorem nmJ10 : ∀ a, a < 0 → ∀ b, b < 0 → a ≠ b → (TJ10 a).2.1 ≠ (TJ10 b).2.1 := by decide +kernel
theorem tyJ10_ok : ∀ k, k < 0 → parseFieldDescriptor (TJ10 k).2.2.1 = some (tyJ10 k) := by decide +kernel
def RJxfd54e : String := "java/lang/constant/Constable"
def TJxfd54e : u_T := fun k => match k with
  | _ => ("", "", "", false)
def tyJxfd54e : Nat → FieldType := fun k => match k with
  | _ => .int
theorem nmJxfd54e : ∀ a, a < 0 → ∀ b, b < 0 → a ≠ b → (TJxfd54e a).2.1 ≠ (TJxfd54e b).2.1 := by decide +kernel
theorem tyJxfd54e_ok : ∀ k, k < 0 → parseFieldDescriptor (TJxfd54e k).2.2.1 = some (tyJxfd54e k) := by decide +kernel
def RJx3cf43 : String := "java/lang/constant/ConstantDesc"
def TJx3cf43 : u_T := fun k => match k with
  | _ => ("", "", "", false)
def tyJx3cf43 : Nat → FieldType := fun k => match k with
  | _ => .int
theorem nmJx3cf43 : ∀ a, a < 0 → ∀ b, b < 0 → a ≠ b → (TJx3cf43 a).2.1 ≠ (TJx3cf43 b).2.1 := by decide +kernel
theorem tyJx3cf43_ok : ∀ k, k < 0 → parseFieldDescriptor (TJx3cf43 k).2.2.1 = some (tyJx3cf43 k) := by decide +kernel
def RJ7 : String := "java/util/Arrays"
def TJ7 : u_T := fun k => match k with
  | _ => ("", "", "", false)
def tyJ7 : Nat → FieldType := fun k => match k with
  | _ => .int
theorem nmJ7 : ∀ a, a < 0 → ∀ b, b < 0 → a ≠ b → (TJ7 a).2.1 ≠ (TJ7 b).2.1 := by decide +kernel
theorem tyJ7_ok : ∀ k, k < 0 → parseFieldDescriptor (TJ7 k).2.2.1 = some (tyJ7 k) := by decide +kernel
abbrev cJ7_fill_53178 : ByteArray := prog_19_method_103_code
def yJ7_fill_53178 : MethodName := ⟨RJ7, "fill", "([II)V"⟩
def RJ3 : String := "jdk/internal/util/Preconditions"
def TJ3 : u_T := fun k => match k with
  | _ => ("", "", "", false)
def tyJ3 : Nat → FieldType := fun k => match k with
  | _ => .int
theorem nmJ3 : ∀ a, a < 0 → ∀ b, b < 0 → a ≠ b → (TJ3 a).2.1 ≠ (TJ3 b).2.1 := by decide +kernel
theorem tyJ3_ok : ∀ k, k < 0 → parseFieldDescriptor (TJ3 k).2.2.1 = some (tyJ3 k) := by decide +kernel
abbrev cJ3_checkFromToIndex_8c36e : ByteArray := prog_20_method_12_code
def yJ3_checkFromToIndex_8c36e : MethodName := ⟨RJ3, "checkFromToIndex", "(IIILjava/util/function/BiFunction;)I"⟩
def RL : String := "HomeNeedlesLaw"
abbrev cL_law : ByteArray := code
def yL_law : MethodName := ⟨RL, "law", "([I)Z"⟩
abbrev vwCl : List vw_C := [(RX0, TX0, 0), (RX1, TX1, 0), (RX2, TX2, 2), (RX3, TX3, 0), (RX4, TX4, 0), (RX5, TX5, 2), (RX6, TX6, 0), (RX7, TX7, 9), (RX8, TX8, 11), (RX9, TX9, 26)]
end
section
theorem dX0_init_0 : decode cX0_init 0 = .ok (.aload_n 0, 1) := by decide +kernel
theorem dX0_init_1 : decode cX0_init 1 = .ok (.invokespecial 3, 3) := by decide +kernel
theorem dX0_init_4 : decode cX0_init 4 = .ok (.return_, 1) := by decide +kernel
theorem dX0_kind_0 : decode cX0_kind 0 = .ok (.iconst 2, 1) := by decide +kernel
theorem dX0_kind_1 : decode cX0_kind 1 = .ok (.ireturn, 1) := by decide +kernel
theorem dX0_turn_0 : decode cX0_turn 0 = .ok (.iload_n 2, 1) := by decide +kernel
theorem dX0_turn_1 : decode cX0_turn 1 = .ok (.ifCond .eq 9, 3) := by decide +kernel
theorem dX0_turn_4 : decode cX0_turn 4 = .ok (.iconst 4, 1) := by decide +kernel
theorem dX0_turn_5 : decode cX0_turn 5 = .ok (.iload_n 2, 1) := by decide +kernel
theorem dX0_turn_6 : decode cX0_turn 6 = .ok (.iadd, 1) := by decide +kernel
theorem dX0_turn_7 : decode cX0_turn 7 = .ok (.goto 8, 3) := by decide +kernel
theorem dX0_turn_10 : decode cX0_turn 10 = .ok (.iconst 4, 1) := by decide +kernel
theorem dX0_turn_11 : decode cX0_turn 11 = .ok (.iconst 3, 1) := by decide +kernel
theorem dX0_turn_12 : decode cX0_turn 12 = .ok (.iload_n 1, 1) := by decide +kernel
theorem dX0_turn_13 : decode cX0_turn 13 = .ok (.imul, 1) := by decide +kernel
theorem dX0_turn_14 : decode cX0_turn 14 = .ok (.iadd, 1) := by decide +kernel
theorem dX0_turn_15 : decode cX0_turn 15 = .ok (.ireturn, 1) := by decide +kernel
theorem dX1_init_0 : decode cX1_init 0 = .ok (.aload_n 0, 1) := by decide +kernel
theorem dX1_init_1 : decode cX1_init 1 = .ok (.invokespecial 3, 3) := by decide +kernel
theorem dX1_init_4 : decode cX1_init 4 = .ok (.return_, 1) := by decide +kernel
theorem dX1_kind_0 : decode cX1_kind 0 = .ok (.iconst 0, 1) := by decide +kernel
theorem dX1_kind_1 : decode cX1_kind 1 = .ok (.ireturn, 1) := by decide +kernel
theorem dX1_turn_0 : decode cX1_turn 0 = .ok (.iconst 4, 1) := by decide +kernel
theorem dX1_turn_1 : decode cX1_turn 1 = .ok (.iconst 3, 1) := by decide +kernel
theorem dX1_turn_2 : decode cX1_turn 2 = .ok (.iload_n 1, 1) := by decide +kernel
theorem dX1_turn_3 : decode cX1_turn 3 = .ok (.imul, 1) := by decide +kernel
theorem dX1_turn_4 : decode cX1_turn 4 = .ok (.iadd, 1) := by decide +kernel
theorem dX1_turn_5 : decode cX1_turn 5 = .ok (.iload_n 2, 1) := by decide +kernel
theorem dX1_turn_6 : decode cX1_turn 6 = .ok (.iadd, 1) := by decide +kernel
theorem dX1_turn_7 : decode cX1_turn 7 = .ok (.ireturn, 1) := by decide +kernel
theorem dX2_init_0 : decode cX2_init 0 = .ok (.aload_n 0, 1) := by decide +kernel
theorem dX2_init_1 : decode cX2_init 1 = .ok (.invokespecial 3, 3) := by decide +kernel
theorem dX2_init_4 : decode cX2_init 4 = .ok (.aload_n 0, 1) := by decide +kernel
theorem dX2_init_5 : decode cX2_init 5 = .ok (.bipush 28, 2) := by decide +kernel
theorem dX2_init_7 : decode cX2_init 7 = .ok (.newarray .char, 2) := by decide +kernel
theorem dX2_init_9 : decode cX2_init 9 = .ok (.putfield 9, 3) := by decide +kernel
theorem dX2_init_12 : decode cX2_init 12 = .ok (.aload_n 0, 1) := by decide +kernel
theorem dX2_init_13 : decode cX2_init 13 = .ok (.iconst 0, 1) := by decide +kernel
theorem dX2_init_14 : decode cX2_init 14 = .ok (.putfield 15, 3) := by decide +kernel
theorem dX2_init_17 : decode cX2_init 17 = .ok (.return_, 1) := by decide +kernel
theorem dX2_write_0 : decode cX2_write 0 = .ok (.aload_n 0, 1) := by decide +kernel
theorem dX2_write_1 : decode cX2_write 1 = .ok (.getfield 15, 3) := by decide +kernel
theorem dX2_write_4 : decode cX2_write 4 = .ok (.bipush 28, 2) := by decide +kernel
theorem dX2_write_6 : decode cX2_write 6 = .ok (.if_icmp .ge 23, 3) := by decide +kernel
theorem dX2_write_9 : decode cX2_write 9 = .ok (.aload_n 0, 1) := by decide +kernel
theorem dX2_write_10 : decode cX2_write 10 = .ok (.getfield 9, 3) := by decide +kernel
theorem dX2_write_13 : decode cX2_write 13 = .ok (.aload_n 0, 1) := by decide +kernel
theorem dX2_write_14 : decode cX2_write 14 = .ok (.getfield 15, 3) := by decide +kernel
theorem dX2_write_17 : decode cX2_write 17 = .ok (.iload_n 1, 1) := by decide +kernel
theorem dX2_write_18 : decode cX2_write 18 = .ok (.castore, 1) := by decide +kernel
theorem dX2_write_19 : decode cX2_write 19 = .ok (.aload_n 0, 1) := by decide +kernel
theorem dX2_write_20 : decode cX2_write 20 = .ok (.dup, 1) := by decide +kernel
theorem dX2_write_21 : decode cX2_write 21 = .ok (.getfield 15, 3) := by decide +kernel
theorem dX2_write_24 : decode cX2_write 24 = .ok (.iconst 1, 1) := by decide +kernel
theorem dX2_write_25 : decode cX2_write 25 = .ok (.iadd, 1) := by decide +kernel
theorem dX2_write_26 : decode cX2_write 26 = .ok (.putfield 15, 3) := by decide +kernel
theorem dX2_write_29 : decode cX2_write 29 = .ok (.return_, 1) := by decide +kernel
theorem dX2_headEnd_0 : decode cX2_headEnd 0 = .ok (.iconst 0, 1) := by decide +kernel
theorem dX2_headEnd_1 : decode cX2_headEnd 1 = .ok (.istore_n 1, 1) := by decide +kernel
theorem dX2_headEnd_2 : decode cX2_headEnd 2 = .ok (.iload_n 1, 1) := by decide +kernel
theorem dX2_headEnd_3 : decode cX2_headEnd 3 = .ok (.aload_n 0, 1) := by decide +kernel
theorem dX2_headEnd_4 : decode cX2_headEnd 4 = .ok (.getfield 15, 3) := by decide +kernel
theorem dX2_headEnd_7 : decode cX2_headEnd 7 = .ok (.if_icmp .ge 22, 3) := by decide +kernel
theorem dX2_headEnd_10 : decode cX2_headEnd 10 = .ok (.aload_n 0, 1) := by decide +kernel
theorem dX2_headEnd_11 : decode cX2_headEnd 11 = .ok (.getfield 9, 3) := by decide +kernel
theorem dX2_headEnd_14 : decode cX2_headEnd 14 = .ok (.iload_n 1, 1) := by decide +kernel
theorem dX2_headEnd_15 : decode cX2_headEnd 15 = .ok (.caload, 1) := by decide +kernel
theorem dX2_headEnd_16 : decode cX2_headEnd 16 = .ok (.bipush 59, 2) := by decide +kernel
theorem dX2_headEnd_18 : decode cX2_headEnd 18 = .ok (.if_icmp .ne 5, 3) := by decide +kernel
theorem dX2_headEnd_21 : decode cX2_headEnd 21 = .ok (.iload_n 1, 1) := by decide +kernel
theorem dX2_headEnd_22 : decode cX2_headEnd 22 = .ok (.ireturn, 1) := by decide +kernel
theorem dX2_headEnd_23 : decode cX2_headEnd 23 = .ok (.iinc 1 1, 3) := by decide +kernel
theorem dX2_headEnd_26 : decode cX2_headEnd 26 = .ok (.goto (-24), 3) := by decide +kernel
theorem dX2_headEnd_29 : decode cX2_headEnd 29 = .ok (.aload_n 0, 1) := by decide +kernel
theorem dX2_headEnd_30 : decode cX2_headEnd 30 = .ok (.getfield 15, 3) := by decide +kernel
theorem dX2_headEnd_33 : decode cX2_headEnd 33 = .ok (.ireturn, 1) := by decide +kernel
theorem dX2_firstWrong_0 : decode cX2_firstWrong 0 = .ok (.aload_n 0, 1) := by decide +kernel
theorem dX2_firstWrong_1 : decode cX2_firstWrong 1 = .ok (.invokevirtual 19, 3) := by decide +kernel
theorem dX2_firstWrong_4 : decode cX2_firstWrong 4 = .ok (.istore_n 1, 1) := by decide +kernel
theorem dX2_firstWrong_5 : decode cX2_firstWrong 5 = .ok (.iconst 0, 1) := by decide +kernel
theorem dX2_firstWrong_6 : decode cX2_firstWrong 6 = .ok (.istore_n 2, 1) := by decide +kernel
theorem dX2_firstWrong_7 : decode cX2_firstWrong 7 = .ok (.iload_n 2, 1) := by decide +kernel
theorem dX2_firstWrong_8 : decode cX2_firstWrong 8 = .ok (.aload_n 0, 1) := by decide +kernel
theorem dX2_firstWrong_9 : decode cX2_firstWrong 9 = .ok (.getfield 15, 3) := by decide +kernel
theorem dX2_firstWrong_12 : decode cX2_firstWrong 12 = .ok (.if_icmp .ge 35, 3) := by decide +kernel
theorem dX2_firstWrong_15 : decode cX2_firstWrong 15 = .ok (.iload_n 2, 1) := by decide +kernel
theorem dX2_firstWrong_16 : decode cX2_firstWrong 16 = .ok (.iload_n 1, 1) := by decide +kernel
theorem dX2_firstWrong_17 : decode cX2_firstWrong 17 = .ok (.if_icmp .gt 11, 3) := by decide +kernel
theorem dX2_firstWrong_20 : decode cX2_firstWrong 20 = .ok (.aload_n 0, 1) := by decide +kernel
theorem dX2_firstWrong_21 : decode cX2_firstWrong 21 = .ok (.iload_n 2, 1) := by decide +kernel
theorem dX2_firstWrong_22 : decode cX2_firstWrong 22 = .ok (.invokevirtual 23, 3) := by decide +kernel
theorem dX2_firstWrong_25 : decode cX2_firstWrong 25 = .ok (.goto 9, 3) := by decide +kernel
theorem dX2_firstWrong_28 : decode cX2_firstWrong 28 = .ok (.aload_n 0, 1) := by decide +kernel
theorem dX2_firstWrong_29 : decode cX2_firstWrong 29 = .ok (.iload_n 2, 1) := by decide +kernel
theorem dX2_firstWrong_30 : decode cX2_firstWrong 30 = .ok (.iload_n 1, 1) := by decide +kernel
theorem dX2_firstWrong_31 : decode cX2_firstWrong 31 = .ok (.invokevirtual 27, 3) := by decide +kernel
theorem dX2_firstWrong_34 : decode cX2_firstWrong 34 = .ok (.istore_n 3, 1) := by decide +kernel
theorem dX2_firstWrong_35 : decode cX2_firstWrong 35 = .ok (.iload_n 3, 1) := by decide +kernel
theorem dX2_firstWrong_36 : decode cX2_firstWrong 36 = .ok (.ifCond .ne 5, 3) := by decide +kernel
theorem dX2_firstWrong_39 : decode cX2_firstWrong 39 = .ok (.iload_n 2, 1) := by decide +kernel
theorem dX2_firstWrong_40 : decode cX2_firstWrong 40 = .ok (.ireturn, 1) := by decide +kernel
theorem dX2_firstWrong_41 : decode cX2_firstWrong 41 = .ok (.iinc 2 1, 3) := by decide +kernel
theorem dX2_firstWrong_44 : decode cX2_firstWrong 44 = .ok (.goto (-37), 3) := by decide +kernel
theorem dX2_firstWrong_47 : decode cX2_firstWrong 47 = .ok (.aload_n 0, 1) := by decide +kernel
theorem dX2_firstWrong_48 : decode cX2_firstWrong 48 = .ok (.getfield 15, 3) := by decide +kernel
theorem dX2_firstWrong_51 : decode cX2_firstWrong 51 = .ok (.ireturn, 1) := by decide +kernel
theorem dX2_isWhole_0 : decode cX2_isWhole 0 = .ok (.aload_n 0, 1) := by decide +kernel
theorem dX2_isWhole_1 : decode cX2_isWhole 1 = .ok (.getfield 15, 3) := by decide +kernel
theorem dX2_isWhole_4 : decode cX2_isWhole 4 = .ok (.aload_n 0, 1) := by decide +kernel
theorem dX2_isWhole_5 : decode cX2_isWhole 5 = .ok (.invokevirtual 19, 3) := by decide +kernel
theorem dX2_isWhole_8 : decode cX2_isWhole 8 = .ok (.isub, 1) := by decide +kernel
theorem dX2_isWhole_9 : decode cX2_isWhole 9 = .ok (.iconst 1, 1) := by decide +kernel
theorem dX2_isWhole_10 : decode cX2_isWhole 10 = .ok (.isub, 1) := by decide +kernel
theorem dX2_isWhole_11 : decode cX2_isWhole 11 = .ok (.istore_n 1, 1) := by decide +kernel
theorem dX2_isWhole_12 : decode cX2_isWhole 12 = .ok (.aload_n 0, 1) := by decide +kernel
theorem dX2_isWhole_13 : decode cX2_isWhole 13 = .ok (.invokevirtual 31, 3) := by decide +kernel
theorem dX2_isWhole_16 : decode cX2_isWhole 16 = .ok (.aload_n 0, 1) := by decide +kernel
theorem dX2_isWhole_17 : decode cX2_isWhole 17 = .ok (.getfield 15, 3) := by decide +kernel
theorem dX2_isWhole_20 : decode cX2_isWhole 20 = .ok (.if_icmp .ne 18, 3) := by decide +kernel
theorem dX2_isWhole_23 : decode cX2_isWhole 23 = .ok (.iload_n 1, 1) := by decide +kernel
theorem dX2_isWhole_24 : decode cX2_isWhole 24 = .ok (.iconst 2, 1) := by decide +kernel
theorem dX2_isWhole_25 : decode cX2_isWhole 25 = .ok (.if_icmp .lt 13, 3) := by decide +kernel
theorem dX2_isWhole_28 : decode cX2_isWhole 28 = .ok (.iload_n 1, 1) := by decide +kernel
theorem dX2_isWhole_29 : decode cX2_isWhole 29 = .ok (.iconst 2, 1) := by decide +kernel
theorem dX2_isWhole_30 : decode cX2_isWhole 30 = .ok (.irem, 1) := by decide +kernel
theorem dX2_isWhole_31 : decode cX2_isWhole 31 = .ok (.ifCond .ne 7, 3) := by decide +kernel
theorem dX2_isWhole_34 : decode cX2_isWhole 34 = .ok (.iconst 1, 1) := by decide +kernel
theorem dX2_isWhole_35 : decode cX2_isWhole 35 = .ok (.goto 4, 3) := by decide +kernel
theorem dX2_isWhole_38 : decode cX2_isWhole 38 = .ok (.iconst 0, 1) := by decide +kernel
theorem dX2_isWhole_39 : decode cX2_isWhole 39 = .ok (.ireturn, 1) := by decide +kernel
theorem dX2_fitsHead_0 : decode cX2_fitsHead 0 = .ok (.iload_n 1, 1) := by decide +kernel
theorem dX2_fitsHead_1 : decode cX2_fitsHead 1 = .ok (.iconst 4, 1) := by decide +kernel
theorem dX2_fitsHead_2 : decode cX2_fitsHead 2 = .ok (.irem, 1) := by decide +kernel
theorem dX2_fitsHead_3 : decode cX2_fitsHead 3 = .ok (.lookupswitch 75 #[(0, 25), (3, 40)], 25) := by decide +kernel
theorem dX2_fitsHead_28 : decode cX2_fitsHead 28 = .ok (.aload_n 0, 1) := by decide +kernel
theorem dX2_fitsHead_29 : decode cX2_fitsHead 29 = .ok (.iload_n 1, 1) := by decide +kernel
theorem dX2_fitsHead_30 : decode cX2_fitsHead 30 = .ok (.invokevirtual 34, 3) := by decide +kernel
theorem dX2_fitsHead_33 : decode cX2_fitsHead 33 = .ok (.iconst (-1), 1) := by decide +kernel
theorem dX2_fitsHead_34 : decode cX2_fitsHead 34 = .ok (.if_icmp .eq 7, 3) := by decide +kernel
theorem dX2_fitsHead_37 : decode cX2_fitsHead 37 = .ok (.iconst 1, 1) := by decide +kernel
theorem dX2_fitsHead_38 : decode cX2_fitsHead 38 = .ok (.goto 4, 3) := by decide +kernel
theorem dX2_fitsHead_41 : decode cX2_fitsHead 41 = .ok (.iconst 0, 1) := by decide +kernel
theorem dX2_fitsHead_42 : decode cX2_fitsHead 42 = .ok (.ireturn, 1) := by decide +kernel
theorem dX2_fitsHead_43 : decode cX2_fitsHead 43 = .ok (.aload_n 0, 1) := by decide +kernel
theorem dX2_fitsHead_44 : decode cX2_fitsHead 44 = .ok (.getfield 9, 3) := by decide +kernel
theorem dX2_fitsHead_47 : decode cX2_fitsHead 47 = .ok (.iload_n 1, 1) := by decide +kernel
theorem dX2_fitsHead_48 : decode cX2_fitsHead 48 = .ok (.caload, 1) := by decide +kernel
theorem dX2_fitsHead_49 : decode cX2_fitsHead 49 = .ok (.bipush 59, 2) := by decide +kernel
theorem dX2_fitsHead_51 : decode cX2_fitsHead 51 = .ok (.if_icmp .eq 21, 3) := by decide +kernel
theorem dX2_fitsHead_54 : decode cX2_fitsHead 54 = .ok (.aload_n 0, 1) := by decide +kernel
theorem dX2_fitsHead_55 : decode cX2_fitsHead 55 = .ok (.getfield 9, 3) := by decide +kernel
theorem dX2_fitsHead_58 : decode cX2_fitsHead 58 = .ok (.iload_n 1, 1) := by decide +kernel
theorem dX2_fitsHead_59 : decode cX2_fitsHead 59 = .ok (.caload, 1) := by decide +kernel
theorem dX2_fitsHead_60 : decode cX2_fitsHead 60 = .ok (.bipush 44, 2) := by decide +kernel
theorem dX2_fitsHead_62 : decode cX2_fitsHead 62 = .ok (.if_icmp .ne 14, 3) := by decide +kernel
theorem dX2_fitsHead_65 : decode cX2_fitsHead 65 = .ok (.iload_n 1, 1) := by decide +kernel
theorem dX2_fitsHead_66 : decode cX2_fitsHead 66 = .ok (.iconst 4, 1) := by decide +kernel
theorem dX2_fitsHead_67 : decode cX2_fitsHead 67 = .ok (.idiv, 1) := by decide +kernel
theorem dX2_fitsHead_68 : decode cX2_fitsHead 68 = .ok (.iconst 3, 1) := by decide +kernel
theorem dX2_fitsHead_69 : decode cX2_fitsHead 69 = .ok (.if_icmp .ge 7, 3) := by decide +kernel
theorem dX2_fitsHead_72 : decode cX2_fitsHead 72 = .ok (.iconst 1, 1) := by decide +kernel
theorem dX2_fitsHead_73 : decode cX2_fitsHead 73 = .ok (.goto 4, 3) := by decide +kernel
theorem dX2_fitsHead_76 : decode cX2_fitsHead 76 = .ok (.iconst 0, 1) := by decide +kernel
theorem dX2_fitsHead_77 : decode cX2_fitsHead 77 = .ok (.ireturn, 1) := by decide +kernel
theorem dX2_fitsHead_78 : decode cX2_fitsHead 78 = .ok (.aload_n 0, 1) := by decide +kernel
theorem dX2_fitsHead_79 : decode cX2_fitsHead 79 = .ok (.getfield 9, 3) := by decide +kernel
theorem dX2_fitsHead_82 : decode cX2_fitsHead 82 = .ok (.iload_n 1, 1) := by decide +kernel
theorem dX2_fitsHead_83 : decode cX2_fitsHead 83 = .ok (.caload, 1) := by decide +kernel
theorem dX2_fitsHead_84 : decode cX2_fitsHead 84 = .ok (.invokestatic 38, 3) := by decide +kernel
theorem dX2_fitsHead_87 : decode cX2_fitsHead 87 = .ok (.ireturn, 1) := by decide +kernel
theorem dX2_fitsTail_0 : decode cX2_fitsTail 0 = .ok (.aload_n 0, 1) := by decide +kernel
theorem dX2_fitsTail_1 : decode cX2_fitsTail 1 = .ok (.getfield 9, 3) := by decide +kernel
theorem dX2_fitsTail_4 : decode cX2_fitsTail 4 = .ok (.iload_n 1, 1) := by decide +kernel
theorem dX2_fitsTail_5 : decode cX2_fitsTail 5 = .ok (.caload, 1) := by decide +kernel
theorem dX2_fitsTail_6 : decode cX2_fitsTail 6 = .ok (.invokestatic 38, 3) := by decide +kernel
theorem dX2_fitsTail_9 : decode cX2_fitsTail 9 = .ok (.ifCond .eq 15, 3) := by decide +kernel
theorem dX2_fitsTail_12 : decode cX2_fitsTail 12 = .ok (.iload_n 1, 1) := by decide +kernel
theorem dX2_fitsTail_13 : decode cX2_fitsTail 13 = .ok (.iload_n 2, 1) := by decide +kernel
theorem dX2_fitsTail_14 : decode cX2_fitsTail 14 = .ok (.isub, 1) := by decide +kernel
theorem dX2_fitsTail_15 : decode cX2_fitsTail 15 = .ok (.bipush 10, 2) := by decide +kernel
theorem dX2_fitsTail_17 : decode cX2_fitsTail 17 = .ok (.if_icmp .gt 7, 3) := by decide +kernel
theorem dX2_fitsTail_20 : decode cX2_fitsTail 20 = .ok (.iconst 1, 1) := by decide +kernel
theorem dX2_fitsTail_21 : decode cX2_fitsTail 21 = .ok (.goto 4, 3) := by decide +kernel
theorem dX2_fitsTail_24 : decode cX2_fitsTail 24 = .ok (.iconst 0, 1) := by decide +kernel
theorem dX2_fitsTail_25 : decode cX2_fitsTail 25 = .ok (.ireturn, 1) := by decide +kernel
theorem dX2_isDigit_0 : decode cX2_isDigit 0 = .ok (.iload_n 0, 1) := by decide +kernel
theorem dX2_isDigit_1 : decode cX2_isDigit 1 = .ok (.bipush 48, 2) := by decide +kernel
theorem dX2_isDigit_3 : decode cX2_isDigit 3 = .ok (.if_icmp .lt 13, 3) := by decide +kernel
theorem dX2_isDigit_6 : decode cX2_isDigit 6 = .ok (.iload_n 0, 1) := by decide +kernel
theorem dX2_isDigit_7 : decode cX2_isDigit 7 = .ok (.bipush 54, 2) := by decide +kernel
theorem dX2_isDigit_9 : decode cX2_isDigit 9 = .ok (.if_icmp .ge 7, 3) := by decide +kernel
theorem dX2_isDigit_12 : decode cX2_isDigit 12 = .ok (.iconst 1, 1) := by decide +kernel
theorem dX2_isDigit_13 : decode cX2_isDigit 13 = .ok (.goto 4, 3) := by decide +kernel
theorem dX2_isDigit_16 : decode cX2_isDigit 16 = .ok (.iconst 0, 1) := by decide +kernel
theorem dX2_isDigit_17 : decode cX2_isDigit 17 = .ok (.ireturn, 1) := by decide +kernel
theorem dX2_kindAt_0 : decode cX2_kindAt 0 = .ok (.ldc 42, 2) := by decide +kernel
theorem dX2_kindAt_2 : decode cX2_kindAt 2 = .ok (.aload_n 0, 1) := by decide +kernel
theorem dX2_kindAt_3 : decode cX2_kindAt 3 = .ok (.getfield 9, 3) := by decide +kernel
theorem dX2_kindAt_6 : decode cX2_kindAt 6 = .ok (.iload_n 1, 1) := by decide +kernel
theorem dX2_kindAt_7 : decode cX2_kindAt 7 = .ok (.caload, 1) := by decide +kernel
theorem dX2_kindAt_8 : decode cX2_kindAt 8 = .ok (.invokevirtual 44, 3) := by decide +kernel
theorem dX2_kindAt_11 : decode cX2_kindAt 11 = .ok (.ireturn, 1) := by decide +kernel
theorem dX2_placeAt_0 : decode cX2_placeAt 0 = .ok (.bipush 6, 2) := by decide +kernel
theorem dX2_placeAt_2 : decode cX2_placeAt 2 = .ok (.aload_n 0, 1) := by decide +kernel
theorem dX2_placeAt_3 : decode cX2_placeAt 3 = .ok (.getfield 9, 3) := by decide +kernel
theorem dX2_placeAt_6 : decode cX2_placeAt 6 = .ok (.iload_n 1, 1) := by decide +kernel
theorem dX2_placeAt_7 : decode cX2_placeAt 7 = .ok (.caload, 1) := by decide +kernel
theorem dX2_placeAt_8 : decode cX2_placeAt 8 = .ok (.bipush 48, 2) := by decide +kernel
theorem dX2_placeAt_10 : decode cX2_placeAt 10 = .ok (.isub, 1) := by decide +kernel
theorem dX2_placeAt_11 : decode cX2_placeAt 11 = .ok (.imul, 1) := by decide +kernel
theorem dX2_placeAt_12 : decode cX2_placeAt 12 = .ok (.aload_n 0, 1) := by decide +kernel
theorem dX2_placeAt_13 : decode cX2_placeAt 13 = .ok (.getfield 9, 3) := by decide +kernel
theorem dX2_placeAt_16 : decode cX2_placeAt 16 = .ok (.iload_n 1, 1) := by decide +kernel
theorem dX2_placeAt_17 : decode cX2_placeAt 17 = .ok (.iconst 1, 1) := by decide +kernel
theorem dX2_placeAt_18 : decode cX2_placeAt 18 = .ok (.iadd, 1) := by decide +kernel
theorem dX2_placeAt_19 : decode cX2_placeAt 19 = .ok (.caload, 1) := by decide +kernel
theorem dX2_placeAt_20 : decode cX2_placeAt 20 = .ok (.iadd, 1) := by decide +kernel
theorem dX2_placeAt_21 : decode cX2_placeAt 21 = .ok (.bipush 48, 2) := by decide +kernel
theorem dX2_placeAt_23 : decode cX2_placeAt 23 = .ok (.isub, 1) := by decide +kernel
theorem dX2_placeAt_24 : decode cX2_placeAt 24 = .ok (.ireturn, 1) := by decide +kernel
theorem dX3_init_0 : decode cX3_init 0 = .ok (.aload_n 0, 1) := by decide +kernel
theorem dX3_init_1 : decode cX3_init 1 = .ok (.invokespecial 3, 3) := by decide +kernel
theorem dX3_init_4 : decode cX3_init 4 = .ok (.return_, 1) := by decide +kernel
theorem dX3_kind_0 : decode cX3_kind 0 = .ok (.iconst 1, 1) := by decide +kernel
theorem dX3_kind_1 : decode cX3_kind 1 = .ok (.ireturn, 1) := by decide +kernel
theorem dX3_turn_0 : decode cX3_turn 0 = .ok (.iconst 4, 1) := by decide +kernel
theorem dX3_turn_1 : decode cX3_turn 1 = .ok (.iconst 3, 1) := by decide +kernel
theorem dX3_turn_2 : decode cX3_turn 2 = .ok (.iload_n 1, 1) := by decide +kernel
theorem dX3_turn_3 : decode cX3_turn 3 = .ok (.imul, 1) := by decide +kernel
theorem dX3_turn_4 : decode cX3_turn 4 = .ok (.isub, 1) := by decide +kernel
theorem dX3_turn_5 : decode cX3_turn 5 = .ok (.iload_n 2, 1) := by decide +kernel
theorem dX3_turn_6 : decode cX3_turn 6 = .ok (.isub, 1) := by decide +kernel
theorem dX3_turn_7 : decode cX3_turn 7 = .ok (.ireturn, 1) := by decide +kernel
theorem dX4_init_0 : decode cX4_init 0 = .ok (.aload_n 0, 1) := by decide +kernel
theorem dX4_init_1 : decode cX4_init 1 = .ok (.invokespecial 3, 3) := by decide +kernel
theorem dX4_init_4 : decode cX4_init 4 = .ok (.return_, 1) := by decide +kernel
theorem dX4_kind_0 : decode cX4_kind 0 = .ok (.iconst 4, 1) := by decide +kernel
theorem dX4_kind_1 : decode cX4_kind 1 = .ok (.ireturn, 1) := by decide +kernel
theorem dX4_turn_0 : decode cX4_turn 0 = .ok (.iload_n 1, 1) := by decide +kernel
theorem dX4_turn_1 : decode cX4_turn 1 = .ok (.ifCond .eq 11, 3) := by decide +kernel
theorem dX4_turn_4 : decode cX4_turn 4 = .ok (.iconst 4, 1) := by decide +kernel
theorem dX4_turn_5 : decode cX4_turn 5 = .ok (.iconst 3, 1) := by decide +kernel
theorem dX4_turn_6 : decode cX4_turn 6 = .ok (.iload_n 1, 1) := by decide +kernel
theorem dX4_turn_7 : decode cX4_turn 7 = .ok (.imul, 1) := by decide +kernel
theorem dX4_turn_8 : decode cX4_turn 8 = .ok (.iadd, 1) := by decide +kernel
theorem dX4_turn_9 : decode cX4_turn 9 = .ok (.goto 6, 3) := by decide +kernel
theorem dX4_turn_12 : decode cX4_turn 12 = .ok (.iconst 4, 1) := by decide +kernel
theorem dX4_turn_13 : decode cX4_turn 13 = .ok (.iload_n 2, 1) := by decide +kernel
theorem dX4_turn_14 : decode cX4_turn 14 = .ok (.iadd, 1) := by decide +kernel
theorem dX4_turn_15 : decode cX4_turn 15 = .ok (.ireturn, 1) := by decide +kernel
theorem dX5_init_0 : decode cX5_init 0 = .ok (.aload_n 0, 1) := by decide +kernel
theorem dX5_init_1 : decode cX5_init 1 = .ok (.invokespecial 1, 3) := by decide +kernel
theorem dX5_init_4 : decode cX5_init 4 = .ok (.aload_n 0, 1) := by decide +kernel
theorem dX5_init_5 : decode cX5_init 5 = .ok (.iconst 0, 1) := by decide +kernel
theorem dX5_init_6 : decode cX5_init 6 = .ok (.putfield 7, 3) := by decide +kernel
theorem dX5_init_9 : decode cX5_init 9 = .ok (.aload_n 0, 1) := by decide +kernel
theorem dX5_init_10 : decode cX5_init 10 = .ok (.iconst 0, 1) := by decide +kernel
theorem dX5_init_11 : decode cX5_init 11 = .ok (.putfield 13, 3) := by decide +kernel
theorem dX5_init_14 : decode cX5_init 14 = .ok (.return_, 1) := by decide +kernel
theorem dX6_init_0 : decode cX6_init 0 = .ok (.aload_n 0, 1) := by decide +kernel
theorem dX6_init_1 : decode cX6_init 1 = .ok (.invokespecial 3, 3) := by decide +kernel
theorem dX6_init_4 : decode cX6_init 4 = .ok (.return_, 1) := by decide +kernel
theorem dX6_kind_0 : decode cX6_kind 0 = .ok (.iconst 3, 1) := by decide +kernel
theorem dX6_kind_1 : decode cX6_kind 1 = .ok (.ireturn, 1) := by decide +kernel
theorem dX6_turn_0 : decode cX6_turn 0 = .ok (.iconst 4, 1) := by decide +kernel
theorem dX6_turn_1 : decode cX6_turn 1 = .ok (.iconst 3, 1) := by decide +kernel
theorem dX6_turn_2 : decode cX6_turn 2 = .ok (.iload_n 2, 1) := by decide +kernel
theorem dX6_turn_3 : decode cX6_turn 3 = .ok (.imul, 1) := by decide +kernel
theorem dX6_turn_4 : decode cX6_turn 4 = .ok (.iadd, 1) := by decide +kernel
theorem dX6_turn_5 : decode cX6_turn 5 = .ok (.iload_n 1, 1) := by decide +kernel
theorem dX6_turn_6 : decode cX6_turn 6 = .ok (.isub, 1) := by decide +kernel
theorem dX6_turn_7 : decode cX6_turn 7 = .ok (.ireturn, 1) := by decide +kernel
theorem dX7_init_0 : decode cX7_init 0 = .ok (.aload_n 0, 1) := by decide +kernel
theorem dX7_init_1 : decode cX7_init 1 = .ok (.invokespecial 3, 3) := by decide +kernel
theorem dX7_init_4 : decode cX7_init 4 = .ok (.aload_n 0, 1) := by decide +kernel
theorem dX7_init_5 : decode cX7_init 5 = .ok (.iconst 4, 1) := by decide +kernel
theorem dX7_init_6 : decode cX7_init 6 = .ok (.newarray .int, 2) := by decide +kernel
theorem dX7_init_8 : decode cX7_init 8 = .ok (.putfield 9, 3) := by decide +kernel
theorem dX7_init_11 : decode cX7_init 11 = .ok (.aload_n 0, 1) := by decide +kernel
theorem dX7_init_12 : decode cX7_init 12 = .ok (.bipush 6, 2) := by decide +kernel
theorem dX7_init_14 : decode cX7_init 14 = .ok (.newarray .int, 2) := by decide +kernel
theorem dX7_init_16 : decode cX7_init 16 = .ok (.putfield 15, 3) := by decide +kernel
theorem dX7_init_19 : decode cX7_init 19 = .ok (.aload_n 0, 1) := by decide +kernel
theorem dX7_init_20 : decode cX7_init 20 = .ok (.bipush 6, 2) := by decide +kernel
theorem dX7_init_22 : decode cX7_init 22 = .ok (.newarray .int, 2) := by decide +kernel
theorem dX7_init_24 : decode cX7_init 24 = .ok (.putfield 18, 3) := by decide +kernel
theorem dX7_init_27 : decode cX7_init 27 = .ok (.aload_n 0, 1) := by decide +kernel
theorem dX7_init_28 : decode cX7_init 28 = .ok (.bipush 6, 2) := by decide +kernel
theorem dX7_init_30 : decode cX7_init 30 = .ok (.newarray .int, 2) := by decide +kernel
theorem dX7_init_32 : decode cX7_init 32 = .ok (.putfield 21, 3) := by decide +kernel
theorem dX7_init_35 : decode cX7_init 35 = .ok (.aload_n 0, 1) := by decide +kernel
theorem dX7_init_36 : decode cX7_init 36 = .ok (.lconst 0, 1) := by decide +kernel
theorem dX7_init_37 : decode cX7_init 37 = .ok (.putfield 24, 3) := by decide +kernel
theorem dX7_init_40 : decode cX7_init 40 = .ok (.aload_n 0, 1) := by decide +kernel
theorem dX7_init_41 : decode cX7_init 41 = .ok (.iconst 0, 1) := by decide +kernel
theorem dX7_init_42 : decode cX7_init 42 = .ok (.putfield 28, 3) := by decide +kernel
theorem dX7_init_45 : decode cX7_init 45 = .ok (.aload_n 0, 1) := by decide +kernel
theorem dX7_init_46 : decode cX7_init 46 = .ok (.iconst 0, 1) := by decide +kernel
theorem dX7_init_47 : decode cX7_init 47 = .ok (.putfield 32, 3) := by decide +kernel
theorem dX7_init_50 : decode cX7_init 50 = .ok (.aload_n 0, 1) := by decide +kernel
theorem dX7_init_51 : decode cX7_init 51 = .ok (.iconst 0, 1) := by decide +kernel
theorem dX7_init_52 : decode cX7_init 52 = .ok (.putfield 35, 3) := by decide +kernel
theorem dX7_init_55 : decode cX7_init 55 = .ok (.aload_n 0, 1) := by decide +kernel
theorem dX7_init_56 : decode cX7_init 56 = .ok (.iconst 0, 1) := by decide +kernel
theorem dX7_init_57 : decode cX7_init 57 = .ok (.putfield 38, 3) := by decide +kernel
theorem dX7_init_60 : decode cX7_init 60 = .ok (.return_, 1) := by decide +kernel
theorem dX7_clear_0 : decode cX7_clear 0 = .ok (.aload_n 0, 1) := by decide +kernel
theorem dX7_clear_1 : decode cX7_clear 1 = .ok (.lconst 0, 1) := by decide +kernel
theorem dX7_clear_2 : decode cX7_clear 2 = .ok (.putfield 24, 3) := by decide +kernel
theorem dX7_clear_5 : decode cX7_clear 5 = .ok (.aload_n 0, 1) := by decide +kernel
theorem dX7_clear_6 : decode cX7_clear 6 = .ok (.iconst 0, 1) := by decide +kernel
theorem dX7_clear_7 : decode cX7_clear 7 = .ok (.putfield 28, 3) := by decide +kernel
theorem dX7_clear_10 : decode cX7_clear 10 = .ok (.aload_n 0, 1) := by decide +kernel
theorem dX7_clear_11 : decode cX7_clear 11 = .ok (.iconst 0, 1) := by decide +kernel
theorem dX7_clear_12 : decode cX7_clear 12 = .ok (.putfield 32, 3) := by decide +kernel
theorem dX7_clear_15 : decode cX7_clear 15 = .ok (.aload_n 0, 1) := by decide +kernel
theorem dX7_clear_16 : decode cX7_clear 16 = .ok (.iconst 0, 1) := by decide +kernel
theorem dX7_clear_17 : decode cX7_clear 17 = .ok (.putfield 35, 3) := by decide +kernel
theorem dX7_clear_20 : decode cX7_clear 20 = .ok (.aload_n 0, 1) := by decide +kernel
theorem dX7_clear_21 : decode cX7_clear 21 = .ok (.iconst 0, 1) := by decide +kernel
theorem dX7_clear_22 : decode cX7_clear 22 = .ok (.putfield 38, 3) := by decide +kernel
theorem dX7_clear_25 : decode cX7_clear 25 = .ok (.return_, 1) := by decide +kernel
theorem dX7_copyFrom_0 : decode cX7_copyFrom 0 = .ok (.aload_n 1, 1) := by decide +kernel
theorem dX7_copyFrom_1 : decode cX7_copyFrom 1 = .ok (.getfield 9, 3) := by decide +kernel
theorem dX7_copyFrom_4 : decode cX7_copyFrom 4 = .ok (.iconst 0, 1) := by decide +kernel
theorem dX7_copyFrom_5 : decode cX7_copyFrom 5 = .ok (.aload_n 0, 1) := by decide +kernel
theorem dX7_copyFrom_6 : decode cX7_copyFrom 6 = .ok (.getfield 9, 3) := by decide +kernel
theorem dX7_copyFrom_9 : decode cX7_copyFrom 9 = .ok (.iconst 0, 1) := by decide +kernel
theorem dX7_copyFrom_10 : decode cX7_copyFrom 10 = .ok (.iconst 4, 1) := by decide +kernel
theorem dX7_copyFrom_11 : decode cX7_copyFrom 11 = .ok (.invokestatic 41, 3) := by decide +kernel
theorem dX7_copyFrom_14 : decode cX7_copyFrom 14 = .ok (.aload_n 1, 1) := by decide +kernel
theorem dX7_copyFrom_15 : decode cX7_copyFrom 15 = .ok (.getfield 15, 3) := by decide +kernel
theorem dX7_copyFrom_18 : decode cX7_copyFrom 18 = .ok (.iconst 0, 1) := by decide +kernel
theorem dX7_copyFrom_19 : decode cX7_copyFrom 19 = .ok (.aload_n 0, 1) := by decide +kernel
theorem dX7_copyFrom_20 : decode cX7_copyFrom 20 = .ok (.getfield 15, 3) := by decide +kernel
theorem dX7_copyFrom_23 : decode cX7_copyFrom 23 = .ok (.iconst 0, 1) := by decide +kernel
theorem dX7_copyFrom_24 : decode cX7_copyFrom 24 = .ok (.bipush 6, 2) := by decide +kernel
theorem dX7_copyFrom_26 : decode cX7_copyFrom 26 = .ok (.invokestatic 41, 3) := by decide +kernel
theorem dX7_copyFrom_29 : decode cX7_copyFrom 29 = .ok (.aload_n 1, 1) := by decide +kernel
theorem dX7_copyFrom_30 : decode cX7_copyFrom 30 = .ok (.getfield 18, 3) := by decide +kernel
theorem dX7_copyFrom_33 : decode cX7_copyFrom 33 = .ok (.iconst 0, 1) := by decide +kernel
theorem dX7_copyFrom_34 : decode cX7_copyFrom 34 = .ok (.aload_n 0, 1) := by decide +kernel
theorem dX7_copyFrom_35 : decode cX7_copyFrom 35 = .ok (.getfield 18, 3) := by decide +kernel
theorem dX7_copyFrom_38 : decode cX7_copyFrom 38 = .ok (.iconst 0, 1) := by decide +kernel
theorem dX7_copyFrom_39 : decode cX7_copyFrom 39 = .ok (.bipush 6, 2) := by decide +kernel
theorem dX7_copyFrom_41 : decode cX7_copyFrom 41 = .ok (.invokestatic 41, 3) := by decide +kernel
theorem dX7_copyFrom_44 : decode cX7_copyFrom 44 = .ok (.aload_n 1, 1) := by decide +kernel
theorem dX7_copyFrom_45 : decode cX7_copyFrom 45 = .ok (.getfield 21, 3) := by decide +kernel
theorem dX7_copyFrom_48 : decode cX7_copyFrom 48 = .ok (.iconst 0, 1) := by decide +kernel
theorem dX7_copyFrom_49 : decode cX7_copyFrom 49 = .ok (.aload_n 0, 1) := by decide +kernel
theorem dX7_copyFrom_50 : decode cX7_copyFrom 50 = .ok (.getfield 21, 3) := by decide +kernel
theorem dX7_copyFrom_53 : decode cX7_copyFrom 53 = .ok (.iconst 0, 1) := by decide +kernel
theorem dX7_copyFrom_54 : decode cX7_copyFrom 54 = .ok (.bipush 6, 2) := by decide +kernel
theorem dX7_copyFrom_56 : decode cX7_copyFrom 56 = .ok (.invokestatic 41, 3) := by decide +kernel
theorem dX7_copyFrom_59 : decode cX7_copyFrom 59 = .ok (.aload_n 0, 1) := by decide +kernel
theorem dX7_copyFrom_60 : decode cX7_copyFrom 60 = .ok (.aload_n 1, 1) := by decide +kernel
theorem dX7_copyFrom_61 : decode cX7_copyFrom 61 = .ok (.getfield 24, 3) := by decide +kernel
theorem dX7_copyFrom_64 : decode cX7_copyFrom 64 = .ok (.putfield 24, 3) := by decide +kernel
theorem dX7_copyFrom_67 : decode cX7_copyFrom 67 = .ok (.aload_n 0, 1) := by decide +kernel
theorem dX7_copyFrom_68 : decode cX7_copyFrom 68 = .ok (.aload_n 1, 1) := by decide +kernel
theorem dX7_copyFrom_69 : decode cX7_copyFrom 69 = .ok (.getfield 28, 3) := by decide +kernel
theorem dX7_copyFrom_72 : decode cX7_copyFrom 72 = .ok (.putfield 28, 3) := by decide +kernel
theorem dX7_copyFrom_75 : decode cX7_copyFrom 75 = .ok (.aload_n 0, 1) := by decide +kernel
theorem dX7_copyFrom_76 : decode cX7_copyFrom 76 = .ok (.aload_n 1, 1) := by decide +kernel
theorem dX7_copyFrom_77 : decode cX7_copyFrom 77 = .ok (.getfield 32, 3) := by decide +kernel
theorem dX7_copyFrom_80 : decode cX7_copyFrom 80 = .ok (.putfield 32, 3) := by decide +kernel
theorem dX7_copyFrom_83 : decode cX7_copyFrom 83 = .ok (.aload_n 0, 1) := by decide +kernel
theorem dX7_copyFrom_84 : decode cX7_copyFrom 84 = .ok (.aload_n 1, 1) := by decide +kernel
theorem dX7_copyFrom_85 : decode cX7_copyFrom 85 = .ok (.getfield 35, 3) := by decide +kernel
theorem dX7_copyFrom_88 : decode cX7_copyFrom 88 = .ok (.putfield 35, 3) := by decide +kernel
theorem dX7_copyFrom_91 : decode cX7_copyFrom 91 = .ok (.aload_n 0, 1) := by decide +kernel
theorem dX7_copyFrom_92 : decode cX7_copyFrom 92 = .ok (.aload_n 1, 1) := by decide +kernel
theorem dX7_copyFrom_93 : decode cX7_copyFrom 93 = .ok (.getfield 38, 3) := by decide +kernel
theorem dX7_copyFrom_96 : decode cX7_copyFrom 96 = .ok (.putfield 38, 3) := by decide +kernel
theorem dX7_copyFrom_99 : decode cX7_copyFrom 99 = .ok (.return_, 1) := by decide +kernel
theorem dX7_isIsland_0 : decode cX7_isIsland 0 = .ok (.aload_n 0, 1) := by decide +kernel
theorem dX7_isIsland_1 : decode cX7_isIsland 1 = .ok (.getfield 24, 3) := by decide +kernel
theorem dX7_isIsland_4 : decode cX7_isIsland 4 = .ok (.iload_n 1, 1) := by decide +kernel
theorem dX7_isIsland_5 : decode cX7_isIsland 5 = .ok (.lshr, 1) := by decide +kernel
theorem dX7_isIsland_6 : decode cX7_isIsland 6 = .ok (.lconst 1, 1) := by decide +kernel
theorem dX7_isIsland_7 : decode cX7_isIsland 7 = .ok (.land, 1) := by decide +kernel
theorem dX7_isIsland_8 : decode cX7_isIsland 8 = .ok (.lconst 1, 1) := by decide +kernel
theorem dX7_isIsland_9 : decode cX7_isIsland 9 = .ok (.lcmp, 1) := by decide +kernel
theorem dX7_isIsland_10 : decode cX7_isIsland 10 = .ok (.ifCond .ne 7, 3) := by decide +kernel
theorem dX7_isIsland_13 : decode cX7_isIsland 13 = .ok (.iconst 1, 1) := by decide +kernel
theorem dX7_isIsland_14 : decode cX7_isIsland 14 = .ok (.goto 4, 3) := by decide +kernel
theorem dX7_isIsland_17 : decode cX7_isIsland 17 = .ok (.iconst 0, 1) := by decide +kernel
theorem dX7_isIsland_18 : decode cX7_isIsland 18 = .ok (.ireturn, 1) := by decide +kernel
theorem dX7_setIsland_0 : decode cX7_setIsland 0 = .ok (.lconst 1, 1) := by decide +kernel
theorem dX7_setIsland_1 : decode cX7_setIsland 1 = .ok (.iload_n 1, 1) := by decide +kernel
theorem dX7_setIsland_2 : decode cX7_setIsland 2 = .ok (.lshl, 1) := by decide +kernel
theorem dX7_setIsland_3 : decode cX7_setIsland 3 = .ok (.lstore_n 3, 1) := by decide +kernel
theorem dX7_setIsland_4 : decode cX7_setIsland 4 = .ok (.aload_n 0, 1) := by decide +kernel
theorem dX7_setIsland_5 : decode cX7_setIsland 5 = .ok (.iload_n 2, 1) := by decide +kernel
theorem dX7_setIsland_6 : decode cX7_setIsland 6 = .ok (.ifCond .eq 12, 3) := by decide +kernel
theorem dX7_setIsland_9 : decode cX7_setIsland 9 = .ok (.aload_n 0, 1) := by decide +kernel
theorem dX7_setIsland_10 : decode cX7_setIsland 10 = .ok (.getfield 24, 3) := by decide +kernel
theorem dX7_setIsland_13 : decode cX7_setIsland 13 = .ok (.lload_n 3, 1) := by decide +kernel
theorem dX7_setIsland_14 : decode cX7_setIsland 14 = .ok (.lor, 1) := by decide +kernel
theorem dX7_setIsland_15 : decode cX7_setIsland 15 = .ok (.goto 13, 3) := by decide +kernel
theorem dX7_setIsland_18 : decode cX7_setIsland 18 = .ok (.aload_n 0, 1) := by decide +kernel
theorem dX7_setIsland_19 : decode cX7_setIsland 19 = .ok (.getfield 24, 3) := by decide +kernel
theorem dX7_setIsland_22 : decode cX7_setIsland 22 = .ok (.lload_n 3, 1) := by decide +kernel
theorem dX7_setIsland_23 : decode cX7_setIsland 23 = .ok (.ldc2_w 47, 3) := by decide +kernel
theorem dX7_setIsland_26 : decode cX7_setIsland 26 = .ok (.lxor, 1) := by decide +kernel
theorem dX7_setIsland_27 : decode cX7_setIsland 27 = .ok (.land, 1) := by decide +kernel
theorem dX7_setIsland_28 : decode cX7_setIsland 28 = .ok (.putfield 24, 3) := by decide +kernel
theorem dX7_setIsland_31 : decode cX7_setIsland 31 = .ok (.return_, 1) := by decide +kernel
theorem dX7_placeBehind_0 : decode cX7_placeBehind 0 = .ok (.iload_n 1, 1) := by decide +kernel
theorem dX7_placeBehind_1 : decode cX7_placeBehind 1 = .ok (.bipush 6, 2) := by decide +kernel
theorem dX7_placeBehind_3 : decode cX7_placeBehind 3 = .ok (.idiv, 1) := by decide +kernel
theorem dX7_placeBehind_4 : decode cX7_placeBehind 4 = .ok (.iload_n 2, 1) := by decide +kernel
theorem dX7_placeBehind_5 : decode cX7_placeBehind 5 = .ok (.iconst 3, 1) := by decide +kernel
theorem dX7_placeBehind_6 : decode cX7_placeBehind 6 = .ok (.idiv, 1) := by decide +kernel
theorem dX7_placeBehind_7 : decode cX7_placeBehind 7 = .ok (.iadd, 1) := by decide +kernel
theorem dX7_placeBehind_8 : decode cX7_placeBehind 8 = .ok (.iconst 1, 1) := by decide +kernel
theorem dX7_placeBehind_9 : decode cX7_placeBehind 9 = .ok (.isub, 1) := by decide +kernel
theorem dX7_placeBehind_10 : decode cX7_placeBehind 10 = .ok (.istore_n 3, 1) := by decide +kernel
theorem dX7_placeBehind_11 : decode cX7_placeBehind 11 = .ok (.iload_n 1, 1) := by decide +kernel
theorem dX7_placeBehind_12 : decode cX7_placeBehind 12 = .ok (.bipush 6, 2) := by decide +kernel
theorem dX7_placeBehind_14 : decode cX7_placeBehind 14 = .ok (.irem, 1) := by decide +kernel
theorem dX7_placeBehind_15 : decode cX7_placeBehind 15 = .ok (.iload_n 2, 1) := by decide +kernel
theorem dX7_placeBehind_16 : decode cX7_placeBehind 16 = .ok (.iconst 3, 1) := by decide +kernel
theorem dX7_placeBehind_17 : decode cX7_placeBehind 17 = .ok (.irem, 1) := by decide +kernel
theorem dX7_placeBehind_18 : decode cX7_placeBehind 18 = .ok (.iadd, 1) := by decide +kernel
theorem dX7_placeBehind_19 : decode cX7_placeBehind 19 = .ok (.iconst 1, 1) := by decide +kernel
theorem dX7_placeBehind_20 : decode cX7_placeBehind 20 = .ok (.isub, 1) := by decide +kernel
theorem dX7_placeBehind_21 : decode cX7_placeBehind 21 = .ok (.istore 4, 2) := by decide +kernel
theorem dX7_placeBehind_23 : decode cX7_placeBehind 23 = .ok (.iload_n 3, 1) := by decide +kernel
theorem dX7_placeBehind_24 : decode cX7_placeBehind 24 = .ok (.ifCond .lt 21, 3) := by decide +kernel
theorem dX7_placeBehind_27 : decode cX7_placeBehind 27 = .ok (.iload_n 3, 1) := by decide +kernel
theorem dX7_placeBehind_28 : decode cX7_placeBehind 28 = .ok (.bipush 6, 2) := by decide +kernel
theorem dX7_placeBehind_30 : decode cX7_placeBehind 30 = .ok (.if_icmp .ge 15, 3) := by decide +kernel
theorem dX7_placeBehind_33 : decode cX7_placeBehind 33 = .ok (.iload 4, 2) := by decide +kernel
theorem dX7_placeBehind_35 : decode cX7_placeBehind 35 = .ok (.ifCond .lt 10, 3) := by decide +kernel
theorem dX7_placeBehind_38 : decode cX7_placeBehind 38 = .ok (.iload 4, 2) := by decide +kernel
theorem dX7_placeBehind_40 : decode cX7_placeBehind 40 = .ok (.bipush 6, 2) := by decide +kernel
theorem dX7_placeBehind_42 : decode cX7_placeBehind 42 = .ok (.if_icmp .lt 5, 3) := by decide +kernel
theorem dX7_placeBehind_45 : decode cX7_placeBehind 45 = .ok (.iload_n 1, 1) := by decide +kernel
theorem dX7_placeBehind_46 : decode cX7_placeBehind 46 = .ok (.ireturn, 1) := by decide +kernel
theorem dX7_placeBehind_47 : decode cX7_placeBehind 47 = .ok (.bipush 6, 2) := by decide +kernel
theorem dX7_placeBehind_49 : decode cX7_placeBehind 49 = .ok (.iload_n 3, 1) := by decide +kernel
theorem dX7_placeBehind_50 : decode cX7_placeBehind 50 = .ok (.imul, 1) := by decide +kernel
theorem dX7_placeBehind_51 : decode cX7_placeBehind 51 = .ok (.iload 4, 2) := by decide +kernel
theorem dX7_placeBehind_53 : decode cX7_placeBehind 53 = .ok (.iadd, 1) := by decide +kernel
theorem dX7_placeBehind_54 : decode cX7_placeBehind 54 = .ok (.istore 5, 2) := by decide +kernel
theorem dX7_placeBehind_56 : decode cX7_placeBehind 56 = .ok (.aload_n 0, 1) := by decide +kernel
theorem dX7_placeBehind_57 : decode cX7_placeBehind 57 = .ok (.iload 5, 2) := by decide +kernel
theorem dX7_placeBehind_59 : decode cX7_placeBehind 59 = .ok (.invokevirtual 49, 3) := by decide +kernel
theorem dX7_placeBehind_62 : decode cX7_placeBehind 62 = .ok (.ifCond .eq 7, 3) := by decide +kernel
theorem dX7_placeBehind_65 : decode cX7_placeBehind 65 = .ok (.iload_n 1, 1) := by decide +kernel
theorem dX7_placeBehind_66 : decode cX7_placeBehind 66 = .ok (.goto 5, 3) := by decide +kernel
theorem dX7_placeBehind_69 : decode cX7_placeBehind 69 = .ok (.iload 5, 2) := by decide +kernel
theorem dX7_placeBehind_71 : decode cX7_placeBehind 71 = .ok (.ireturn, 1) := by decide +kernel
theorem dX7_move_0 : decode cX7_move 0 = .ok (.aload_n 0, 1) := by decide +kernel
theorem dX7_move_1 : decode cX7_move 1 = .ok (.aload_n 0, 1) := by decide +kernel
theorem dX7_move_2 : decode cX7_move 2 = .ok (.getfield 28, 3) := by decide +kernel
theorem dX7_move_5 : decode cX7_move 5 = .ok (.iload_n 1, 1) := by decide +kernel
theorem dX7_move_6 : decode cX7_move 6 = .ok (.invokevirtual 53, 3) := by decide +kernel
theorem dX7_move_9 : decode cX7_move 9 = .ok (.istore_n 2, 1) := by decide +kernel
theorem dX7_move_10 : decode cX7_move 10 = .ok (.aload_n 0, 1) := by decide +kernel
theorem dX7_move_11 : decode cX7_move 11 = .ok (.dup, 1) := by decide +kernel
theorem dX7_move_12 : decode cX7_move 12 = .ok (.getfield 32, 3) := by decide +kernel
theorem dX7_move_15 : decode cX7_move 15 = .ok (.iconst 1, 1) := by decide +kernel
theorem dX7_move_16 : decode cX7_move 16 = .ok (.iadd, 1) := by decide +kernel
theorem dX7_move_17 : decode cX7_move 17 = .ok (.putfield 32, 3) := by decide +kernel
theorem dX7_move_20 : decode cX7_move 20 = .ok (.iload_n 2, 1) := by decide +kernel
theorem dX7_move_21 : decode cX7_move 21 = .ok (.aload_n 0, 1) := by decide +kernel
theorem dX7_move_22 : decode cX7_move 22 = .ok (.getfield 28, 3) := by decide +kernel
theorem dX7_move_25 : decode cX7_move 25 = .ok (.if_icmp .eq 13, 3) := by decide +kernel
theorem dX7_move_28 : decode cX7_move 28 = .ok (.aload_n 0, 1) := by decide +kernel
theorem dX7_move_29 : decode cX7_move 29 = .ok (.dup, 1) := by decide +kernel
theorem dX7_move_30 : decode cX7_move 30 = .ok (.getfield 35, 3) := by decide +kernel
theorem dX7_move_33 : decode cX7_move 33 = .ok (.iconst 1, 1) := by decide +kernel
theorem dX7_move_34 : decode cX7_move 34 = .ok (.iadd, 1) := by decide +kernel
theorem dX7_move_35 : decode cX7_move 35 = .ok (.putfield 35, 3) := by decide +kernel
theorem dX7_move_38 : decode cX7_move 38 = .ok (.aload_n 0, 1) := by decide +kernel
theorem dX7_move_39 : decode cX7_move 39 = .ok (.iload_n 2, 1) := by decide +kernel
theorem dX7_move_40 : decode cX7_move 40 = .ok (.putfield 28, 3) := by decide +kernel
theorem dX7_move_43 : decode cX7_move 43 = .ok (.aload_n 0, 1) := by decide +kernel
theorem dX7_move_44 : decode cX7_move 44 = .ok (.getfield 28, 3) := by decide +kernel
theorem dX7_move_47 : decode cX7_move 47 = .ok (.ireturn, 1) := by decide +kernel
theorem dX7_addSeen_0 : decode cX7_addSeen 0 = .ok (.aload_n 0, 1) := by decide +kernel
theorem dX7_addSeen_1 : decode cX7_addSeen 1 = .ok (.getfield 38, 3) := by decide +kernel
theorem dX7_addSeen_4 : decode cX7_addSeen 4 = .ok (.bipush 6, 2) := by decide +kernel
theorem dX7_addSeen_6 : decode cX7_addSeen 6 = .ok (.if_icmp .ge 43, 3) := by decide +kernel
theorem dX7_addSeen_9 : decode cX7_addSeen 9 = .ok (.aload_n 0, 1) := by decide +kernel
theorem dX7_addSeen_10 : decode cX7_addSeen 10 = .ok (.getfield 15, 3) := by decide +kernel
theorem dX7_addSeen_13 : decode cX7_addSeen 13 = .ok (.aload_n 0, 1) := by decide +kernel
theorem dX7_addSeen_14 : decode cX7_addSeen 14 = .ok (.getfield 38, 3) := by decide +kernel
theorem dX7_addSeen_17 : decode cX7_addSeen 17 = .ok (.iload_n 1, 1) := by decide +kernel
theorem dX7_addSeen_18 : decode cX7_addSeen 18 = .ok (.iastore, 1) := by decide +kernel
theorem dX7_addSeen_19 : decode cX7_addSeen 19 = .ok (.aload_n 0, 1) := by decide +kernel
theorem dX7_addSeen_20 : decode cX7_addSeen 20 = .ok (.getfield 18, 3) := by decide +kernel
theorem dX7_addSeen_23 : decode cX7_addSeen 23 = .ok (.aload_n 0, 1) := by decide +kernel
theorem dX7_addSeen_24 : decode cX7_addSeen 24 = .ok (.getfield 38, 3) := by decide +kernel
theorem dX7_addSeen_27 : decode cX7_addSeen 27 = .ok (.iload_n 2, 1) := by decide +kernel
theorem dX7_addSeen_28 : decode cX7_addSeen 28 = .ok (.iastore, 1) := by decide +kernel
theorem dX7_addSeen_29 : decode cX7_addSeen 29 = .ok (.aload_n 0, 1) := by decide +kernel
theorem dX7_addSeen_30 : decode cX7_addSeen 30 = .ok (.getfield 21, 3) := by decide +kernel
theorem dX7_addSeen_33 : decode cX7_addSeen 33 = .ok (.aload_n 0, 1) := by decide +kernel
theorem dX7_addSeen_34 : decode cX7_addSeen 34 = .ok (.getfield 38, 3) := by decide +kernel
theorem dX7_addSeen_37 : decode cX7_addSeen 37 = .ok (.iload_n 3, 1) := by decide +kernel
theorem dX7_addSeen_38 : decode cX7_addSeen 38 = .ok (.iastore, 1) := by decide +kernel
theorem dX7_addSeen_39 : decode cX7_addSeen 39 = .ok (.aload_n 0, 1) := by decide +kernel
theorem dX7_addSeen_40 : decode cX7_addSeen 40 = .ok (.dup, 1) := by decide +kernel
theorem dX7_addSeen_41 : decode cX7_addSeen 41 = .ok (.getfield 38, 3) := by decide +kernel
theorem dX7_addSeen_44 : decode cX7_addSeen 44 = .ok (.iconst 1, 1) := by decide +kernel
theorem dX7_addSeen_45 : decode cX7_addSeen 45 = .ok (.iadd, 1) := by decide +kernel
theorem dX7_addSeen_46 : decode cX7_addSeen 46 = .ok (.putfield 38, 3) := by decide +kernel
theorem dX7_addSeen_49 : decode cX7_addSeen 49 = .ok (.return_, 1) := by decide +kernel
theorem dX8_init_0 : decode cX8_init 0 = .ok (.aload_n 0, 1) := by decide +kernel
theorem dX8_init_1 : decode cX8_init 1 = .ok (.invokespecial 1, 3) := by decide +kernel
theorem dX8_init_4 : decode cX8_init 4 = .ok (.aload_n 0, 1) := by decide +kernel
theorem dX8_init_5 : decode cX8_init 5 = .ok (.new 7, 3) := by decide +kernel
theorem dX8_init_8 : decode cX8_init 8 = .ok (.dup, 1) := by decide +kernel
theorem dX8_init_9 : decode cX8_init 9 = .ok (.invokespecial 9, 3) := by decide +kernel
theorem dX8_init_12 : decode cX8_init 12 = .ok (.putfield 10, 3) := by decide +kernel
theorem dX8_init_15 : decode cX8_init 15 = .ok (.aload_n 0, 1) := by decide +kernel
theorem dX8_init_16 : decode cX8_init 16 = .ok (.iconst 4, 1) := by decide +kernel
theorem dX8_init_17 : decode cX8_init 17 = .ok (.anewarray 16, 3) := by decide +kernel
theorem dX8_init_20 : decode cX8_init 20 = .ok (.putfield 18, 3) := by decide +kernel
theorem dX8_init_23 : decode cX8_init 23 = .ok (.aload_n 0, 1) := by decide +kernel
theorem dX8_init_24 : decode cX8_init 24 = .ok (.new 22, 3) := by decide +kernel
theorem dX8_init_27 : decode cX8_init 27 = .ok (.dup, 1) := by decide +kernel
theorem dX8_init_28 : decode cX8_init 28 = .ok (.invokespecial 24, 3) := by decide +kernel
theorem dX8_init_31 : decode cX8_init 31 = .ok (.putfield 25, 3) := by decide +kernel
theorem dX8_init_34 : decode cX8_init 34 = .ok (.aload_n 0, 1) := by decide +kernel
theorem dX8_init_35 : decode cX8_init 35 = .ok (.new 22, 3) := by decide +kernel
theorem dX8_init_38 : decode cX8_init 38 = .ok (.dup, 1) := by decide +kernel
theorem dX8_init_39 : decode cX8_init 39 = .ok (.invokespecial 24, 3) := by decide +kernel
theorem dX8_init_42 : decode cX8_init 42 = .ok (.putfield 29, 3) := by decide +kernel
theorem dX8_init_45 : decode cX8_init 45 = .ok (.aload_n 0, 1) := by decide +kernel
theorem dX8_init_46 : decode cX8_init 46 = .ok (.new 32, 3) := by decide +kernel
theorem dX8_init_49 : decode cX8_init 49 = .ok (.dup, 1) := by decide +kernel
theorem dX8_init_50 : decode cX8_init 50 = .ok (.invokespecial 34, 3) := by decide +kernel
theorem dX8_init_53 : decode cX8_init 53 = .ok (.putfield 35, 3) := by decide +kernel
theorem dX8_init_56 : decode cX8_init 56 = .ok (.aload_n 0, 1) := by decide +kernel
theorem dX8_init_57 : decode cX8_init 57 = .ok (.bipush 36, 2) := by decide +kernel
theorem dX8_init_59 : decode cX8_init 59 = .ok (.newarray .int, 2) := by decide +kernel
theorem dX8_init_61 : decode cX8_init 61 = .ok (.putfield 39, 3) := by decide +kernel
theorem dX8_init_64 : decode cX8_init 64 = .ok (.aload_n 0, 1) := by decide +kernel
theorem dX8_init_65 : decode cX8_init 65 = .ok (.bipush 36, 2) := by decide +kernel
theorem dX8_init_67 : decode cX8_init 67 = .ok (.newarray .int, 2) := by decide +kernel
theorem dX8_init_69 : decode cX8_init 69 = .ok (.putfield 43, 3) := by decide +kernel
theorem dX8_init_72 : decode cX8_init 72 = .ok (.aload_n 0, 1) := by decide +kernel
theorem dX8_init_73 : decode cX8_init 73 = .ok (.bipush 9, 2) := by decide +kernel
theorem dX8_init_75 : decode cX8_init 75 = .ok (.newarray .int, 2) := by decide +kernel
theorem dX8_init_77 : decode cX8_init 77 = .ok (.putfield 46, 3) := by decide +kernel
theorem dX8_init_80 : decode cX8_init 80 = .ok (.aload_n 0, 1) := by decide +kernel
theorem dX8_init_81 : decode cX8_init 81 = .ok (.iconst 0, 1) := by decide +kernel
theorem dX8_init_82 : decode cX8_init 82 = .ok (.putfield 49, 3) := by decide +kernel
theorem dX8_init_85 : decode cX8_init 85 = .ok (.aload_n 0, 1) := by decide +kernel
theorem dX8_init_86 : decode cX8_init 86 = .ok (.iconst 0, 1) := by decide +kernel
theorem dX8_init_87 : decode cX8_init 87 = .ok (.putfield 53, 3) := by decide +kernel
theorem dX8_init_90 : decode cX8_init 90 = .ok (.aload_n 0, 1) := by decide +kernel
theorem dX8_init_91 : decode cX8_init 91 = .ok (.iconst 0, 1) := by decide +kernel
theorem dX8_init_92 : decode cX8_init 92 = .ok (.putfield 56, 3) := by decide +kernel
theorem dX8_init_95 : decode cX8_init 95 = .ok (.iconst 0, 1) := by decide +kernel
theorem dX8_init_96 : decode cX8_init 96 = .ok (.istore_n 1, 1) := by decide +kernel
theorem dX8_init_97 : decode cX8_init 97 = .ok (.iload_n 1, 1) := by decide +kernel
theorem dX8_init_98 : decode cX8_init 98 = .ok (.iconst 4, 1) := by decide +kernel
theorem dX8_init_99 : decode cX8_init 99 = .ok (.if_icmp .ge 22, 3) := by decide +kernel
theorem dX8_init_102 : decode cX8_init 102 = .ok (.aload_n 0, 1) := by decide +kernel
theorem dX8_init_103 : decode cX8_init 103 = .ok (.getfield 18, 3) := by decide +kernel
theorem dX8_init_106 : decode cX8_init 106 = .ok (.iload_n 1, 1) := by decide +kernel
theorem dX8_init_107 : decode cX8_init 107 = .ok (.new 16, 3) := by decide +kernel
theorem dX8_init_110 : decode cX8_init 110 = .ok (.dup, 1) := by decide +kernel
theorem dX8_init_111 : decode cX8_init 111 = .ok (.invokespecial 60, 3) := by decide +kernel
theorem dX8_init_114 : decode cX8_init 114 = .ok (.aastore, 1) := by decide +kernel
theorem dX8_init_115 : decode cX8_init 115 = .ok (.iinc 1 1, 3) := by decide +kernel
theorem dX8_init_118 : decode cX8_init 118 = .ok (.goto (-21), 3) := by decide +kernel
theorem dX8_init_121 : decode cX8_init 121 = .ok (.return_, 1) := by decide +kernel
theorem dX8_letter_0 : decode cX8_letter 0 = .ok (.iload_n 1, 1) := by decide +kernel
theorem dX8_letter_1 : decode cX8_letter 1 = .ok (.iconst 1, 1) := by decide +kernel
theorem dX8_letter_2 : decode cX8_letter 2 = .ok (.if_icmp .lt 9, 3) := by decide +kernel
theorem dX8_letter_5 : decode cX8_letter 5 = .ok (.iload_n 1, 1) := by decide +kernel
theorem dX8_letter_6 : decode cX8_letter 6 = .ok (.bipush 126, 2) := by decide +kernel
theorem dX8_letter_8 : decode cX8_letter 8 = .ok (.if_icmp .le 6, 3) := by decide +kernel
theorem dX8_letter_11 : decode cX8_letter 11 = .ok (.bipush (-102), 2) := by decide +kernel
theorem dX8_letter_13 : decode cX8_letter 13 = .ok (.ireturn, 1) := by decide +kernel
theorem dX8_letter_14 : decode cX8_letter 14 = .ok (.aload_n 0, 1) := by decide +kernel
theorem dX8_letter_15 : decode cX8_letter 15 = .ok (.getfield 10, 3) := by decide +kernel
theorem dX8_letter_18 : decode cX8_letter 18 = .ok (.getfield 61, 3) := by decide +kernel
theorem dX8_letter_21 : decode cX8_letter 21 = .ok (.bipush 28, 2) := by decide +kernel
theorem dX8_letter_23 : decode cX8_letter 23 = .ok (.if_icmp .lt 6, 3) := by decide +kernel
theorem dX8_letter_26 : decode cX8_letter 26 = .ok (.bipush (-104), 2) := by decide +kernel
theorem dX8_letter_28 : decode cX8_letter 28 = .ok (.ireturn, 1) := by decide +kernel
theorem dX8_letter_29 : decode cX8_letter 29 = .ok (.aload_n 0, 1) := by decide +kernel
theorem dX8_letter_30 : decode cX8_letter 30 = .ok (.getfield 10, 3) := by decide +kernel
theorem dX8_letter_33 : decode cX8_letter 33 = .ok (.iload_n 1, 1) := by decide +kernel
theorem dX8_letter_34 : decode cX8_letter 34 = .ok (.i2c, 1) := by decide +kernel
theorem dX8_letter_35 : decode cX8_letter 35 = .ok (.invokevirtual 64, 3) := by decide +kernel
theorem dX8_letter_38 : decode cX8_letter 38 = .ok (.aload_n 0, 1) := by decide +kernel
theorem dX8_letter_39 : decode cX8_letter 39 = .ok (.getfield 10, 3) := by decide +kernel
theorem dX8_letter_42 : decode cX8_letter 42 = .ok (.getfield 61, 3) := by decide +kernel
theorem dX8_letter_45 : decode cX8_letter 45 = .ok (.ireturn, 1) := by decide +kernel
theorem dX8_blank_0 : decode cX8_blank 0 = .ok (.aload_n 0, 1) := by decide +kernel
theorem dX8_blank_1 : decode cX8_blank 1 = .ok (.getfield 10, 3) := by decide +kernel
theorem dX8_blank_4 : decode cX8_blank 4 = .ok (.getfield 61, 3) := by decide +kernel
theorem dX8_blank_7 : decode cX8_blank 7 = .ok (.istore_n 1, 1) := by decide +kernel
theorem dX8_blank_8 : decode cX8_blank 8 = .ok (.aload_n 0, 1) := by decide +kernel
theorem dX8_blank_9 : decode cX8_blank 9 = .ok (.getfield 10, 3) := by decide +kernel
theorem dX8_blank_12 : decode cX8_blank 12 = .ok (.iconst 0, 1) := by decide +kernel
theorem dX8_blank_13 : decode cX8_blank 13 = .ok (.putfield 61, 3) := by decide +kernel
theorem dX8_blank_16 : decode cX8_blank 16 = .ok (.iload_n 1, 1) := by decide +kernel
theorem dX8_blank_17 : decode cX8_blank 17 = .ok (.ireturn, 1) := by decide +kernel
theorem dX8_fault_0 : decode cX8_fault 0 = .ok (.aload_n 0, 1) := by decide +kernel
theorem dX8_fault_1 : decode cX8_fault 1 = .ok (.getfield 10, 3) := by decide +kernel
theorem dX8_fault_4 : decode cX8_fault 4 = .ok (.invokevirtual 68, 3) := by decide +kernel
theorem dX8_fault_7 : decode cX8_fault 7 = .ok (.ireturn, 1) := by decide +kernel
theorem dX8_sea_0 : decode cX8_sea 0 = .ok (.aload_n 0, 1) := by decide +kernel
theorem dX8_sea_1 : decode cX8_sea 1 = .ok (.getfield 10, 3) := by decide +kernel
theorem dX8_sea_4 : decode cX8_sea 4 = .ok (.invokevirtual 72, 3) := by decide +kernel
theorem dX8_sea_7 : decode cX8_sea 7 = .ok (.ifCond .ne 6, 3) := by decide +kernel
theorem dX8_sea_10 : decode cX8_sea 10 = .ok (.bipush (-103), 2) := by decide +kernel
theorem dX8_sea_12 : decode cX8_sea 12 = .ok (.ireturn, 1) := by decide +kernel
theorem dX8_sea_13 : decode cX8_sea 13 = .ok (.aload_n 0, 1) := by decide +kernel
theorem dX8_sea_14 : decode cX8_sea 14 = .ok (.getfield 10, 3) := by decide +kernel
theorem dX8_sea_17 : decode cX8_sea 17 = .ok (.invokevirtual 76, 3) := by decide +kernel
theorem dX8_sea_20 : decode cX8_sea 20 = .ok (.istore_n 1, 1) := by decide +kernel
theorem dX8_sea_21 : decode cX8_sea 21 = .ok (.aload_n 0, 1) := by decide +kernel
theorem dX8_sea_22 : decode cX8_sea 22 = .ok (.iconst 4, 1) := by decide +kernel
theorem dX8_sea_23 : decode cX8_sea 23 = .ok (.iload_n 1, 1) := by decide +kernel
theorem dX8_sea_24 : decode cX8_sea 24 = .ok (.iconst 1, 1) := by decide +kernel
theorem dX8_sea_25 : decode cX8_sea 25 = .ok (.iadd, 1) := by decide +kernel
theorem dX8_sea_26 : decode cX8_sea 26 = .ok (.iconst 4, 1) := by decide +kernel
theorem dX8_sea_27 : decode cX8_sea 27 = .ok (.idiv, 1) := by decide +kernel
theorem dX8_sea_28 : decode cX8_sea 28 = .ok (.invokestatic 79, 3) := by decide +kernel
theorem dX8_sea_31 : decode cX8_sea 31 = .ok (.putfield 49, 3) := by decide +kernel
theorem dX8_sea_34 : decode cX8_sea 34 = .ok (.aload_n 0, 1) := by decide +kernel
theorem dX8_sea_35 : decode cX8_sea 35 = .ok (.getfield 25, 3) := by decide +kernel
theorem dX8_sea_38 : decode cX8_sea 38 = .ok (.invokevirtual 85, 3) := by decide +kernel
theorem dX8_sea_41 : decode cX8_sea 41 = .ok (.iconst 0, 1) := by decide +kernel
theorem dX8_sea_42 : decode cX8_sea 42 = .ok (.istore_n 2, 1) := by decide +kernel
theorem dX8_sea_43 : decode cX8_sea 43 = .ok (.iload_n 2, 1) := by decide +kernel
theorem dX8_sea_44 : decode cX8_sea 44 = .ok (.aload_n 0, 1) := by decide +kernel
theorem dX8_sea_45 : decode cX8_sea 45 = .ok (.getfield 49, 3) := by decide +kernel
theorem dX8_sea_48 : decode cX8_sea 48 = .ok (.if_icmp .ge 49, 3) := by decide +kernel
theorem dX8_sea_51 : decode cX8_sea 51 = .ok (.aload_n 0, 1) := by decide +kernel
theorem dX8_sea_52 : decode cX8_sea 52 = .ok (.getfield 18, 3) := by decide +kernel
theorem dX8_sea_55 : decode cX8_sea 55 = .ok (.iload_n 2, 1) := by decide +kernel
theorem dX8_sea_56 : decode cX8_sea 56 = .ok (.aload_n 0, 1) := by decide +kernel
theorem dX8_sea_57 : decode cX8_sea 57 = .ok (.getfield 10, 3) := by decide +kernel
theorem dX8_sea_60 : decode cX8_sea 60 = .ok (.iconst 4, 1) := by decide +kernel
theorem dX8_sea_61 : decode cX8_sea 61 = .ok (.iload_n 2, 1) := by decide +kernel
theorem dX8_sea_62 : decode cX8_sea 62 = .ok (.imul, 1) := by decide +kernel
theorem dX8_sea_63 : decode cX8_sea 63 = .ok (.invokevirtual 88, 3) := by decide +kernel
theorem dX8_sea_66 : decode cX8_sea 66 = .ok (.invokestatic 92, 3) := by decide +kernel
theorem dX8_sea_69 : decode cX8_sea 69 = .ok (.aastore, 1) := by decide +kernel
theorem dX8_sea_70 : decode cX8_sea 70 = .ok (.aload_n 0, 1) := by decide +kernel
theorem dX8_sea_71 : decode cX8_sea 71 = .ok (.getfield 25, 3) := by decide +kernel
theorem dX8_sea_74 : decode cX8_sea 74 = .ok (.getfield 96, 3) := by decide +kernel
theorem dX8_sea_77 : decode cX8_sea 77 = .ok (.iload_n 2, 1) := by decide +kernel
theorem dX8_sea_78 : decode cX8_sea 78 = .ok (.aload_n 0, 1) := by decide +kernel
theorem dX8_sea_79 : decode cX8_sea 79 = .ok (.getfield 10, 3) := by decide +kernel
theorem dX8_sea_82 : decode cX8_sea 82 = .ok (.iconst 4, 1) := by decide +kernel
theorem dX8_sea_83 : decode cX8_sea 83 = .ok (.iload_n 2, 1) := by decide +kernel
theorem dX8_sea_84 : decode cX8_sea 84 = .ok (.imul, 1) := by decide +kernel
theorem dX8_sea_85 : decode cX8_sea 85 = .ok (.iconst 1, 1) := by decide +kernel
theorem dX8_sea_86 : decode cX8_sea 86 = .ok (.iadd, 1) := by decide +kernel
theorem dX8_sea_87 : decode cX8_sea 87 = .ok (.invokevirtual 99, 3) := by decide +kernel
theorem dX8_sea_90 : decode cX8_sea 90 = .ok (.iastore, 1) := by decide +kernel
theorem dX8_sea_91 : decode cX8_sea 91 = .ok (.iinc 2 1, 3) := by decide +kernel
theorem dX8_sea_94 : decode cX8_sea 94 = .ok (.goto (-51), 3) := by decide +kernel
theorem dX8_sea_97 : decode cX8_sea 97 = .ok (.aload_n 0, 1) := by decide +kernel
theorem dX8_sea_98 : decode cX8_sea 98 = .ok (.getfield 25, 3) := by decide +kernel
theorem dX8_sea_101 : decode cX8_sea 101 = .ok (.aload_n 0, 1) := by decide +kernel
theorem dX8_sea_102 : decode cX8_sea 102 = .ok (.getfield 10, 3) := by decide +kernel
theorem dX8_sea_105 : decode cX8_sea 105 = .ok (.iload_n 1, 1) := by decide +kernel
theorem dX8_sea_106 : decode cX8_sea 106 = .ok (.iconst 1, 1) := by decide +kernel
theorem dX8_sea_107 : decode cX8_sea 107 = .ok (.iadd, 1) := by decide +kernel
theorem dX8_sea_108 : decode cX8_sea 108 = .ok (.invokevirtual 99, 3) := by decide +kernel
theorem dX8_sea_111 : decode cX8_sea 111 = .ok (.putfield 102, 3) := by decide +kernel
theorem dX8_sea_114 : decode cX8_sea 114 = .ok (.iload_n 1, 1) := by decide +kernel
theorem dX8_sea_115 : decode cX8_sea 115 = .ok (.iconst 3, 1) := by decide +kernel
theorem dX8_sea_116 : decode cX8_sea 116 = .ok (.iadd, 1) := by decide +kernel
theorem dX8_sea_117 : decode cX8_sea 117 = .ok (.istore_n 2, 1) := by decide +kernel
theorem dX8_sea_118 : decode cX8_sea 118 = .ok (.iload_n 2, 1) := by decide +kernel
theorem dX8_sea_119 : decode cX8_sea 119 = .ok (.aload_n 0, 1) := by decide +kernel
theorem dX8_sea_120 : decode cX8_sea 120 = .ok (.getfield 10, 3) := by decide +kernel
theorem dX8_sea_123 : decode cX8_sea 123 = .ok (.getfield 61, 3) := by decide +kernel
theorem dX8_sea_126 : decode cX8_sea 126 = .ok (.if_icmp .ge 25, 3) := by decide +kernel
theorem dX8_sea_129 : decode cX8_sea 129 = .ok (.aload_n 0, 1) := by decide +kernel
theorem dX8_sea_130 : decode cX8_sea 130 = .ok (.getfield 25, 3) := by decide +kernel
theorem dX8_sea_133 : decode cX8_sea 133 = .ok (.aload_n 0, 1) := by decide +kernel
theorem dX8_sea_134 : decode cX8_sea 134 = .ok (.getfield 10, 3) := by decide +kernel
theorem dX8_sea_137 : decode cX8_sea 137 = .ok (.iload_n 2, 1) := by decide +kernel
theorem dX8_sea_138 : decode cX8_sea 138 = .ok (.invokevirtual 99, 3) := by decide +kernel
theorem dX8_sea_141 : decode cX8_sea 141 = .ok (.iconst 1, 1) := by decide +kernel
theorem dX8_sea_142 : decode cX8_sea 142 = .ok (.invokevirtual 105, 3) := by decide +kernel
theorem dX8_sea_145 : decode cX8_sea 145 = .ok (.iinc 2 2, 3) := by decide +kernel
theorem dX8_sea_148 : decode cX8_sea 148 = .ok (.goto (-30), 3) := by decide +kernel
theorem dX8_sea_151 : decode cX8_sea 151 = .ok (.aload_n 0, 1) := by decide +kernel
theorem dX8_sea_152 : decode cX8_sea 152 = .ok (.getfield 10, 3) := by decide +kernel
theorem dX8_sea_155 : decode cX8_sea 155 = .ok (.iconst 0, 1) := by decide +kernel
theorem dX8_sea_156 : decode cX8_sea 156 = .ok (.putfield 61, 3) := by decide +kernel
theorem dX8_sea_159 : decode cX8_sea 159 = .ok (.aload_n 0, 1) := by decide +kernel
theorem dX8_sea_160 : decode cX8_sea 160 = .ok (.iconst 0, 1) := by decide +kernel
theorem dX8_sea_161 : decode cX8_sea 161 = .ok (.putfield 56, 3) := by decide +kernel
theorem dX8_sea_164 : decode cX8_sea 164 = .ok (.aload_n 0, 1) := by decide +kernel
theorem dX8_sea_165 : decode cX8_sea 165 = .ok (.dup, 1) := by decide +kernel
theorem dX8_sea_166 : decode cX8_sea 166 = .ok (.getfield 53, 3) := by decide +kernel
theorem dX8_sea_169 : decode cX8_sea 169 = .ok (.iconst 1, 1) := by decide +kernel
theorem dX8_sea_170 : decode cX8_sea 170 = .ok (.iadd, 1) := by decide +kernel
theorem dX8_sea_171 : decode cX8_sea 171 = .ok (.putfield 53, 3) := by decide +kernel
theorem dX8_sea_174 : decode cX8_sea 174 = .ok (.aload_n 0, 1) := by decide +kernel
theorem dX8_sea_175 : decode cX8_sea 175 = .ok (.getfield 49, 3) := by decide +kernel
theorem dX8_sea_178 : decode cX8_sea 178 = .ok (.ireturn, 1) := by decide +kernel
theorem dX8_needle_0 : decode cX8_needle 0 = .ok (.aload_n 0, 1) := by decide +kernel
theorem dX8_needle_1 : decode cX8_needle 1 = .ok (.iload_n 1, 1) := by decide +kernel
theorem dX8_needle_2 : decode cX8_needle 2 = .ok (.invokevirtual 109, 3) := by decide +kernel
theorem dX8_needle_5 : decode cX8_needle 5 = .ok (.ifCond .ne 6, 3) := by decide +kernel
theorem dX8_needle_8 : decode cX8_needle 8 = .ok (.bipush (-101), 2) := by decide +kernel
theorem dX8_needle_10 : decode cX8_needle 10 = .ok (.ireturn, 1) := by decide +kernel
theorem dX8_needle_11 : decode cX8_needle 11 = .ok (.iload_n 2, 1) := by decide +kernel
theorem dX8_needle_12 : decode cX8_needle 12 = .ok (.tableswitch 146 0 8 #[52, 62, 72, 85, 94, 103, 117, 126, 135], 52) := by decide +kernel
theorem dX8_needle_64 : decode cX8_needle 64 = .ok (.aload_n 0, 1) := by decide +kernel
theorem dX8_needle_65 : decode cX8_needle 65 = .ok (.getfield 18, 3) := by decide +kernel
theorem dX8_needle_68 : decode cX8_needle 68 = .ok (.iload_n 1, 1) := by decide +kernel
theorem dX8_needle_69 : decode cX8_needle 69 = .ok (.aaload, 1) := by decide +kernel
theorem dX8_needle_70 : decode cX8_needle 70 = .ok (.invokevirtual 113, 3) := by decide +kernel
theorem dX8_needle_73 : decode cX8_needle 73 = .ok (.ireturn, 1) := by decide +kernel
theorem dX8_needle_74 : decode cX8_needle 74 = .ok (.aload_n 0, 1) := by decide +kernel
theorem dX8_needle_75 : decode cX8_needle 75 = .ok (.getfield 25, 3) := by decide +kernel
theorem dX8_needle_78 : decode cX8_needle 78 = .ok (.getfield 96, 3) := by decide +kernel
theorem dX8_needle_81 : decode cX8_needle 81 = .ok (.iload_n 1, 1) := by decide +kernel
theorem dX8_needle_82 : decode cX8_needle 82 = .ok (.iaload, 1) := by decide +kernel
theorem dX8_needle_83 : decode cX8_needle 83 = .ok (.ireturn, 1) := by decide +kernel
theorem dX8_needle_84 : decode cX8_needle 84 = .ok (.aload_n 0, 1) := by decide +kernel
theorem dX8_needle_85 : decode cX8_needle 85 = .ok (.iload_n 1, 1) := by decide +kernel
theorem dX8_needle_86 : decode cX8_needle 86 = .ok (.aload_n 0, 1) := by decide +kernel
theorem dX8_needle_87 : decode cX8_needle 87 = .ok (.getfield 25, 3) := by decide +kernel
theorem dX8_needle_90 : decode cX8_needle 90 = .ok (.getfield 102, 3) := by decide +kernel
theorem dX8_needle_93 : decode cX8_needle 93 = .ok (.invokevirtual 116, 3) := by decide +kernel
theorem dX8_needle_96 : decode cX8_needle 96 = .ok (.ireturn, 1) := by decide +kernel
theorem dX8_needle_97 : decode cX8_needle 97 = .ok (.aload_n 0, 1) := by decide +kernel
theorem dX8_needle_98 : decode cX8_needle 98 = .ok (.iload_n 1, 1) := by decide +kernel
theorem dX8_needle_99 : decode cX8_needle 99 = .ok (.invokevirtual 119, 3) := by decide +kernel
theorem dX8_needle_102 : decode cX8_needle 102 = .ok (.getfield 123, 3) := by decide +kernel
theorem dX8_needle_105 : decode cX8_needle 105 = .ok (.ireturn, 1) := by decide +kernel
theorem dX8_needle_106 : decode cX8_needle 106 = .ok (.aload_n 0, 1) := by decide +kernel
theorem dX8_needle_107 : decode cX8_needle 107 = .ok (.iload_n 1, 1) := by decide +kernel
theorem dX8_needle_108 : decode cX8_needle 108 = .ok (.invokevirtual 119, 3) := by decide +kernel
theorem dX8_needle_111 : decode cX8_needle 111 = .ok (.getfield 126, 3) := by decide +kernel
theorem dX8_needle_114 : decode cX8_needle 114 = .ok (.ireturn, 1) := by decide +kernel
theorem dX8_needle_115 : decode cX8_needle 115 = .ok (.aload_n 0, 1) := by decide +kernel
theorem dX8_needle_116 : decode cX8_needle 116 = .ok (.aload_n 0, 1) := by decide +kernel
theorem dX8_needle_117 : decode cX8_needle 117 = .ok (.getfield 25, 3) := by decide +kernel
theorem dX8_needle_120 : decode cX8_needle 120 = .ok (.getfield 96, 3) := by decide +kernel
theorem dX8_needle_123 : decode cX8_needle 123 = .ok (.iload_n 1, 1) := by decide +kernel
theorem dX8_needle_124 : decode cX8_needle 124 = .ok (.iaload, 1) := by decide +kernel
theorem dX8_needle_125 : decode cX8_needle 125 = .ok (.invokevirtual 129, 3) := by decide +kernel
theorem dX8_needle_128 : decode cX8_needle 128 = .ok (.ireturn, 1) := by decide +kernel
theorem dX8_needle_129 : decode cX8_needle 129 = .ok (.aload_n 0, 1) := by decide +kernel
theorem dX8_needle_130 : decode cX8_needle 130 = .ok (.iload_n 1, 1) := by decide +kernel
theorem dX8_needle_131 : decode cX8_needle 131 = .ok (.invokevirtual 132, 3) := by decide +kernel
theorem dX8_needle_134 : decode cX8_needle 134 = .ok (.invokestatic 136, 3) := by decide +kernel
theorem dX8_needle_137 : decode cX8_needle 137 = .ok (.ireturn, 1) := by decide +kernel
theorem dX8_needle_138 : decode cX8_needle 138 = .ok (.aload_n 0, 1) := by decide +kernel
theorem dX8_needle_139 : decode cX8_needle 139 = .ok (.iload_n 1, 1) := by decide +kernel
theorem dX8_needle_140 : decode cX8_needle 140 = .ok (.invokevirtual 132, 3) := by decide +kernel
theorem dX8_needle_143 : decode cX8_needle 143 = .ok (.invokestatic 142, 3) := by decide +kernel
theorem dX8_needle_146 : decode cX8_needle 146 = .ok (.ireturn, 1) := by decide +kernel
theorem dX8_needle_147 : decode cX8_needle 147 = .ok (.aload_n 0, 1) := by decide +kernel
theorem dX8_needle_148 : decode cX8_needle 148 = .ok (.iload_n 1, 1) := by decide +kernel
theorem dX8_needle_149 : decode cX8_needle 149 = .ok (.aload_n 0, 1) := by decide +kernel
theorem dX8_needle_150 : decode cX8_needle 150 = .ok (.iload_n 1, 1) := by decide +kernel
theorem dX8_needle_151 : decode cX8_needle 151 = .ok (.invokevirtual 132, 3) := by decide +kernel
theorem dX8_needle_154 : decode cX8_needle 154 = .ok (.invokevirtual 145, 3) := by decide +kernel
theorem dX8_needle_157 : decode cX8_needle 157 = .ok (.ireturn, 1) := by decide +kernel
theorem dX8_needle_158 : decode cX8_needle 158 = .ok (.bipush (-102), 2) := by decide +kernel
theorem dX8_needle_160 : decode cX8_needle 160 = .ok (.ireturn, 1) := by decide +kernel
theorem dX8_as_0 : decode cX8_as 0 = .ok (.aload_n 0, 1) := by decide +kernel
theorem dX8_as_1 : decode cX8_as 1 = .ok (.iload_n 1, 1) := by decide +kernel
theorem dX8_as_2 : decode cX8_as 2 = .ok (.invokevirtual 109, 3) := by decide +kernel
theorem dX8_as_5 : decode cX8_as 5 = .ok (.ifCond .ne 6, 3) := by decide +kernel
theorem dX8_as_8 : decode cX8_as 8 = .ok (.bipush (-101), 2) := by decide +kernel
theorem dX8_as_10 : decode cX8_as 10 = .ok (.ireturn, 1) := by decide +kernel
theorem dX8_as_11 : decode cX8_as 11 = .ok (.iload_n 2, 1) := by decide +kernel
theorem dX8_as_12 : decode cX8_as 12 = .ok (.ifCond .lt 8, 3) := by decide +kernel
theorem dX8_as_15 : decode cX8_as 15 = .ok (.iload_n 2, 1) := by decide +kernel
theorem dX8_as_16 : decode cX8_as 16 = .ok (.iconst 5, 1) := by decide +kernel
theorem dX8_as_17 : decode cX8_as 17 = .ok (.if_icmp .lt 6, 3) := by decide +kernel
theorem dX8_as_20 : decode cX8_as 20 = .ok (.bipush (-102), 2) := by decide +kernel
theorem dX8_as_22 : decode cX8_as 22 = .ok (.ireturn, 1) := by decide +kernel
theorem dX8_as_23 : decode cX8_as 23 = .ok (.aload_n 0, 1) := by decide +kernel
theorem dX8_as_24 : decode cX8_as 24 = .ok (.getfield 18, 3) := by decide +kernel
theorem dX8_as_27 : decode cX8_as 27 = .ok (.iload_n 1, 1) := by decide +kernel
theorem dX8_as_28 : decode cX8_as 28 = .ok (.aaload, 1) := by decide +kernel
theorem dX8_as_29 : decode cX8_as 29 = .ok (.iload_n 2, 1) := by decide +kernel
theorem dX8_as_30 : decode cX8_as 30 = .ok (.invokestatic 149, 3) := by decide +kernel
theorem dX8_as_33 : decode cX8_as 33 = .ok (.ifCond .eq 7, 3) := by decide +kernel
theorem dX8_as_36 : decode cX8_as 36 = .ok (.iload_n 1, 1) := by decide +kernel
theorem dX8_as_37 : decode cX8_as 37 = .ok (.goto 4, 3) := by decide +kernel
theorem dX8_as_40 : decode cX8_as 40 = .ok (.iconst (-1), 1) := by decide +kernel
theorem dX8_as_41 : decode cX8_as 41 = .ok (.ireturn, 1) := by decide +kernel
theorem dX8_points_0 : decode cX8_points 0 = .ok (.aload_n 0, 1) := by decide +kernel
theorem dX8_points_1 : decode cX8_points 1 = .ok (.iload_n 1, 1) := by decide +kernel
theorem dX8_points_2 : decode cX8_points 2 = .ok (.invokevirtual 109, 3) := by decide +kernel
theorem dX8_points_5 : decode cX8_points 5 = .ok (.ifCond .eq 10, 3) := by decide +kernel
theorem dX8_points_8 : decode cX8_points 8 = .ok (.iload_n 2, 1) := by decide +kernel
theorem dX8_points_9 : decode cX8_points 9 = .ok (.invokestatic 153, 3) := by decide +kernel
theorem dX8_points_12 : decode cX8_points 12 = .ok (.ifCond .ne 6, 3) := by decide +kernel
theorem dX8_points_15 : decode cX8_points 15 = .ok (.bipush (-101), 2) := by decide +kernel
theorem dX8_points_17 : decode cX8_points 17 = .ok (.ireturn, 1) := by decide +kernel
theorem dX8_points_18 : decode cX8_points 18 = .ok (.aload_n 0, 1) := by decide +kernel
theorem dX8_points_19 : decode cX8_points 19 = .ok (.iload_n 1, 1) := by decide +kernel
theorem dX8_points_20 : decode cX8_points 20 = .ok (.iload_n 2, 1) := by decide +kernel
theorem dX8_points_21 : decode cX8_points 21 = .ok (.invokevirtual 116, 3) := by decide +kernel
theorem dX8_points_24 : decode cX8_points 24 = .ok (.ireturn, 1) := by decide +kernel
theorem dX8_swing_0 : decode cX8_swing 0 = .ok (.aload_n 0, 1) := by decide +kernel
theorem dX8_swing_1 : decode cX8_swing 1 = .ok (.iload_n 1, 1) := by decide +kernel
theorem dX8_swing_2 : decode cX8_swing 2 = .ok (.invokevirtual 109, 3) := by decide +kernel
theorem dX8_swing_5 : decode cX8_swing 5 = .ok (.ifCond .eq 10, 3) := by decide +kernel
theorem dX8_swing_8 : decode cX8_swing 8 = .ok (.iload_n 2, 1) := by decide +kernel
theorem dX8_swing_9 : decode cX8_swing 9 = .ok (.invokestatic 153, 3) := by decide +kernel
theorem dX8_swing_12 : decode cX8_swing 12 = .ok (.ifCond .ne 6, 3) := by decide +kernel
theorem dX8_swing_15 : decode cX8_swing 15 = .ok (.bipush (-101), 2) := by decide +kernel
theorem dX8_swing_17 : decode cX8_swing 17 = .ok (.ireturn, 1) := by decide +kernel
theorem dX8_swing_18 : decode cX8_swing 18 = .ok (.aload_n 0, 1) := by decide +kernel
theorem dX8_swing_19 : decode cX8_swing 19 = .ok (.getfield 25, 3) := by decide +kernel
theorem dX8_swing_22 : decode cX8_swing 22 = .ok (.getfield 96, 3) := by decide +kernel
theorem dX8_swing_25 : decode cX8_swing 25 = .ok (.iload_n 1, 1) := by decide +kernel
theorem dX8_swing_26 : decode cX8_swing 26 = .ok (.iaload, 1) := by decide +kernel
theorem dX8_swing_27 : decode cX8_swing 27 = .ok (.istore_n 3, 1) := by decide +kernel
theorem dX8_swing_28 : decode cX8_swing 28 = .ok (.aload_n 0, 1) := by decide +kernel
theorem dX8_swing_29 : decode cX8_swing 29 = .ok (.getfield 25, 3) := by decide +kernel
theorem dX8_swing_32 : decode cX8_swing 32 = .ok (.getfield 96, 3) := by decide +kernel
theorem dX8_swing_35 : decode cX8_swing 35 = .ok (.iload_n 1, 1) := by decide +kernel
theorem dX8_swing_36 : decode cX8_swing 36 = .ok (.iload_n 2, 1) := by decide +kernel
theorem dX8_swing_37 : decode cX8_swing 37 = .ok (.iastore, 1) := by decide +kernel
theorem dX8_swing_38 : decode cX8_swing 38 = .ok (.iload_n 3, 1) := by decide +kernel
theorem dX8_swing_39 : decode cX8_swing 39 = .ok (.ireturn, 1) := by decide +kernel
theorem dX8_island_0 : decode cX8_island 0 = .ok (.aload_n 0, 1) := by decide +kernel
theorem dX8_island_1 : decode cX8_island 1 = .ok (.invokevirtual 156, 3) := by decide +kernel
theorem dX8_island_4 : decode cX8_island 4 = .ok (.ifCond .eq 10, 3) := by decide +kernel
theorem dX8_island_7 : decode cX8_island 7 = .ok (.iload_n 1, 1) := by decide +kernel
theorem dX8_island_8 : decode cX8_island 8 = .ok (.invokestatic 153, 3) := by decide +kernel
theorem dX8_island_11 : decode cX8_island 11 = .ok (.ifCond .ne 6, 3) := by decide +kernel
theorem dX8_island_14 : decode cX8_island 14 = .ok (.bipush (-101), 2) := by decide +kernel
theorem dX8_island_16 : decode cX8_island 16 = .ok (.ireturn, 1) := by decide +kernel
theorem dX8_island_17 : decode cX8_island 17 = .ok (.aload_n 0, 1) := by decide +kernel
theorem dX8_island_18 : decode cX8_island 18 = .ok (.getfield 25, 3) := by decide +kernel
theorem dX8_island_21 : decode cX8_island 21 = .ok (.iload_n 1, 1) := by decide +kernel
theorem dX8_island_22 : decode cX8_island 22 = .ok (.invokevirtual 159, 3) := by decide +kernel
theorem dX8_island_25 : decode cX8_island 25 = .ok (.ifCond .eq 7, 3) := by decide +kernel
theorem dX8_island_28 : decode cX8_island 28 = .ok (.iconst 1, 1) := by decide +kernel
theorem dX8_island_29 : decode cX8_island 29 = .ok (.goto 4, 3) := by decide +kernel
theorem dX8_island_32 : decode cX8_island 32 = .ok (.iconst 0, 1) := by decide +kernel
theorem dX8_island_33 : decode cX8_island 33 = .ok (.ireturn, 1) := by decide +kernel
theorem dX8_raise_0 : decode cX8_raise 0 = .ok (.aload_n 0, 1) := by decide +kernel
theorem dX8_raise_1 : decode cX8_raise 1 = .ok (.invokevirtual 156, 3) := by decide +kernel
theorem dX8_raise_4 : decode cX8_raise 4 = .ok (.ifCond .eq 10, 3) := by decide +kernel
theorem dX8_raise_7 : decode cX8_raise 7 = .ok (.iload_n 1, 1) := by decide +kernel
theorem dX8_raise_8 : decode cX8_raise 8 = .ok (.invokestatic 153, 3) := by decide +kernel
theorem dX8_raise_11 : decode cX8_raise 11 = .ok (.ifCond .ne 6, 3) := by decide +kernel
theorem dX8_raise_14 : decode cX8_raise 14 = .ok (.bipush (-101), 2) := by decide +kernel
theorem dX8_raise_16 : decode cX8_raise 16 = .ok (.ireturn, 1) := by decide +kernel
theorem dX8_raise_17 : decode cX8_raise 17 = .ok (.aload_n 0, 1) := by decide +kernel
theorem dX8_raise_18 : decode cX8_raise 18 = .ok (.getfield 25, 3) := by decide +kernel
theorem dX8_raise_21 : decode cX8_raise 21 = .ok (.iload_n 1, 1) := by decide +kernel
theorem dX8_raise_22 : decode cX8_raise 22 = .ok (.invokevirtual 159, 3) := by decide +kernel
theorem dX8_raise_25 : decode cX8_raise 25 = .ok (.ifCond .eq 7, 3) := by decide +kernel
theorem dX8_raise_28 : decode cX8_raise 28 = .ok (.iconst 1, 1) := by decide +kernel
theorem dX8_raise_29 : decode cX8_raise 29 = .ok (.goto 4, 3) := by decide +kernel
theorem dX8_raise_32 : decode cX8_raise 32 = .ok (.iconst 0, 1) := by decide +kernel
theorem dX8_raise_33 : decode cX8_raise 33 = .ok (.istore_n 3, 1) := by decide +kernel
theorem dX8_raise_34 : decode cX8_raise 34 = .ok (.aload_n 0, 1) := by decide +kernel
theorem dX8_raise_35 : decode cX8_raise 35 = .ok (.getfield 25, 3) := by decide +kernel
theorem dX8_raise_38 : decode cX8_raise 38 = .ok (.iload_n 1, 1) := by decide +kernel
theorem dX8_raise_39 : decode cX8_raise 39 = .ok (.iload_n 2, 1) := by decide +kernel
theorem dX8_raise_40 : decode cX8_raise 40 = .ok (.invokevirtual 105, 3) := by decide +kernel
theorem dX8_raise_43 : decode cX8_raise 43 = .ok (.iload_n 3, 1) := by decide +kernel
theorem dX8_raise_44 : decode cX8_raise 44 = .ok (.ireturn, 1) := by decide +kernel
theorem dX8_step_0 : decode cX8_step 0 = .ok (.iload_n 1, 1) := by decide +kernel
theorem dX8_step_1 : decode cX8_step 1 = .ok (.invokestatic 162, 3) := by decide +kernel
theorem dX8_step_4 : decode cX8_step 4 = .ok (.ifCond .ne 6, 3) := by decide +kernel
theorem dX8_step_7 : decode cX8_step 7 = .ok (.bipush (-102), 2) := by decide +kernel
theorem dX8_step_9 : decode cX8_step 9 = .ok (.ireturn, 1) := by decide +kernel
theorem dX8_step_10 : decode cX8_step 10 = .ok (.aload_n 0, 1) := by decide +kernel
theorem dX8_step_11 : decode cX8_step 11 = .ok (.invokevirtual 156, 3) := by decide +kernel
theorem dX8_step_14 : decode cX8_step 14 = .ok (.ifCond .ne 6, 3) := by decide +kernel
theorem dX8_step_17 : decode cX8_step 17 = .ok (.bipush (-103), 2) := by decide +kernel
theorem dX8_step_19 : decode cX8_step 19 = .ok (.ireturn, 1) := by decide +kernel
theorem dX8_step_20 : decode cX8_step 20 = .ok (.aload_n 0, 1) := by decide +kernel
theorem dX8_step_21 : decode cX8_step 21 = .ok (.getfield 25, 3) := by decide +kernel
theorem dX8_step_24 : decode cX8_step 24 = .ok (.iload_n 1, 1) := by decide +kernel
theorem dX8_step_25 : decode cX8_step 25 = .ok (.invokevirtual 165, 3) := by decide +kernel
theorem dX8_step_28 : decode cX8_step 28 = .ok (.ireturn, 1) := by decide +kernel
theorem dX8_follow_0 : decode cX8_follow 0 = .ok (.aload_n 0, 1) := by decide +kernel
theorem dX8_follow_1 : decode cX8_follow 1 = .ok (.iload_n 1, 1) := by decide +kernel
theorem dX8_follow_2 : decode cX8_follow 2 = .ok (.invokevirtual 109, 3) := by decide +kernel
theorem dX8_follow_5 : decode cX8_follow 5 = .ok (.ifCond .ne 6, 3) := by decide +kernel
theorem dX8_follow_8 : decode cX8_follow 8 = .ok (.bipush (-101), 2) := by decide +kernel
theorem dX8_follow_10 : decode cX8_follow 10 = .ok (.ireturn, 1) := by decide +kernel
theorem dX8_follow_11 : decode cX8_follow 11 = .ok (.aload_n 0, 1) := by decide +kernel
theorem dX8_follow_12 : decode cX8_follow 12 = .ok (.getfield 25, 3) := by decide +kernel
theorem dX8_follow_15 : decode cX8_follow 15 = .ok (.aload_n 0, 1) := by decide +kernel
theorem dX8_follow_16 : decode cX8_follow 16 = .ok (.iload_n 1, 1) := by decide +kernel
theorem dX8_follow_17 : decode cX8_follow 17 = .ok (.aload_n 0, 1) := by decide +kernel
theorem dX8_follow_18 : decode cX8_follow 18 = .ok (.getfield 25, 3) := by decide +kernel
theorem dX8_follow_21 : decode cX8_follow 21 = .ok (.getfield 102, 3) := by decide +kernel
theorem dX8_follow_24 : decode cX8_follow 24 = .ok (.invokevirtual 116, 3) := by decide +kernel
theorem dX8_follow_27 : decode cX8_follow 27 = .ok (.invokevirtual 165, 3) := by decide +kernel
theorem dX8_follow_30 : decode cX8_follow 30 = .ok (.ireturn, 1) := by decide +kernel
theorem dX8_homing_0 : decode cX8_homing 0 = .ok (.aload_n 0, 1) := by decide +kernel
theorem dX8_homing_1 : decode cX8_homing 1 = .ok (.invokevirtual 156, 3) := by decide +kernel
theorem dX8_homing_4 : decode cX8_homing 4 = .ok (.ifCond .eq 10, 3) := by decide +kernel
theorem dX8_homing_7 : decode cX8_homing 7 = .ok (.aload_n 0, 1) := by decide +kernel
theorem dX8_homing_8 : decode cX8_homing 8 = .ok (.invokevirtual 168, 3) := by decide +kernel
theorem dX8_homing_11 : decode cX8_homing 11 = .ok (.goto 5, 3) := by decide +kernel
theorem dX8_homing_14 : decode cX8_homing 14 = .ok (.bipush (-103), 2) := by decide +kernel
theorem dX8_homing_16 : decode cX8_homing 16 = .ok (.ireturn, 1) := by decide +kernel
theorem dX8_see_0 : decode cX8_see 0 = .ok (.aload_n 0, 1) := by decide +kernel
theorem dX8_see_1 : decode cX8_see 1 = .ok (.iload_n 1, 1) := by decide +kernel
theorem dX8_see_2 : decode cX8_see 2 = .ok (.invokevirtual 109, 3) := by decide +kernel
theorem dX8_see_5 : decode cX8_see 5 = .ok (.ifCond .eq 10, 3) := by decide +kernel
theorem dX8_see_8 : decode cX8_see 8 = .ok (.iload_n 2, 1) := by decide +kernel
theorem dX8_see_9 : decode cX8_see 9 = .ok (.invokestatic 153, 3) := by decide +kernel
theorem dX8_see_12 : decode cX8_see 12 = .ok (.ifCond .ne 6, 3) := by decide +kernel
theorem dX8_see_15 : decode cX8_see 15 = .ok (.bipush (-101), 2) := by decide +kernel
theorem dX8_see_17 : decode cX8_see 17 = .ok (.ireturn, 1) := by decide +kernel
theorem dX8_see_18 : decode cX8_see 18 = .ok (.iload_n 3, 1) := by decide +kernel
theorem dX8_see_19 : decode cX8_see 19 = .ok (.invokestatic 162, 3) := by decide +kernel
theorem dX8_see_22 : decode cX8_see 22 = .ok (.ifCond .ne 6, 3) := by decide +kernel
theorem dX8_see_25 : decode cX8_see 25 = .ok (.bipush (-102), 2) := by decide +kernel
theorem dX8_see_27 : decode cX8_see 27 = .ok (.ireturn, 1) := by decide +kernel
theorem dX8_see_28 : decode cX8_see 28 = .ok (.aload_n 0, 1) := by decide +kernel
theorem dX8_see_29 : decode cX8_see 29 = .ok (.getfield 25, 3) := by decide +kernel
theorem dX8_see_32 : decode cX8_see 32 = .ok (.getfield 171, 3) := by decide +kernel
theorem dX8_see_35 : decode cX8_see 35 = .ok (.bipush 6, 2) := by decide +kernel
theorem dX8_see_37 : decode cX8_see 37 = .ok (.if_icmp .lt 6, 3) := by decide +kernel
theorem dX8_see_40 : decode cX8_see 40 = .ok (.bipush (-104), 2) := by decide +kernel
theorem dX8_see_42 : decode cX8_see 42 = .ok (.ireturn, 1) := by decide +kernel
theorem dX8_see_43 : decode cX8_see 43 = .ok (.aload_n 0, 1) := by decide +kernel
theorem dX8_see_44 : decode cX8_see 44 = .ok (.getfield 25, 3) := by decide +kernel
theorem dX8_see_47 : decode cX8_see 47 = .ok (.iload_n 1, 1) := by decide +kernel
theorem dX8_see_48 : decode cX8_see 48 = .ok (.iload_n 2, 1) := by decide +kernel
theorem dX8_see_49 : decode cX8_see 49 = .ok (.iload_n 3, 1) := by decide +kernel
theorem dX8_see_50 : decode cX8_see 50 = .ok (.invokevirtual 174, 3) := by decide +kernel
theorem dX8_see_53 : decode cX8_see 53 = .ok (.aload_n 0, 1) := by decide +kernel
theorem dX8_see_54 : decode cX8_see 54 = .ok (.getfield 25, 3) := by decide +kernel
theorem dX8_see_57 : decode cX8_see 57 = .ok (.getfield 171, 3) := by decide +kernel
theorem dX8_see_60 : decode cX8_see 60 = .ok (.ireturn, 1) := by decide +kernel
theorem dX8_forget_0 : decode cX8_forget 0 = .ok (.aload_n 0, 1) := by decide +kernel
theorem dX8_forget_1 : decode cX8_forget 1 = .ok (.getfield 25, 3) := by decide +kernel
theorem dX8_forget_4 : decode cX8_forget 4 = .ok (.getfield 171, 3) := by decide +kernel
theorem dX8_forget_7 : decode cX8_forget 7 = .ok (.istore_n 1, 1) := by decide +kernel
theorem dX8_forget_8 : decode cX8_forget 8 = .ok (.aload_n 0, 1) := by decide +kernel
theorem dX8_forget_9 : decode cX8_forget 9 = .ok (.getfield 25, 3) := by decide +kernel
theorem dX8_forget_12 : decode cX8_forget 12 = .ok (.iconst 0, 1) := by decide +kernel
theorem dX8_forget_13 : decode cX8_forget 13 = .ok (.putfield 171, 3) := by decide +kernel
theorem dX8_forget_16 : decode cX8_forget 16 = .ok (.iload_n 1, 1) := by decide +kernel
theorem dX8_forget_17 : decode cX8_forget 17 = .ok (.ireturn, 1) := by decide +kernel
theorem dX8_storms_0 : decode cX8_storms 0 = .ok (.iload_n 1, 1) := by decide +kernel
theorem dX8_storms_1 : decode cX8_storms 1 = .ok (.iconst 1, 1) := by decide +kernel
theorem dX8_storms_2 : decode cX8_storms 2 = .ok (.if_icmp .lt 22, 3) := by decide +kernel
theorem dX8_storms_5 : decode cX8_storms 5 = .ok (.iload_n 1, 1) := by decide +kernel
theorem dX8_storms_6 : decode cX8_storms 6 = .ok (.bipush 60, 2) := by decide +kernel
theorem dX8_storms_8 : decode cX8_storms 8 = .ok (.if_icmp .gt 16, 3) := by decide +kernel
theorem dX8_storms_11 : decode cX8_storms 11 = .ok (.iload_n 2, 1) := by decide +kernel
theorem dX8_storms_12 : decode cX8_storms 12 = .ok (.ifCond .lt 12, 3) := by decide +kernel
theorem dX8_storms_15 : decode cX8_storms 15 = .ok (.iload_n 3, 1) := by decide +kernel
theorem dX8_storms_16 : decode cX8_storms 16 = .ok (.ifCond .lt 8, 3) := by decide +kernel
theorem dX8_storms_19 : decode cX8_storms 19 = .ok (.iload_n 3, 1) := by decide +kernel
theorem dX8_storms_20 : decode cX8_storms 20 = .ok (.iconst 2, 1) := by decide +kernel
theorem dX8_storms_21 : decode cX8_storms 21 = .ok (.if_icmp .le 6, 3) := by decide +kernel
theorem dX8_storms_24 : decode cX8_storms 24 = .ok (.bipush (-102), 2) := by decide +kernel
theorem dX8_storms_26 : decode cX8_storms 26 = .ok (.ireturn, 1) := by decide +kernel
theorem dX8_storms_27 : decode cX8_storms 27 = .ok (.aload_n 0, 1) := by decide +kernel
theorem dX8_storms_28 : decode cX8_storms 28 = .ok (.invokevirtual 156, 3) := by decide +kernel
theorem dX8_storms_31 : decode cX8_storms 31 = .ok (.ifCond .ne 6, 3) := by decide +kernel
theorem dX8_storms_34 : decode cX8_storms 34 = .ok (.bipush (-103), 2) := by decide +kernel
theorem dX8_storms_36 : decode cX8_storms 36 = .ok (.ireturn, 1) := by decide +kernel
theorem dX8_storms_37 : decode cX8_storms 37 = .ok (.aload_n 0, 1) := by decide +kernel
theorem dX8_storms_38 : decode cX8_storms 38 = .ok (.getfield 25, 3) := by decide +kernel
theorem dX8_storms_41 : decode cX8_storms 41 = .ok (.getfield 102, 3) := by decide +kernel
theorem dX8_storms_44 : decode cX8_storms 44 = .ok (.istore 4, 2) := by decide +kernel
theorem dX8_storms_46 : decode cX8_storms 46 = .ok (.iconst 0, 1) := by decide +kernel
theorem dX8_storms_47 : decode cX8_storms 47 = .ok (.istore 5, 2) := by decide +kernel
theorem dX8_storms_49 : decode cX8_storms 49 = .ok (.iload_n 2, 1) := by decide +kernel
theorem dX8_storms_50 : decode cX8_storms 50 = .ok (.istore 6, 2) := by decide +kernel
theorem dX8_storms_52 : decode cX8_storms 52 = .ok (.iconst 0, 1) := by decide +kernel
theorem dX8_storms_53 : decode cX8_storms 53 = .ok (.istore 7, 2) := by decide +kernel
theorem dX8_storms_55 : decode cX8_storms 55 = .ok (.iload 7, 2) := by decide +kernel
theorem dX8_storms_57 : decode cX8_storms 57 = .ok (.iload_n 1, 1) := by decide +kernel
theorem dX8_storms_58 : decode cX8_storms 58 = .ok (.if_icmp .ge 46, 3) := by decide +kernel
theorem dX8_storms_61 : decode cX8_storms 61 = .ok (.iload 6, 2) := by decide +kernel
theorem dX8_storms_63 : decode cX8_storms 63 = .ok (.invokestatic 178, 3) := by decide +kernel
theorem dX8_storms_66 : decode cX8_storms 66 = .ok (.istore 6, 2) := by decide +kernel
theorem dX8_storms_68 : decode cX8_storms 68 = .ok (.aload_n 0, 1) := by decide +kernel
theorem dX8_storms_69 : decode cX8_storms 69 = .ok (.getfield 25, 3) := by decide +kernel
theorem dX8_storms_72 : decode cX8_storms 72 = .ok (.iload 4, 2) := by decide +kernel
theorem dX8_storms_74 : decode cX8_storms 74 = .ok (.iload 6, 2) := by decide +kernel
theorem dX8_storms_76 : decode cX8_storms 76 = .ok (.ldc 181, 2) := by decide +kernel
theorem dX8_storms_78 : decode cX8_storms 78 = .ok (.idiv, 1) := by decide +kernel
theorem dX8_storms_79 : decode cX8_storms 79 = .ok (.bipush 9, 2) := by decide +kernel
theorem dX8_storms_81 : decode cX8_storms 81 = .ok (.irem, 1) := by decide +kernel
theorem dX8_storms_82 : decode cX8_storms 82 = .ok (.invokevirtual 182, 3) := by decide +kernel
theorem dX8_storms_85 : decode cX8_storms 85 = .ok (.istore 4, 2) := by decide +kernel
theorem dX8_storms_87 : decode cX8_storms 87 = .ok (.iload 5, 2) := by decide +kernel
theorem dX8_storms_89 : decode cX8_storms 89 = .ok (.aload_n 0, 1) := by decide +kernel
theorem dX8_storms_90 : decode cX8_storms 90 = .ok (.iload 4, 2) := by decide +kernel
theorem dX8_storms_92 : decode cX8_storms 92 = .ok (.invokevirtual 185, 3) := by decide +kernel
theorem dX8_storms_95 : decode cX8_storms 95 = .ok (.iadd, 1) := by decide +kernel
theorem dX8_storms_96 : decode cX8_storms 96 = .ok (.istore 5, 2) := by decide +kernel
theorem dX8_storms_98 : decode cX8_storms 98 = .ok (.iinc 7 1, 3) := by decide +kernel
theorem dX8_storms_101 : decode cX8_storms 101 = .ok (.goto (-46), 3) := by decide +kernel
theorem dX8_storms_104 : decode cX8_storms 104 = .ok (.iload_n 3, 1) := by decide +kernel
theorem dX8_storms_105 : decode cX8_storms 105 = .ok (.ifCond .ne 8, 3) := by decide +kernel
theorem dX8_storms_108 : decode cX8_storms 108 = .ok (.iload 4, 2) := by decide +kernel
theorem dX8_storms_110 : decode cX8_storms 110 = .ok (.goto 15, 3) := by decide +kernel
theorem dX8_storms_113 : decode cX8_storms 113 = .ok (.iload_n 3, 1) := by decide +kernel
theorem dX8_storms_114 : decode cX8_storms 114 = .ok (.iconst 1, 1) := by decide +kernel
theorem dX8_storms_115 : decode cX8_storms 115 = .ok (.if_icmp .ne 8, 3) := by decide +kernel
theorem dX8_storms_118 : decode cX8_storms 118 = .ok (.iload 5, 2) := by decide +kernel
theorem dX8_storms_120 : decode cX8_storms 120 = .ok (.goto 5, 3) := by decide +kernel
theorem dX8_storms_123 : decode cX8_storms 123 = .ok (.iload 6, 2) := by decide +kernel
theorem dX8_storms_125 : decode cX8_storms 125 = .ok (.ireturn, 1) := by decide +kernel
theorem dX8_image_0 : decode cX8_image 0 = .ok (.aload_n 0, 1) := by decide +kernel
theorem dX8_image_1 : decode cX8_image 1 = .ok (.invokevirtual 156, 3) := by decide +kernel
theorem dX8_image_4 : decode cX8_image 4 = .ok (.ifCond .ne 6, 3) := by decide +kernel
theorem dX8_image_7 : decode cX8_image 7 = .ok (.bipush (-103), 2) := by decide +kernel
theorem dX8_image_9 : decode cX8_image 9 = .ok (.ireturn, 1) := by decide +kernel
theorem dX8_image_10 : decode cX8_image 10 = .ok (.aload_n 0, 1) := by decide +kernel
theorem dX8_image_11 : decode cX8_image 11 = .ok (.getfield 29, 3) := by decide +kernel
theorem dX8_image_14 : decode cX8_image 14 = .ok (.aload_n 0, 1) := by decide +kernel
theorem dX8_image_15 : decode cX8_image 15 = .ok (.getfield 25, 3) := by decide +kernel
theorem dX8_image_18 : decode cX8_image 18 = .ok (.invokevirtual 188, 3) := by decide +kernel
theorem dX8_image_21 : decode cX8_image 21 = .ok (.aload_n 0, 1) := by decide +kernel
theorem dX8_image_22 : decode cX8_image 22 = .ok (.iconst 1, 1) := by decide +kernel
theorem dX8_image_23 : decode cX8_image 23 = .ok (.putfield 56, 3) := by decide +kernel
theorem dX8_image_26 : decode cX8_image 26 = .ok (.aload_n 0, 1) := by decide +kernel
theorem dX8_image_27 : decode cX8_image 27 = .ok (.getfield 25, 3) := by decide +kernel
theorem dX8_image_30 : decode cX8_image 30 = .ok (.getfield 192, 3) := by decide +kernel
theorem dX8_image_33 : decode cX8_image 33 = .ok (.ireturn, 1) := by decide +kernel
theorem dX8_restore_0 : decode cX8_restore 0 = .ok (.aload_n 0, 1) := by decide +kernel
theorem dX8_restore_1 : decode cX8_restore 1 = .ok (.getfield 56, 3) := by decide +kernel
theorem dX8_restore_4 : decode cX8_restore 4 = .ok (.ifCond .ne 6, 3) := by decide +kernel
theorem dX8_restore_7 : decode cX8_restore 7 = .ok (.bipush (-103), 2) := by decide +kernel
theorem dX8_restore_9 : decode cX8_restore 9 = .ok (.ireturn, 1) := by decide +kernel
theorem dX8_restore_10 : decode cX8_restore 10 = .ok (.aload_n 0, 1) := by decide +kernel
theorem dX8_restore_11 : decode cX8_restore 11 = .ok (.getfield 25, 3) := by decide +kernel
theorem dX8_restore_14 : decode cX8_restore 14 = .ok (.aload_n 0, 1) := by decide +kernel
theorem dX8_restore_15 : decode cX8_restore 15 = .ok (.getfield 29, 3) := by decide +kernel
theorem dX8_restore_18 : decode cX8_restore 18 = .ok (.invokevirtual 188, 3) := by decide +kernel
theorem dX8_restore_21 : decode cX8_restore 21 = .ok (.aload_n 0, 1) := by decide +kernel
theorem dX8_restore_22 : decode cX8_restore 22 = .ok (.getfield 25, 3) := by decide +kernel
theorem dX8_restore_25 : decode cX8_restore 25 = .ok (.getfield 192, 3) := by decide +kernel
theorem dX8_restore_28 : decode cX8_restore 28 = .ok (.ireturn, 1) := by decide +kernel
theorem dX8_count_0 : decode cX8_count 0 = .ok (.iload_n 1, 1) := by decide +kernel
theorem dX8_count_1 : decode cX8_count 1 = .ok (.tableswitch 124 0 8 #[51, 56, 64, 75, 83, 91, 103, 111, 119], 51) := by decide +kernel
theorem dX8_count_52 : decode cX8_count 52 = .ok (.aload_n 0, 1) := by decide +kernel
theorem dX8_count_53 : decode cX8_count 53 = .ok (.getfield 49, 3) := by decide +kernel
theorem dX8_count_56 : decode cX8_count 56 = .ok (.ireturn, 1) := by decide +kernel
theorem dX8_count_57 : decode cX8_count 57 = .ok (.aload_n 0, 1) := by decide +kernel
theorem dX8_count_58 : decode cX8_count 58 = .ok (.getfield 25, 3) := by decide +kernel
theorem dX8_count_61 : decode cX8_count 61 = .ok (.getfield 102, 3) := by decide +kernel
theorem dX8_count_64 : decode cX8_count 64 = .ok (.ireturn, 1) := by decide +kernel
theorem dX8_count_65 : decode cX8_count 65 = .ok (.aload_n 0, 1) := by decide +kernel
theorem dX8_count_66 : decode cX8_count 66 = .ok (.getfield 25, 3) := by decide +kernel
theorem dX8_count_69 : decode cX8_count 69 = .ok (.getfield 193, 3) := by decide +kernel
theorem dX8_count_72 : decode cX8_count 72 = .ok (.invokestatic 136, 3) := by decide +kernel
theorem dX8_count_75 : decode cX8_count 75 = .ok (.ireturn, 1) := by decide +kernel
theorem dX8_count_76 : decode cX8_count 76 = .ok (.aload_n 0, 1) := by decide +kernel
theorem dX8_count_77 : decode cX8_count 77 = .ok (.getfield 25, 3) := by decide +kernel
theorem dX8_count_80 : decode cX8_count 80 = .ok (.getfield 192, 3) := by decide +kernel
theorem dX8_count_83 : decode cX8_count 83 = .ok (.ireturn, 1) := by decide +kernel
theorem dX8_count_84 : decode cX8_count 84 = .ok (.aload_n 0, 1) := by decide +kernel
theorem dX8_count_85 : decode cX8_count 85 = .ok (.getfield 25, 3) := by decide +kernel
theorem dX8_count_88 : decode cX8_count 88 = .ok (.getfield 197, 3) := by decide +kernel
theorem dX8_count_91 : decode cX8_count 91 = .ok (.ireturn, 1) := by decide +kernel
theorem dX8_count_92 : decode cX8_count 92 = .ok (.aload_n 0, 1) := by decide +kernel
theorem dX8_count_93 : decode cX8_count 93 = .ok (.aload_n 0, 1) := by decide +kernel
theorem dX8_count_94 : decode cX8_count 94 = .ok (.getfield 25, 3) := by decide +kernel
theorem dX8_count_97 : decode cX8_count 97 = .ok (.getfield 102, 3) := by decide +kernel
theorem dX8_count_100 : decode cX8_count 100 = .ok (.invokevirtual 185, 3) := by decide +kernel
end
section
theorem dX8_count_103 : decode cX8_count 103 = .ok (.ireturn, 1) := by decide +kernel
theorem dX8_count_104 : decode cX8_count 104 = .ok (.aload_n 0, 1) := by decide +kernel
theorem dX8_count_105 : decode cX8_count 105 = .ok (.getfield 25, 3) := by decide +kernel
theorem dX8_count_108 : decode cX8_count 108 = .ok (.getfield 171, 3) := by decide +kernel
theorem dX8_count_111 : decode cX8_count 111 = .ok (.ireturn, 1) := by decide +kernel
theorem dX8_count_112 : decode cX8_count 112 = .ok (.aload_n 0, 1) := by decide +kernel
theorem dX8_count_113 : decode cX8_count 113 = .ok (.getfield 10, 3) := by decide +kernel
theorem dX8_count_116 : decode cX8_count 116 = .ok (.getfield 61, 3) := by decide +kernel
theorem dX8_count_119 : decode cX8_count 119 = .ok (.ireturn, 1) := by decide +kernel
theorem dX8_count_120 : decode cX8_count 120 = .ok (.aload_n 0, 1) := by decide +kernel
theorem dX8_count_121 : decode cX8_count 121 = .ok (.getfield 53, 3) := by decide +kernel
theorem dX8_count_124 : decode cX8_count 124 = .ok (.ireturn, 1) := by decide +kernel
theorem dX8_count_125 : decode cX8_count 125 = .ok (.bipush (-102), 2) := by decide +kernel
theorem dX8_count_127 : decode cX8_count 127 = .ok (.ireturn, 1) := by decide +kernel
theorem dX8_digest_0 : decode cX8_digest 0 = .ok (.ldc2_w 200, 3) := by decide +kernel
theorem dX8_digest_3 : decode cX8_digest 3 = .ok (.lstore_n 1, 1) := by decide +kernel
theorem dX8_digest_4 : decode cX8_digest 4 = .ok (.iconst 0, 1) := by decide +kernel
theorem dX8_digest_5 : decode cX8_digest 5 = .ok (.istore_n 3, 1) := by decide +kernel
theorem dX8_digest_6 : decode cX8_digest 6 = .ok (.iload_n 3, 1) := by decide +kernel
theorem dX8_digest_7 : decode cX8_digest 7 = .ok (.aload_n 0, 1) := by decide +kernel
theorem dX8_digest_8 : decode cX8_digest 8 = .ok (.getfield 49, 3) := by decide +kernel
theorem dX8_digest_11 : decode cX8_digest 11 = .ok (.if_icmp .ge 16, 3) := by decide +kernel
theorem dX8_digest_14 : decode cX8_digest 14 = .ok (.aload_n 0, 1) := by decide +kernel
theorem dX8_digest_15 : decode cX8_digest 15 = .ok (.lload_n 1, 1) := by decide +kernel
theorem dX8_digest_16 : decode cX8_digest 16 = .ok (.iload_n 3, 1) := by decide +kernel
theorem dX8_digest_17 : decode cX8_digest 17 = .ok (.invokevirtual 202, 3) := by decide +kernel
theorem dX8_digest_20 : decode cX8_digest 20 = .ok (.lstore_n 1, 1) := by decide +kernel
theorem dX8_digest_21 : decode cX8_digest 21 = .ok (.iinc 3 1, 3) := by decide +kernel
theorem dX8_digest_24 : decode cX8_digest 24 = .ok (.goto (-18), 3) := by decide +kernel
theorem dX8_digest_27 : decode cX8_digest 27 = .ok (.aload_n 0, 1) := by decide +kernel
theorem dX8_digest_28 : decode cX8_digest 28 = .ok (.invokevirtual 156, 3) := by decide +kernel
theorem dX8_digest_31 : decode cX8_digest 31 = .ok (.ifCond .eq 9, 3) := by decide +kernel
theorem dX8_digest_34 : decode cX8_digest 34 = .ok (.aload_n 0, 1) := by decide +kernel
theorem dX8_digest_35 : decode cX8_digest 35 = .ok (.lload_n 1, 1) := by decide +kernel
theorem dX8_digest_36 : decode cX8_digest 36 = .ok (.invokevirtual 206, 3) := by decide +kernel
theorem dX8_digest_39 : decode cX8_digest 39 = .ok (.lstore_n 1, 1) := by decide +kernel
theorem dX8_digest_40 : decode cX8_digest 40 = .ok (.iconst 0, 1) := by decide +kernel
theorem dX8_digest_41 : decode cX8_digest 41 = .ok (.istore_n 3, 1) := by decide +kernel
theorem dX8_digest_42 : decode cX8_digest 42 = .ok (.iload_n 3, 1) := by decide +kernel
theorem dX8_digest_43 : decode cX8_digest 43 = .ok (.aload_n 0, 1) := by decide +kernel
theorem dX8_digest_44 : decode cX8_digest 44 = .ok (.getfield 10, 3) := by decide +kernel
theorem dX8_digest_47 : decode cX8_digest 47 = .ok (.getfield 61, 3) := by decide +kernel
theorem dX8_digest_50 : decode cX8_digest 50 = .ok (.if_icmp .ge 24, 3) := by decide +kernel
theorem dX8_digest_53 : decode cX8_digest 53 = .ok (.lload_n 1, 1) := by decide +kernel
theorem dX8_digest_54 : decode cX8_digest 54 = .ok (.aload_n 0, 1) := by decide +kernel
theorem dX8_digest_55 : decode cX8_digest 55 = .ok (.getfield 10, 3) := by decide +kernel
theorem dX8_digest_58 : decode cX8_digest 58 = .ok (.getfield 210, 3) := by decide +kernel
theorem dX8_digest_61 : decode cX8_digest 61 = .ok (.iload_n 3, 1) := by decide +kernel
theorem dX8_digest_62 : decode cX8_digest 62 = .ok (.caload, 1) := by decide +kernel
theorem dX8_digest_63 : decode cX8_digest 63 = .ok (.i2l, 1) := by decide +kernel
theorem dX8_digest_64 : decode cX8_digest 64 = .ok (.invokestatic 214, 3) := by decide +kernel
theorem dX8_digest_67 : decode cX8_digest 67 = .ok (.lstore_n 1, 1) := by decide +kernel
theorem dX8_digest_68 : decode cX8_digest 68 = .ok (.iinc 3 1, 3) := by decide +kernel
theorem dX8_digest_71 : decode cX8_digest 71 = .ok (.goto (-29), 3) := by decide +kernel
theorem dX8_digest_74 : decode cX8_digest 74 = .ok (.iconst 0, 1) := by decide +kernel
theorem dX8_digest_75 : decode cX8_digest 75 = .ok (.istore_n 3, 1) := by decide +kernel
theorem dX8_digest_76 : decode cX8_digest 76 = .ok (.iload_n 3, 1) := by decide +kernel
theorem dX8_digest_77 : decode cX8_digest 77 = .ok (.bipush 8, 2) := by decide +kernel
theorem dX8_digest_79 : decode cX8_digest 79 = .ok (.if_icmp .gt 20, 3) := by decide +kernel
theorem dX8_digest_82 : decode cX8_digest 82 = .ok (.lload_n 1, 1) := by decide +kernel
theorem dX8_digest_83 : decode cX8_digest 83 = .ok (.aload_n 0, 1) := by decide +kernel
theorem dX8_digest_84 : decode cX8_digest 84 = .ok (.iload_n 3, 1) := by decide +kernel
theorem dX8_digest_85 : decode cX8_digest 85 = .ok (.invokevirtual 218, 3) := by decide +kernel
theorem dX8_digest_88 : decode cX8_digest 88 = .ok (.i2l, 1) := by decide +kernel
theorem dX8_digest_89 : decode cX8_digest 89 = .ok (.invokestatic 214, 3) := by decide +kernel
theorem dX8_digest_92 : decode cX8_digest 92 = .ok (.lstore_n 1, 1) := by decide +kernel
theorem dX8_digest_93 : decode cX8_digest 93 = .ok (.iinc 3 1, 3) := by decide +kernel
theorem dX8_digest_96 : decode cX8_digest 96 = .ok (.goto (-20), 3) := by decide +kernel
theorem dX8_digest_99 : decode cX8_digest 99 = .ok (.lload_n 1, 1) := by decide +kernel
theorem dX8_digest_100 : decode cX8_digest 100 = .ok (.lreturn, 1) := by decide +kernel
theorem dX8_with_0 : decode cX8_with 0 = .ok (.ldc2_w 221, 3) := by decide +kernel
theorem dX8_with_3 : decode cX8_with 3 = .ok (.lload_n 0, 1) := by decide +kernel
theorem dX8_with_4 : decode cX8_with 4 = .ok (.lmul, 1) := by decide +kernel
theorem dX8_with_5 : decode cX8_with 5 = .ok (.lload_n 2, 1) := by decide +kernel
theorem dX8_with_6 : decode cX8_with 6 = .ok (.ladd, 1) := by decide +kernel
theorem dX8_with_7 : decode cX8_with 7 = .ok (.lreturn, 1) := by decide +kernel
theorem dX8_withNeedle_0 : decode cX8_withNeedle 0 = .ok (.lload_n 1, 1) := by decide +kernel
theorem dX8_withNeedle_1 : decode cX8_withNeedle 1 = .ok (.lstore 4, 2) := by decide +kernel
theorem dX8_withNeedle_3 : decode cX8_withNeedle 3 = .ok (.iconst 0, 1) := by decide +kernel
theorem dX8_withNeedle_4 : decode cX8_withNeedle 4 = .ok (.istore 6, 2) := by decide +kernel
theorem dX8_withNeedle_6 : decode cX8_withNeedle 6 = .ok (.iload 6, 2) := by decide +kernel
theorem dX8_withNeedle_8 : decode cX8_withNeedle 8 = .ok (.bipush 7, 2) := by decide +kernel
theorem dX8_withNeedle_10 : decode cX8_withNeedle 10 = .ok (.if_icmp .gt 24, 3) := by decide +kernel
theorem dX8_withNeedle_13 : decode cX8_withNeedle 13 = .ok (.lload 4, 2) := by decide +kernel
theorem dX8_withNeedle_15 : decode cX8_withNeedle 15 = .ok (.aload_n 0, 1) := by decide +kernel
theorem dX8_withNeedle_16 : decode cX8_withNeedle 16 = .ok (.iload_n 3, 1) := by decide +kernel
theorem dX8_withNeedle_17 : decode cX8_withNeedle 17 = .ok (.iload 6, 2) := by decide +kernel
theorem dX8_withNeedle_19 : decode cX8_withNeedle 19 = .ok (.invokevirtual 223, 3) := by decide +kernel
theorem dX8_withNeedle_22 : decode cX8_withNeedle 22 = .ok (.i2l, 1) := by decide +kernel
theorem dX8_withNeedle_23 : decode cX8_withNeedle 23 = .ok (.invokestatic 214, 3) := by decide +kernel
theorem dX8_withNeedle_26 : decode cX8_withNeedle 26 = .ok (.lstore 4, 2) := by decide +kernel
theorem dX8_withNeedle_28 : decode cX8_withNeedle 28 = .ok (.iinc 6 1, 3) := by decide +kernel
theorem dX8_withNeedle_31 : decode cX8_withNeedle 31 = .ok (.goto (-25), 3) := by decide +kernel
theorem dX8_withNeedle_34 : decode cX8_withNeedle 34 = .ok (.lload 4, 2) := by decide +kernel
theorem dX8_withNeedle_36 : decode cX8_withNeedle 36 = .ok (.aload_n 0, 1) := by decide +kernel
theorem dX8_withNeedle_37 : decode cX8_withNeedle 37 = .ok (.iload_n 3, 1) := by decide +kernel
theorem dX8_withNeedle_38 : decode cX8_withNeedle 38 = .ok (.iconst 0, 1) := by decide +kernel
theorem dX8_withNeedle_39 : decode cX8_withNeedle 39 = .ok (.invokevirtual 116, 3) := by decide +kernel
theorem dX8_withNeedle_42 : decode cX8_withNeedle 42 = .ok (.i2l, 1) := by decide +kernel
theorem dX8_withNeedle_43 : decode cX8_withNeedle 43 = .ok (.invokestatic 214, 3) := by decide +kernel
theorem dX8_withNeedle_46 : decode cX8_withNeedle 46 = .ok (.lstore 4, 2) := by decide +kernel
theorem dX8_withNeedle_48 : decode cX8_withNeedle 48 = .ok (.lload 4, 2) := by decide +kernel
theorem dX8_withNeedle_50 : decode cX8_withNeedle 50 = .ok (.aload_n 0, 1) := by decide +kernel
theorem dX8_withNeedle_51 : decode cX8_withNeedle 51 = .ok (.iload_n 3, 1) := by decide +kernel
theorem dX8_withNeedle_52 : decode cX8_withNeedle 52 = .ok (.bipush 14, 2) := by decide +kernel
theorem dX8_withNeedle_54 : decode cX8_withNeedle 54 = .ok (.invokevirtual 116, 3) := by decide +kernel
theorem dX8_withNeedle_57 : decode cX8_withNeedle 57 = .ok (.i2l, 1) := by decide +kernel
theorem dX8_withNeedle_58 : decode cX8_withNeedle 58 = .ok (.invokestatic 214, 3) := by decide +kernel
theorem dX8_withNeedle_61 : decode cX8_withNeedle 61 = .ok (.lstore 4, 2) := by decide +kernel
theorem dX8_withNeedle_63 : decode cX8_withNeedle 63 = .ok (.lload 4, 2) := by decide +kernel
theorem dX8_withNeedle_65 : decode cX8_withNeedle 65 = .ok (.aload_n 0, 1) := by decide +kernel
theorem dX8_withNeedle_66 : decode cX8_withNeedle 66 = .ok (.iload_n 3, 1) := by decide +kernel
theorem dX8_withNeedle_67 : decode cX8_withNeedle 67 = .ok (.bipush 35, 2) := by decide +kernel
theorem dX8_withNeedle_69 : decode cX8_withNeedle 69 = .ok (.invokevirtual 116, 3) := by decide +kernel
theorem dX8_withNeedle_72 : decode cX8_withNeedle 72 = .ok (.i2l, 1) := by decide +kernel
theorem dX8_withNeedle_73 : decode cX8_withNeedle 73 = .ok (.invokestatic 214, 3) := by decide +kernel
theorem dX8_withNeedle_76 : decode cX8_withNeedle 76 = .ok (.lreturn, 1) := by decide +kernel
theorem dX8_withSea_0 : decode cX8_withSea 0 = .ok (.lload_n 1, 1) := by decide +kernel
theorem dX8_withSea_1 : decode cX8_withSea 1 = .ok (.aload_n 0, 1) := by decide +kernel
theorem dX8_withSea_2 : decode cX8_withSea 2 = .ok (.iconst 0, 1) := by decide +kernel
theorem dX8_withSea_3 : decode cX8_withSea 3 = .ok (.aload_n 0, 1) := by decide +kernel
theorem dX8_withSea_4 : decode cX8_withSea 4 = .ok (.iconst 0, 1) := by decide +kernel
theorem dX8_withSea_5 : decode cX8_withSea 5 = .ok (.invokevirtual 132, 3) := by decide +kernel
theorem dX8_withSea_8 : decode cX8_withSea 8 = .ok (.invokevirtual 145, 3) := by decide +kernel
theorem dX8_withSea_11 : decode cX8_withSea 11 = .ok (.i2l, 1) := by decide +kernel
theorem dX8_withSea_12 : decode cX8_withSea 12 = .ok (.invokestatic 214, 3) := by decide +kernel
theorem dX8_withSea_15 : decode cX8_withSea 15 = .ok (.lstore_n 3, 1) := by decide +kernel
theorem dX8_withSea_16 : decode cX8_withSea 16 = .ok (.iconst 0, 1) := by decide +kernel
theorem dX8_withSea_17 : decode cX8_withSea 17 = .ok (.istore 5, 2) := by decide +kernel
theorem dX8_withSea_19 : decode cX8_withSea 19 = .ok (.iload 5, 2) := by decide +kernel
theorem dX8_withSea_21 : decode cX8_withSea 21 = .ok (.bipush 36, 2) := by decide +kernel
theorem dX8_withSea_23 : decode cX8_withSea 23 = .ok (.if_icmp .ge 31, 3) := by decide +kernel
theorem dX8_withSea_26 : decode cX8_withSea 26 = .ok (.lload_n 3, 1) := by decide +kernel
theorem dX8_withSea_27 : decode cX8_withSea 27 = .ok (.aload_n 0, 1) := by decide +kernel
theorem dX8_withSea_28 : decode cX8_withSea 28 = .ok (.getfield 25, 3) := by decide +kernel
theorem dX8_withSea_31 : decode cX8_withSea 31 = .ok (.iload 5, 2) := by decide +kernel
theorem dX8_withSea_33 : decode cX8_withSea 33 = .ok (.invokevirtual 159, 3) := by decide +kernel
theorem dX8_withSea_36 : decode cX8_withSea 36 = .ok (.ifCond .eq 7, 3) := by decide +kernel
theorem dX8_withSea_39 : decode cX8_withSea 39 = .ok (.lconst 1, 1) := by decide +kernel
theorem dX8_withSea_40 : decode cX8_withSea 40 = .ok (.goto 4, 3) := by decide +kernel
theorem dX8_withSea_43 : decode cX8_withSea 43 = .ok (.lconst 0, 1) := by decide +kernel
theorem dX8_withSea_44 : decode cX8_withSea 44 = .ok (.invokestatic 214, 3) := by decide +kernel
theorem dX8_withSea_47 : decode cX8_withSea 47 = .ok (.lstore_n 3, 1) := by decide +kernel
theorem dX8_withSea_48 : decode cX8_withSea 48 = .ok (.iinc 5 1, 3) := by decide +kernel
theorem dX8_withSea_51 : decode cX8_withSea 51 = .ok (.goto (-32), 3) := by decide +kernel
theorem dX8_withSea_54 : decode cX8_withSea 54 = .ok (.lload_n 3, 1) := by decide +kernel
theorem dX8_withSea_55 : decode cX8_withSea 55 = .ok (.aload_n 0, 1) := by decide +kernel
theorem dX8_withSea_56 : decode cX8_withSea 56 = .ok (.invokevirtual 168, 3) := by decide +kernel
theorem dX8_withSea_59 : decode cX8_withSea 59 = .ok (.i2l, 1) := by decide +kernel
theorem dX8_withSea_60 : decode cX8_withSea 60 = .ok (.invokestatic 214, 3) := by decide +kernel
theorem dX8_withSea_63 : decode cX8_withSea 63 = .ok (.lreturn, 1) := by decide +kernel
theorem dX8_hasSea_0 : decode cX8_hasSea 0 = .ok (.aload_n 0, 1) := by decide +kernel
theorem dX8_hasSea_1 : decode cX8_hasSea 1 = .ok (.getfield 49, 3) := by decide +kernel
theorem dX8_hasSea_4 : decode cX8_hasSea 4 = .ok (.ifCond .le 7, 3) := by decide +kernel
theorem dX8_hasSea_7 : decode cX8_hasSea 7 = .ok (.iconst 1, 1) := by decide +kernel
theorem dX8_hasSea_8 : decode cX8_hasSea 8 = .ok (.goto 4, 3) := by decide +kernel
theorem dX8_hasSea_11 : decode cX8_hasSea 11 = .ok (.iconst 0, 1) := by decide +kernel
theorem dX8_hasSea_12 : decode cX8_hasSea 12 = .ok (.ireturn, 1) := by decide +kernel
theorem dX8_isNeedle_0 : decode cX8_isNeedle 0 = .ok (.iload_n 1, 1) := by decide +kernel
theorem dX8_isNeedle_1 : decode cX8_isNeedle 1 = .ok (.ifCond .lt 15, 3) := by decide +kernel
theorem dX8_isNeedle_4 : decode cX8_isNeedle 4 = .ok (.iload_n 1, 1) := by decide +kernel
theorem dX8_isNeedle_5 : decode cX8_isNeedle 5 = .ok (.aload_n 0, 1) := by decide +kernel
theorem dX8_isNeedle_6 : decode cX8_isNeedle 6 = .ok (.getfield 49, 3) := by decide +kernel
theorem dX8_isNeedle_9 : decode cX8_isNeedle 9 = .ok (.if_icmp .ge 7, 3) := by decide +kernel
theorem dX8_isNeedle_12 : decode cX8_isNeedle 12 = .ok (.iconst 1, 1) := by decide +kernel
theorem dX8_isNeedle_13 : decode cX8_isNeedle 13 = .ok (.goto 4, 3) := by decide +kernel
theorem dX8_isNeedle_16 : decode cX8_isNeedle 16 = .ok (.iconst 0, 1) := by decide +kernel
theorem dX8_isNeedle_17 : decode cX8_isNeedle 17 = .ok (.ireturn, 1) := by decide +kernel
theorem dX8_isPlace_0 : decode cX8_isPlace 0 = .ok (.iload_n 0, 1) := by decide +kernel
theorem dX8_isPlace_1 : decode cX8_isPlace 1 = .ok (.ifCond .lt 13, 3) := by decide +kernel
theorem dX8_isPlace_4 : decode cX8_isPlace 4 = .ok (.iload_n 0, 1) := by decide +kernel
theorem dX8_isPlace_5 : decode cX8_isPlace 5 = .ok (.bipush 36, 2) := by decide +kernel
theorem dX8_isPlace_7 : decode cX8_isPlace 7 = .ok (.if_icmp .ge 7, 3) := by decide +kernel
theorem dX8_isPlace_10 : decode cX8_isPlace 10 = .ok (.iconst 1, 1) := by decide +kernel
theorem dX8_isPlace_11 : decode cX8_isPlace 11 = .ok (.goto 4, 3) := by decide +kernel
theorem dX8_isPlace_14 : decode cX8_isPlace 14 = .ok (.iconst 0, 1) := by decide +kernel
theorem dX8_isPlace_15 : decode cX8_isPlace 15 = .ok (.ireturn, 1) := by decide +kernel
theorem dX8_isDirection_0 : decode cX8_isDirection 0 = .ok (.iload_n 0, 1) := by decide +kernel
theorem dX8_isDirection_1 : decode cX8_isDirection 1 = .ok (.ifCond .lt 13, 3) := by decide +kernel
theorem dX8_isDirection_4 : decode cX8_isDirection 4 = .ok (.iload_n 0, 1) := by decide +kernel
theorem dX8_isDirection_5 : decode cX8_isDirection 5 = .ok (.bipush 9, 2) := by decide +kernel
theorem dX8_isDirection_7 : decode cX8_isDirection 7 = .ok (.if_icmp .ge 7, 3) := by decide +kernel
theorem dX8_isDirection_10 : decode cX8_isDirection 10 = .ok (.iconst 1, 1) := by decide +kernel
theorem dX8_isDirection_11 : decode cX8_isDirection 11 = .ok (.goto 4, 3) := by decide +kernel
theorem dX8_isDirection_14 : decode cX8_isDirection 14 = .ok (.iconst 0, 1) := by decide +kernel
theorem dX8_isDirection_15 : decode cX8_isDirection 15 = .ok (.ireturn, 1) := by decide +kernel
theorem dX8_pointing_0 : decode cX8_pointing 0 = .ok (.aload_n 0, 1) := by decide +kernel
theorem dX8_pointing_1 : decode cX8_pointing 1 = .ok (.getfield 18, 3) := by decide +kernel
theorem dX8_pointing_4 : decode cX8_pointing 4 = .ok (.iload_n 1, 1) := by decide +kernel
theorem dX8_pointing_5 : decode cX8_pointing 5 = .ok (.aaload, 1) := by decide +kernel
theorem dX8_pointing_6 : decode cX8_pointing 6 = .ok (.aload_n 0, 1) := by decide +kernel
theorem dX8_pointing_7 : decode cX8_pointing 7 = .ok (.getfield 25, 3) := by decide +kernel
theorem dX8_pointing_10 : decode cX8_pointing 10 = .ok (.getfield 96, 3) := by decide +kernel
theorem dX8_pointing_13 : decode cX8_pointing 13 = .ok (.iload_n 1, 1) := by decide +kernel
theorem dX8_pointing_14 : decode cX8_pointing 14 = .ok (.iaload, 1) := by decide +kernel
theorem dX8_pointing_15 : decode cX8_pointing 15 = .ok (.iload_n 2, 1) := by decide +kernel
theorem dX8_pointing_16 : decode cX8_pointing 16 = .ok (.invokestatic 226, 3) := by decide +kernel
theorem dX8_pointing_19 : decode cX8_pointing 19 = .ok (.ireturn, 1) := by decide +kernel
theorem dX8_pointingHome_0 : decode cX8_pointingHome 0 = .ok (.iload_n 2, 1) := by decide +kernel
theorem dX8_pointingHome_1 : decode cX8_pointingHome 1 = .ok (.bipush 6, 2) := by decide +kernel
theorem dX8_pointingHome_3 : decode cX8_pointingHome 3 = .ok (.idiv, 1) := by decide +kernel
theorem dX8_pointingHome_4 : decode cX8_pointingHome 4 = .ok (.iload_n 1, 1) := by decide +kernel
theorem dX8_pointingHome_5 : decode cX8_pointingHome 5 = .ok (.bipush 6, 2) := by decide +kernel
theorem dX8_pointingHome_7 : decode cX8_pointingHome 7 = .ok (.idiv, 1) := by decide +kernel
theorem dX8_pointingHome_8 : decode cX8_pointingHome 8 = .ok (.invokestatic 230, 3) := by decide +kernel
theorem dX8_pointingHome_11 : decode cX8_pointingHome 11 = .ok (.istore_n 3, 1) := by decide +kernel
theorem dX8_pointingHome_12 : decode cX8_pointingHome 12 = .ok (.iload_n 2, 1) := by decide +kernel
theorem dX8_pointingHome_13 : decode cX8_pointingHome 13 = .ok (.bipush 6, 2) := by decide +kernel
theorem dX8_pointingHome_15 : decode cX8_pointingHome 15 = .ok (.irem, 1) := by decide +kernel
theorem dX8_pointingHome_16 : decode cX8_pointingHome 16 = .ok (.iload_n 1, 1) := by decide +kernel
theorem dX8_pointingHome_17 : decode cX8_pointingHome 17 = .ok (.bipush 6, 2) := by decide +kernel
theorem dX8_pointingHome_19 : decode cX8_pointingHome 19 = .ok (.irem, 1) := by decide +kernel
theorem dX8_pointingHome_20 : decode cX8_pointingHome 20 = .ok (.invokestatic 230, 3) := by decide +kernel
theorem dX8_pointingHome_23 : decode cX8_pointingHome 23 = .ok (.istore 4, 2) := by decide +kernel
theorem dX8_pointingHome_25 : decode cX8_pointingHome 25 = .ok (.aload_n 0, 1) := by decide +kernel
theorem dX8_pointingHome_26 : decode cX8_pointingHome 26 = .ok (.iload_n 3, 1) := by decide +kernel
theorem dX8_pointingHome_27 : decode cX8_pointingHome 27 = .ok (.iload 4, 2) := by decide +kernel
theorem dX8_pointingHome_29 : decode cX8_pointingHome 29 = .ok (.invokevirtual 233, 3) := by decide +kernel
theorem dX8_pointingHome_32 : decode cX8_pointingHome 32 = .ok (.ireturn, 1) := by decide +kernel
theorem dX8_nearer_0 : decode cX8_nearer 0 = .ok (.iload_n 1, 1) := by decide +kernel
theorem dX8_nearer_1 : decode cX8_nearer 1 = .ok (.iload_n 0, 1) := by decide +kernel
theorem dX8_nearer_2 : decode cX8_nearer 2 = .ok (.if_icmp .le 7, 3) := by decide +kernel
theorem dX8_nearer_5 : decode cX8_nearer 5 = .ok (.iconst 1, 1) := by decide +kernel
theorem dX8_nearer_6 : decode cX8_nearer 6 = .ok (.goto 13, 3) := by decide +kernel
theorem dX8_nearer_9 : decode cX8_nearer 9 = .ok (.iload_n 1, 1) := by decide +kernel
theorem dX8_nearer_10 : decode cX8_nearer 10 = .ok (.iload_n 0, 1) := by decide +kernel
theorem dX8_nearer_11 : decode cX8_nearer 11 = .ok (.if_icmp .ge 7, 3) := by decide +kernel
theorem dX8_nearer_14 : decode cX8_nearer 14 = .ok (.iconst (-1), 1) := by decide +kernel
theorem dX8_nearer_15 : decode cX8_nearer 15 = .ok (.goto 4, 3) := by decide +kernel
theorem dX8_nearer_18 : decode cX8_nearer 18 = .ok (.iconst 0, 1) := by decide +kernel
theorem dX8_nearer_19 : decode cX8_nearer 19 = .ok (.ireturn, 1) := by decide +kernel
theorem dX8_needlesDownAt_0 : decode cX8_needlesDownAt 0 = .ok (.iconst 0, 1) := by decide +kernel
theorem dX8_needlesDownAt_1 : decode cX8_needlesDownAt 1 = .ok (.istore_n 2, 1) := by decide +kernel
theorem dX8_needlesDownAt_2 : decode cX8_needlesDownAt 2 = .ok (.iconst 0, 1) := by decide +kernel
theorem dX8_needlesDownAt_3 : decode cX8_needlesDownAt 3 = .ok (.istore_n 3, 1) := by decide +kernel
theorem dX8_needlesDownAt_4 : decode cX8_needlesDownAt 4 = .ok (.iload_n 3, 1) := by decide +kernel
theorem dX8_needlesDownAt_5 : decode cX8_needlesDownAt 5 = .ok (.aload_n 0, 1) := by decide +kernel
theorem dX8_needlesDownAt_6 : decode cX8_needlesDownAt 6 = .ok (.getfield 49, 3) := by decide +kernel
theorem dX8_needlesDownAt_9 : decode cX8_needlesDownAt 9 = .ok (.if_icmp .ge 22, 3) := by decide +kernel
theorem dX8_needlesDownAt_12 : decode cX8_needlesDownAt 12 = .ok (.aload_n 0, 1) := by decide +kernel
theorem dX8_needlesDownAt_13 : decode cX8_needlesDownAt 13 = .ok (.iload_n 3, 1) := by decide +kernel
theorem dX8_needlesDownAt_14 : decode cX8_needlesDownAt 14 = .ok (.iload_n 1, 1) := by decide +kernel
theorem dX8_needlesDownAt_15 : decode cX8_needlesDownAt 15 = .ok (.invokevirtual 116, 3) := by decide +kernel
theorem dX8_needlesDownAt_18 : decode cX8_needlesDownAt 18 = .ok (.iconst 4, 1) := by decide +kernel
theorem dX8_needlesDownAt_19 : decode cX8_needlesDownAt 19 = .ok (.if_icmp .ne 6, 3) := by decide +kernel
theorem dX8_needlesDownAt_22 : decode cX8_needlesDownAt 22 = .ok (.iinc 2 1, 3) := by decide +kernel
theorem dX8_needlesDownAt_25 : decode cX8_needlesDownAt 25 = .ok (.iinc 3 1, 3) := by decide +kernel
theorem dX8_needlesDownAt_28 : decode cX8_needlesDownAt 28 = .ok (.goto (-24), 3) := by decide +kernel
theorem dX8_needlesDownAt_31 : decode cX8_needlesDownAt 31 = .ok (.iload_n 2, 1) := by decide +kernel
theorem dX8_needlesDownAt_32 : decode cX8_needlesDownAt 32 = .ok (.ireturn, 1) := by decide +kernel
theorem dX8_trailOf_0 : decode cX8_trailOf 0 = .ok (.aload_n 0, 1) := by decide +kernel
theorem dX8_trailOf_1 : decode cX8_trailOf 1 = .ok (.getfield 35, 3) := by decide +kernel
theorem dX8_trailOf_4 : decode cX8_trailOf 4 = .ok (.iconst 0, 1) := by decide +kernel
theorem dX8_trailOf_5 : decode cX8_trailOf 5 = .ok (.putfield 123, 3) := by decide +kernel
theorem dX8_trailOf_8 : decode cX8_trailOf 8 = .ok (.aload_n 0, 1) := by decide +kernel
theorem dX8_trailOf_9 : decode cX8_trailOf 9 = .ok (.getfield 35, 3) := by decide +kernel
theorem dX8_trailOf_12 : decode cX8_trailOf 12 = .ok (.aload_n 0, 1) := by decide +kernel
theorem dX8_trailOf_13 : decode cX8_trailOf 13 = .ok (.getfield 25, 3) := by decide +kernel
theorem dX8_trailOf_16 : decode cX8_trailOf 16 = .ok (.getfield 102, 3) := by decide +kernel
theorem dX8_trailOf_19 : decode cX8_trailOf 19 = .ok (.putfield 126, 3) := by decide +kernel
theorem dX8_trailOf_22 : decode cX8_trailOf 22 = .ok (.iconst 0, 1) := by decide +kernel
theorem dX8_trailOf_23 : decode cX8_trailOf 23 = .ok (.istore_n 2, 1) := by decide +kernel
theorem dX8_trailOf_24 : decode cX8_trailOf 24 = .ok (.iload_n 2, 1) := by decide +kernel
theorem dX8_trailOf_25 : decode cX8_trailOf 25 = .ok (.bipush 40, 2) := by decide +kernel
theorem dX8_trailOf_27 : decode cX8_trailOf 27 = .ok (.if_icmp .ge 71, 3) := by decide +kernel
theorem dX8_trailOf_30 : decode cX8_trailOf 30 = .ok (.aload_n 0, 1) := by decide +kernel
theorem dX8_trailOf_31 : decode cX8_trailOf 31 = .ok (.getfield 25, 3) := by decide +kernel
theorem dX8_trailOf_34 : decode cX8_trailOf 34 = .ok (.aload_n 0, 1) := by decide +kernel
theorem dX8_trailOf_35 : decode cX8_trailOf 35 = .ok (.getfield 35, 3) := by decide +kernel
theorem dX8_trailOf_38 : decode cX8_trailOf 38 = .ok (.getfield 126, 3) := by decide +kernel
theorem dX8_trailOf_41 : decode cX8_trailOf 41 = .ok (.aload_n 0, 1) := by decide +kernel
theorem dX8_trailOf_42 : decode cX8_trailOf 42 = .ok (.iload_n 1, 1) := by decide +kernel
theorem dX8_trailOf_43 : decode cX8_trailOf 43 = .ok (.aload_n 0, 1) := by decide +kernel
theorem dX8_trailOf_44 : decode cX8_trailOf 44 = .ok (.getfield 35, 3) := by decide +kernel
theorem dX8_trailOf_47 : decode cX8_trailOf 47 = .ok (.getfield 126, 3) := by decide +kernel
theorem dX8_trailOf_50 : decode cX8_trailOf 50 = .ok (.invokevirtual 116, 3) := by decide +kernel
theorem dX8_trailOf_53 : decode cX8_trailOf 53 = .ok (.invokevirtual 182, 3) := by decide +kernel
theorem dX8_trailOf_56 : decode cX8_trailOf 56 = .ok (.istore_n 3, 1) := by decide +kernel
theorem dX8_trailOf_57 : decode cX8_trailOf 57 = .ok (.iload_n 3, 1) := by decide +kernel
theorem dX8_trailOf_58 : decode cX8_trailOf 58 = .ok (.aload_n 0, 1) := by decide +kernel
theorem dX8_trailOf_59 : decode cX8_trailOf 59 = .ok (.getfield 35, 3) := by decide +kernel
theorem dX8_trailOf_62 : decode cX8_trailOf 62 = .ok (.getfield 126, 3) := by decide +kernel
theorem dX8_trailOf_65 : decode cX8_trailOf 65 = .ok (.if_icmp .ne 6, 3) := by decide +kernel
theorem dX8_trailOf_68 : decode cX8_trailOf 68 = .ok (.goto 30, 3) := by decide +kernel
theorem dX8_trailOf_71 : decode cX8_trailOf 71 = .ok (.aload_n 0, 1) := by decide +kernel
theorem dX8_trailOf_72 : decode cX8_trailOf 72 = .ok (.getfield 35, 3) := by decide +kernel
theorem dX8_trailOf_75 : decode cX8_trailOf 75 = .ok (.iload_n 3, 1) := by decide +kernel
theorem dX8_trailOf_76 : decode cX8_trailOf 76 = .ok (.putfield 126, 3) := by decide +kernel
theorem dX8_trailOf_79 : decode cX8_trailOf 79 = .ok (.aload_n 0, 1) := by decide +kernel
theorem dX8_trailOf_80 : decode cX8_trailOf 80 = .ok (.getfield 35, 3) := by decide +kernel
theorem dX8_trailOf_83 : decode cX8_trailOf 83 = .ok (.dup, 1) := by decide +kernel
theorem dX8_trailOf_84 : decode cX8_trailOf 84 = .ok (.getfield 123, 3) := by decide +kernel
theorem dX8_trailOf_87 : decode cX8_trailOf 87 = .ok (.iconst 1, 1) := by decide +kernel
theorem dX8_trailOf_88 : decode cX8_trailOf 88 = .ok (.iadd, 1) := by decide +kernel
theorem dX8_trailOf_89 : decode cX8_trailOf 89 = .ok (.putfield 123, 3) := by decide +kernel
theorem dX8_trailOf_92 : decode cX8_trailOf 92 = .ok (.iinc 2 1, 3) := by decide +kernel
theorem dX8_trailOf_95 : decode cX8_trailOf 95 = .ok (.goto (-71), 3) := by decide +kernel
theorem dX8_trailOf_98 : decode cX8_trailOf 98 = .ok (.aload_n 0, 1) := by decide +kernel
theorem dX8_trailOf_99 : decode cX8_trailOf 99 = .ok (.getfield 35, 3) := by decide +kernel
theorem dX8_trailOf_102 : decode cX8_trailOf 102 = .ok (.areturn, 1) := by decide +kernel
theorem dX8_homingBits_0 : decode cX8_homingBits 0 = .ok (.iconst 0, 1) := by decide +kernel
theorem dX8_homingBits_1 : decode cX8_homingBits 1 = .ok (.istore_n 1, 1) := by decide +kernel
theorem dX8_homingBits_2 : decode cX8_homingBits 2 = .ok (.iconst 0, 1) := by decide +kernel
theorem dX8_homingBits_3 : decode cX8_homingBits 3 = .ok (.istore_n 2, 1) := by decide +kernel
theorem dX8_homingBits_4 : decode cX8_homingBits 4 = .ok (.iload_n 2, 1) := by decide +kernel
theorem dX8_homingBits_5 : decode cX8_homingBits 5 = .ok (.aload_n 0, 1) := by decide +kernel
theorem dX8_homingBits_6 : decode cX8_homingBits 6 = .ok (.getfield 49, 3) := by decide +kernel
theorem dX8_homingBits_9 : decode cX8_homingBits 9 = .ok (.if_icmp .ge 35, 3) := by decide +kernel
theorem dX8_homingBits_12 : decode cX8_homingBits 12 = .ok (.aload_n 0, 1) := by decide +kernel
theorem dX8_homingBits_13 : decode cX8_homingBits 13 = .ok (.iload_n 2, 1) := by decide +kernel
theorem dX8_homingBits_14 : decode cX8_homingBits 14 = .ok (.invokevirtual 119, 3) := by decide +kernel
theorem dX8_homingBits_17 : decode cX8_homingBits 17 = .ok (.getfield 126, 3) := by decide +kernel
theorem dX8_homingBits_20 : decode cX8_homingBits 20 = .ok (.aload_n 0, 1) := by decide +kernel
theorem dX8_homingBits_21 : decode cX8_homingBits 21 = .ok (.getfield 25, 3) := by decide +kernel
theorem dX8_homingBits_24 : decode cX8_homingBits 24 = .ok (.getfield 96, 3) := by decide +kernel
theorem dX8_homingBits_27 : decode cX8_homingBits 27 = .ok (.iload_n 2, 1) := by decide +kernel
theorem dX8_homingBits_28 : decode cX8_homingBits 28 = .ok (.iaload, 1) := by decide +kernel
theorem dX8_homingBits_29 : decode cX8_homingBits 29 = .ok (.if_icmp .ne 9, 3) := by decide +kernel
theorem dX8_homingBits_32 : decode cX8_homingBits 32 = .ok (.iload_n 1, 1) := by decide +kernel
theorem dX8_homingBits_33 : decode cX8_homingBits 33 = .ok (.iconst 1, 1) := by decide +kernel
theorem dX8_homingBits_34 : decode cX8_homingBits 34 = .ok (.iload_n 2, 1) := by decide +kernel
theorem dX8_homingBits_35 : decode cX8_homingBits 35 = .ok (.ishl, 1) := by decide +kernel
theorem dX8_homingBits_36 : decode cX8_homingBits 36 = .ok (.ior, 1) := by decide +kernel
theorem dX8_homingBits_37 : decode cX8_homingBits 37 = .ok (.istore_n 1, 1) := by decide +kernel
theorem dX8_homingBits_38 : decode cX8_homingBits 38 = .ok (.iinc 2 1, 3) := by decide +kernel
theorem dX8_homingBits_41 : decode cX8_homingBits 41 = .ok (.goto (-37), 3) := by decide +kernel
theorem dX8_homingBits_44 : decode cX8_homingBits 44 = .ok (.iload_n 1, 1) := by decide +kernel
theorem dX8_homingBits_45 : decode cX8_homingBits 45 = .ok (.ireturn, 1) := by decide +kernel
theorem dX8_fewestSteps_0 : decode cX8_fewestSteps 0 = .ok (.aload_n 0, 1) := by decide +kernel
theorem dX8_fewestSteps_1 : decode cX8_fewestSteps 1 = .ok (.getfield 39, 3) := by decide +kernel
theorem dX8_fewestSteps_4 : decode cX8_fewestSteps 4 = .ok (.iconst (-1), 1) := by decide +kernel
theorem dX8_fewestSteps_5 : decode cX8_fewestSteps 5 = .ok (.invokestatic 236, 3) := by decide +kernel
theorem dX8_fewestSteps_8 : decode cX8_fewestSteps 8 = .ok (.aload_n 0, 1) := by decide +kernel
theorem dX8_fewestSteps_9 : decode cX8_fewestSteps 9 = .ok (.getfield 39, 3) := by decide +kernel
theorem dX8_fewestSteps_12 : decode cX8_fewestSteps 12 = .ok (.aload_n 0, 1) := by decide +kernel
theorem dX8_fewestSteps_13 : decode cX8_fewestSteps 13 = .ok (.getfield 25, 3) := by decide +kernel
theorem dX8_fewestSteps_16 : decode cX8_fewestSteps 16 = .ok (.getfield 102, 3) := by decide +kernel
theorem dX8_fewestSteps_19 : decode cX8_fewestSteps 19 = .ok (.iconst 0, 1) := by decide +kernel
theorem dX8_fewestSteps_20 : decode cX8_fewestSteps 20 = .ok (.iastore, 1) := by decide +kernel
theorem dX8_fewestSteps_21 : decode cX8_fewestSteps 21 = .ok (.aload_n 0, 1) := by decide +kernel
theorem dX8_fewestSteps_22 : decode cX8_fewestSteps 22 = .ok (.getfield 43, 3) := by decide +kernel
theorem dX8_fewestSteps_25 : decode cX8_fewestSteps 25 = .ok (.iconst 0, 1) := by decide +kernel
theorem dX8_fewestSteps_26 : decode cX8_fewestSteps 26 = .ok (.aload_n 0, 1) := by decide +kernel
theorem dX8_fewestSteps_27 : decode cX8_fewestSteps 27 = .ok (.getfield 25, 3) := by decide +kernel
theorem dX8_fewestSteps_30 : decode cX8_fewestSteps 30 = .ok (.getfield 102, 3) := by decide +kernel
theorem dX8_fewestSteps_33 : decode cX8_fewestSteps 33 = .ok (.iastore, 1) := by decide +kernel
theorem dX8_fewestSteps_34 : decode cX8_fewestSteps 34 = .ok (.iconst 1, 1) := by decide +kernel
theorem dX8_fewestSteps_35 : decode cX8_fewestSteps 35 = .ok (.istore_n 2, 1) := by decide +kernel
theorem dX8_fewestSteps_36 : decode cX8_fewestSteps 36 = .ok (.iconst 0, 1) := by decide +kernel
theorem dX8_fewestSteps_37 : decode cX8_fewestSteps 37 = .ok (.istore_n 3, 1) := by decide +kernel
theorem dX8_fewestSteps_38 : decode cX8_fewestSteps 38 = .ok (.iload_n 3, 1) := by decide +kernel
theorem dX8_fewestSteps_39 : decode cX8_fewestSteps 39 = .ok (.iload_n 2, 1) := by decide +kernel
theorem dX8_fewestSteps_40 : decode cX8_fewestSteps 40 = .ok (.if_icmp .ge 96, 3) := by decide +kernel
theorem dX8_fewestSteps_43 : decode cX8_fewestSteps 43 = .ok (.iload_n 3, 1) := by decide +kernel
theorem dX8_fewestSteps_44 : decode cX8_fewestSteps 44 = .ok (.bipush 36, 2) := by decide +kernel
theorem dX8_fewestSteps_46 : decode cX8_fewestSteps 46 = .ok (.if_icmp .ge 90, 3) := by decide +kernel
theorem dX8_fewestSteps_49 : decode cX8_fewestSteps 49 = .ok (.aload_n 0, 1) := by decide +kernel
theorem dX8_fewestSteps_50 : decode cX8_fewestSteps 50 = .ok (.getfield 43, 3) := by decide +kernel
theorem dX8_fewestSteps_53 : decode cX8_fewestSteps 53 = .ok (.iload_n 3, 1) := by decide +kernel
theorem dX8_fewestSteps_54 : decode cX8_fewestSteps 54 = .ok (.iaload, 1) := by decide +kernel
theorem dX8_fewestSteps_55 : decode cX8_fewestSteps 55 = .ok (.istore 4, 2) := by decide +kernel
theorem dX8_fewestSteps_57 : decode cX8_fewestSteps 57 = .ok (.iconst 0, 1) := by decide +kernel
theorem dX8_fewestSteps_58 : decode cX8_fewestSteps 58 = .ok (.istore 5, 2) := by decide +kernel
theorem dX8_fewestSteps_60 : decode cX8_fewestSteps 60 = .ok (.iload 5, 2) := by decide +kernel
theorem dX8_fewestSteps_62 : decode cX8_fewestSteps 62 = .ok (.bipush 9, 2) := by decide +kernel
theorem dX8_fewestSteps_64 : decode cX8_fewestSteps 64 = .ok (.if_icmp .ge 66, 3) := by decide +kernel
theorem dX8_fewestSteps_67 : decode cX8_fewestSteps 67 = .ok (.aload_n 0, 1) := by decide +kernel
theorem dX8_fewestSteps_68 : decode cX8_fewestSteps 68 = .ok (.getfield 25, 3) := by decide +kernel
theorem dX8_fewestSteps_71 : decode cX8_fewestSteps 71 = .ok (.iload 4, 2) := by decide +kernel
theorem dX8_fewestSteps_73 : decode cX8_fewestSteps 73 = .ok (.iload 5, 2) := by decide +kernel
theorem dX8_fewestSteps_75 : decode cX8_fewestSteps 75 = .ok (.invokevirtual 182, 3) := by decide +kernel
theorem dX8_fewestSteps_78 : decode cX8_fewestSteps 78 = .ok (.istore 6, 2) := by decide +kernel
theorem dX8_fewestSteps_80 : decode cX8_fewestSteps 80 = .ok (.aload_n 0, 1) := by decide +kernel
theorem dX8_fewestSteps_81 : decode cX8_fewestSteps 81 = .ok (.getfield 39, 3) := by decide +kernel
theorem dX8_fewestSteps_84 : decode cX8_fewestSteps 84 = .ok (.iload 6, 2) := by decide +kernel
theorem dX8_fewestSteps_86 : decode cX8_fewestSteps 86 = .ok (.iaload, 1) := by decide +kernel
theorem dX8_fewestSteps_87 : decode cX8_fewestSteps 87 = .ok (.iconst (-1), 1) := by decide +kernel
theorem dX8_fewestSteps_88 : decode cX8_fewestSteps 88 = .ok (.if_icmp .ne 36, 3) := by decide +kernel
theorem dX8_fewestSteps_91 : decode cX8_fewestSteps 91 = .ok (.iload_n 2, 1) := by decide +kernel
theorem dX8_fewestSteps_92 : decode cX8_fewestSteps 92 = .ok (.bipush 36, 2) := by decide +kernel
theorem dX8_fewestSteps_94 : decode cX8_fewestSteps 94 = .ok (.if_icmp .ge 30, 3) := by decide +kernel
theorem dX8_fewestSteps_97 : decode cX8_fewestSteps 97 = .ok (.aload_n 0, 1) := by decide +kernel
theorem dX8_fewestSteps_98 : decode cX8_fewestSteps 98 = .ok (.getfield 39, 3) := by decide +kernel
theorem dX8_fewestSteps_101 : decode cX8_fewestSteps 101 = .ok (.iload 6, 2) := by decide +kernel
theorem dX8_fewestSteps_103 : decode cX8_fewestSteps 103 = .ok (.aload_n 0, 1) := by decide +kernel
theorem dX8_fewestSteps_104 : decode cX8_fewestSteps 104 = .ok (.getfield 39, 3) := by decide +kernel
theorem dX8_fewestSteps_107 : decode cX8_fewestSteps 107 = .ok (.iload 4, 2) := by decide +kernel
theorem dX8_fewestSteps_109 : decode cX8_fewestSteps 109 = .ok (.iaload, 1) := by decide +kernel
theorem dX8_fewestSteps_110 : decode cX8_fewestSteps 110 = .ok (.iconst 1, 1) := by decide +kernel
theorem dX8_fewestSteps_111 : decode cX8_fewestSteps 111 = .ok (.iadd, 1) := by decide +kernel
theorem dX8_fewestSteps_112 : decode cX8_fewestSteps 112 = .ok (.iastore, 1) := by decide +kernel
theorem dX8_fewestSteps_113 : decode cX8_fewestSteps 113 = .ok (.aload_n 0, 1) := by decide +kernel
theorem dX8_fewestSteps_114 : decode cX8_fewestSteps 114 = .ok (.getfield 43, 3) := by decide +kernel
theorem dX8_fewestSteps_117 : decode cX8_fewestSteps 117 = .ok (.iload_n 2, 1) := by decide +kernel
theorem dX8_fewestSteps_118 : decode cX8_fewestSteps 118 = .ok (.iload 6, 2) := by decide +kernel
theorem dX8_fewestSteps_120 : decode cX8_fewestSteps 120 = .ok (.iastore, 1) := by decide +kernel
theorem dX8_fewestSteps_121 : decode cX8_fewestSteps 121 = .ok (.iinc 2 1, 3) := by decide +kernel
theorem dX8_fewestSteps_124 : decode cX8_fewestSteps 124 = .ok (.iinc 5 1, 3) := by decide +kernel
theorem dX8_fewestSteps_127 : decode cX8_fewestSteps 127 = .ok (.goto (-67), 3) := by decide +kernel
theorem dX8_fewestSteps_130 : decode cX8_fewestSteps 130 = .ok (.iinc 3 1, 3) := by decide +kernel
theorem dX8_fewestSteps_133 : decode cX8_fewestSteps 133 = .ok (.goto (-95), 3) := by decide +kernel
theorem dX8_fewestSteps_136 : decode cX8_fewestSteps 136 = .ok (.aload_n 0, 1) := by decide +kernel
theorem dX8_fewestSteps_137 : decode cX8_fewestSteps 137 = .ok (.getfield 39, 3) := by decide +kernel
theorem dX8_fewestSteps_140 : decode cX8_fewestSteps 140 = .ok (.iload_n 1, 1) := by decide +kernel
theorem dX8_fewestSteps_141 : decode cX8_fewestSteps 141 = .ok (.iaload, 1) := by decide +kernel
theorem dX8_fewestSteps_142 : decode cX8_fewestSteps 142 = .ok (.ireturn, 1) := by decide +kernel
theorem dX8_possibleHomes_0 : decode cX8_possibleHomes 0 = .ok (.lconst 0, 1) := by decide +kernel
theorem dX8_possibleHomes_1 : decode cX8_possibleHomes 1 = .ok (.lstore_n 2, 1) := by decide +kernel
theorem dX8_possibleHomes_2 : decode cX8_possibleHomes 2 = .ok (.iconst 0, 1) := by decide +kernel
theorem dX8_possibleHomes_3 : decode cX8_possibleHomes 3 = .ok (.istore 4, 2) := by decide +kernel
theorem dX8_possibleHomes_5 : decode cX8_possibleHomes 5 = .ok (.iload 4, 2) := by decide +kernel
theorem dX8_possibleHomes_7 : decode cX8_possibleHomes 7 = .ok (.bipush 36, 2) := by decide +kernel
theorem dX8_possibleHomes_9 : decode cX8_possibleHomes 9 = .ok (.if_icmp .ge 26, 3) := by decide +kernel
theorem dX8_possibleHomes_12 : decode cX8_possibleHomes 12 = .ok (.aload_n 0, 1) := by decide +kernel
theorem dX8_possibleHomes_13 : decode cX8_possibleHomes 13 = .ok (.iload_n 1, 1) := by decide +kernel
theorem dX8_possibleHomes_14 : decode cX8_possibleHomes 14 = .ok (.iload 4, 2) := by decide +kernel
theorem dX8_possibleHomes_16 : decode cX8_possibleHomes 16 = .ok (.invokevirtual 242, 3) := by decide +kernel
theorem dX8_possibleHomes_19 : decode cX8_possibleHomes 19 = .ok (.ifCond .eq 10, 3) := by decide +kernel
theorem dX8_possibleHomes_22 : decode cX8_possibleHomes 22 = .ok (.lload_n 2, 1) := by decide +kernel
theorem dX8_possibleHomes_23 : decode cX8_possibleHomes 23 = .ok (.lconst 1, 1) := by decide +kernel
theorem dX8_possibleHomes_24 : decode cX8_possibleHomes 24 = .ok (.iload 4, 2) := by decide +kernel
theorem dX8_possibleHomes_26 : decode cX8_possibleHomes 26 = .ok (.lshl, 1) := by decide +kernel
theorem dX8_possibleHomes_27 : decode cX8_possibleHomes 27 = .ok (.lor, 1) := by decide +kernel
theorem dX8_possibleHomes_28 : decode cX8_possibleHomes 28 = .ok (.lstore_n 2, 1) := by decide +kernel
theorem dX8_possibleHomes_29 : decode cX8_possibleHomes 29 = .ok (.iinc 4 1, 3) := by decide +kernel
theorem dX8_possibleHomes_32 : decode cX8_possibleHomes 32 = .ok (.goto (-27), 3) := by decide +kernel
theorem dX8_possibleHomes_35 : decode cX8_possibleHomes 35 = .ok (.lload_n 2, 1) := by decide +kernel
theorem dX8_possibleHomes_36 : decode cX8_possibleHomes 36 = .ok (.lreturn, 1) := by decide +kernel
theorem dX8_canBeHome_0 : decode cX8_canBeHome 0 = .ok (.iconst 0, 1) := by decide +kernel
theorem dX8_canBeHome_1 : decode cX8_canBeHome 1 = .ok (.istore_n 3, 1) := by decide +kernel
theorem dX8_canBeHome_2 : decode cX8_canBeHome 2 = .ok (.iload_n 3, 1) := by decide +kernel
theorem dX8_canBeHome_3 : decode cX8_canBeHome 3 = .ok (.aload_n 0, 1) := by decide +kernel
theorem dX8_canBeHome_4 : decode cX8_canBeHome 4 = .ok (.getfield 25, 3) := by decide +kernel
theorem dX8_canBeHome_7 : decode cX8_canBeHome 7 = .ok (.getfield 171, 3) := by decide +kernel
theorem dX8_canBeHome_10 : decode cX8_canBeHome 10 = .ok (.if_icmp .ge 55, 3) := by decide +kernel
theorem dX8_canBeHome_13 : decode cX8_canBeHome 13 = .ok (.aload_n 0, 1) := by decide +kernel
theorem dX8_canBeHome_14 : decode cX8_canBeHome 14 = .ok (.getfield 25, 3) := by decide +kernel
theorem dX8_canBeHome_17 : decode cX8_canBeHome 17 = .ok (.getfield 246, 3) := by decide +kernel
theorem dX8_canBeHome_20 : decode cX8_canBeHome 20 = .ok (.iload_n 3, 1) := by decide +kernel
theorem dX8_canBeHome_21 : decode cX8_canBeHome 21 = .ok (.iaload, 1) := by decide +kernel
theorem dX8_canBeHome_22 : decode cX8_canBeHome 22 = .ok (.iload_n 1, 1) := by decide +kernel
theorem dX8_canBeHome_23 : decode cX8_canBeHome 23 = .ok (.if_icmp .ne 36, 3) := by decide +kernel
theorem dX8_canBeHome_26 : decode cX8_canBeHome 26 = .ok (.aload_n 0, 1) := by decide +kernel
theorem dX8_canBeHome_27 : decode cX8_canBeHome 27 = .ok (.getfield 18, 3) := by decide +kernel
theorem dX8_canBeHome_30 : decode cX8_canBeHome 30 = .ok (.iload_n 1, 1) := by decide +kernel
theorem dX8_canBeHome_31 : decode cX8_canBeHome 31 = .ok (.aaload, 1) := by decide +kernel
theorem dX8_canBeHome_32 : decode cX8_canBeHome 32 = .ok (.iload_n 2, 1) := by decide +kernel
theorem dX8_canBeHome_33 : decode cX8_canBeHome 33 = .ok (.aload_n 0, 1) := by decide +kernel
theorem dX8_canBeHome_34 : decode cX8_canBeHome 34 = .ok (.getfield 25, 3) := by decide +kernel
theorem dX8_canBeHome_37 : decode cX8_canBeHome 37 = .ok (.getfield 249, 3) := by decide +kernel
theorem dX8_canBeHome_40 : decode cX8_canBeHome 40 = .ok (.iload_n 3, 1) := by decide +kernel
theorem dX8_canBeHome_41 : decode cX8_canBeHome 41 = .ok (.iaload, 1) := by decide +kernel
theorem dX8_canBeHome_42 : decode cX8_canBeHome 42 = .ok (.invokestatic 226, 3) := by decide +kernel
theorem dX8_canBeHome_45 : decode cX8_canBeHome 45 = .ok (.aload_n 0, 1) := by decide +kernel
theorem dX8_canBeHome_46 : decode cX8_canBeHome 46 = .ok (.getfield 25, 3) := by decide +kernel
theorem dX8_canBeHome_49 : decode cX8_canBeHome 49 = .ok (.getfield 252, 3) := by decide +kernel
theorem dX8_canBeHome_52 : decode cX8_canBeHome 52 = .ok (.iload_n 3, 1) := by decide +kernel
theorem dX8_canBeHome_53 : decode cX8_canBeHome 53 = .ok (.iaload, 1) := by decide +kernel
theorem dX8_canBeHome_54 : decode cX8_canBeHome 54 = .ok (.if_icmp .eq 5, 3) := by decide +kernel
theorem dX8_canBeHome_57 : decode cX8_canBeHome 57 = .ok (.iconst 0, 1) := by decide +kernel
theorem dX8_canBeHome_58 : decode cX8_canBeHome 58 = .ok (.ireturn, 1) := by decide +kernel
theorem dX8_canBeHome_59 : decode cX8_canBeHome 59 = .ok (.iinc 3 1, 3) := by decide +kernel
theorem dX8_canBeHome_62 : decode cX8_canBeHome 62 = .ok (.goto (-60), 3) := by decide +kernel
theorem dX8_canBeHome_65 : decode cX8_canBeHome 65 = .ok (.iconst 1, 1) := by decide +kernel
theorem dX8_canBeHome_66 : decode cX8_canBeHome 66 = .ok (.ireturn, 1) := by decide +kernel
theorem dX8_leastPlace_0 : decode cX8_leastPlace 0 = .ok (.iconst 0, 1) := by decide +kernel
theorem dX8_leastPlace_1 : decode cX8_leastPlace 1 = .ok (.istore_n 2, 1) := by decide +kernel
theorem dX8_leastPlace_2 : decode cX8_leastPlace 2 = .ok (.iload_n 2, 1) := by decide +kernel
theorem dX8_leastPlace_3 : decode cX8_leastPlace 3 = .ok (.bipush 36, 2) := by decide +kernel
theorem dX8_leastPlace_5 : decode cX8_leastPlace 5 = .ok (.if_icmp .ge 21, 3) := by decide +kernel
theorem dX8_leastPlace_8 : decode cX8_leastPlace 8 = .ok (.lload_n 0, 1) := by decide +kernel
theorem dX8_leastPlace_9 : decode cX8_leastPlace 9 = .ok (.iload_n 2, 1) := by decide +kernel
theorem dX8_leastPlace_10 : decode cX8_leastPlace 10 = .ok (.lshr, 1) := by decide +kernel
theorem dX8_leastPlace_11 : decode cX8_leastPlace 11 = .ok (.lconst 1, 1) := by decide +kernel
theorem dX8_leastPlace_12 : decode cX8_leastPlace 12 = .ok (.land, 1) := by decide +kernel
theorem dX8_leastPlace_13 : decode cX8_leastPlace 13 = .ok (.lconst 1, 1) := by decide +kernel
theorem dX8_leastPlace_14 : decode cX8_leastPlace 14 = .ok (.lcmp, 1) := by decide +kernel
theorem dX8_leastPlace_15 : decode cX8_leastPlace 15 = .ok (.ifCond .ne 5, 3) := by decide +kernel
theorem dX8_leastPlace_18 : decode cX8_leastPlace 18 = .ok (.iload_n 2, 1) := by decide +kernel
theorem dX8_leastPlace_19 : decode cX8_leastPlace 19 = .ok (.ireturn, 1) := by decide +kernel
theorem dX8_leastPlace_20 : decode cX8_leastPlace 20 = .ok (.iinc 2 1, 3) := by decide +kernel
theorem dX8_leastPlace_23 : decode cX8_leastPlace 23 = .ok (.goto (-21), 3) := by decide +kernel
theorem dX8_leastPlace_26 : decode cX8_leastPlace 26 = .ok (.iconst (-1), 1) := by decide +kernel
theorem dX8_leastPlace_27 : decode cX8_leastPlace 27 = .ok (.ireturn, 1) := by decide +kernel
theorem dX8_bestLook_0 : decode cX8_bestLook 0 = .ok (.lload_n 2, 1) := by decide +kernel
theorem dX8_bestLook_1 : decode cX8_bestLook 1 = .ok (.lconst 0, 1) := by decide +kernel
theorem dX8_bestLook_2 : decode cX8_bestLook 2 = .ok (.lcmp, 1) := by decide +kernel
theorem dX8_bestLook_3 : decode cX8_bestLook 3 = .ok (.ifCond .ne 5, 3) := by decide +kernel
theorem dX8_bestLook_6 : decode cX8_bestLook 6 = .ok (.iconst (-1), 1) := by decide +kernel
theorem dX8_bestLook_7 : decode cX8_bestLook 7 = .ok (.ireturn, 1) := by decide +kernel
theorem dX8_bestLook_8 : decode cX8_bestLook 8 = .ok (.iconst (-1), 1) := by decide +kernel
theorem dX8_bestLook_9 : decode cX8_bestLook 9 = .ok (.istore 4, 2) := by decide +kernel
theorem dX8_bestLook_11 : decode cX8_bestLook 11 = .ok (.bipush 37, 2) := by decide +kernel
theorem dX8_bestLook_13 : decode cX8_bestLook 13 = .ok (.istore 5, 2) := by decide +kernel
theorem dX8_bestLook_15 : decode cX8_bestLook 15 = .ok (.iconst 0, 1) := by decide +kernel
theorem dX8_bestLook_16 : decode cX8_bestLook 16 = .ok (.istore 6, 2) := by decide +kernel
theorem dX8_bestLook_18 : decode cX8_bestLook 18 = .ok (.iload 6, 2) := by decide +kernel
theorem dX8_bestLook_20 : decode cX8_bestLook 20 = .ok (.bipush 36, 2) := by decide +kernel
theorem dX8_bestLook_22 : decode cX8_bestLook 22 = .ok (.if_icmp .ge 39, 3) := by decide +kernel
theorem dX8_bestLook_25 : decode cX8_bestLook 25 = .ok (.aload_n 0, 1) := by decide +kernel
theorem dX8_bestLook_26 : decode cX8_bestLook 26 = .ok (.aload_n 0, 1) := by decide +kernel
theorem dX8_bestLook_27 : decode cX8_bestLook 27 = .ok (.getfield 18, 3) := by decide +kernel
theorem dX8_bestLook_30 : decode cX8_bestLook 30 = .ok (.iload_n 1, 1) := by decide +kernel
theorem dX8_bestLook_31 : decode cX8_bestLook 31 = .ok (.aaload, 1) := by decide +kernel
theorem dX8_bestLook_32 : decode cX8_bestLook 32 = .ok (.lload_n 2, 1) := by decide +kernel
theorem dX8_bestLook_33 : decode cX8_bestLook 33 = .ok (.iload 6, 2) := by decide +kernel
theorem dX8_bestLook_35 : decode cX8_bestLook 35 = .ok (.invokevirtual 255, 3) := by decide +kernel
theorem dX8_bestLook_38 : decode cX8_bestLook 38 = .ok (.istore 7, 2) := by decide +kernel
theorem dX8_bestLook_40 : decode cX8_bestLook 40 = .ok (.iload 7, 2) := by decide +kernel
theorem dX8_bestLook_42 : decode cX8_bestLook 42 = .ok (.iload 5, 2) := by decide +kernel
theorem dX8_bestLook_44 : decode cX8_bestLook 44 = .ok (.if_icmp .ge 11, 3) := by decide +kernel
theorem dX8_bestLook_47 : decode cX8_bestLook 47 = .ok (.iload 7, 2) := by decide +kernel
theorem dX8_bestLook_49 : decode cX8_bestLook 49 = .ok (.istore 5, 2) := by decide +kernel
theorem dX8_bestLook_51 : decode cX8_bestLook 51 = .ok (.iload 6, 2) := by decide +kernel
theorem dX8_bestLook_53 : decode cX8_bestLook 53 = .ok (.istore 4, 2) := by decide +kernel
theorem dX8_bestLook_55 : decode cX8_bestLook 55 = .ok (.iinc 6 1, 3) := by decide +kernel
theorem dX8_bestLook_58 : decode cX8_bestLook 58 = .ok (.goto (-40), 3) := by decide +kernel
theorem dX8_bestLook_61 : decode cX8_bestLook 61 = .ok (.iload 4, 2) := by decide +kernel
theorem dX8_bestLook_63 : decode cX8_bestLook 63 = .ok (.ireturn, 1) := by decide +kernel
theorem dX8_leftAtWorst_0 : decode cX8_leftAtWorst 0 = .ok (.aload_n 0, 1) := by decide +kernel
theorem dX8_leftAtWorst_1 : decode cX8_leftAtWorst 1 = .ok (.getfield 46, 3) := by decide +kernel
theorem dX8_leftAtWorst_4 : decode cX8_leftAtWorst 4 = .ok (.iconst 0, 1) := by decide +kernel
theorem dX8_leftAtWorst_5 : decode cX8_leftAtWorst 5 = .ok (.invokestatic 236, 3) := by decide +kernel
theorem dX8_leftAtWorst_8 : decode cX8_leftAtWorst 8 = .ok (.iconst 0, 1) := by decide +kernel
theorem dX8_leftAtWorst_9 : decode cX8_leftAtWorst 9 = .ok (.istore 5, 2) := by decide +kernel
theorem dX8_leftAtWorst_11 : decode cX8_leftAtWorst 11 = .ok (.iconst 0, 1) := by decide +kernel
theorem dX8_leftAtWorst_12 : decode cX8_leftAtWorst 12 = .ok (.istore 6, 2) := by decide +kernel
theorem dX8_leftAtWorst_14 : decode cX8_leftAtWorst 14 = .ok (.iload 6, 2) := by decide +kernel
theorem dX8_leftAtWorst_16 : decode cX8_leftAtWorst 16 = .ok (.bipush 36, 2) := by decide +kernel
theorem dX8_leftAtWorst_18 : decode cX8_leftAtWorst 18 = .ok (.if_icmp .ge 55, 3) := by decide +kernel
theorem dX8_leftAtWorst_21 : decode cX8_leftAtWorst 21 = .ok (.lload_n 2, 1) := by decide +kernel
theorem dX8_leftAtWorst_22 : decode cX8_leftAtWorst 22 = .ok (.iload 6, 2) := by decide +kernel
theorem dX8_leftAtWorst_24 : decode cX8_leftAtWorst 24 = .ok (.lshr, 1) := by decide +kernel
theorem dX8_leftAtWorst_25 : decode cX8_leftAtWorst 25 = .ok (.lconst 1, 1) := by decide +kernel
theorem dX8_leftAtWorst_26 : decode cX8_leftAtWorst 26 = .ok (.land, 1) := by decide +kernel
theorem dX8_leftAtWorst_27 : decode cX8_leftAtWorst 27 = .ok (.lconst 1, 1) := by decide +kernel
theorem dX8_leftAtWorst_28 : decode cX8_leftAtWorst 28 = .ok (.lcmp, 1) := by decide +kernel
theorem dX8_leftAtWorst_29 : decode cX8_leftAtWorst 29 = .ok (.ifCond .ne 38, 3) := by decide +kernel
theorem dX8_leftAtWorst_32 : decode cX8_leftAtWorst 32 = .ok (.aload_n 1, 1) := by decide +kernel
theorem dX8_leftAtWorst_33 : decode cX8_leftAtWorst 33 = .ok (.iload 6, 2) := by decide +kernel
theorem dX8_leftAtWorst_35 : decode cX8_leftAtWorst 35 = .ok (.iload 4, 2) := by decide +kernel
theorem dX8_leftAtWorst_37 : decode cX8_leftAtWorst 37 = .ok (.invokestatic 226, 3) := by decide +kernel
theorem dX8_leftAtWorst_40 : decode cX8_leftAtWorst 40 = .ok (.istore 7, 2) := by decide +kernel
theorem dX8_leftAtWorst_42 : decode cX8_leftAtWorst 42 = .ok (.aload_n 0, 1) := by decide +kernel
theorem dX8_leftAtWorst_43 : decode cX8_leftAtWorst 43 = .ok (.getfield 46, 3) := by decide +kernel
theorem dX8_leftAtWorst_46 : decode cX8_leftAtWorst 46 = .ok (.iload 7, 2) := by decide +kernel
theorem dX8_leftAtWorst_48 : decode cX8_leftAtWorst 48 = .ok (.dup2, 1) := by decide +kernel
theorem dX8_leftAtWorst_49 : decode cX8_leftAtWorst 49 = .ok (.iaload, 1) := by decide +kernel
theorem dX8_leftAtWorst_50 : decode cX8_leftAtWorst 50 = .ok (.iconst 1, 1) := by decide +kernel
theorem dX8_leftAtWorst_51 : decode cX8_leftAtWorst 51 = .ok (.iadd, 1) := by decide +kernel
theorem dX8_leftAtWorst_52 : decode cX8_leftAtWorst 52 = .ok (.iastore, 1) := by decide +kernel
theorem dX8_leftAtWorst_53 : decode cX8_leftAtWorst 53 = .ok (.iload 5, 2) := by decide +kernel
theorem dX8_leftAtWorst_55 : decode cX8_leftAtWorst 55 = .ok (.aload_n 0, 1) := by decide +kernel
theorem dX8_leftAtWorst_56 : decode cX8_leftAtWorst 56 = .ok (.getfield 46, 3) := by decide +kernel
theorem dX8_leftAtWorst_59 : decode cX8_leftAtWorst 59 = .ok (.iload 7, 2) := by decide +kernel
theorem dX8_leftAtWorst_61 : decode cX8_leftAtWorst 61 = .ok (.iaload, 1) := by decide +kernel
theorem dX8_leftAtWorst_62 : decode cX8_leftAtWorst 62 = .ok (.invokestatic 259, 3) := by decide +kernel
theorem dX8_leftAtWorst_65 : decode cX8_leftAtWorst 65 = .ok (.istore 5, 2) := by decide +kernel
theorem dX8_leftAtWorst_67 : decode cX8_leftAtWorst 67 = .ok (.iinc 6 1, 3) := by decide +kernel
theorem dX8_leftAtWorst_70 : decode cX8_leftAtWorst 70 = .ok (.goto (-56), 3) := by decide +kernel
theorem dX8_leftAtWorst_73 : decode cX8_leftAtWorst 73 = .ok (.iload 5, 2) := by decide +kernel
theorem dX8_leftAtWorst_75 : decode cX8_leftAtWorst 75 = .ok (.ireturn, 1) := by decide +kernel
theorem dX8_seedBehind_0 : decode cX8_seedBehind 0 = .ok (.ldc2_w 262, 3) := by decide +kernel
theorem dX8_seedBehind_3 : decode cX8_seedBehind 3 = .ok (.iload_n 0, 1) := by decide +kernel
theorem dX8_seedBehind_4 : decode cX8_seedBehind 4 = .ok (.i2l, 1) := by decide +kernel
theorem dX8_seedBehind_5 : decode cX8_seedBehind 5 = .ok (.lmul, 1) := by decide +kernel
theorem dX8_seedBehind_6 : decode cX8_seedBehind 6 = .ok (.ldc2_w 264, 3) := by decide +kernel
theorem dX8_seedBehind_9 : decode cX8_seedBehind 9 = .ok (.ladd, 1) := by decide +kernel
theorem dX8_seedBehind_10 : decode cX8_seedBehind 10 = .ok (.ldc2_w 266, 3) := by decide +kernel
theorem dX8_seedBehind_13 : decode cX8_seedBehind 13 = .ok (.lrem, 1) := by decide +kernel
theorem dX8_seedBehind_14 : decode cX8_seedBehind 14 = .ok (.l2i, 1) := by decide +kernel
theorem dX8_seedBehind_15 : decode cX8_seedBehind 15 = .ok (.ireturn, 1) := by decide +kernel
theorem dX8_newNeedle_0 : decode cX8_newNeedle 0 = .ok (.iload_n 0, 1) := by decide +kernel
theorem dX8_newNeedle_1 : decode cX8_newNeedle 1 = .ok (.tableswitch 63 1 4 #[31, 39, 47, 55], 31) := by decide +kernel
theorem dX8_newNeedle_32 : decode cX8_newNeedle 32 = .ok (.new 268, 3) := by decide +kernel
theorem dX8_newNeedle_35 : decode cX8_newNeedle 35 = .ok (.dup, 1) := by decide +kernel
theorem dX8_newNeedle_36 : decode cX8_newNeedle 36 = .ok (.invokespecial 270, 3) := by decide +kernel
theorem dX8_newNeedle_39 : decode cX8_newNeedle 39 = .ok (.areturn, 1) := by decide +kernel
theorem dX8_newNeedle_40 : decode cX8_newNeedle 40 = .ok (.new 271, 3) := by decide +kernel
theorem dX8_newNeedle_43 : decode cX8_newNeedle 43 = .ok (.dup, 1) := by decide +kernel
theorem dX8_newNeedle_44 : decode cX8_newNeedle 44 = .ok (.invokespecial 273, 3) := by decide +kernel
theorem dX8_newNeedle_47 : decode cX8_newNeedle 47 = .ok (.areturn, 1) := by decide +kernel
theorem dX8_newNeedle_48 : decode cX8_newNeedle 48 = .ok (.new 274, 3) := by decide +kernel
theorem dX8_newNeedle_51 : decode cX8_newNeedle 51 = .ok (.dup, 1) := by decide +kernel
theorem dX8_newNeedle_52 : decode cX8_newNeedle 52 = .ok (.invokespecial 276, 3) := by decide +kernel
theorem dX8_newNeedle_55 : decode cX8_newNeedle 55 = .ok (.areturn, 1) := by decide +kernel
theorem dX8_newNeedle_56 : decode cX8_newNeedle 56 = .ok (.new 277, 3) := by decide +kernel
theorem dX8_newNeedle_59 : decode cX8_newNeedle 59 = .ok (.dup, 1) := by decide +kernel
theorem dX8_newNeedle_60 : decode cX8_newNeedle 60 = .ok (.invokespecial 279, 3) := by decide +kernel
theorem dX8_newNeedle_63 : decode cX8_newNeedle 63 = .ok (.areturn, 1) := by decide +kernel
theorem dX8_newNeedle_64 : decode cX8_newNeedle 64 = .ok (.new 16, 3) := by decide +kernel
theorem dX8_newNeedle_67 : decode cX8_newNeedle 67 = .ok (.dup, 1) := by decide +kernel
theorem dX8_newNeedle_68 : decode cX8_newNeedle 68 = .ok (.invokespecial 60, 3) := by decide +kernel
theorem dX8_newNeedle_71 : decode cX8_newNeedle 71 = .ok (.areturn, 1) := by decide +kernel
theorem dX8_isOfKind_0 : decode cX8_isOfKind 0 = .ok (.iload_n 1, 1) := by decide +kernel
theorem dX8_isOfKind_1 : decode cX8_isOfKind 1 = .ok (.tableswitch 57 0 4 #[35, 37, 42, 47, 52], 35) := by decide +kernel
theorem dX8_isOfKind_36 : decode cX8_isOfKind 36 = .ok (.iconst 1, 1) := by decide +kernel
theorem dX8_isOfKind_37 : decode cX8_isOfKind 37 = .ok (.ireturn, 1) := by decide +kernel
theorem dX8_isOfKind_38 : decode cX8_isOfKind 38 = .ok (.aload_n 0, 1) := by decide +kernel
theorem dX8_isOfKind_39 : decode cX8_isOfKind 39 = .ok (.instanceof 268, 3) := by decide +kernel
theorem dX8_isOfKind_42 : decode cX8_isOfKind 42 = .ok (.ireturn, 1) := by decide +kernel
theorem dX8_isOfKind_43 : decode cX8_isOfKind 43 = .ok (.aload_n 0, 1) := by decide +kernel
theorem dX8_isOfKind_44 : decode cX8_isOfKind 44 = .ok (.instanceof 271, 3) := by decide +kernel
theorem dX8_isOfKind_47 : decode cX8_isOfKind 47 = .ok (.ireturn, 1) := by decide +kernel
theorem dX8_isOfKind_48 : decode cX8_isOfKind 48 = .ok (.aload_n 0, 1) := by decide +kernel
theorem dX8_isOfKind_49 : decode cX8_isOfKind 49 = .ok (.instanceof 274, 3) := by decide +kernel
theorem dX8_isOfKind_52 : decode cX8_isOfKind 52 = .ok (.ireturn, 1) := by decide +kernel
theorem dX8_isOfKind_53 : decode cX8_isOfKind 53 = .ok (.aload_n 0, 1) := by decide +kernel
theorem dX8_isOfKind_54 : decode cX8_isOfKind 54 = .ok (.instanceof 277, 3) := by decide +kernel
theorem dX8_isOfKind_57 : decode cX8_isOfKind 57 = .ok (.ireturn, 1) := by decide +kernel
theorem dX8_isOfKind_58 : decode cX8_isOfKind 58 = .ok (.iconst 0, 1) := by decide +kernel
theorem dX8_isOfKind_59 : decode cX8_isOfKind 59 = .ok (.ireturn, 1) := by decide +kernel
theorem dX9_init_0 : decode cX9_init 0 = .ok (.aload_n 0, 1) := by decide +kernel
theorem dX9_init_1 : decode cX9_init 1 = .ok (.invokespecial 1, 3) := by decide +kernel
theorem dX9_init_4 : decode cX9_init 4 = .ok (.aload_n 0, 1) := by decide +kernel
theorem dX9_init_5 : decode cX9_init 5 = .ok (.bipush 28, 2) := by decide +kernel
theorem dX9_init_7 : decode cX9_init 7 = .ok (.newarray .int, 2) := by decide +kernel
theorem dX9_init_9 : decode cX9_init 9 = .ok (.putfield 7, 3) := by decide +kernel
theorem dX9_init_12 : decode cX9_init 12 = .ok (.aload_n 0, 1) := by decide +kernel
theorem dX9_init_13 : decode cX9_init 13 = .ok (.bipush 8, 2) := by decide +kernel
theorem dX9_init_15 : decode cX9_init 15 = .ok (.newarray .int, 2) := by decide +kernel
theorem dX9_init_17 : decode cX9_init 17 = .ok (.putfield 13, 3) := by decide +kernel
theorem dX9_init_20 : decode cX9_init 20 = .ok (.aload_n 0, 1) := by decide +kernel
theorem dX9_init_21 : decode cX9_init 21 = .ok (.bipush 36, 2) := by decide +kernel
theorem dX9_init_23 : decode cX9_init 23 = .ok (.newarray .int, 2) := by decide +kernel
theorem dX9_init_25 : decode cX9_init 25 = .ok (.putfield 16, 3) := by decide +kernel
theorem dX9_init_28 : decode cX9_init 28 = .ok (.aload_n 0, 1) := by decide +kernel
theorem dX9_init_29 : decode cX9_init 29 = .ok (.bipush 36, 2) := by decide +kernel
theorem dX9_init_31 : decode cX9_init 31 = .ok (.newarray .int, 2) := by decide +kernel
theorem dX9_init_33 : decode cX9_init 33 = .ok (.putfield 19, 3) := by decide +kernel
theorem dX9_init_36 : decode cX9_init 36 = .ok (.aload_n 0, 1) := by decide +kernel
theorem dX9_init_37 : decode cX9_init 37 = .ok (.bipush 18, 2) := by decide +kernel
theorem dX9_init_39 : decode cX9_init 39 = .ok (.newarray .int, 2) := by decide +kernel
theorem dX9_init_41 : decode cX9_init 41 = .ok (.putfield 22, 3) := by decide +kernel
theorem dX9_init_44 : decode cX9_init 44 = .ok (.aload_n 0, 1) := by decide +kernel
theorem dX9_init_45 : decode cX9_init 45 = .ok (.bipush 9, 2) := by decide +kernel
theorem dX9_init_47 : decode cX9_init 47 = .ok (.newarray .int, 2) := by decide +kernel
theorem dX9_init_49 : decode cX9_init 49 = .ok (.putfield 25, 3) := by decide +kernel
theorem dX9_init_52 : decode cX9_init 52 = .ok (.aload_n 0, 1) := by decide +kernel
theorem dX9_init_53 : decode cX9_init 53 = .ok (.bipush 8, 2) := by decide +kernel
theorem dX9_init_55 : decode cX9_init 55 = .ok (.newarray .int, 2) := by decide +kernel
theorem dX9_init_57 : decode cX9_init 57 = .ok (.putfield 28, 3) := by decide +kernel
theorem dX9_init_60 : decode cX9_init 60 = .ok (.aload_n 0, 1) := by decide +kernel
theorem dX9_init_61 : decode cX9_init 61 = .ok (.bipush 36, 2) := by decide +kernel
theorem dX9_init_63 : decode cX9_init 63 = .ok (.newarray .int, 2) := by decide +kernel
theorem dX9_init_65 : decode cX9_init 65 = .ok (.putfield 31, 3) := by decide +kernel
theorem dX9_init_68 : decode cX9_init 68 = .ok (.aload_n 0, 1) := by decide +kernel
theorem dX9_init_69 : decode cX9_init 69 = .ok (.bipush 18, 2) := by decide +kernel
theorem dX9_init_71 : decode cX9_init 71 = .ok (.newarray .int, 2) := by decide +kernel
theorem dX9_init_73 : decode cX9_init 73 = .ok (.putfield 34, 3) := by decide +kernel
theorem dX9_init_76 : decode cX9_init 76 = .ok (.aload_n 0, 1) := by decide +kernel
theorem dX9_init_77 : decode cX9_init 77 = .ok (.iconst (-1), 1) := by decide +kernel
theorem dX9_init_78 : decode cX9_init 78 = .ok (.putfield 37, 3) := by decide +kernel
theorem dX9_init_81 : decode cX9_init 81 = .ok (.return_, 1) := by decide +kernel
theorem dX9_in_0 : decode cX9_in 0 = .ok (.lload_n 0, 1) := by decide +kernel
theorem dX9_in_1 : decode cX9_in 1 = .ok (.lload_n 2, 1) := by decide +kernel
theorem dX9_in_2 : decode cX9_in 2 = .ok (.lcmp, 1) := by decide +kernel
theorem dX9_in_3 : decode cX9_in 3 = .ok (.ifCond .lt 14, 3) := by decide +kernel
theorem dX9_in_6 : decode cX9_in 6 = .ok (.lload_n 0, 1) := by decide +kernel
theorem dX9_in_7 : decode cX9_in 7 = .ok (.lload 4, 2) := by decide +kernel
theorem dX9_in_9 : decode cX9_in 9 = .ok (.lcmp, 1) := by decide +kernel
theorem dX9_in_10 : decode cX9_in 10 = .ok (.ifCond .gt 7, 3) := by decide +kernel
theorem dX9_in_13 : decode cX9_in 13 = .ok (.iconst 1, 1) := by decide +kernel
theorem dX9_in_14 : decode cX9_in 14 = .ok (.goto 4, 3) := by decide +kernel
theorem dX9_in_17 : decode cX9_in 17 = .ok (.iconst 0, 1) := by decide +kernel
theorem dX9_in_18 : decode cX9_in 18 = .ok (.ireturn, 1) := by decide +kernel
theorem dX9_copy_0 : decode cX9_copy 0 = .ok (.iconst 0, 1) := by decide +kernel
theorem dX9_copy_1 : decode cX9_copy 1 = .ok (.istore_n 2, 1) := by decide +kernel
theorem dX9_copy_2 : decode cX9_copy 2 = .ok (.iload_n 2, 1) := by decide +kernel
theorem dX9_copy_3 : decode cX9_copy 3 = .ok (.aload_n 0, 1) := by decide +kernel
theorem dX9_copy_4 : decode cX9_copy 4 = .ok (.arraylength, 1) := by decide +kernel
theorem dX9_copy_5 : decode cX9_copy 5 = .ok (.if_icmp .ge 15, 3) := by decide +kernel
theorem dX9_copy_8 : decode cX9_copy 8 = .ok (.aload_n 1, 1) := by decide +kernel
theorem dX9_copy_9 : decode cX9_copy 9 = .ok (.iload_n 2, 1) := by decide +kernel
theorem dX9_copy_10 : decode cX9_copy 10 = .ok (.aload_n 0, 1) := by decide +kernel
theorem dX9_copy_11 : decode cX9_copy 11 = .ok (.iload_n 2, 1) := by decide +kernel
theorem dX9_copy_12 : decode cX9_copy 12 = .ok (.iaload, 1) := by decide +kernel
theorem dX9_copy_13 : decode cX9_copy 13 = .ok (.iastore, 1) := by decide +kernel
theorem dX9_copy_14 : decode cX9_copy 14 = .ok (.iinc 2 1, 3) := by decide +kernel
theorem dX9_copy_17 : decode cX9_copy 17 = .ok (.goto (-15), 3) := by decide +kernel
theorem dX9_copy_20 : decode cX9_copy 20 = .ok (.return_, 1) := by decide +kernel
theorem dX9_letter_0 : decode cX9_letter 0 = .ok (.iload_n 1, 1) := by decide +kernel
theorem dX9_letter_1 : decode cX9_letter 1 = .ok (.i2l, 1) := by decide +kernel
theorem dX9_letter_2 : decode cX9_letter 2 = .ok (.lconst 1, 1) := by decide +kernel
theorem dX9_letter_3 : decode cX9_letter 3 = .ok (.ldc2_w 41, 3) := by decide +kernel
theorem dX9_letter_6 : decode cX9_letter 6 = .ok (.invokestatic 43, 3) := by decide +kernel
theorem dX9_letter_9 : decode cX9_letter 9 = .ok (.ifCond .ne 6, 3) := by decide +kernel
theorem dX9_letter_12 : decode cX9_letter 12 = .ok (.bipush (-102), 2) := by decide +kernel
theorem dX9_letter_14 : decode cX9_letter 14 = .ok (.ireturn, 1) := by decide +kernel
theorem dX9_letter_15 : decode cX9_letter 15 = .ok (.aload_n 0, 1) := by decide +kernel
theorem dX9_letter_16 : decode cX9_letter 16 = .ok (.getfield 47, 3) := by decide +kernel
theorem dX9_letter_19 : decode cX9_letter 19 = .ok (.bipush 28, 2) := by decide +kernel
theorem dX9_letter_21 : decode cX9_letter 21 = .ok (.if_icmp .ne 6, 3) := by decide +kernel
theorem dX9_letter_24 : decode cX9_letter 24 = .ok (.bipush (-104), 2) := by decide +kernel
theorem dX9_letter_26 : decode cX9_letter 26 = .ok (.ireturn, 1) := by decide +kernel
theorem dX9_letter_27 : decode cX9_letter 27 = .ok (.aload_n 0, 1) := by decide +kernel
theorem dX9_letter_28 : decode cX9_letter 28 = .ok (.getfield 7, 3) := by decide +kernel
theorem dX9_letter_31 : decode cX9_letter 31 = .ok (.aload_n 0, 1) := by decide +kernel
theorem dX9_letter_32 : decode cX9_letter 32 = .ok (.getfield 47, 3) := by decide +kernel
theorem dX9_letter_35 : decode cX9_letter 35 = .ok (.iload_n 1, 1) := by decide +kernel
theorem dX9_letter_36 : decode cX9_letter 36 = .ok (.iastore, 1) := by decide +kernel
theorem dX9_letter_37 : decode cX9_letter 37 = .ok (.aload_n 0, 1) := by decide +kernel
theorem dX9_letter_38 : decode cX9_letter 38 = .ok (.dup, 1) := by decide +kernel
theorem dX9_letter_39 : decode cX9_letter 39 = .ok (.getfield 47, 3) := by decide +kernel
theorem dX9_letter_42 : decode cX9_letter 42 = .ok (.iconst 1, 1) := by decide +kernel
theorem dX9_letter_43 : decode cX9_letter 43 = .ok (.iadd, 1) := by decide +kernel
theorem dX9_letter_44 : decode cX9_letter 44 = .ok (.putfield 47, 3) := by decide +kernel
theorem dX9_letter_47 : decode cX9_letter 47 = .ok (.aload_n 0, 1) := by decide +kernel
theorem dX9_letter_48 : decode cX9_letter 48 = .ok (.getfield 47, 3) := by decide +kernel
theorem dX9_letter_51 : decode cX9_letter 51 = .ok (.ireturn, 1) := by decide +kernel
theorem dX9_blank_0 : decode cX9_blank 0 = .ok (.aload_n 0, 1) := by decide +kernel
theorem dX9_blank_1 : decode cX9_blank 1 = .ok (.getfield 47, 3) := by decide +kernel
theorem dX9_blank_4 : decode cX9_blank 4 = .ok (.istore_n 1, 1) := by decide +kernel
theorem dX9_blank_5 : decode cX9_blank 5 = .ok (.aload_n 0, 1) := by decide +kernel
theorem dX9_blank_6 : decode cX9_blank 6 = .ok (.iconst 0, 1) := by decide +kernel
theorem dX9_blank_7 : decode cX9_blank 7 = .ok (.putfield 47, 3) := by decide +kernel
theorem dX9_blank_10 : decode cX9_blank 10 = .ok (.iload_n 1, 1) := by decide +kernel
theorem dX9_blank_11 : decode cX9_blank 11 = .ok (.ireturn, 1) := by decide +kernel
theorem dX9_kindBy_0 : decode cX9_kindBy 0 = .ok (.iload_n 0, 1) := by decide +kernel
theorem dX9_kindBy_1 : decode cX9_kindBy 1 = .ok (.bipush 110, 2) := by decide +kernel
theorem dX9_kindBy_3 : decode cX9_kindBy 3 = .ok (.if_icmp .ne 7, 3) := by decide +kernel
theorem dX9_kindBy_6 : decode cX9_kindBy 6 = .ok (.iconst 0, 1) := by decide +kernel
theorem dX9_kindBy_7 : decode cX9_kindBy 7 = .ok (.goto 44, 3) := by decide +kernel
theorem dX9_kindBy_10 : decode cX9_kindBy 10 = .ok (.iload_n 0, 1) := by decide +kernel
theorem dX9_kindBy_11 : decode cX9_kindBy 11 = .ok (.bipush 115, 2) := by decide +kernel
theorem dX9_kindBy_13 : decode cX9_kindBy 13 = .ok (.if_icmp .ne 7, 3) := by decide +kernel
theorem dX9_kindBy_16 : decode cX9_kindBy 16 = .ok (.iconst 1, 1) := by decide +kernel
theorem dX9_kindBy_17 : decode cX9_kindBy 17 = .ok (.goto 34, 3) := by decide +kernel
theorem dX9_kindBy_20 : decode cX9_kindBy 20 = .ok (.iload_n 0, 1) := by decide +kernel
theorem dX9_kindBy_21 : decode cX9_kindBy 21 = .ok (.bipush 108, 2) := by decide +kernel
theorem dX9_kindBy_23 : decode cX9_kindBy 23 = .ok (.if_icmp .ne 7, 3) := by decide +kernel
theorem dX9_kindBy_26 : decode cX9_kindBy 26 = .ok (.iconst 2, 1) := by decide +kernel
theorem dX9_kindBy_27 : decode cX9_kindBy 27 = .ok (.goto 24, 3) := by decide +kernel
theorem dX9_kindBy_30 : decode cX9_kindBy 30 = .ok (.iload_n 0, 1) := by decide +kernel
theorem dX9_kindBy_31 : decode cX9_kindBy 31 = .ok (.bipush 116, 2) := by decide +kernel
theorem dX9_kindBy_33 : decode cX9_kindBy 33 = .ok (.if_icmp .ne 7, 3) := by decide +kernel
theorem dX9_kindBy_36 : decode cX9_kindBy 36 = .ok (.iconst 3, 1) := by decide +kernel
theorem dX9_kindBy_37 : decode cX9_kindBy 37 = .ok (.goto 14, 3) := by decide +kernel
theorem dX9_kindBy_40 : decode cX9_kindBy 40 = .ok (.iload_n 0, 1) := by decide +kernel
theorem dX9_kindBy_41 : decode cX9_kindBy 41 = .ok (.bipush 111, 2) := by decide +kernel
theorem dX9_kindBy_43 : decode cX9_kindBy 43 = .ok (.if_icmp .ne 7, 3) := by decide +kernel
theorem dX9_kindBy_46 : decode cX9_kindBy 46 = .ok (.iconst 4, 1) := by decide +kernel
theorem dX9_kindBy_47 : decode cX9_kindBy 47 = .ok (.goto 4, 3) := by decide +kernel
theorem dX9_kindBy_50 : decode cX9_kindBy 50 = .ok (.iconst (-1), 1) := by decide +kernel
theorem dX9_kindBy_51 : decode cX9_kindBy 51 = .ok (.ireturn, 1) := by decide +kernel
theorem dX9_isDigit_0 : decode cX9_isDigit 0 = .ok (.iload_n 0, 1) := by decide +kernel
theorem dX9_isDigit_1 : decode cX9_isDigit 1 = .ok (.i2l, 1) := by decide +kernel
theorem dX9_isDigit_2 : decode cX9_isDigit 2 = .ok (.ldc2_w 50, 3) := by decide +kernel
theorem dX9_isDigit_5 : decode cX9_isDigit 5 = .ok (.ldc2_w 52, 3) := by decide +kernel
theorem dX9_isDigit_8 : decode cX9_isDigit 8 = .ok (.invokestatic 43, 3) := by decide +kernel
theorem dX9_isDigit_11 : decode cX9_isDigit 11 = .ok (.ireturn, 1) := by decide +kernel
theorem dX9_isGood_0 : decode cX9_isGood 0 = .ok (.aload_n 0, 1) := by decide +kernel
theorem dX9_isGood_1 : decode cX9_isGood 1 = .ok (.getfield 7, 3) := by decide +kernel
theorem dX9_isGood_4 : decode cX9_isGood 4 = .ok (.iload_n 1, 1) := by decide +kernel
theorem dX9_isGood_5 : decode cX9_isGood 5 = .ok (.iaload, 1) := by decide +kernel
theorem dX9_isGood_6 : decode cX9_isGood 6 = .ok (.istore_n 2, 1) := by decide +kernel
theorem dX9_isGood_7 : decode cX9_isGood 7 = .ok (.aload_n 0, 1) := by decide +kernel
theorem dX9_isGood_8 : decode cX9_isGood 8 = .ok (.getfield 54, 3) := by decide +kernel
theorem dX9_isGood_11 : decode cX9_isGood 11 = .ok (.iconst (-1), 1) := by decide +kernel
theorem dX9_isGood_12 : decode cX9_isGood 12 = .ok (.if_icmp .eq 27, 3) := by decide +kernel
theorem dX9_isGood_15 : decode cX9_isGood 15 = .ok (.iload_n 1, 1) := by decide +kernel
theorem dX9_isGood_16 : decode cX9_isGood 16 = .ok (.aload_n 0, 1) := by decide +kernel
theorem dX9_isGood_17 : decode cX9_isGood 17 = .ok (.getfield 54, 3) := by decide +kernel
theorem dX9_isGood_20 : decode cX9_isGood 20 = .ok (.isub, 1) := by decide +kernel
theorem dX9_isGood_21 : decode cX9_isGood 21 = .ok (.bipush 11, 2) := by decide +kernel
theorem dX9_isGood_23 : decode cX9_isGood 23 = .ok (.if_icmp .ge 14, 3) := by decide +kernel
theorem dX9_isGood_26 : decode cX9_isGood 26 = .ok (.iload_n 2, 1) := by decide +kernel
theorem dX9_isGood_27 : decode cX9_isGood 27 = .ok (.invokestatic 57, 3) := by decide +kernel
theorem dX9_isGood_30 : decode cX9_isGood 30 = .ok (.ifCond .eq 7, 3) := by decide +kernel
theorem dX9_isGood_33 : decode cX9_isGood 33 = .ok (.iconst 1, 1) := by decide +kernel
theorem dX9_isGood_34 : decode cX9_isGood 34 = .ok (.goto 4, 3) := by decide +kernel
theorem dX9_isGood_37 : decode cX9_isGood 37 = .ok (.iconst 0, 1) := by decide +kernel
theorem dX9_isGood_38 : decode cX9_isGood 38 = .ok (.ireturn, 1) := by decide +kernel
theorem dX9_isGood_39 : decode cX9_isGood 39 = .ok (.iload_n 1, 1) := by decide +kernel
theorem dX9_isGood_40 : decode cX9_isGood 40 = .ok (.iconst 4, 1) := by decide +kernel
theorem dX9_isGood_41 : decode cX9_isGood 41 = .ok (.irem, 1) := by decide +kernel
theorem dX9_isGood_42 : decode cX9_isGood 42 = .ok (.tableswitch 45 0 2 #[26, 40, 40], 26) := by decide +kernel
theorem dX9_isGood_68 : decode cX9_isGood 68 = .ok (.iload_n 2, 1) := by decide +kernel
theorem dX9_isGood_69 : decode cX9_isGood 69 = .ok (.invokestatic 61, 3) := by decide +kernel
theorem dX9_isGood_72 : decode cX9_isGood 72 = .ok (.iconst (-1), 1) := by decide +kernel
theorem dX9_isGood_73 : decode cX9_isGood 73 = .ok (.if_icmp .eq 7, 3) := by decide +kernel
theorem dX9_isGood_76 : decode cX9_isGood 76 = .ok (.iconst 1, 1) := by decide +kernel
theorem dX9_isGood_77 : decode cX9_isGood 77 = .ok (.goto 4, 3) := by decide +kernel
theorem dX9_isGood_80 : decode cX9_isGood 80 = .ok (.iconst 0, 1) := by decide +kernel
theorem dX9_isGood_81 : decode cX9_isGood 81 = .ok (.ireturn, 1) := by decide +kernel
theorem dX9_isGood_82 : decode cX9_isGood 82 = .ok (.iload_n 2, 1) := by decide +kernel
theorem dX9_isGood_83 : decode cX9_isGood 83 = .ok (.invokestatic 57, 3) := by decide +kernel
theorem dX9_isGood_86 : decode cX9_isGood 86 = .ok (.ireturn, 1) := by decide +kernel
theorem dX9_isGood_87 : decode cX9_isGood 87 = .ok (.aload_n 0, 1) := by decide +kernel
theorem dX9_isGood_88 : decode cX9_isGood 88 = .ok (.iload_n 2, 1) := by decide +kernel
theorem dX9_isGood_89 : decode cX9_isGood 89 = .ok (.bipush 59, 2) := by decide +kernel
theorem dX9_isGood_91 : decode cX9_isGood 91 = .ok (.if_icmp .ne 7, 3) := by decide +kernel
theorem dX9_isGood_94 : decode cX9_isGood 94 = .ok (.iload_n 1, 1) := by decide +kernel
theorem dX9_isGood_95 : decode cX9_isGood 95 = .ok (.goto 4, 3) := by decide +kernel
theorem dX9_isGood_98 : decode cX9_isGood 98 = .ok (.iconst (-1), 1) := by decide +kernel
theorem dX9_isGood_99 : decode cX9_isGood 99 = .ok (.putfield 54, 3) := by decide +kernel
theorem dX9_isGood_102 : decode cX9_isGood 102 = .ok (.iload_n 2, 1) := by decide +kernel
theorem dX9_isGood_103 : decode cX9_isGood 103 = .ok (.bipush 59, 2) := by decide +kernel
theorem dX9_isGood_105 : decode cX9_isGood 105 = .ok (.if_icmp .eq 15, 3) := by decide +kernel
theorem dX9_isGood_108 : decode cX9_isGood 108 = .ok (.iload_n 2, 1) := by decide +kernel
theorem dX9_isGood_109 : decode cX9_isGood 109 = .ok (.bipush 44, 2) := by decide +kernel
theorem dX9_isGood_111 : decode cX9_isGood 111 = .ok (.if_icmp .ne 13, 3) := by decide +kernel
theorem dX9_isGood_114 : decode cX9_isGood 114 = .ok (.iload_n 1, 1) := by decide +kernel
theorem dX9_isGood_115 : decode cX9_isGood 115 = .ok (.bipush 15, 2) := by decide +kernel
theorem dX9_isGood_117 : decode cX9_isGood 117 = .ok (.if_icmp .ge 7, 3) := by decide +kernel
theorem dX9_isGood_120 : decode cX9_isGood 120 = .ok (.iconst 1, 1) := by decide +kernel
theorem dX9_isGood_121 : decode cX9_isGood 121 = .ok (.goto 4, 3) := by decide +kernel
theorem dX9_isGood_124 : decode cX9_isGood 124 = .ok (.iconst 0, 1) := by decide +kernel
theorem dX9_isGood_125 : decode cX9_isGood 125 = .ok (.ireturn, 1) := by decide +kernel
theorem dX9_faultOf_0 : decode cX9_faultOf 0 = .ok (.aload_n 0, 1) := by decide +kernel
theorem dX9_faultOf_1 : decode cX9_faultOf 1 = .ok (.iconst (-1), 1) := by decide +kernel
theorem dX9_faultOf_2 : decode cX9_faultOf 2 = .ok (.putfield 54, 3) := by decide +kernel
theorem dX9_faultOf_5 : decode cX9_faultOf 5 = .ok (.iconst 0, 1) := by decide +kernel
theorem dX9_faultOf_6 : decode cX9_faultOf 6 = .ok (.istore_n 1, 1) := by decide +kernel
theorem dX9_faultOf_7 : decode cX9_faultOf 7 = .ok (.iload_n 1, 1) := by decide +kernel
theorem dX9_faultOf_8 : decode cX9_faultOf 8 = .ok (.aload_n 0, 1) := by decide +kernel
theorem dX9_faultOf_9 : decode cX9_faultOf 9 = .ok (.getfield 47, 3) := by decide +kernel
theorem dX9_faultOf_12 : decode cX9_faultOf 12 = .ok (.if_icmp .ge 17, 3) := by decide +kernel
theorem dX9_faultOf_15 : decode cX9_faultOf 15 = .ok (.aload_n 0, 1) := by decide +kernel
theorem dX9_faultOf_16 : decode cX9_faultOf 16 = .ok (.iload_n 1, 1) := by decide +kernel
theorem dX9_faultOf_17 : decode cX9_faultOf 17 = .ok (.invokevirtual 65, 3) := by decide +kernel
theorem dX9_faultOf_20 : decode cX9_faultOf 20 = .ok (.ifCond .eq 9, 3) := by decide +kernel
theorem dX9_faultOf_23 : decode cX9_faultOf 23 = .ok (.iinc 1 1, 3) := by decide +kernel
theorem dX9_faultOf_26 : decode cX9_faultOf 26 = .ok (.goto (-19), 3) := by decide +kernel
theorem dX9_faultOf_29 : decode cX9_faultOf 29 = .ok (.iload_n 1, 1) := by decide +kernel
theorem dX9_faultOf_30 : decode cX9_faultOf 30 = .ok (.ireturn, 1) := by decide +kernel
theorem dX9_fault_0 : decode cX9_fault 0 = .ok (.aload_n 0, 1) := by decide +kernel
theorem dX9_fault_1 : decode cX9_fault 1 = .ok (.invokevirtual 68, 3) := by decide +kernel
theorem dX9_fault_4 : decode cX9_fault 4 = .ok (.ireturn, 1) := by decide +kernel
theorem dX9_placeAt_0 : decode cX9_placeAt 0 = .ok (.bipush 6, 2) := by decide +kernel
theorem dX9_placeAt_2 : decode cX9_placeAt 2 = .ok (.aload_n 0, 1) := by decide +kernel
theorem dX9_placeAt_3 : decode cX9_placeAt 3 = .ok (.getfield 7, 3) := by decide +kernel
theorem dX9_placeAt_6 : decode cX9_placeAt 6 = .ok (.iload_n 1, 1) := by decide +kernel
theorem dX9_placeAt_7 : decode cX9_placeAt 7 = .ok (.iaload, 1) := by decide +kernel
theorem dX9_placeAt_8 : decode cX9_placeAt 8 = .ok (.bipush 48, 2) := by decide +kernel
theorem dX9_placeAt_10 : decode cX9_placeAt 10 = .ok (.isub, 1) := by decide +kernel
theorem dX9_placeAt_11 : decode cX9_placeAt 11 = .ok (.imul, 1) := by decide +kernel
theorem dX9_placeAt_12 : decode cX9_placeAt 12 = .ok (.aload_n 0, 1) := by decide +kernel
theorem dX9_placeAt_13 : decode cX9_placeAt 13 = .ok (.getfield 7, 3) := by decide +kernel
theorem dX9_placeAt_16 : decode cX9_placeAt 16 = .ok (.iload_n 1, 1) := by decide +kernel
theorem dX9_placeAt_17 : decode cX9_placeAt 17 = .ok (.iconst 1, 1) := by decide +kernel
theorem dX9_placeAt_18 : decode cX9_placeAt 18 = .ok (.iadd, 1) := by decide +kernel
theorem dX9_placeAt_19 : decode cX9_placeAt 19 = .ok (.iaload, 1) := by decide +kernel
theorem dX9_placeAt_20 : decode cX9_placeAt 20 = .ok (.iadd, 1) := by decide +kernel
theorem dX9_placeAt_21 : decode cX9_placeAt 21 = .ok (.bipush 48, 2) := by decide +kernel
theorem dX9_placeAt_23 : decode cX9_placeAt 23 = .ok (.isub, 1) := by decide +kernel
theorem dX9_placeAt_24 : decode cX9_placeAt 24 = .ok (.ireturn, 1) := by decide +kernel
theorem dX9_sea_0 : decode cX9_sea 0 = .ok (.aload_n 0, 1) := by decide +kernel
theorem dX9_sea_1 : decode cX9_sea 1 = .ok (.invokevirtual 68, 3) := by decide +kernel
theorem dX9_sea_4 : decode cX9_sea 4 = .ok (.aload_n 0, 1) := by decide +kernel
theorem dX9_sea_5 : decode cX9_sea 5 = .ok (.getfield 47, 3) := by decide +kernel
theorem dX9_sea_8 : decode cX9_sea 8 = .ok (.if_icmp .lt 38, 3) := by decide +kernel
theorem dX9_sea_11 : decode cX9_sea 11 = .ok (.aload_n 0, 1) := by decide +kernel
theorem dX9_sea_12 : decode cX9_sea 12 = .ok (.getfield 54, 3) := by decide +kernel
theorem dX9_sea_15 : decode cX9_sea 15 = .ok (.iconst (-1), 1) := by decide +kernel
theorem dX9_sea_16 : decode cX9_sea 16 = .ok (.if_icmp .eq 30, 3) := by decide +kernel
theorem dX9_sea_19 : decode cX9_sea 19 = .ok (.aload_n 0, 1) := by decide +kernel
theorem dX9_sea_20 : decode cX9_sea 20 = .ok (.getfield 47, 3) := by decide +kernel
theorem dX9_sea_23 : decode cX9_sea 23 = .ok (.aload_n 0, 1) := by decide +kernel
theorem dX9_sea_24 : decode cX9_sea 24 = .ok (.getfield 54, 3) := by decide +kernel
theorem dX9_sea_27 : decode cX9_sea 27 = .ok (.isub, 1) := by decide +kernel
theorem dX9_sea_28 : decode cX9_sea 28 = .ok (.iconst 3, 1) := by decide +kernel
theorem dX9_sea_29 : decode cX9_sea 29 = .ok (.if_icmp .lt 17, 3) := by decide +kernel
theorem dX9_sea_32 : decode cX9_sea 32 = .ok (.aload_n 0, 1) := by decide +kernel
theorem dX9_sea_33 : decode cX9_sea 33 = .ok (.getfield 47, 3) := by decide +kernel
theorem dX9_sea_36 : decode cX9_sea 36 = .ok (.aload_n 0, 1) := by decide +kernel
theorem dX9_sea_37 : decode cX9_sea 37 = .ok (.getfield 54, 3) := by decide +kernel
theorem dX9_sea_40 : decode cX9_sea 40 = .ok (.isub, 1) := by decide +kernel
theorem dX9_sea_41 : decode cX9_sea 41 = .ok (.iconst 2, 1) := by decide +kernel
theorem dX9_sea_42 : decode cX9_sea 42 = .ok (.irem, 1) := by decide +kernel
theorem dX9_sea_43 : decode cX9_sea 43 = .ok (.ifCond .ne 6, 3) := by decide +kernel
theorem dX9_sea_46 : decode cX9_sea 46 = .ok (.bipush (-103), 2) := by decide +kernel
theorem dX9_sea_48 : decode cX9_sea 48 = .ok (.ireturn, 1) := by decide +kernel
theorem dX9_sea_49 : decode cX9_sea 49 = .ok (.aload_n 0, 1) := by decide +kernel
theorem dX9_sea_50 : decode cX9_sea 50 = .ok (.aload_n 0, 1) := by decide +kernel
theorem dX9_sea_51 : decode cX9_sea 51 = .ok (.getfield 54, 3) := by decide +kernel
theorem dX9_sea_54 : decode cX9_sea 54 = .ok (.iconst 1, 1) := by decide +kernel
theorem dX9_sea_55 : decode cX9_sea 55 = .ok (.iadd, 1) := by decide +kernel
theorem dX9_sea_56 : decode cX9_sea 56 = .ok (.iconst 4, 1) := by decide +kernel
theorem dX9_sea_57 : decode cX9_sea 57 = .ok (.idiv, 1) := by decide +kernel
theorem dX9_sea_58 : decode cX9_sea 58 = .ok (.putfield 72, 3) := by decide +kernel
theorem dX9_sea_61 : decode cX9_sea 61 = .ok (.iconst 0, 1) := by decide +kernel
theorem dX9_sea_62 : decode cX9_sea 62 = .ok (.istore_n 1, 1) := by decide +kernel
theorem dX9_sea_63 : decode cX9_sea 63 = .ok (.iload_n 1, 1) := by decide +kernel
theorem dX9_sea_64 : decode cX9_sea 64 = .ok (.aload_n 0, 1) := by decide +kernel
theorem dX9_sea_65 : decode cX9_sea 65 = .ok (.getfield 72, 3) := by decide +kernel
theorem dX9_sea_68 : decode cX9_sea 68 = .ok (.if_icmp .ge 47, 3) := by decide +kernel
theorem dX9_sea_71 : decode cX9_sea 71 = .ok (.aload_n 0, 1) := by decide +kernel
theorem dX9_sea_72 : decode cX9_sea 72 = .ok (.getfield 13, 3) := by decide +kernel
theorem dX9_sea_75 : decode cX9_sea 75 = .ok (.iconst 2, 1) := by decide +kernel
theorem dX9_sea_76 : decode cX9_sea 76 = .ok (.iload_n 1, 1) := by decide +kernel
theorem dX9_sea_77 : decode cX9_sea 77 = .ok (.imul, 1) := by decide +kernel
theorem dX9_sea_78 : decode cX9_sea 78 = .ok (.aload_n 0, 1) := by decide +kernel
theorem dX9_sea_79 : decode cX9_sea 79 = .ok (.getfield 7, 3) := by decide +kernel
theorem dX9_sea_82 : decode cX9_sea 82 = .ok (.iconst 4, 1) := by decide +kernel
theorem dX9_sea_83 : decode cX9_sea 83 = .ok (.iload_n 1, 1) := by decide +kernel
theorem dX9_sea_84 : decode cX9_sea 84 = .ok (.imul, 1) := by decide +kernel
theorem dX9_sea_85 : decode cX9_sea 85 = .ok (.iaload, 1) := by decide +kernel
theorem dX9_sea_86 : decode cX9_sea 86 = .ok (.invokestatic 61, 3) := by decide +kernel
theorem dX9_sea_89 : decode cX9_sea 89 = .ok (.iastore, 1) := by decide +kernel
theorem dX9_sea_90 : decode cX9_sea 90 = .ok (.aload_n 0, 1) := by decide +kernel
theorem dX9_sea_91 : decode cX9_sea 91 = .ok (.getfield 13, 3) := by decide +kernel
theorem dX9_sea_94 : decode cX9_sea 94 = .ok (.iconst 2, 1) := by decide +kernel
theorem dX9_sea_95 : decode cX9_sea 95 = .ok (.iload_n 1, 1) := by decide +kernel
theorem dX9_sea_96 : decode cX9_sea 96 = .ok (.imul, 1) := by decide +kernel
theorem dX9_sea_97 : decode cX9_sea 97 = .ok (.iconst 1, 1) := by decide +kernel
theorem dX9_sea_98 : decode cX9_sea 98 = .ok (.iadd, 1) := by decide +kernel
theorem dX9_sea_99 : decode cX9_sea 99 = .ok (.aload_n 0, 1) := by decide +kernel
theorem dX9_sea_100 : decode cX9_sea 100 = .ok (.iconst 4, 1) := by decide +kernel
theorem dX9_sea_101 : decode cX9_sea 101 = .ok (.iload_n 1, 1) := by decide +kernel
theorem dX9_sea_102 : decode cX9_sea 102 = .ok (.imul, 1) := by decide +kernel
theorem dX9_sea_103 : decode cX9_sea 103 = .ok (.iconst 1, 1) := by decide +kernel
theorem dX9_sea_104 : decode cX9_sea 104 = .ok (.iadd, 1) := by decide +kernel
theorem dX9_sea_105 : decode cX9_sea 105 = .ok (.invokevirtual 75, 3) := by decide +kernel
theorem dX9_sea_108 : decode cX9_sea 108 = .ok (.iastore, 1) := by decide +kernel
theorem dX9_sea_109 : decode cX9_sea 109 = .ok (.iinc 1 1, 3) := by decide +kernel
theorem dX9_sea_112 : decode cX9_sea 112 = .ok (.goto (-49), 3) := by decide +kernel
theorem dX9_sea_115 : decode cX9_sea 115 = .ok (.iconst 0, 1) := by decide +kernel
theorem dX9_sea_116 : decode cX9_sea 116 = .ok (.istore_n 1, 1) := by decide +kernel
theorem dX9_sea_117 : decode cX9_sea 117 = .ok (.iload_n 1, 1) := by decide +kernel
theorem dX9_sea_118 : decode cX9_sea 118 = .ok (.bipush 36, 2) := by decide +kernel
theorem dX9_sea_120 : decode cX9_sea 120 = .ok (.if_icmp .ge 16, 3) := by decide +kernel
theorem dX9_sea_123 : decode cX9_sea 123 = .ok (.aload_n 0, 1) := by decide +kernel
theorem dX9_sea_124 : decode cX9_sea 124 = .ok (.getfield 16, 3) := by decide +kernel
theorem dX9_sea_127 : decode cX9_sea 127 = .ok (.iload_n 1, 1) := by decide +kernel
theorem dX9_sea_128 : decode cX9_sea 128 = .ok (.iconst 0, 1) := by decide +kernel
theorem dX9_sea_129 : decode cX9_sea 129 = .ok (.iastore, 1) := by decide +kernel
theorem dX9_sea_130 : decode cX9_sea 130 = .ok (.iinc 1 1, 3) := by decide +kernel
theorem dX9_sea_133 : decode cX9_sea 133 = .ok (.goto (-16), 3) := by decide +kernel
theorem dX9_sea_136 : decode cX9_sea 136 = .ok (.aload_n 0, 1) := by decide +kernel
theorem dX9_sea_137 : decode cX9_sea 137 = .ok (.aload_n 0, 1) := by decide +kernel
theorem dX9_sea_138 : decode cX9_sea 138 = .ok (.aload_n 0, 1) := by decide +kernel
theorem dX9_sea_139 : decode cX9_sea 139 = .ok (.getfield 54, 3) := by decide +kernel
theorem dX9_sea_142 : decode cX9_sea 142 = .ok (.iconst 1, 1) := by decide +kernel
theorem dX9_sea_143 : decode cX9_sea 143 = .ok (.iadd, 1) := by decide +kernel
theorem dX9_sea_144 : decode cX9_sea 144 = .ok (.invokevirtual 75, 3) := by decide +kernel
theorem dX9_sea_147 : decode cX9_sea 147 = .ok (.putfield 78, 3) := by decide +kernel
theorem dX9_sea_150 : decode cX9_sea 150 = .ok (.aload_n 0, 1) := by decide +kernel
theorem dX9_sea_151 : decode cX9_sea 151 = .ok (.getfield 54, 3) := by decide +kernel
theorem dX9_sea_154 : decode cX9_sea 154 = .ok (.iconst 3, 1) := by decide +kernel
theorem dX9_sea_155 : decode cX9_sea 155 = .ok (.iadd, 1) := by decide +kernel
theorem dX9_sea_156 : decode cX9_sea 156 = .ok (.istore_n 1, 1) := by decide +kernel
theorem dX9_sea_157 : decode cX9_sea 157 = .ok (.iload_n 1, 1) := by decide +kernel
theorem dX9_sea_158 : decode cX9_sea 158 = .ok (.aload_n 0, 1) := by decide +kernel
theorem dX9_sea_159 : decode cX9_sea 159 = .ok (.getfield 47, 3) := by decide +kernel
theorem dX9_sea_162 : decode cX9_sea 162 = .ok (.if_icmp .ge 20, 3) := by decide +kernel
theorem dX9_sea_165 : decode cX9_sea 165 = .ok (.aload_n 0, 1) := by decide +kernel
theorem dX9_sea_166 : decode cX9_sea 166 = .ok (.getfield 16, 3) := by decide +kernel
theorem dX9_sea_169 : decode cX9_sea 169 = .ok (.aload_n 0, 1) := by decide +kernel
theorem dX9_sea_170 : decode cX9_sea 170 = .ok (.iload_n 1, 1) := by decide +kernel
theorem dX9_sea_171 : decode cX9_sea 171 = .ok (.invokevirtual 75, 3) := by decide +kernel
theorem dX9_sea_174 : decode cX9_sea 174 = .ok (.iconst 1, 1) := by decide +kernel
theorem dX9_sea_175 : decode cX9_sea 175 = .ok (.iastore, 1) := by decide +kernel
theorem dX9_sea_176 : decode cX9_sea 176 = .ok (.iinc 1 2, 3) := by decide +kernel
theorem dX9_sea_179 : decode cX9_sea 179 = .ok (.goto (-22), 3) := by decide +kernel
theorem dX9_sea_182 : decode cX9_sea 182 = .ok (.aload_n 0, 1) := by decide +kernel
theorem dX9_sea_183 : decode cX9_sea 183 = .ok (.iconst 0, 1) := by decide +kernel
theorem dX9_sea_184 : decode cX9_sea 184 = .ok (.putfield 81, 3) := by decide +kernel
theorem dX9_sea_187 : decode cX9_sea 187 = .ok (.aload_n 0, 1) := by decide +kernel
theorem dX9_sea_188 : decode cX9_sea 188 = .ok (.iconst 0, 1) := by decide +kernel
theorem dX9_sea_189 : decode cX9_sea 189 = .ok (.putfield 84, 3) := by decide +kernel
theorem dX9_sea_192 : decode cX9_sea 192 = .ok (.aload_n 0, 1) := by decide +kernel
theorem dX9_sea_193 : decode cX9_sea 193 = .ok (.iconst 0, 1) := by decide +kernel
theorem dX9_sea_194 : decode cX9_sea 194 = .ok (.putfield 87, 3) := by decide +kernel
theorem dX9_sea_197 : decode cX9_sea 197 = .ok (.aload_n 0, 1) := by decide +kernel
theorem dX9_sea_198 : decode cX9_sea 198 = .ok (.dup, 1) := by decide +kernel
theorem dX9_sea_199 : decode cX9_sea 199 = .ok (.getfield 90, 3) := by decide +kernel
theorem dX9_sea_202 : decode cX9_sea 202 = .ok (.iconst 1, 1) := by decide +kernel
theorem dX9_sea_203 : decode cX9_sea 203 = .ok (.iadd, 1) := by decide +kernel
theorem dX9_sea_204 : decode cX9_sea 204 = .ok (.putfield 90, 3) := by decide +kernel
theorem dX9_sea_207 : decode cX9_sea 207 = .ok (.aload_n 0, 1) := by decide +kernel
theorem dX9_sea_208 : decode cX9_sea 208 = .ok (.iconst 0, 1) := by decide +kernel
theorem dX9_sea_209 : decode cX9_sea 209 = .ok (.putfield 47, 3) := by decide +kernel
theorem dX9_sea_212 : decode cX9_sea 212 = .ok (.aload_n 0, 1) := by decide +kernel
theorem dX9_sea_213 : decode cX9_sea 213 = .ok (.getfield 72, 3) := by decide +kernel
theorem dX9_sea_216 : decode cX9_sea 216 = .ok (.ireturn, 1) := by decide +kernel
theorem dX9_lacks_0 : decode cX9_lacks 0 = .ok (.aload_n 0, 1) := by decide +kernel
theorem dX9_lacks_1 : decode cX9_lacks 1 = .ok (.getfield 72, 3) := by decide +kernel
theorem dX9_lacks_4 : decode cX9_lacks 4 = .ok (.ifCond .ne 7, 3) := by decide +kernel
theorem dX9_lacks_7 : decode cX9_lacks 7 = .ok (.iconst 1, 1) := by decide +kernel
theorem dX9_lacks_8 : decode cX9_lacks 8 = .ok (.goto 4, 3) := by decide +kernel
theorem dX9_lacks_11 : decode cX9_lacks 11 = .ok (.iconst 0, 1) := by decide +kernel
theorem dX9_lacks_12 : decode cX9_lacks 12 = .ok (.ireturn, 1) := by decide +kernel
theorem dX9_isNeedle_0 : decode cX9_isNeedle 0 = .ok (.iload_n 1, 1) := by decide +kernel
theorem dX9_isNeedle_1 : decode cX9_isNeedle 1 = .ok (.i2l, 1) := by decide +kernel
theorem dX9_isNeedle_2 : decode cX9_isNeedle 2 = .ok (.lconst 0, 1) := by decide +kernel
theorem dX9_isNeedle_3 : decode cX9_isNeedle 3 = .ok (.aload_n 0, 1) := by decide +kernel
theorem dX9_isNeedle_4 : decode cX9_isNeedle 4 = .ok (.getfield 72, 3) := by decide +kernel
theorem dX9_isNeedle_7 : decode cX9_isNeedle 7 = .ok (.iconst 1, 1) := by decide +kernel
theorem dX9_isNeedle_8 : decode cX9_isNeedle 8 = .ok (.isub, 1) := by decide +kernel
theorem dX9_isNeedle_9 : decode cX9_isNeedle 9 = .ok (.i2l, 1) := by decide +kernel
theorem dX9_isNeedle_10 : decode cX9_isNeedle 10 = .ok (.invokestatic 43, 3) := by decide +kernel
theorem dX9_isNeedle_13 : decode cX9_isNeedle 13 = .ok (.ireturn, 1) := by decide +kernel
theorem dX9_isPlace_0 : decode cX9_isPlace 0 = .ok (.aload_n 0, 1) := by decide +kernel
theorem dX9_isPlace_1 : decode cX9_isPlace 1 = .ok (.invokevirtual 93, 3) := by decide +kernel
theorem dX9_isPlace_4 : decode cX9_isPlace 4 = .ok (.ifCond .ne 19, 3) := by decide +kernel
theorem dX9_isPlace_7 : decode cX9_isPlace 7 = .ok (.iload_n 1, 1) := by decide +kernel
theorem dX9_isPlace_8 : decode cX9_isPlace 8 = .ok (.i2l, 1) := by decide +kernel
theorem dX9_isPlace_9 : decode cX9_isPlace 9 = .ok (.lconst 0, 1) := by decide +kernel
theorem dX9_isPlace_10 : decode cX9_isPlace 10 = .ok (.ldc2_w 97, 3) := by decide +kernel
theorem dX9_isPlace_13 : decode cX9_isPlace 13 = .ok (.invokestatic 43, 3) := by decide +kernel
theorem dX9_isPlace_16 : decode cX9_isPlace 16 = .ok (.ifCond .eq 7, 3) := by decide +kernel
theorem dX9_isPlace_19 : decode cX9_isPlace 19 = .ok (.iconst 1, 1) := by decide +kernel
theorem dX9_isPlace_20 : decode cX9_isPlace 20 = .ok (.goto 4, 3) := by decide +kernel
theorem dX9_isPlace_23 : decode cX9_isPlace 23 = .ok (.iconst 0, 1) := by decide +kernel
theorem dX9_isPlace_24 : decode cX9_isPlace 24 = .ok (.ireturn, 1) := by decide +kernel
theorem dX9_signOf_0 : decode cX9_signOf 0 = .ok (.iload_n 0, 1) := by decide +kernel
theorem dX9_signOf_1 : decode cX9_signOf 1 = .ok (.ifCond .le 7, 3) := by decide +kernel
theorem dX9_signOf_4 : decode cX9_signOf 4 = .ok (.iconst 1, 1) := by decide +kernel
theorem dX9_signOf_5 : decode cX9_signOf 5 = .ok (.goto 12, 3) := by decide +kernel
theorem dX9_signOf_8 : decode cX9_signOf 8 = .ok (.iload_n 0, 1) := by decide +kernel
theorem dX9_signOf_9 : decode cX9_signOf 9 = .ok (.ifCond .ge 7, 3) := by decide +kernel
theorem dX9_signOf_12 : decode cX9_signOf 12 = .ok (.iconst (-1), 1) := by decide +kernel
theorem dX9_signOf_13 : decode cX9_signOf 13 = .ok (.goto 4, 3) := by decide +kernel
theorem dX9_signOf_16 : decode cX9_signOf 16 = .ok (.iconst 0, 1) := by decide +kernel
theorem dX9_signOf_17 : decode cX9_signOf 17 = .ok (.ireturn, 1) := by decide +kernel
theorem dX9_directionBy_0 : decode cX9_directionBy 0 = .ok (.iconst 3, 1) := by decide +kernel
theorem dX9_directionBy_1 : decode cX9_directionBy 1 = .ok (.iconst 1, 1) := by decide +kernel
theorem dX9_directionBy_2 : decode cX9_directionBy 2 = .ok (.iload_n 0, 1) := by decide +kernel
theorem dX9_directionBy_3 : decode cX9_directionBy 3 = .ok (.iadd, 1) := by decide +kernel
theorem dX9_directionBy_4 : decode cX9_directionBy 4 = .ok (.imul, 1) := by decide +kernel
theorem dX9_directionBy_5 : decode cX9_directionBy 5 = .ok (.iconst 1, 1) := by decide +kernel
theorem dX9_directionBy_6 : decode cX9_directionBy 6 = .ok (.iadd, 1) := by decide +kernel
theorem dX9_directionBy_7 : decode cX9_directionBy 7 = .ok (.iload_n 1, 1) := by decide +kernel
theorem dX9_directionBy_8 : decode cX9_directionBy 8 = .ok (.iadd, 1) := by decide +kernel
theorem dX9_directionBy_9 : decode cX9_directionBy 9 = .ok (.ireturn, 1) := by decide +kernel
theorem dX9_pointsBy_0 : decode cX9_pointsBy 0 = .ok (.iload_n 1, 1) := by decide +kernel
theorem dX9_pointsBy_1 : decode cX9_pointsBy 1 = .ok (.bipush 6, 2) := by decide +kernel
theorem dX9_pointsBy_3 : decode cX9_pointsBy 3 = .ok (.idiv, 1) := by decide +kernel
theorem dX9_pointsBy_4 : decode cX9_pointsBy 4 = .ok (.iload_n 2, 1) := by decide +kernel
theorem dX9_pointsBy_5 : decode cX9_pointsBy 5 = .ok (.bipush 6, 2) := by decide +kernel
theorem dX9_pointsBy_7 : decode cX9_pointsBy 7 = .ok (.idiv, 1) := by decide +kernel
theorem dX9_pointsBy_8 : decode cX9_pointsBy 8 = .ok (.isub, 1) := by decide +kernel
theorem dX9_pointsBy_9 : decode cX9_pointsBy 9 = .ok (.invokestatic 99, 3) := by decide +kernel
theorem dX9_pointsBy_12 : decode cX9_pointsBy 12 = .ok (.istore_n 3, 1) := by decide +kernel
theorem dX9_pointsBy_13 : decode cX9_pointsBy 13 = .ok (.iload_n 1, 1) := by decide +kernel
theorem dX9_pointsBy_14 : decode cX9_pointsBy 14 = .ok (.bipush 6, 2) := by decide +kernel
theorem dX9_pointsBy_16 : decode cX9_pointsBy 16 = .ok (.irem, 1) := by decide +kernel
theorem dX9_pointsBy_17 : decode cX9_pointsBy 17 = .ok (.iload_n 2, 1) := by decide +kernel
theorem dX9_pointsBy_18 : decode cX9_pointsBy 18 = .ok (.bipush 6, 2) := by decide +kernel
theorem dX9_pointsBy_20 : decode cX9_pointsBy 20 = .ok (.irem, 1) := by decide +kernel
theorem dX9_pointsBy_21 : decode cX9_pointsBy 21 = .ok (.isub, 1) := by decide +kernel
theorem dX9_pointsBy_22 : decode cX9_pointsBy 22 = .ok (.invokestatic 99, 3) := by decide +kernel
theorem dX9_pointsBy_25 : decode cX9_pointsBy 25 = .ok (.istore 4, 2) := by decide +kernel
theorem dX9_pointsBy_27 : decode cX9_pointsBy 27 = .ok (.iload_n 0, 1) := by decide +kernel
theorem dX9_pointsBy_28 : decode cX9_pointsBy 28 = .ok (.tableswitch 88 1 4 #[32, 41, 80, 61], 32) := by decide +kernel
theorem dX9_pointsBy_60 : decode cX9_pointsBy 60 = .ok (.iload_n 3, 1) := by decide +kernel
theorem dX9_pointsBy_61 : decode cX9_pointsBy 61 = .ok (.ineg, 1) := by decide +kernel
theorem dX9_pointsBy_62 : decode cX9_pointsBy 62 = .ok (.iload 4, 2) := by decide +kernel
theorem dX9_pointsBy_64 : decode cX9_pointsBy 64 = .ok (.ineg, 1) := by decide +kernel
theorem dX9_pointsBy_65 : decode cX9_pointsBy 65 = .ok (.invokestatic 102, 3) := by decide +kernel
theorem dX9_pointsBy_68 : decode cX9_pointsBy 68 = .ok (.ireturn, 1) := by decide +kernel
theorem dX9_pointsBy_69 : decode cX9_pointsBy 69 = .ok (.iload 4, 2) := by decide +kernel
theorem dX9_pointsBy_71 : decode cX9_pointsBy 71 = .ok (.ifCond .eq 12, 3) := by decide +kernel
theorem dX9_pointsBy_74 : decode cX9_pointsBy 74 = .ok (.iconst 0, 1) := by decide +kernel
theorem dX9_pointsBy_75 : decode cX9_pointsBy 75 = .ok (.iload 4, 2) := by decide +kernel
theorem dX9_pointsBy_77 : decode cX9_pointsBy 77 = .ok (.invokestatic 102, 3) := by decide +kernel
theorem dX9_pointsBy_80 : decode cX9_pointsBy 80 = .ok (.goto 8, 3) := by decide +kernel
theorem dX9_pointsBy_83 : decode cX9_pointsBy 83 = .ok (.iload_n 3, 1) := by decide +kernel
theorem dX9_pointsBy_84 : decode cX9_pointsBy 84 = .ok (.iconst 0, 1) := by decide +kernel
theorem dX9_pointsBy_85 : decode cX9_pointsBy 85 = .ok (.invokestatic 102, 3) := by decide +kernel
theorem dX9_pointsBy_88 : decode cX9_pointsBy 88 = .ok (.ireturn, 1) := by decide +kernel
theorem dX9_pointsBy_89 : decode cX9_pointsBy 89 = .ok (.iload_n 3, 1) := by decide +kernel
theorem dX9_pointsBy_90 : decode cX9_pointsBy 90 = .ok (.ifCond .eq 11, 3) := by decide +kernel
theorem dX9_pointsBy_93 : decode cX9_pointsBy 93 = .ok (.iload_n 3, 1) := by decide +kernel
theorem dX9_pointsBy_94 : decode cX9_pointsBy 94 = .ok (.iconst 0, 1) := by decide +kernel
theorem dX9_pointsBy_95 : decode cX9_pointsBy 95 = .ok (.invokestatic 102, 3) := by decide +kernel
theorem dX9_pointsBy_98 : decode cX9_pointsBy 98 = .ok (.goto 9, 3) := by decide +kernel
theorem dX9_pointsBy_101 : decode cX9_pointsBy 101 = .ok (.iconst 0, 1) := by decide +kernel
theorem dX9_pointsBy_102 : decode cX9_pointsBy 102 = .ok (.iload 4, 2) := by decide +kernel
theorem dX9_pointsBy_104 : decode cX9_pointsBy 104 = .ok (.invokestatic 102, 3) := by decide +kernel
theorem dX9_pointsBy_107 : decode cX9_pointsBy 107 = .ok (.ireturn, 1) := by decide +kernel
theorem dX9_pointsBy_108 : decode cX9_pointsBy 108 = .ok (.iload 4, 2) := by decide +kernel
theorem dX9_pointsBy_110 : decode cX9_pointsBy 110 = .ok (.iload_n 3, 1) := by decide +kernel
theorem dX9_pointsBy_111 : decode cX9_pointsBy 111 = .ok (.ineg, 1) := by decide +kernel
theorem dX9_pointsBy_112 : decode cX9_pointsBy 112 = .ok (.invokestatic 102, 3) := by decide +kernel
theorem dX9_pointsBy_115 : decode cX9_pointsBy 115 = .ok (.ireturn, 1) := by decide +kernel
theorem dX9_pointsBy_116 : decode cX9_pointsBy 116 = .ok (.iload_n 3, 1) := by decide +kernel
end
section
theorem dX9_pointsBy_117 : decode cX9_pointsBy 117 = .ok (.iload 4, 2) := by decide +kernel
theorem dX9_pointsBy_119 : decode cX9_pointsBy 119 = .ok (.invokestatic 102, 3) := by decide +kernel
theorem dX9_pointsBy_122 : decode cX9_pointsBy 122 = .ok (.ireturn, 1) := by decide +kernel
theorem dX9_pointsOf_0 : decode cX9_pointsOf 0 = .ok (.aload_n 0, 1) := by decide +kernel
theorem dX9_pointsOf_1 : decode cX9_pointsOf 1 = .ok (.getfield 13, 3) := by decide +kernel
theorem dX9_pointsOf_4 : decode cX9_pointsOf 4 = .ok (.iconst 2, 1) := by decide +kernel
theorem dX9_pointsOf_5 : decode cX9_pointsOf 5 = .ok (.iload_n 1, 1) := by decide +kernel
theorem dX9_pointsOf_6 : decode cX9_pointsOf 6 = .ok (.imul, 1) := by decide +kernel
theorem dX9_pointsOf_7 : decode cX9_pointsOf 7 = .ok (.iaload, 1) := by decide +kernel
theorem dX9_pointsOf_8 : decode cX9_pointsOf 8 = .ok (.aload_n 0, 1) := by decide +kernel
theorem dX9_pointsOf_9 : decode cX9_pointsOf 9 = .ok (.getfield 13, 3) := by decide +kernel
theorem dX9_pointsOf_12 : decode cX9_pointsOf 12 = .ok (.iconst 2, 1) := by decide +kernel
theorem dX9_pointsOf_13 : decode cX9_pointsOf 13 = .ok (.iload_n 1, 1) := by decide +kernel
theorem dX9_pointsOf_14 : decode cX9_pointsOf 14 = .ok (.imul, 1) := by decide +kernel
theorem dX9_pointsOf_15 : decode cX9_pointsOf 15 = .ok (.iconst 1, 1) := by decide +kernel
theorem dX9_pointsOf_16 : decode cX9_pointsOf 16 = .ok (.iadd, 1) := by decide +kernel
theorem dX9_pointsOf_17 : decode cX9_pointsOf 17 = .ok (.iaload, 1) := by decide +kernel
theorem dX9_pointsOf_18 : decode cX9_pointsOf 18 = .ok (.iload_n 2, 1) := by decide +kernel
theorem dX9_pointsOf_19 : decode cX9_pointsOf 19 = .ok (.invokestatic 106, 3) := by decide +kernel
theorem dX9_pointsOf_22 : decode cX9_pointsOf 22 = .ok (.ireturn, 1) := by decide +kernel
theorem dX9_stepped_0 : decode cX9_stepped 0 = .ok (.iload_n 1, 1) := by decide +kernel
theorem dX9_stepped_1 : decode cX9_stepped 1 = .ok (.bipush 6, 2) := by decide +kernel
theorem dX9_stepped_3 : decode cX9_stepped 3 = .ok (.idiv, 1) := by decide +kernel
theorem dX9_stepped_4 : decode cX9_stepped 4 = .ok (.iload_n 2, 1) := by decide +kernel
theorem dX9_stepped_5 : decode cX9_stepped 5 = .ok (.iconst 3, 1) := by decide +kernel
theorem dX9_stepped_6 : decode cX9_stepped 6 = .ok (.idiv, 1) := by decide +kernel
theorem dX9_stepped_7 : decode cX9_stepped 7 = .ok (.iadd, 1) := by decide +kernel
theorem dX9_stepped_8 : decode cX9_stepped 8 = .ok (.iconst 1, 1) := by decide +kernel
theorem dX9_stepped_9 : decode cX9_stepped 9 = .ok (.isub, 1) := by decide +kernel
theorem dX9_stepped_10 : decode cX9_stepped 10 = .ok (.istore_n 3, 1) := by decide +kernel
theorem dX9_stepped_11 : decode cX9_stepped 11 = .ok (.iload_n 1, 1) := by decide +kernel
theorem dX9_stepped_12 : decode cX9_stepped 12 = .ok (.bipush 6, 2) := by decide +kernel
theorem dX9_stepped_14 : decode cX9_stepped 14 = .ok (.irem, 1) := by decide +kernel
theorem dX9_stepped_15 : decode cX9_stepped 15 = .ok (.iload_n 2, 1) := by decide +kernel
theorem dX9_stepped_16 : decode cX9_stepped 16 = .ok (.iconst 3, 1) := by decide +kernel
theorem dX9_stepped_17 : decode cX9_stepped 17 = .ok (.irem, 1) := by decide +kernel
theorem dX9_stepped_18 : decode cX9_stepped 18 = .ok (.iadd, 1) := by decide +kernel
theorem dX9_stepped_19 : decode cX9_stepped 19 = .ok (.iconst 1, 1) := by decide +kernel
theorem dX9_stepped_20 : decode cX9_stepped 20 = .ok (.isub, 1) := by decide +kernel
theorem dX9_stepped_21 : decode cX9_stepped 21 = .ok (.istore 4, 2) := by decide +kernel
theorem dX9_stepped_23 : decode cX9_stepped 23 = .ok (.iload_n 3, 1) := by decide +kernel
theorem dX9_stepped_24 : decode cX9_stepped 24 = .ok (.i2l, 1) := by decide +kernel
theorem dX9_stepped_25 : decode cX9_stepped 25 = .ok (.lconst 0, 1) := by decide +kernel
theorem dX9_stepped_26 : decode cX9_stepped 26 = .ok (.ldc2_w 110, 3) := by decide +kernel
theorem dX9_stepped_29 : decode cX9_stepped 29 = .ok (.invokestatic 43, 3) := by decide +kernel
theorem dX9_stepped_32 : decode cX9_stepped 32 = .ok (.ifCond .eq 16, 3) := by decide +kernel
theorem dX9_stepped_35 : decode cX9_stepped 35 = .ok (.iload 4, 2) := by decide +kernel
theorem dX9_stepped_37 : decode cX9_stepped 37 = .ok (.i2l, 1) := by decide +kernel
theorem dX9_stepped_38 : decode cX9_stepped 38 = .ok (.lconst 0, 1) := by decide +kernel
theorem dX9_stepped_39 : decode cX9_stepped 39 = .ok (.ldc2_w 110, 3) := by decide +kernel
theorem dX9_stepped_42 : decode cX9_stepped 42 = .ok (.invokestatic 43, 3) := by decide +kernel
theorem dX9_stepped_45 : decode cX9_stepped 45 = .ok (.ifCond .ne 5, 3) := by decide +kernel
theorem dX9_stepped_48 : decode cX9_stepped 48 = .ok (.iload_n 1, 1) := by decide +kernel
theorem dX9_stepped_49 : decode cX9_stepped 49 = .ok (.ireturn, 1) := by decide +kernel
theorem dX9_stepped_50 : decode cX9_stepped 50 = .ok (.bipush 6, 2) := by decide +kernel
theorem dX9_stepped_52 : decode cX9_stepped 52 = .ok (.iload_n 3, 1) := by decide +kernel
theorem dX9_stepped_53 : decode cX9_stepped 53 = .ok (.imul, 1) := by decide +kernel
theorem dX9_stepped_54 : decode cX9_stepped 54 = .ok (.iload 4, 2) := by decide +kernel
theorem dX9_stepped_56 : decode cX9_stepped 56 = .ok (.iadd, 1) := by decide +kernel
theorem dX9_stepped_57 : decode cX9_stepped 57 = .ok (.istore 5, 2) := by decide +kernel
theorem dX9_stepped_59 : decode cX9_stepped 59 = .ok (.aload_n 0, 1) := by decide +kernel
theorem dX9_stepped_60 : decode cX9_stepped 60 = .ok (.getfield 16, 3) := by decide +kernel
theorem dX9_stepped_63 : decode cX9_stepped 63 = .ok (.iload 5, 2) := by decide +kernel
theorem dX9_stepped_65 : decode cX9_stepped 65 = .ok (.iaload, 1) := by decide +kernel
theorem dX9_stepped_66 : decode cX9_stepped 66 = .ok (.iconst 1, 1) := by decide +kernel
theorem dX9_stepped_67 : decode cX9_stepped 67 = .ok (.if_icmp .ne 7, 3) := by decide +kernel
theorem dX9_stepped_70 : decode cX9_stepped 70 = .ok (.iload_n 1, 1) := by decide +kernel
theorem dX9_stepped_71 : decode cX9_stepped 71 = .ok (.goto 5, 3) := by decide +kernel
theorem dX9_stepped_74 : decode cX9_stepped 74 = .ok (.iload 5, 2) := by decide +kernel
theorem dX9_stepped_76 : decode cX9_stepped 76 = .ok (.ireturn, 1) := by decide +kernel
theorem dX9_layFollow_0 : decode cX9_layFollow 0 = .ok (.aload_n 0, 1) := by decide +kernel
theorem dX9_layFollow_1 : decode cX9_layFollow 1 = .ok (.aload_n 0, 1) := by decide +kernel
theorem dX9_layFollow_2 : decode cX9_layFollow 2 = .ok (.getfield 78, 3) := by decide +kernel
theorem dX9_layFollow_5 : decode cX9_layFollow 5 = .ok (.putfield 112, 3) := by decide +kernel
theorem dX9_layFollow_8 : decode cX9_layFollow 8 = .ok (.aload_n 0, 1) := by decide +kernel
theorem dX9_layFollow_9 : decode cX9_layFollow 9 = .ok (.iconst 0, 1) := by decide +kernel
theorem dX9_layFollow_10 : decode cX9_layFollow 10 = .ok (.putfield 115, 3) := by decide +kernel
theorem dX9_layFollow_13 : decode cX9_layFollow 13 = .ok (.iconst 1, 1) := by decide +kernel
theorem dX9_layFollow_14 : decode cX9_layFollow 14 = .ok (.istore_n 2, 1) := by decide +kernel
theorem dX9_layFollow_15 : decode cX9_layFollow 15 = .ok (.iload_n 2, 1) := by decide +kernel
theorem dX9_layFollow_16 : decode cX9_layFollow 16 = .ok (.ifCond .eq 70, 3) := by decide +kernel
theorem dX9_layFollow_19 : decode cX9_layFollow 19 = .ok (.aload_n 0, 1) := by decide +kernel
theorem dX9_layFollow_20 : decode cX9_layFollow 20 = .ok (.getfield 115, 3) := by decide +kernel
theorem dX9_layFollow_23 : decode cX9_layFollow 23 = .ok (.bipush 40, 2) := by decide +kernel
theorem dX9_layFollow_25 : decode cX9_layFollow 25 = .ok (.if_icmp .ge 61, 3) := by decide +kernel
theorem dX9_layFollow_28 : decode cX9_layFollow 28 = .ok (.aload_n 0, 1) := by decide +kernel
theorem dX9_layFollow_29 : decode cX9_layFollow 29 = .ok (.aload_n 0, 1) := by decide +kernel
theorem dX9_layFollow_30 : decode cX9_layFollow 30 = .ok (.getfield 112, 3) := by decide +kernel
theorem dX9_layFollow_33 : decode cX9_layFollow 33 = .ok (.aload_n 0, 1) := by decide +kernel
theorem dX9_layFollow_34 : decode cX9_layFollow 34 = .ok (.iload_n 1, 1) := by decide +kernel
theorem dX9_layFollow_35 : decode cX9_layFollow 35 = .ok (.aload_n 0, 1) := by decide +kernel
theorem dX9_layFollow_36 : decode cX9_layFollow 36 = .ok (.getfield 112, 3) := by decide +kernel
theorem dX9_layFollow_39 : decode cX9_layFollow 39 = .ok (.invokevirtual 118, 3) := by decide +kernel
theorem dX9_layFollow_42 : decode cX9_layFollow 42 = .ok (.invokevirtual 121, 3) := by decide +kernel
theorem dX9_layFollow_45 : decode cX9_layFollow 45 = .ok (.istore_n 3, 1) := by decide +kernel
theorem dX9_layFollow_46 : decode cX9_layFollow 46 = .ok (.iload_n 3, 1) := by decide +kernel
theorem dX9_layFollow_47 : decode cX9_layFollow 47 = .ok (.aload_n 0, 1) := by decide +kernel
theorem dX9_layFollow_48 : decode cX9_layFollow 48 = .ok (.getfield 112, 3) := by decide +kernel
theorem dX9_layFollow_51 : decode cX9_layFollow 51 = .ok (.if_icmp .eq 7, 3) := by decide +kernel
theorem dX9_layFollow_54 : decode cX9_layFollow 54 = .ok (.iconst 1, 1) := by decide +kernel
theorem dX9_layFollow_55 : decode cX9_layFollow 55 = .ok (.goto 4, 3) := by decide +kernel
theorem dX9_layFollow_58 : decode cX9_layFollow 58 = .ok (.iconst 0, 1) := by decide +kernel
theorem dX9_layFollow_59 : decode cX9_layFollow 59 = .ok (.istore_n 2, 1) := by decide +kernel
theorem dX9_layFollow_60 : decode cX9_layFollow 60 = .ok (.aload_n 0, 1) := by decide +kernel
theorem dX9_layFollow_61 : decode cX9_layFollow 61 = .ok (.dup, 1) := by decide +kernel
theorem dX9_layFollow_62 : decode cX9_layFollow 62 = .ok (.getfield 115, 3) := by decide +kernel
theorem dX9_layFollow_65 : decode cX9_layFollow 65 = .ok (.iload_n 2, 1) := by decide +kernel
theorem dX9_layFollow_66 : decode cX9_layFollow 66 = .ok (.ifCond .eq 7, 3) := by decide +kernel
theorem dX9_layFollow_69 : decode cX9_layFollow 69 = .ok (.iconst 1, 1) := by decide +kernel
theorem dX9_layFollow_70 : decode cX9_layFollow 70 = .ok (.goto 4, 3) := by decide +kernel
theorem dX9_layFollow_73 : decode cX9_layFollow 73 = .ok (.iconst 0, 1) := by decide +kernel
theorem dX9_layFollow_74 : decode cX9_layFollow 74 = .ok (.iadd, 1) := by decide +kernel
theorem dX9_layFollow_75 : decode cX9_layFollow 75 = .ok (.putfield 115, 3) := by decide +kernel
theorem dX9_layFollow_78 : decode cX9_layFollow 78 = .ok (.aload_n 0, 1) := by decide +kernel
theorem dX9_layFollow_79 : decode cX9_layFollow 79 = .ok (.iload_n 3, 1) := by decide +kernel
theorem dX9_layFollow_80 : decode cX9_layFollow 80 = .ok (.putfield 112, 3) := by decide +kernel
theorem dX9_layFollow_83 : decode cX9_layFollow 83 = .ok (.goto (-68), 3) := by decide +kernel
theorem dX9_layFollow_86 : decode cX9_layFollow 86 = .ok (.return_, 1) := by decide +kernel
theorem dX9_followOf_0 : decode cX9_followOf 0 = .ok (.aload_n 0, 1) := by decide +kernel
theorem dX9_followOf_1 : decode cX9_followOf 1 = .ok (.iload_n 1, 1) := by decide +kernel
theorem dX9_followOf_2 : decode cX9_followOf 2 = .ok (.invokevirtual 124, 3) := by decide +kernel
theorem dX9_followOf_5 : decode cX9_followOf 5 = .ok (.iload_n 2, 1) := by decide +kernel
theorem dX9_followOf_6 : decode cX9_followOf 6 = .ok (.iconst 3, 1) := by decide +kernel
theorem dX9_followOf_7 : decode cX9_followOf 7 = .ok (.if_icmp .ne 10, 3) := by decide +kernel
theorem dX9_followOf_10 : decode cX9_followOf 10 = .ok (.aload_n 0, 1) := by decide +kernel
theorem dX9_followOf_11 : decode cX9_followOf 11 = .ok (.getfield 115, 3) := by decide +kernel
theorem dX9_followOf_14 : decode cX9_followOf 14 = .ok (.goto 7, 3) := by decide +kernel
theorem dX9_followOf_17 : decode cX9_followOf 17 = .ok (.aload_n 0, 1) := by decide +kernel
theorem dX9_followOf_18 : decode cX9_followOf 18 = .ok (.getfield 112, 3) := by decide +kernel
theorem dX9_followOf_21 : decode cX9_followOf 21 = .ok (.ireturn, 1) := by decide +kernel
theorem dX9_fewOf_0 : decode cX9_fewOf 0 = .ok (.iconst 0, 1) := by decide +kernel
theorem dX9_fewOf_1 : decode cX9_fewOf 1 = .ok (.istore_n 2, 1) := by decide +kernel
theorem dX9_fewOf_2 : decode cX9_fewOf 2 = .ok (.iload_n 2, 1) := by decide +kernel
theorem dX9_fewOf_3 : decode cX9_fewOf 3 = .ok (.bipush 36, 2) := by decide +kernel
theorem dX9_fewOf_5 : decode cX9_fewOf 5 = .ok (.if_icmp .ge 28, 3) := by decide +kernel
theorem dX9_fewOf_8 : decode cX9_fewOf 8 = .ok (.aload_n 0, 1) := by decide +kernel
theorem dX9_fewOf_9 : decode cX9_fewOf 9 = .ok (.getfield 19, 3) := by decide +kernel
theorem dX9_fewOf_12 : decode cX9_fewOf 12 = .ok (.iload_n 2, 1) := by decide +kernel
theorem dX9_fewOf_13 : decode cX9_fewOf 13 = .ok (.iload_n 2, 1) := by decide +kernel
theorem dX9_fewOf_14 : decode cX9_fewOf 14 = .ok (.aload_n 0, 1) := by decide +kernel
theorem dX9_fewOf_15 : decode cX9_fewOf 15 = .ok (.getfield 78, 3) := by decide +kernel
theorem dX9_fewOf_18 : decode cX9_fewOf 18 = .ok (.if_icmp .ne 7, 3) := by decide +kernel
theorem dX9_fewOf_21 : decode cX9_fewOf 21 = .ok (.iconst 0, 1) := by decide +kernel
theorem dX9_fewOf_22 : decode cX9_fewOf 22 = .ok (.goto 4, 3) := by decide +kernel
theorem dX9_fewOf_25 : decode cX9_fewOf 25 = .ok (.iconst (-1), 1) := by decide +kernel
theorem dX9_fewOf_26 : decode cX9_fewOf 26 = .ok (.iastore, 1) := by decide +kernel
theorem dX9_fewOf_27 : decode cX9_fewOf 27 = .ok (.iinc 2 1, 3) := by decide +kernel
theorem dX9_fewOf_30 : decode cX9_fewOf 30 = .ok (.goto (-28), 3) := by decide +kernel
theorem dX9_fewOf_33 : decode cX9_fewOf 33 = .ok (.iconst 0, 1) := by decide +kernel
theorem dX9_fewOf_34 : decode cX9_fewOf 34 = .ok (.istore_n 2, 1) := by decide +kernel
theorem dX9_fewOf_35 : decode cX9_fewOf 35 = .ok (.iload_n 2, 1) := by decide +kernel
theorem dX9_fewOf_36 : decode cX9_fewOf 36 = .ok (.bipush 36, 2) := by decide +kernel
theorem dX9_fewOf_38 : decode cX9_fewOf 38 = .ok (.if_icmp .ge 89, 3) := by decide +kernel
theorem dX9_fewOf_41 : decode cX9_fewOf 41 = .ok (.iconst 0, 1) := by decide +kernel
theorem dX9_fewOf_42 : decode cX9_fewOf 42 = .ok (.istore_n 3, 1) := by decide +kernel
theorem dX9_fewOf_43 : decode cX9_fewOf 43 = .ok (.iload_n 3, 1) := by decide +kernel
theorem dX9_fewOf_44 : decode cX9_fewOf 44 = .ok (.bipush 36, 2) := by decide +kernel
theorem dX9_fewOf_46 : decode cX9_fewOf 46 = .ok (.if_icmp .ge 75, 3) := by decide +kernel
theorem dX9_fewOf_49 : decode cX9_fewOf 49 = .ok (.iconst 0, 1) := by decide +kernel
theorem dX9_fewOf_50 : decode cX9_fewOf 50 = .ok (.istore 4, 2) := by decide +kernel
theorem dX9_fewOf_52 : decode cX9_fewOf 52 = .ok (.iload 4, 2) := by decide +kernel
theorem dX9_fewOf_54 : decode cX9_fewOf 54 = .ok (.bipush 9, 2) := by decide +kernel
theorem dX9_fewOf_56 : decode cX9_fewOf 56 = .ok (.if_icmp .ge 59, 3) := by decide +kernel
theorem dX9_fewOf_59 : decode cX9_fewOf 59 = .ok (.aload_n 0, 1) := by decide +kernel
theorem dX9_fewOf_60 : decode cX9_fewOf 60 = .ok (.getfield 19, 3) := by decide +kernel
theorem dX9_fewOf_63 : decode cX9_fewOf 63 = .ok (.iload_n 3, 1) := by decide +kernel
theorem dX9_fewOf_64 : decode cX9_fewOf 64 = .ok (.iaload, 1) := by decide +kernel
theorem dX9_fewOf_65 : decode cX9_fewOf 65 = .ok (.iload_n 2, 1) := by decide +kernel
theorem dX9_fewOf_66 : decode cX9_fewOf 66 = .ok (.if_icmp .ne 49, 3) := by decide +kernel
theorem dX9_fewOf_69 : decode cX9_fewOf 69 = .ok (.aload_n 0, 1) := by decide +kernel
theorem dX9_fewOf_70 : decode cX9_fewOf 70 = .ok (.iload_n 3, 1) := by decide +kernel
theorem dX9_fewOf_71 : decode cX9_fewOf 71 = .ok (.iload 4, 2) := by decide +kernel
theorem dX9_fewOf_73 : decode cX9_fewOf 73 = .ok (.invokevirtual 121, 3) := by decide +kernel
theorem dX9_fewOf_76 : decode cX9_fewOf 76 = .ok (.istore 5, 2) := by decide +kernel
theorem dX9_fewOf_78 : decode cX9_fewOf 78 = .ok (.aload_n 0, 1) := by decide +kernel
theorem dX9_fewOf_79 : decode cX9_fewOf 79 = .ok (.getfield 19, 3) := by decide +kernel
theorem dX9_fewOf_82 : decode cX9_fewOf 82 = .ok (.iload 5, 2) := by decide +kernel
theorem dX9_fewOf_84 : decode cX9_fewOf 84 = .ok (.aload_n 0, 1) := by decide +kernel
theorem dX9_fewOf_85 : decode cX9_fewOf 85 = .ok (.getfield 19, 3) := by decide +kernel
theorem dX9_fewOf_88 : decode cX9_fewOf 88 = .ok (.iload 5, 2) := by decide +kernel
theorem dX9_fewOf_90 : decode cX9_fewOf 90 = .ok (.iaload, 1) := by decide +kernel
theorem dX9_fewOf_91 : decode cX9_fewOf 91 = .ok (.iconst (-1), 1) := by decide +kernel
theorem dX9_fewOf_92 : decode cX9_fewOf 92 = .ok (.if_icmp .ne 9, 3) := by decide +kernel
theorem dX9_fewOf_95 : decode cX9_fewOf 95 = .ok (.iload_n 2, 1) := by decide +kernel
theorem dX9_fewOf_96 : decode cX9_fewOf 96 = .ok (.iconst 1, 1) := by decide +kernel
theorem dX9_fewOf_97 : decode cX9_fewOf 97 = .ok (.iadd, 1) := by decide +kernel
theorem dX9_fewOf_98 : decode cX9_fewOf 98 = .ok (.goto 10, 3) := by decide +kernel
theorem dX9_fewOf_101 : decode cX9_fewOf 101 = .ok (.aload_n 0, 1) := by decide +kernel
theorem dX9_fewOf_102 : decode cX9_fewOf 102 = .ok (.getfield 19, 3) := by decide +kernel
theorem dX9_fewOf_105 : decode cX9_fewOf 105 = .ok (.iload 5, 2) := by decide +kernel
theorem dX9_fewOf_107 : decode cX9_fewOf 107 = .ok (.iaload, 1) := by decide +kernel
theorem dX9_fewOf_108 : decode cX9_fewOf 108 = .ok (.iastore, 1) := by decide +kernel
theorem dX9_fewOf_109 : decode cX9_fewOf 109 = .ok (.iinc 4 1, 3) := by decide +kernel
theorem dX9_fewOf_112 : decode cX9_fewOf 112 = .ok (.goto (-60), 3) := by decide +kernel
theorem dX9_fewOf_115 : decode cX9_fewOf 115 = .ok (.iinc 3 1, 3) := by decide +kernel
theorem dX9_fewOf_118 : decode cX9_fewOf 118 = .ok (.goto (-75), 3) := by decide +kernel
theorem dX9_fewOf_121 : decode cX9_fewOf 121 = .ok (.iinc 2 1, 3) := by decide +kernel
theorem dX9_fewOf_124 : decode cX9_fewOf 124 = .ok (.goto (-89), 3) := by decide +kernel
theorem dX9_fewOf_127 : decode cX9_fewOf 127 = .ok (.aload_n 0, 1) := by decide +kernel
theorem dX9_fewOf_128 : decode cX9_fewOf 128 = .ok (.getfield 19, 3) := by decide +kernel
theorem dX9_fewOf_131 : decode cX9_fewOf 131 = .ok (.iload_n 1, 1) := by decide +kernel
theorem dX9_fewOf_132 : decode cX9_fewOf 132 = .ok (.iaload, 1) := by decide +kernel
theorem dX9_fewOf_133 : decode cX9_fewOf 133 = .ok (.ireturn, 1) := by decide +kernel
theorem dX9_tell_0 : decode cX9_tell 0 = .ok (.iload_n 2, 1) := by decide +kernel
theorem dX9_tell_1 : decode cX9_tell 1 = .ok (.tableswitch 110 0 8 #[51, 51, 62, 72, 72, 79, 94, 94, 104], 51) := by decide +kernel
theorem dX9_tell_52 : decode cX9_tell 52 = .ok (.aload_n 0, 1) := by decide +kernel
theorem dX9_tell_53 : decode cX9_tell 53 = .ok (.getfield 13, 3) := by decide +kernel
theorem dX9_tell_56 : decode cX9_tell 56 = .ok (.iconst 2, 1) := by decide +kernel
theorem dX9_tell_57 : decode cX9_tell 57 = .ok (.iload_n 1, 1) := by decide +kernel
theorem dX9_tell_58 : decode cX9_tell 58 = .ok (.imul, 1) := by decide +kernel
theorem dX9_tell_59 : decode cX9_tell 59 = .ok (.iload_n 2, 1) := by decide +kernel
theorem dX9_tell_60 : decode cX9_tell 60 = .ok (.iadd, 1) := by decide +kernel
theorem dX9_tell_61 : decode cX9_tell 61 = .ok (.iaload, 1) := by decide +kernel
theorem dX9_tell_62 : decode cX9_tell 62 = .ok (.ireturn, 1) := by decide +kernel
theorem dX9_tell_63 : decode cX9_tell 63 = .ok (.aload_n 0, 1) := by decide +kernel
theorem dX9_tell_64 : decode cX9_tell 64 = .ok (.iload_n 1, 1) := by decide +kernel
theorem dX9_tell_65 : decode cX9_tell 65 = .ok (.aload_n 0, 1) := by decide +kernel
theorem dX9_tell_66 : decode cX9_tell 66 = .ok (.getfield 78, 3) := by decide +kernel
theorem dX9_tell_69 : decode cX9_tell 69 = .ok (.invokevirtual 118, 3) := by decide +kernel
theorem dX9_tell_72 : decode cX9_tell 72 = .ok (.ireturn, 1) := by decide +kernel
theorem dX9_tell_73 : decode cX9_tell 73 = .ok (.aload_n 0, 1) := by decide +kernel
theorem dX9_tell_74 : decode cX9_tell 74 = .ok (.iload_n 1, 1) := by decide +kernel
theorem dX9_tell_75 : decode cX9_tell 75 = .ok (.iload_n 2, 1) := by decide +kernel
theorem dX9_tell_76 : decode cX9_tell 76 = .ok (.invokevirtual 128, 3) := by decide +kernel
theorem dX9_tell_79 : decode cX9_tell 79 = .ok (.ireturn, 1) := by decide +kernel
theorem dX9_tell_80 : decode cX9_tell 80 = .ok (.aload_n 0, 1) := by decide +kernel
theorem dX9_tell_81 : decode cX9_tell 81 = .ok (.aload_n 0, 1) := by decide +kernel
theorem dX9_tell_82 : decode cX9_tell 82 = .ok (.getfield 13, 3) := by decide +kernel
theorem dX9_tell_85 : decode cX9_tell 85 = .ok (.iconst 2, 1) := by decide +kernel
theorem dX9_tell_86 : decode cX9_tell 86 = .ok (.iload_n 1, 1) := by decide +kernel
theorem dX9_tell_87 : decode cX9_tell 87 = .ok (.imul, 1) := by decide +kernel
theorem dX9_tell_88 : decode cX9_tell 88 = .ok (.iconst 1, 1) := by decide +kernel
theorem dX9_tell_89 : decode cX9_tell 89 = .ok (.iadd, 1) := by decide +kernel
theorem dX9_tell_90 : decode cX9_tell 90 = .ok (.iaload, 1) := by decide +kernel
theorem dX9_tell_91 : decode cX9_tell 91 = .ok (.invokevirtual 131, 3) := by decide +kernel
theorem dX9_tell_94 : decode cX9_tell 94 = .ok (.ireturn, 1) := by decide +kernel
theorem dX9_tell_95 : decode cX9_tell 95 = .ok (.aload_n 0, 1) := by decide +kernel
theorem dX9_tell_96 : decode cX9_tell 96 = .ok (.iload_n 1, 1) := by decide +kernel
theorem dX9_tell_97 : decode cX9_tell 97 = .ok (.iload_n 2, 1) := by decide +kernel
theorem dX9_tell_98 : decode cX9_tell 98 = .ok (.bipush 6, 2) := by decide +kernel
theorem dX9_tell_100 : decode cX9_tell 100 = .ok (.isub, 1) := by decide +kernel
theorem dX9_tell_101 : decode cX9_tell 101 = .ok (.invokevirtual 134, 3) := by decide +kernel
theorem dX9_tell_104 : decode cX9_tell 104 = .ok (.ireturn, 1) := by decide +kernel
theorem dX9_tell_105 : decode cX9_tell 105 = .ok (.aload_n 0, 1) := by decide +kernel
theorem dX9_tell_106 : decode cX9_tell 106 = .ok (.iload_n 1, 1) := by decide +kernel
theorem dX9_tell_107 : decode cX9_tell 107 = .ok (.invokevirtual 137, 3) := by decide +kernel
theorem dX9_tell_110 : decode cX9_tell 110 = .ok (.ireturn, 1) := by decide +kernel
theorem dX9_tell_111 : decode cX9_tell 111 = .ok (.bipush (-102), 2) := by decide +kernel
theorem dX9_tell_113 : decode cX9_tell 113 = .ok (.ireturn, 1) := by decide +kernel
theorem dX9_needle_0 : decode cX9_needle 0 = .ok (.aload_n 0, 1) := by decide +kernel
theorem dX9_needle_1 : decode cX9_needle 1 = .ok (.iload_n 1, 1) := by decide +kernel
theorem dX9_needle_2 : decode cX9_needle 2 = .ok (.invokevirtual 140, 3) := by decide +kernel
theorem dX9_needle_5 : decode cX9_needle 5 = .ok (.ifCond .eq 12, 3) := by decide +kernel
theorem dX9_needle_8 : decode cX9_needle 8 = .ok (.aload_n 0, 1) := by decide +kernel
theorem dX9_needle_9 : decode cX9_needle 9 = .ok (.iload_n 1, 1) := by decide +kernel
theorem dX9_needle_10 : decode cX9_needle 10 = .ok (.iload_n 2, 1) := by decide +kernel
theorem dX9_needle_11 : decode cX9_needle 11 = .ok (.invokevirtual 143, 3) := by decide +kernel
theorem dX9_needle_14 : decode cX9_needle 14 = .ok (.goto 5, 3) := by decide +kernel
theorem dX9_needle_17 : decode cX9_needle 17 = .ok (.bipush (-101), 2) := by decide +kernel
theorem dX9_needle_19 : decode cX9_needle 19 = .ok (.ireturn, 1) := by decide +kernel
theorem dX9_as_0 : decode cX9_as 0 = .ok (.aload_n 0, 1) := by decide +kernel
theorem dX9_as_1 : decode cX9_as 1 = .ok (.iload_n 1, 1) := by decide +kernel
theorem dX9_as_2 : decode cX9_as 2 = .ok (.invokevirtual 140, 3) := by decide +kernel
theorem dX9_as_5 : decode cX9_as 5 = .ok (.ifCond .ne 6, 3) := by decide +kernel
theorem dX9_as_8 : decode cX9_as 8 = .ok (.bipush (-101), 2) := by decide +kernel
theorem dX9_as_10 : decode cX9_as 10 = .ok (.ireturn, 1) := by decide +kernel
theorem dX9_as_11 : decode cX9_as 11 = .ok (.iload_n 2, 1) := by decide +kernel
theorem dX9_as_12 : decode cX9_as 12 = .ok (.i2l, 1) := by decide +kernel
theorem dX9_as_13 : decode cX9_as 13 = .ok (.lconst 0, 1) := by decide +kernel
theorem dX9_as_14 : decode cX9_as 14 = .ok (.ldc2_w 146, 3) := by decide +kernel
theorem dX9_as_17 : decode cX9_as 17 = .ok (.invokestatic 43, 3) := by decide +kernel
theorem dX9_as_20 : decode cX9_as 20 = .ok (.ifCond .ne 6, 3) := by decide +kernel
theorem dX9_as_23 : decode cX9_as 23 = .ok (.bipush (-102), 2) := by decide +kernel
theorem dX9_as_25 : decode cX9_as 25 = .ok (.ireturn, 1) := by decide +kernel
theorem dX9_as_26 : decode cX9_as 26 = .ok (.aload_n 0, 1) := by decide +kernel
theorem dX9_as_27 : decode cX9_as 27 = .ok (.getfield 13, 3) := by decide +kernel
theorem dX9_as_30 : decode cX9_as 30 = .ok (.iconst 2, 1) := by decide +kernel
theorem dX9_as_31 : decode cX9_as 31 = .ok (.iload_n 1, 1) := by decide +kernel
theorem dX9_as_32 : decode cX9_as 32 = .ok (.imul, 1) := by decide +kernel
theorem dX9_as_33 : decode cX9_as 33 = .ok (.iaload, 1) := by decide +kernel
theorem dX9_as_34 : decode cX9_as 34 = .ok (.istore_n 3, 1) := by decide +kernel
theorem dX9_as_35 : decode cX9_as 35 = .ok (.iload_n 2, 1) := by decide +kernel
theorem dX9_as_36 : decode cX9_as 36 = .ok (.ifCond .eq 18, 3) := by decide +kernel
theorem dX9_as_39 : decode cX9_as 39 = .ok (.iload_n 2, 1) := by decide +kernel
theorem dX9_as_40 : decode cX9_as 40 = .ok (.iload_n 3, 1) := by decide +kernel
theorem dX9_as_41 : decode cX9_as 41 = .ok (.if_icmp .eq 13, 3) := by decide +kernel
theorem dX9_as_44 : decode cX9_as 44 = .ok (.iload_n 2, 1) := by decide +kernel
theorem dX9_as_45 : decode cX9_as 45 = .ok (.iconst 2, 1) := by decide +kernel
theorem dX9_as_46 : decode cX9_as 46 = .ok (.if_icmp .ne 12, 3) := by decide +kernel
theorem dX9_as_49 : decode cX9_as 49 = .ok (.iload_n 3, 1) := by decide +kernel
theorem dX9_as_50 : decode cX9_as 50 = .ok (.iconst 4, 1) := by decide +kernel
theorem dX9_as_51 : decode cX9_as 51 = .ok (.if_icmp .ne 7, 3) := by decide +kernel
theorem dX9_as_54 : decode cX9_as 54 = .ok (.iconst 1, 1) := by decide +kernel
theorem dX9_as_55 : decode cX9_as 55 = .ok (.goto 4, 3) := by decide +kernel
theorem dX9_as_58 : decode cX9_as 58 = .ok (.iconst 0, 1) := by decide +kernel
theorem dX9_as_59 : decode cX9_as 59 = .ok (.istore 4, 2) := by decide +kernel
theorem dX9_as_61 : decode cX9_as 61 = .ok (.iload 4, 2) := by decide +kernel
theorem dX9_as_63 : decode cX9_as 63 = .ok (.ifCond .eq 7, 3) := by decide +kernel
theorem dX9_as_66 : decode cX9_as 66 = .ok (.iload_n 1, 1) := by decide +kernel
theorem dX9_as_67 : decode cX9_as 67 = .ok (.goto 4, 3) := by decide +kernel
theorem dX9_as_70 : decode cX9_as 70 = .ok (.iconst (-1), 1) := by decide +kernel
theorem dX9_as_71 : decode cX9_as 71 = .ok (.ireturn, 1) := by decide +kernel
theorem dX9_points_0 : decode cX9_points 0 = .ok (.aload_n 0, 1) := by decide +kernel
theorem dX9_points_1 : decode cX9_points 1 = .ok (.iload_n 1, 1) := by decide +kernel
theorem dX9_points_2 : decode cX9_points 2 = .ok (.invokevirtual 140, 3) := by decide +kernel
theorem dX9_points_5 : decode cX9_points 5 = .ok (.ifCond .eq 20, 3) := by decide +kernel
theorem dX9_points_8 : decode cX9_points 8 = .ok (.aload_n 0, 1) := by decide +kernel
theorem dX9_points_9 : decode cX9_points 9 = .ok (.iload_n 2, 1) := by decide +kernel
theorem dX9_points_10 : decode cX9_points 10 = .ok (.invokevirtual 148, 3) := by decide +kernel
theorem dX9_points_13 : decode cX9_points 13 = .ok (.ifCond .eq 12, 3) := by decide +kernel
theorem dX9_points_16 : decode cX9_points 16 = .ok (.aload_n 0, 1) := by decide +kernel
theorem dX9_points_17 : decode cX9_points 17 = .ok (.iload_n 1, 1) := by decide +kernel
theorem dX9_points_18 : decode cX9_points 18 = .ok (.iload_n 2, 1) := by decide +kernel
theorem dX9_points_19 : decode cX9_points 19 = .ok (.invokevirtual 118, 3) := by decide +kernel
theorem dX9_points_22 : decode cX9_points 22 = .ok (.goto 5, 3) := by decide +kernel
theorem dX9_points_25 : decode cX9_points 25 = .ok (.bipush (-101), 2) := by decide +kernel
theorem dX9_points_27 : decode cX9_points 27 = .ok (.ireturn, 1) := by decide +kernel
theorem dX9_swing_0 : decode cX9_swing 0 = .ok (.aload_n 0, 1) := by decide +kernel
theorem dX9_swing_1 : decode cX9_swing 1 = .ok (.iload_n 1, 1) := by decide +kernel
theorem dX9_swing_2 : decode cX9_swing 2 = .ok (.invokevirtual 140, 3) := by decide +kernel
theorem dX9_swing_5 : decode cX9_swing 5 = .ok (.ifCond .eq 11, 3) := by decide +kernel
theorem dX9_swing_8 : decode cX9_swing 8 = .ok (.aload_n 0, 1) := by decide +kernel
theorem dX9_swing_9 : decode cX9_swing 9 = .ok (.iload_n 2, 1) := by decide +kernel
theorem dX9_swing_10 : decode cX9_swing 10 = .ok (.invokevirtual 148, 3) := by decide +kernel
theorem dX9_swing_13 : decode cX9_swing 13 = .ok (.ifCond .ne 6, 3) := by decide +kernel
theorem dX9_swing_16 : decode cX9_swing 16 = .ok (.bipush (-101), 2) := by decide +kernel
theorem dX9_swing_18 : decode cX9_swing 18 = .ok (.ireturn, 1) := by decide +kernel
theorem dX9_swing_19 : decode cX9_swing 19 = .ok (.aload_n 0, 1) := by decide +kernel
theorem dX9_swing_20 : decode cX9_swing 20 = .ok (.getfield 13, 3) := by decide +kernel
theorem dX9_swing_23 : decode cX9_swing 23 = .ok (.iconst 2, 1) := by decide +kernel
theorem dX9_swing_24 : decode cX9_swing 24 = .ok (.iload_n 1, 1) := by decide +kernel
theorem dX9_swing_25 : decode cX9_swing 25 = .ok (.imul, 1) := by decide +kernel
theorem dX9_swing_26 : decode cX9_swing 26 = .ok (.iconst 1, 1) := by decide +kernel
theorem dX9_swing_27 : decode cX9_swing 27 = .ok (.iadd, 1) := by decide +kernel
theorem dX9_swing_28 : decode cX9_swing 28 = .ok (.iaload, 1) := by decide +kernel
theorem dX9_swing_29 : decode cX9_swing 29 = .ok (.istore_n 3, 1) := by decide +kernel
theorem dX9_swing_30 : decode cX9_swing 30 = .ok (.aload_n 0, 1) := by decide +kernel
theorem dX9_swing_31 : decode cX9_swing 31 = .ok (.getfield 13, 3) := by decide +kernel
theorem dX9_swing_34 : decode cX9_swing 34 = .ok (.iconst 2, 1) := by decide +kernel
theorem dX9_swing_35 : decode cX9_swing 35 = .ok (.iload_n 1, 1) := by decide +kernel
theorem dX9_swing_36 : decode cX9_swing 36 = .ok (.imul, 1) := by decide +kernel
theorem dX9_swing_37 : decode cX9_swing 37 = .ok (.iconst 1, 1) := by decide +kernel
theorem dX9_swing_38 : decode cX9_swing 38 = .ok (.iadd, 1) := by decide +kernel
theorem dX9_swing_39 : decode cX9_swing 39 = .ok (.iload_n 2, 1) := by decide +kernel
theorem dX9_swing_40 : decode cX9_swing 40 = .ok (.iastore, 1) := by decide +kernel
theorem dX9_swing_41 : decode cX9_swing 41 = .ok (.iload_n 3, 1) := by decide +kernel
theorem dX9_swing_42 : decode cX9_swing 42 = .ok (.ireturn, 1) := by decide +kernel
theorem dX9_island_0 : decode cX9_island 0 = .ok (.aload_n 0, 1) := by decide +kernel
theorem dX9_island_1 : decode cX9_island 1 = .ok (.iload_n 1, 1) := by decide +kernel
theorem dX9_island_2 : decode cX9_island 2 = .ok (.invokevirtual 148, 3) := by decide +kernel
theorem dX9_island_5 : decode cX9_island 5 = .ok (.ifCond .eq 12, 3) := by decide +kernel
theorem dX9_island_8 : decode cX9_island 8 = .ok (.aload_n 0, 1) := by decide +kernel
theorem dX9_island_9 : decode cX9_island 9 = .ok (.getfield 16, 3) := by decide +kernel
theorem dX9_island_12 : decode cX9_island 12 = .ok (.iload_n 1, 1) := by decide +kernel
theorem dX9_island_13 : decode cX9_island 13 = .ok (.iaload, 1) := by decide +kernel
theorem dX9_island_14 : decode cX9_island 14 = .ok (.goto 5, 3) := by decide +kernel
theorem dX9_island_17 : decode cX9_island 17 = .ok (.bipush (-101), 2) := by decide +kernel
theorem dX9_island_19 : decode cX9_island 19 = .ok (.ireturn, 1) := by decide +kernel
theorem dX9_raise_0 : decode cX9_raise 0 = .ok (.aload_n 0, 1) := by decide +kernel
theorem dX9_raise_1 : decode cX9_raise 1 = .ok (.iload_n 1, 1) := by decide +kernel
theorem dX9_raise_2 : decode cX9_raise 2 = .ok (.invokevirtual 148, 3) := by decide +kernel
theorem dX9_raise_5 : decode cX9_raise 5 = .ok (.ifCond .ne 6, 3) := by decide +kernel
theorem dX9_raise_8 : decode cX9_raise 8 = .ok (.bipush (-101), 2) := by decide +kernel
theorem dX9_raise_10 : decode cX9_raise 10 = .ok (.ireturn, 1) := by decide +kernel
theorem dX9_raise_11 : decode cX9_raise 11 = .ok (.aload_n 0, 1) := by decide +kernel
theorem dX9_raise_12 : decode cX9_raise 12 = .ok (.getfield 16, 3) := by decide +kernel
theorem dX9_raise_15 : decode cX9_raise 15 = .ok (.iload_n 1, 1) := by decide +kernel
theorem dX9_raise_16 : decode cX9_raise 16 = .ok (.iaload, 1) := by decide +kernel
theorem dX9_raise_17 : decode cX9_raise 17 = .ok (.istore_n 3, 1) := by decide +kernel
theorem dX9_raise_18 : decode cX9_raise 18 = .ok (.aload_n 0, 1) := by decide +kernel
theorem dX9_raise_19 : decode cX9_raise 19 = .ok (.getfield 16, 3) := by decide +kernel
theorem dX9_raise_22 : decode cX9_raise 22 = .ok (.iload_n 1, 1) := by decide +kernel
theorem dX9_raise_23 : decode cX9_raise 23 = .ok (.iload_n 2, 1) := by decide +kernel
theorem dX9_raise_24 : decode cX9_raise 24 = .ok (.ifCond .eq 7, 3) := by decide +kernel
theorem dX9_raise_27 : decode cX9_raise 27 = .ok (.iconst 1, 1) := by decide +kernel
theorem dX9_raise_28 : decode cX9_raise 28 = .ok (.goto 4, 3) := by decide +kernel
theorem dX9_raise_31 : decode cX9_raise 31 = .ok (.iconst 0, 1) := by decide +kernel
theorem dX9_raise_32 : decode cX9_raise 32 = .ok (.iastore, 1) := by decide +kernel
theorem dX9_raise_33 : decode cX9_raise 33 = .ok (.iload_n 3, 1) := by decide +kernel
theorem dX9_raise_34 : decode cX9_raise 34 = .ok (.ireturn, 1) := by decide +kernel
theorem dX9_go_0 : decode cX9_go 0 = .ok (.aload_n 0, 1) := by decide +kernel
theorem dX9_go_1 : decode cX9_go 1 = .ok (.aload_n 0, 1) := by decide +kernel
theorem dX9_go_2 : decode cX9_go 2 = .ok (.getfield 78, 3) := by decide +kernel
theorem dX9_go_5 : decode cX9_go 5 = .ok (.iload_n 1, 1) := by decide +kernel
theorem dX9_go_6 : decode cX9_go 6 = .ok (.invokevirtual 121, 3) := by decide +kernel
theorem dX9_go_9 : decode cX9_go 9 = .ok (.istore_n 2, 1) := by decide +kernel
theorem dX9_go_10 : decode cX9_go 10 = .ok (.aload_n 0, 1) := by decide +kernel
theorem dX9_go_11 : decode cX9_go 11 = .ok (.dup, 1) := by decide +kernel
theorem dX9_go_12 : decode cX9_go 12 = .ok (.getfield 81, 3) := by decide +kernel
theorem dX9_go_15 : decode cX9_go 15 = .ok (.iconst 1, 1) := by decide +kernel
theorem dX9_go_16 : decode cX9_go 16 = .ok (.iadd, 1) := by decide +kernel
theorem dX9_go_17 : decode cX9_go 17 = .ok (.putfield 81, 3) := by decide +kernel
theorem dX9_go_20 : decode cX9_go 20 = .ok (.aload_n 0, 1) := by decide +kernel
theorem dX9_go_21 : decode cX9_go 21 = .ok (.dup, 1) := by decide +kernel
theorem dX9_go_22 : decode cX9_go 22 = .ok (.getfield 84, 3) := by decide +kernel
theorem dX9_go_25 : decode cX9_go 25 = .ok (.iload_n 2, 1) := by decide +kernel
theorem dX9_go_26 : decode cX9_go 26 = .ok (.aload_n 0, 1) := by decide +kernel
theorem dX9_go_27 : decode cX9_go 27 = .ok (.getfield 78, 3) := by decide +kernel
theorem dX9_go_30 : decode cX9_go 30 = .ok (.if_icmp .ne 7, 3) := by decide +kernel
theorem dX9_go_33 : decode cX9_go 33 = .ok (.iconst 0, 1) := by decide +kernel
theorem dX9_go_34 : decode cX9_go 34 = .ok (.goto 4, 3) := by decide +kernel
theorem dX9_go_37 : decode cX9_go 37 = .ok (.iconst 1, 1) := by decide +kernel
theorem dX9_go_38 : decode cX9_go 38 = .ok (.iadd, 1) := by decide +kernel
theorem dX9_go_39 : decode cX9_go 39 = .ok (.putfield 84, 3) := by decide +kernel
theorem dX9_go_42 : decode cX9_go 42 = .ok (.aload_n 0, 1) := by decide +kernel
theorem dX9_go_43 : decode cX9_go 43 = .ok (.iload_n 2, 1) := by decide +kernel
theorem dX9_go_44 : decode cX9_go 44 = .ok (.putfield 78, 3) := by decide +kernel
theorem dX9_go_47 : decode cX9_go 47 = .ok (.aload_n 0, 1) := by decide +kernel
theorem dX9_go_48 : decode cX9_go 48 = .ok (.getfield 78, 3) := by decide +kernel
theorem dX9_go_51 : decode cX9_go 51 = .ok (.ireturn, 1) := by decide +kernel
theorem dX9_step_0 : decode cX9_step 0 = .ok (.iload_n 1, 1) := by decide +kernel
theorem dX9_step_1 : decode cX9_step 1 = .ok (.i2l, 1) := by decide +kernel
theorem dX9_step_2 : decode cX9_step 2 = .ok (.lconst 0, 1) := by decide +kernel
theorem dX9_step_3 : decode cX9_step 3 = .ok (.ldc2_w 151, 3) := by decide +kernel
theorem dX9_step_6 : decode cX9_step 6 = .ok (.invokestatic 43, 3) := by decide +kernel
theorem dX9_step_9 : decode cX9_step 9 = .ok (.ifCond .ne 6, 3) := by decide +kernel
theorem dX9_step_12 : decode cX9_step 12 = .ok (.bipush (-102), 2) := by decide +kernel
theorem dX9_step_14 : decode cX9_step 14 = .ok (.ireturn, 1) := by decide +kernel
theorem dX9_step_15 : decode cX9_step 15 = .ok (.aload_n 0, 1) := by decide +kernel
theorem dX9_step_16 : decode cX9_step 16 = .ok (.invokevirtual 93, 3) := by decide +kernel
theorem dX9_step_19 : decode cX9_step 19 = .ok (.ifCond .eq 8, 3) := by decide +kernel
theorem dX9_step_22 : decode cX9_step 22 = .ok (.bipush (-103), 2) := by decide +kernel
theorem dX9_step_24 : decode cX9_step 24 = .ok (.goto 8, 3) := by decide +kernel
theorem dX9_step_27 : decode cX9_step 27 = .ok (.aload_n 0, 1) := by decide +kernel
theorem dX9_step_28 : decode cX9_step 28 = .ok (.iload_n 1, 1) := by decide +kernel
theorem dX9_step_29 : decode cX9_step 29 = .ok (.invokevirtual 153, 3) := by decide +kernel
theorem dX9_step_32 : decode cX9_step 32 = .ok (.ireturn, 1) := by decide +kernel
theorem dX9_follow_0 : decode cX9_follow 0 = .ok (.aload_n 0, 1) := by decide +kernel
theorem dX9_follow_1 : decode cX9_follow 1 = .ok (.iload_n 1, 1) := by decide +kernel
theorem dX9_follow_2 : decode cX9_follow 2 = .ok (.invokevirtual 140, 3) := by decide +kernel
theorem dX9_follow_5 : decode cX9_follow 5 = .ok (.ifCond .eq 19, 3) := by decide +kernel
theorem dX9_follow_8 : decode cX9_follow 8 = .ok (.aload_n 0, 1) := by decide +kernel
theorem dX9_follow_9 : decode cX9_follow 9 = .ok (.aload_n 0, 1) := by decide +kernel
theorem dX9_follow_10 : decode cX9_follow 10 = .ok (.iload_n 1, 1) := by decide +kernel
theorem dX9_follow_11 : decode cX9_follow 11 = .ok (.aload_n 0, 1) := by decide +kernel
theorem dX9_follow_12 : decode cX9_follow 12 = .ok (.getfield 78, 3) := by decide +kernel
theorem dX9_follow_15 : decode cX9_follow 15 = .ok (.invokevirtual 118, 3) := by decide +kernel
theorem dX9_follow_18 : decode cX9_follow 18 = .ok (.invokevirtual 153, 3) := by decide +kernel
theorem dX9_follow_21 : decode cX9_follow 21 = .ok (.goto 5, 3) := by decide +kernel
theorem dX9_follow_24 : decode cX9_follow 24 = .ok (.bipush (-101), 2) := by decide +kernel
theorem dX9_follow_26 : decode cX9_follow 26 = .ok (.ireturn, 1) := by decide +kernel
theorem dX9_homingOf_0 : decode cX9_homingOf 0 = .ok (.iconst 0, 1) := by decide +kernel
theorem dX9_homingOf_1 : decode cX9_homingOf 1 = .ok (.istore_n 1, 1) := by decide +kernel
theorem dX9_homingOf_2 : decode cX9_homingOf 2 = .ok (.iconst 0, 1) := by decide +kernel
theorem dX9_homingOf_3 : decode cX9_homingOf 3 = .ok (.istore_n 2, 1) := by decide +kernel
theorem dX9_homingOf_4 : decode cX9_homingOf 4 = .ok (.iload_n 2, 1) := by decide +kernel
theorem dX9_homingOf_5 : decode cX9_homingOf 5 = .ok (.aload_n 0, 1) := by decide +kernel
theorem dX9_homingOf_6 : decode cX9_homingOf 6 = .ok (.getfield 72, 3) := by decide +kernel
theorem dX9_homingOf_9 : decode cX9_homingOf 9 = .ok (.if_icmp .ge 41, 3) := by decide +kernel
theorem dX9_homingOf_12 : decode cX9_homingOf 12 = .ok (.aload_n 0, 1) := by decide +kernel
theorem dX9_homingOf_13 : decode cX9_homingOf 13 = .ok (.iload_n 2, 1) := by decide +kernel
theorem dX9_homingOf_14 : decode cX9_homingOf 14 = .ok (.invokevirtual 124, 3) := by decide +kernel
theorem dX9_homingOf_17 : decode cX9_homingOf 17 = .ok (.iload_n 1, 1) := by decide +kernel
theorem dX9_homingOf_18 : decode cX9_homingOf 18 = .ok (.aload_n 0, 1) := by decide +kernel
theorem dX9_homingOf_19 : decode cX9_homingOf 19 = .ok (.getfield 112, 3) := by decide +kernel
theorem dX9_homingOf_22 : decode cX9_homingOf 22 = .ok (.aload_n 0, 1) := by decide +kernel
theorem dX9_homingOf_23 : decode cX9_homingOf 23 = .ok (.getfield 13, 3) := by decide +kernel
theorem dX9_homingOf_26 : decode cX9_homingOf 26 = .ok (.iconst 2, 1) := by decide +kernel
theorem dX9_homingOf_27 : decode cX9_homingOf 27 = .ok (.iload_n 2, 1) := by decide +kernel
theorem dX9_homingOf_28 : decode cX9_homingOf 28 = .ok (.imul, 1) := by decide +kernel
theorem dX9_homingOf_29 : decode cX9_homingOf 29 = .ok (.iconst 1, 1) := by decide +kernel
theorem dX9_homingOf_30 : decode cX9_homingOf 30 = .ok (.iadd, 1) := by decide +kernel
theorem dX9_homingOf_31 : decode cX9_homingOf 31 = .ok (.iaload, 1) := by decide +kernel
theorem dX9_homingOf_32 : decode cX9_homingOf 32 = .ok (.if_icmp .ne 9, 3) := by decide +kernel
theorem dX9_homingOf_35 : decode cX9_homingOf 35 = .ok (.iconst 1, 1) := by decide +kernel
theorem dX9_homingOf_36 : decode cX9_homingOf 36 = .ok (.iload_n 2, 1) := by decide +kernel
theorem dX9_homingOf_37 : decode cX9_homingOf 37 = .ok (.ishl, 1) := by decide +kernel
theorem dX9_homingOf_38 : decode cX9_homingOf 38 = .ok (.goto 4, 3) := by decide +kernel
theorem dX9_homingOf_41 : decode cX9_homingOf 41 = .ok (.iconst 0, 1) := by decide +kernel
theorem dX9_homingOf_42 : decode cX9_homingOf 42 = .ok (.ior, 1) := by decide +kernel
theorem dX9_homingOf_43 : decode cX9_homingOf 43 = .ok (.istore_n 1, 1) := by decide +kernel
theorem dX9_homingOf_44 : decode cX9_homingOf 44 = .ok (.iinc 2 1, 3) := by decide +kernel
theorem dX9_homingOf_47 : decode cX9_homingOf 47 = .ok (.goto (-43), 3) := by decide +kernel
theorem dX9_homingOf_50 : decode cX9_homingOf 50 = .ok (.iload_n 1, 1) := by decide +kernel
theorem dX9_homingOf_51 : decode cX9_homingOf 51 = .ok (.ireturn, 1) := by decide +kernel
theorem dX9_homing_0 : decode cX9_homing 0 = .ok (.aload_n 0, 1) := by decide +kernel
theorem dX9_homing_1 : decode cX9_homing 1 = .ok (.invokevirtual 93, 3) := by decide +kernel
theorem dX9_homing_4 : decode cX9_homing 4 = .ok (.ifCond .eq 8, 3) := by decide +kernel
theorem dX9_homing_7 : decode cX9_homing 7 = .ok (.bipush (-103), 2) := by decide +kernel
theorem dX9_homing_9 : decode cX9_homing 9 = .ok (.goto 7, 3) := by decide +kernel
theorem dX9_homing_12 : decode cX9_homing 12 = .ok (.aload_n 0, 1) := by decide +kernel
theorem dX9_homing_13 : decode cX9_homing 13 = .ok (.invokevirtual 156, 3) := by decide +kernel
theorem dX9_homing_16 : decode cX9_homing 16 = .ok (.ireturn, 1) := by decide +kernel
theorem dX9_see_0 : decode cX9_see 0 = .ok (.aload_n 0, 1) := by decide +kernel
theorem dX9_see_1 : decode cX9_see 1 = .ok (.iload_n 1, 1) := by decide +kernel
theorem dX9_see_2 : decode cX9_see 2 = .ok (.invokevirtual 140, 3) := by decide +kernel
theorem dX9_see_5 : decode cX9_see 5 = .ok (.ifCond .eq 11, 3) := by decide +kernel
theorem dX9_see_8 : decode cX9_see 8 = .ok (.aload_n 0, 1) := by decide +kernel
theorem dX9_see_9 : decode cX9_see 9 = .ok (.iload_n 2, 1) := by decide +kernel
theorem dX9_see_10 : decode cX9_see 10 = .ok (.invokevirtual 148, 3) := by decide +kernel
theorem dX9_see_13 : decode cX9_see 13 = .ok (.ifCond .ne 6, 3) := by decide +kernel
theorem dX9_see_16 : decode cX9_see 16 = .ok (.bipush (-101), 2) := by decide +kernel
theorem dX9_see_18 : decode cX9_see 18 = .ok (.ireturn, 1) := by decide +kernel
theorem dX9_see_19 : decode cX9_see 19 = .ok (.iload_n 3, 1) := by decide +kernel
theorem dX9_see_20 : decode cX9_see 20 = .ok (.i2l, 1) := by decide +kernel
theorem dX9_see_21 : decode cX9_see 21 = .ok (.lconst 0, 1) := by decide +kernel
theorem dX9_see_22 : decode cX9_see 22 = .ok (.ldc2_w 151, 3) := by decide +kernel
theorem dX9_see_25 : decode cX9_see 25 = .ok (.invokestatic 43, 3) := by decide +kernel
theorem dX9_see_28 : decode cX9_see 28 = .ok (.ifCond .ne 6, 3) := by decide +kernel
theorem dX9_see_31 : decode cX9_see 31 = .ok (.bipush (-102), 2) := by decide +kernel
theorem dX9_see_33 : decode cX9_see 33 = .ok (.ireturn, 1) := by decide +kernel
theorem dX9_see_34 : decode cX9_see 34 = .ok (.aload_n 0, 1) := by decide +kernel
theorem dX9_see_35 : decode cX9_see 35 = .ok (.getfield 87, 3) := by decide +kernel
theorem dX9_see_38 : decode cX9_see 38 = .ok (.bipush 6, 2) := by decide +kernel
theorem dX9_see_40 : decode cX9_see 40 = .ok (.if_icmp .ne 6, 3) := by decide +kernel
theorem dX9_see_43 : decode cX9_see 43 = .ok (.bipush (-104), 2) := by decide +kernel
theorem dX9_see_45 : decode cX9_see 45 = .ok (.ireturn, 1) := by decide +kernel
theorem dX9_see_46 : decode cX9_see 46 = .ok (.aload_n 0, 1) := by decide +kernel
theorem dX9_see_47 : decode cX9_see 47 = .ok (.getfield 22, 3) := by decide +kernel
theorem dX9_see_50 : decode cX9_see 50 = .ok (.iconst 3, 1) := by decide +kernel
theorem dX9_see_51 : decode cX9_see 51 = .ok (.aload_n 0, 1) := by decide +kernel
theorem dX9_see_52 : decode cX9_see 52 = .ok (.getfield 87, 3) := by decide +kernel
theorem dX9_see_55 : decode cX9_see 55 = .ok (.imul, 1) := by decide +kernel
theorem dX9_see_56 : decode cX9_see 56 = .ok (.iload_n 1, 1) := by decide +kernel
theorem dX9_see_57 : decode cX9_see 57 = .ok (.iastore, 1) := by decide +kernel
theorem dX9_see_58 : decode cX9_see 58 = .ok (.aload_n 0, 1) := by decide +kernel
theorem dX9_see_59 : decode cX9_see 59 = .ok (.getfield 22, 3) := by decide +kernel
theorem dX9_see_62 : decode cX9_see 62 = .ok (.iconst 3, 1) := by decide +kernel
theorem dX9_see_63 : decode cX9_see 63 = .ok (.aload_n 0, 1) := by decide +kernel
theorem dX9_see_64 : decode cX9_see 64 = .ok (.getfield 87, 3) := by decide +kernel
theorem dX9_see_67 : decode cX9_see 67 = .ok (.imul, 1) := by decide +kernel
theorem dX9_see_68 : decode cX9_see 68 = .ok (.iconst 1, 1) := by decide +kernel
theorem dX9_see_69 : decode cX9_see 69 = .ok (.iadd, 1) := by decide +kernel
theorem dX9_see_70 : decode cX9_see 70 = .ok (.iload_n 2, 1) := by decide +kernel
theorem dX9_see_71 : decode cX9_see 71 = .ok (.iastore, 1) := by decide +kernel
theorem dX9_see_72 : decode cX9_see 72 = .ok (.aload_n 0, 1) := by decide +kernel
theorem dX9_see_73 : decode cX9_see 73 = .ok (.getfield 22, 3) := by decide +kernel
theorem dX9_see_76 : decode cX9_see 76 = .ok (.iconst 3, 1) := by decide +kernel
theorem dX9_see_77 : decode cX9_see 77 = .ok (.aload_n 0, 1) := by decide +kernel
theorem dX9_see_78 : decode cX9_see 78 = .ok (.getfield 87, 3) := by decide +kernel
theorem dX9_see_81 : decode cX9_see 81 = .ok (.imul, 1) := by decide +kernel
theorem dX9_see_82 : decode cX9_see 82 = .ok (.iconst 2, 1) := by decide +kernel
theorem dX9_see_83 : decode cX9_see 83 = .ok (.iadd, 1) := by decide +kernel
theorem dX9_see_84 : decode cX9_see 84 = .ok (.iload_n 3, 1) := by decide +kernel
theorem dX9_see_85 : decode cX9_see 85 = .ok (.iastore, 1) := by decide +kernel
theorem dX9_see_86 : decode cX9_see 86 = .ok (.aload_n 0, 1) := by decide +kernel
theorem dX9_see_87 : decode cX9_see 87 = .ok (.dup, 1) := by decide +kernel
theorem dX9_see_88 : decode cX9_see 88 = .ok (.getfield 87, 3) := by decide +kernel
theorem dX9_see_91 : decode cX9_see 91 = .ok (.iconst 1, 1) := by decide +kernel
theorem dX9_see_92 : decode cX9_see 92 = .ok (.iadd, 1) := by decide +kernel
theorem dX9_see_93 : decode cX9_see 93 = .ok (.putfield 87, 3) := by decide +kernel
theorem dX9_see_96 : decode cX9_see 96 = .ok (.aload_n 0, 1) := by decide +kernel
theorem dX9_see_97 : decode cX9_see 97 = .ok (.getfield 87, 3) := by decide +kernel
theorem dX9_see_100 : decode cX9_see 100 = .ok (.ireturn, 1) := by decide +kernel
theorem dX9_forget_0 : decode cX9_forget 0 = .ok (.aload_n 0, 1) := by decide +kernel
theorem dX9_forget_1 : decode cX9_forget 1 = .ok (.getfield 87, 3) := by decide +kernel
theorem dX9_forget_4 : decode cX9_forget 4 = .ok (.istore_n 1, 1) := by decide +kernel
theorem dX9_forget_5 : decode cX9_forget 5 = .ok (.aload_n 0, 1) := by decide +kernel
theorem dX9_forget_6 : decode cX9_forget 6 = .ok (.iconst 0, 1) := by decide +kernel
theorem dX9_forget_7 : decode cX9_forget 7 = .ok (.putfield 87, 3) := by decide +kernel
theorem dX9_forget_10 : decode cX9_forget 10 = .ok (.iload_n 1, 1) := by decide +kernel
theorem dX9_forget_11 : decode cX9_forget 11 = .ok (.ireturn, 1) := by decide +kernel
theorem dX9_isHome_0 : decode cX9_isHome 0 = .ok (.iconst 1, 1) := by decide +kernel
theorem dX9_isHome_1 : decode cX9_isHome 1 = .ok (.istore_n 3, 1) := by decide +kernel
theorem dX9_isHome_2 : decode cX9_isHome 2 = .ok (.iconst 0, 1) := by decide +kernel
theorem dX9_isHome_3 : decode cX9_isHome 3 = .ok (.istore 4, 2) := by decide +kernel
theorem dX9_isHome_5 : decode cX9_isHome 5 = .ok (.iload 4, 2) := by decide +kernel
theorem dX9_isHome_7 : decode cX9_isHome 7 = .ok (.iconst 3, 1) := by decide +kernel
theorem dX9_isHome_8 : decode cX9_isHome 8 = .ok (.aload_n 0, 1) := by decide +kernel
theorem dX9_isHome_9 : decode cX9_isHome 9 = .ok (.getfield 87, 3) := by decide +kernel
theorem dX9_isHome_12 : decode cX9_isHome 12 = .ok (.imul, 1) := by decide +kernel
theorem dX9_isHome_13 : decode cX9_isHome 13 = .ok (.if_icmp .ge 75, 3) := by decide +kernel
theorem dX9_isHome_16 : decode cX9_isHome 16 = .ok (.aload_n 0, 1) := by decide +kernel
theorem dX9_isHome_17 : decode cX9_isHome 17 = .ok (.getfield 13, 3) := by decide +kernel
theorem dX9_isHome_20 : decode cX9_isHome 20 = .ok (.iconst 2, 1) := by decide +kernel
theorem dX9_isHome_21 : decode cX9_isHome 21 = .ok (.iload_n 1, 1) := by decide +kernel
theorem dX9_isHome_22 : decode cX9_isHome 22 = .ok (.imul, 1) := by decide +kernel
theorem dX9_isHome_23 : decode cX9_isHome 23 = .ok (.iaload, 1) := by decide +kernel
theorem dX9_isHome_24 : decode cX9_isHome 24 = .ok (.iload_n 2, 1) := by decide +kernel
theorem dX9_isHome_25 : decode cX9_isHome 25 = .ok (.aload_n 0, 1) := by decide +kernel
theorem dX9_isHome_26 : decode cX9_isHome 26 = .ok (.getfield 22, 3) := by decide +kernel
theorem dX9_isHome_29 : decode cX9_isHome 29 = .ok (.iload 4, 2) := by decide +kernel
theorem dX9_isHome_31 : decode cX9_isHome 31 = .ok (.iconst 1, 1) := by decide +kernel
theorem dX9_isHome_32 : decode cX9_isHome 32 = .ok (.iadd, 1) := by decide +kernel
theorem dX9_isHome_33 : decode cX9_isHome 33 = .ok (.iaload, 1) := by decide +kernel
theorem dX9_isHome_34 : decode cX9_isHome 34 = .ok (.invokestatic 106, 3) := by decide +kernel
theorem dX9_isHome_37 : decode cX9_isHome 37 = .ok (.aload_n 0, 1) := by decide +kernel
theorem dX9_isHome_38 : decode cX9_isHome 38 = .ok (.getfield 22, 3) := by decide +kernel
theorem dX9_isHome_41 : decode cX9_isHome 41 = .ok (.iload 4, 2) := by decide +kernel
theorem dX9_isHome_43 : decode cX9_isHome 43 = .ok (.iconst 2, 1) := by decide +kernel
theorem dX9_isHome_44 : decode cX9_isHome 44 = .ok (.iadd, 1) := by decide +kernel
theorem dX9_isHome_45 : decode cX9_isHome 45 = .ok (.iaload, 1) := by decide +kernel
theorem dX9_isHome_46 : decode cX9_isHome 46 = .ok (.if_icmp .ne 7, 3) := by decide +kernel
theorem dX9_isHome_49 : decode cX9_isHome 49 = .ok (.iconst 1, 1) := by decide +kernel
theorem dX9_isHome_50 : decode cX9_isHome 50 = .ok (.goto 4, 3) := by decide +kernel
theorem dX9_isHome_53 : decode cX9_isHome 53 = .ok (.iconst 0, 1) := by decide +kernel
theorem dX9_isHome_54 : decode cX9_isHome 54 = .ok (.istore 5, 2) := by decide +kernel
theorem dX9_isHome_56 : decode cX9_isHome 56 = .ok (.iload_n 3, 1) := by decide +kernel
theorem dX9_isHome_57 : decode cX9_isHome 57 = .ok (.ifCond .eq 23, 3) := by decide +kernel
theorem dX9_isHome_60 : decode cX9_isHome 60 = .ok (.aload_n 0, 1) := by decide +kernel
theorem dX9_isHome_61 : decode cX9_isHome 61 = .ok (.getfield 22, 3) := by decide +kernel
theorem dX9_isHome_64 : decode cX9_isHome 64 = .ok (.iload 4, 2) := by decide +kernel
theorem dX9_isHome_66 : decode cX9_isHome 66 = .ok (.iaload, 1) := by decide +kernel
theorem dX9_isHome_67 : decode cX9_isHome 67 = .ok (.iload_n 1, 1) := by decide +kernel
theorem dX9_isHome_68 : decode cX9_isHome 68 = .ok (.if_icmp .ne 8, 3) := by decide +kernel
theorem dX9_isHome_71 : decode cX9_isHome 71 = .ok (.iload 5, 2) := by decide +kernel
theorem dX9_isHome_73 : decode cX9_isHome 73 = .ok (.ifCond .eq 7, 3) := by decide +kernel
theorem dX9_isHome_76 : decode cX9_isHome 76 = .ok (.iconst 1, 1) := by decide +kernel
theorem dX9_isHome_77 : decode cX9_isHome 77 = .ok (.goto 4, 3) := by decide +kernel
theorem dX9_isHome_80 : decode cX9_isHome 80 = .ok (.iconst 0, 1) := by decide +kernel
theorem dX9_isHome_81 : decode cX9_isHome 81 = .ok (.istore_n 3, 1) := by decide +kernel
theorem dX9_isHome_82 : decode cX9_isHome 82 = .ok (.iinc 4 3, 3) := by decide +kernel
theorem dX9_isHome_85 : decode cX9_isHome 85 = .ok (.goto (-80), 3) := by decide +kernel
theorem dX9_isHome_88 : decode cX9_isHome 88 = .ok (.iload_n 3, 1) := by decide +kernel
theorem dX9_isHome_89 : decode cX9_isHome 89 = .ok (.ireturn, 1) := by decide +kernel
theorem dX9_homesOf_0 : decode cX9_homesOf 0 = .ok (.iconst 0, 1) := by decide +kernel
theorem dX9_homesOf_1 : decode cX9_homesOf 1 = .ok (.istore_n 3, 1) := by decide +kernel
theorem dX9_homesOf_2 : decode cX9_homesOf 2 = .ok (.iconst (-1), 1) := by decide +kernel
theorem dX9_homesOf_3 : decode cX9_homesOf 3 = .ok (.istore 4, 2) := by decide +kernel
theorem dX9_homesOf_5 : decode cX9_homesOf 5 = .ok (.bipush 35, 2) := by decide +kernel
theorem dX9_homesOf_7 : decode cX9_homesOf 7 = .ok (.istore 5, 2) := by decide +kernel
theorem dX9_homesOf_9 : decode cX9_homesOf 9 = .ok (.iload 5, 2) := by decide +kernel
theorem dX9_homesOf_11 : decode cX9_homesOf 11 = .ok (.ifCond .lt 26, 3) := by decide +kernel
theorem dX9_homesOf_14 : decode cX9_homesOf 14 = .ok (.aload_n 0, 1) := by decide +kernel
theorem dX9_homesOf_15 : decode cX9_homesOf 15 = .ok (.iload_n 1, 1) := by decide +kernel
theorem dX9_homesOf_16 : decode cX9_homesOf 16 = .ok (.iload 5, 2) := by decide +kernel
theorem dX9_homesOf_18 : decode cX9_homesOf 18 = .ok (.invokevirtual 159, 3) := by decide +kernel
theorem dX9_homesOf_21 : decode cX9_homesOf 21 = .ok (.ifCond .eq 10, 3) := by decide +kernel
theorem dX9_homesOf_24 : decode cX9_homesOf 24 = .ok (.iinc 3 1, 3) := by decide +kernel
theorem dX9_homesOf_27 : decode cX9_homesOf 27 = .ok (.iload 5, 2) := by decide +kernel
theorem dX9_homesOf_29 : decode cX9_homesOf 29 = .ok (.istore 4, 2) := by decide +kernel
theorem dX9_homesOf_31 : decode cX9_homesOf 31 = .ok (.iinc 5 (-1), 3) := by decide +kernel
theorem dX9_homesOf_34 : decode cX9_homesOf 34 = .ok (.goto (-25), 3) := by decide +kernel
theorem dX9_homesOf_37 : decode cX9_homesOf 37 = .ok (.iload_n 2, 1) := by decide +kernel
theorem dX9_homesOf_38 : decode cX9_homesOf 38 = .ok (.ifCond .ne 7, 3) := by decide +kernel
theorem dX9_homesOf_41 : decode cX9_homesOf 41 = .ok (.iload_n 3, 1) := by decide +kernel
theorem dX9_homesOf_42 : decode cX9_homesOf 42 = .ok (.goto 5, 3) := by decide +kernel
theorem dX9_homesOf_45 : decode cX9_homesOf 45 = .ok (.iload 4, 2) := by decide +kernel
theorem dX9_homesOf_47 : decode cX9_homesOf 47 = .ok (.ireturn, 1) := by decide +kernel
theorem dX9_lookOf_0 : decode cX9_lookOf 0 = .ok (.iconst (-1), 1) := by decide +kernel
theorem dX9_lookOf_1 : decode cX9_lookOf 1 = .ok (.istore_n 2, 1) := by decide +kernel
theorem dX9_lookOf_2 : decode cX9_lookOf 2 = .ok (.bipush 37, 2) := by decide +kernel
theorem dX9_lookOf_4 : decode cX9_lookOf 4 = .ok (.istore_n 3, 1) := by decide +kernel
theorem dX9_lookOf_5 : decode cX9_lookOf 5 = .ok (.iconst 0, 1) := by decide +kernel
theorem dX9_lookOf_6 : decode cX9_lookOf 6 = .ok (.istore 4, 2) := by decide +kernel
theorem dX9_lookOf_8 : decode cX9_lookOf 8 = .ok (.iload 4, 2) := by decide +kernel
theorem dX9_lookOf_10 : decode cX9_lookOf 10 = .ok (.bipush 36, 2) := by decide +kernel
theorem dX9_lookOf_12 : decode cX9_lookOf 12 = .ok (.if_icmp .ge 156, 3) := by decide +kernel
theorem dX9_lookOf_15 : decode cX9_lookOf 15 = .ok (.iconst 0, 1) := by decide +kernel
theorem dX9_lookOf_16 : decode cX9_lookOf 16 = .ok (.istore 5, 2) := by decide +kernel
theorem dX9_lookOf_18 : decode cX9_lookOf 18 = .ok (.iload 5, 2) := by decide +kernel
theorem dX9_lookOf_20 : decode cX9_lookOf 20 = .ok (.bipush 9, 2) := by decide +kernel
theorem dX9_lookOf_22 : decode cX9_lookOf 22 = .ok (.if_icmp .ge 17, 3) := by decide +kernel
theorem dX9_lookOf_25 : decode cX9_lookOf 25 = .ok (.aload_n 0, 1) := by decide +kernel
theorem dX9_lookOf_26 : decode cX9_lookOf 26 = .ok (.getfield 25, 3) := by decide +kernel
theorem dX9_lookOf_29 : decode cX9_lookOf 29 = .ok (.iload 5, 2) := by decide +kernel
theorem dX9_lookOf_31 : decode cX9_lookOf 31 = .ok (.iconst 0, 1) := by decide +kernel
theorem dX9_lookOf_32 : decode cX9_lookOf 32 = .ok (.iastore, 1) := by decide +kernel
theorem dX9_lookOf_33 : decode cX9_lookOf 33 = .ok (.iinc 5 1, 3) := by decide +kernel
theorem dX9_lookOf_36 : decode cX9_lookOf 36 = .ok (.goto (-18), 3) := by decide +kernel
theorem dX9_lookOf_39 : decode cX9_lookOf 39 = .ok (.iconst 0, 1) := by decide +kernel
theorem dX9_lookOf_40 : decode cX9_lookOf 40 = .ok (.istore 5, 2) := by decide +kernel
theorem dX9_lookOf_42 : decode cX9_lookOf 42 = .ok (.iconst 0, 1) := by decide +kernel
theorem dX9_lookOf_43 : decode cX9_lookOf 43 = .ok (.istore 6, 2) := by decide +kernel
theorem dX9_lookOf_45 : decode cX9_lookOf 45 = .ok (.iload 6, 2) := by decide +kernel
theorem dX9_lookOf_47 : decode cX9_lookOf 47 = .ok (.bipush 36, 2) := by decide +kernel
theorem dX9_lookOf_49 : decode cX9_lookOf 49 = .ok (.if_icmp .ge 77, 3) := by decide +kernel
theorem dX9_lookOf_52 : decode cX9_lookOf 52 = .ok (.aload_n 0, 1) := by decide +kernel
theorem dX9_lookOf_53 : decode cX9_lookOf 53 = .ok (.getfield 13, 3) := by decide +kernel
theorem dX9_lookOf_56 : decode cX9_lookOf 56 = .ok (.iconst 2, 1) := by decide +kernel
theorem dX9_lookOf_57 : decode cX9_lookOf 57 = .ok (.iload_n 1, 1) := by decide +kernel
theorem dX9_lookOf_58 : decode cX9_lookOf 58 = .ok (.imul, 1) := by decide +kernel
theorem dX9_lookOf_59 : decode cX9_lookOf 59 = .ok (.iaload, 1) := by decide +kernel
theorem dX9_lookOf_60 : decode cX9_lookOf 60 = .ok (.iload 6, 2) := by decide +kernel
theorem dX9_lookOf_62 : decode cX9_lookOf 62 = .ok (.iload 4, 2) := by decide +kernel
theorem dX9_lookOf_64 : decode cX9_lookOf 64 = .ok (.invokestatic 106, 3) := by decide +kernel
theorem dX9_lookOf_67 : decode cX9_lookOf 67 = .ok (.istore 7, 2) := by decide +kernel
theorem dX9_lookOf_69 : decode cX9_lookOf 69 = .ok (.aload_n 0, 1) := by decide +kernel
theorem dX9_lookOf_70 : decode cX9_lookOf 70 = .ok (.getfield 25, 3) := by decide +kernel
theorem dX9_lookOf_73 : decode cX9_lookOf 73 = .ok (.iload 7, 2) := by decide +kernel
theorem dX9_lookOf_75 : decode cX9_lookOf 75 = .ok (.dup2, 1) := by decide +kernel
theorem dX9_lookOf_76 : decode cX9_lookOf 76 = .ok (.iaload, 1) := by decide +kernel
theorem dX9_lookOf_77 : decode cX9_lookOf 77 = .ok (.aload_n 0, 1) := by decide +kernel
theorem dX9_lookOf_78 : decode cX9_lookOf 78 = .ok (.iload_n 1, 1) := by decide +kernel
theorem dX9_lookOf_79 : decode cX9_lookOf 79 = .ok (.iload 6, 2) := by decide +kernel
theorem dX9_lookOf_81 : decode cX9_lookOf 81 = .ok (.invokevirtual 159, 3) := by decide +kernel
theorem dX9_lookOf_84 : decode cX9_lookOf 84 = .ok (.ifCond .eq 7, 3) := by decide +kernel
theorem dX9_lookOf_87 : decode cX9_lookOf 87 = .ok (.iconst 1, 1) := by decide +kernel
theorem dX9_lookOf_88 : decode cX9_lookOf 88 = .ok (.goto 4, 3) := by decide +kernel
theorem dX9_lookOf_91 : decode cX9_lookOf 91 = .ok (.iconst 0, 1) := by decide +kernel
theorem dX9_lookOf_92 : decode cX9_lookOf 92 = .ok (.iadd, 1) := by decide +kernel
theorem dX9_lookOf_93 : decode cX9_lookOf 93 = .ok (.iastore, 1) := by decide +kernel
theorem dX9_lookOf_94 : decode cX9_lookOf 94 = .ok (.aload_n 0, 1) := by decide +kernel
theorem dX9_lookOf_95 : decode cX9_lookOf 95 = .ok (.getfield 25, 3) := by decide +kernel
theorem dX9_lookOf_98 : decode cX9_lookOf 98 = .ok (.iload 7, 2) := by decide +kernel
theorem dX9_lookOf_100 : decode cX9_lookOf 100 = .ok (.iaload, 1) := by decide +kernel
theorem dX9_lookOf_101 : decode cX9_lookOf 101 = .ok (.iload 5, 2) := by decide +kernel
theorem dX9_lookOf_103 : decode cX9_lookOf 103 = .ok (.if_icmp .le 13, 3) := by decide +kernel
theorem dX9_lookOf_106 : decode cX9_lookOf 106 = .ok (.aload_n 0, 1) := by decide +kernel
theorem dX9_lookOf_107 : decode cX9_lookOf 107 = .ok (.getfield 25, 3) := by decide +kernel
theorem dX9_lookOf_110 : decode cX9_lookOf 110 = .ok (.iload 7, 2) := by decide +kernel
theorem dX9_lookOf_112 : decode cX9_lookOf 112 = .ok (.iaload, 1) := by decide +kernel
theorem dX9_lookOf_113 : decode cX9_lookOf 113 = .ok (.goto 5, 3) := by decide +kernel
theorem dX9_lookOf_116 : decode cX9_lookOf 116 = .ok (.iload 5, 2) := by decide +kernel
theorem dX9_lookOf_118 : decode cX9_lookOf 118 = .ok (.istore 5, 2) := by decide +kernel
theorem dX9_lookOf_120 : decode cX9_lookOf 120 = .ok (.iinc 6 1, 3) := by decide +kernel
theorem dX9_lookOf_123 : decode cX9_lookOf 123 = .ok (.goto (-78), 3) := by decide +kernel
theorem dX9_lookOf_126 : decode cX9_lookOf 126 = .ok (.iload 5, 2) := by decide +kernel
theorem dX9_lookOf_128 : decode cX9_lookOf 128 = .ok (.ifCond .le 14, 3) := by decide +kernel
theorem dX9_lookOf_131 : decode cX9_lookOf 131 = .ok (.iload 5, 2) := by decide +kernel
theorem dX9_lookOf_133 : decode cX9_lookOf 133 = .ok (.iload_n 3, 1) := by decide +kernel
theorem dX9_lookOf_134 : decode cX9_lookOf 134 = .ok (.if_icmp .ge 8, 3) := by decide +kernel
theorem dX9_lookOf_137 : decode cX9_lookOf 137 = .ok (.iload 4, 2) := by decide +kernel
theorem dX9_lookOf_139 : decode cX9_lookOf 139 = .ok (.goto 4, 3) := by decide +kernel
theorem dX9_lookOf_142 : decode cX9_lookOf 142 = .ok (.iload_n 2, 1) := by decide +kernel
theorem dX9_lookOf_143 : decode cX9_lookOf 143 = .ok (.istore_n 2, 1) := by decide +kernel
theorem dX9_lookOf_144 : decode cX9_lookOf 144 = .ok (.iload 5, 2) := by decide +kernel
theorem dX9_lookOf_146 : decode cX9_lookOf 146 = .ok (.ifCond .le 14, 3) := by decide +kernel
theorem dX9_lookOf_149 : decode cX9_lookOf 149 = .ok (.iload 5, 2) := by decide +kernel
theorem dX9_lookOf_151 : decode cX9_lookOf 151 = .ok (.iload_n 3, 1) := by decide +kernel
theorem dX9_lookOf_152 : decode cX9_lookOf 152 = .ok (.if_icmp .ge 8, 3) := by decide +kernel
theorem dX9_lookOf_155 : decode cX9_lookOf 155 = .ok (.iload 5, 2) := by decide +kernel
theorem dX9_lookOf_157 : decode cX9_lookOf 157 = .ok (.goto 4, 3) := by decide +kernel
theorem dX9_lookOf_160 : decode cX9_lookOf 160 = .ok (.iload_n 3, 1) := by decide +kernel
theorem dX9_lookOf_161 : decode cX9_lookOf 161 = .ok (.istore_n 3, 1) := by decide +kernel
theorem dX9_lookOf_162 : decode cX9_lookOf 162 = .ok (.iinc 4 1, 3) := by decide +kernel
theorem dX9_lookOf_165 : decode cX9_lookOf 165 = .ok (.goto (-157), 3) := by decide +kernel
theorem dX9_lookOf_168 : decode cX9_lookOf 168 = .ok (.iload_n 2, 1) := by decide +kernel
theorem dX9_lookOf_169 : decode cX9_lookOf 169 = .ok (.ireturn, 1) := by decide +kernel
theorem dX9_draw_0 : decode cX9_draw 0 = .ok (.aload_n 0, 1) := by decide +kernel
theorem dX9_draw_1 : decode cX9_draw 1 = .ok (.ldc2_w 163, 3) := by decide +kernel
theorem dX9_draw_4 : decode cX9_draw 4 = .ok (.aload_n 0, 1) := by decide +kernel
theorem dX9_draw_5 : decode cX9_draw 5 = .ok (.getfield 165, 3) := by decide +kernel
theorem dX9_draw_8 : decode cX9_draw 8 = .ok (.i2l, 1) := by decide +kernel
theorem dX9_draw_9 : decode cX9_draw 9 = .ok (.lmul, 1) := by decide +kernel
theorem dX9_draw_10 : decode cX9_draw 10 = .ok (.ldc2_w 168, 3) := by decide +kernel
theorem dX9_draw_13 : decode cX9_draw 13 = .ok (.ladd, 1) := by decide +kernel
theorem dX9_draw_14 : decode cX9_draw 14 = .ok (.ldc2_w 170, 3) := by decide +kernel
theorem dX9_draw_17 : decode cX9_draw 17 = .ok (.land, 1) := by decide +kernel
theorem dX9_draw_18 : decode cX9_draw 18 = .ok (.l2i, 1) := by decide +kernel
theorem dX9_draw_19 : decode cX9_draw 19 = .ok (.putfield 165, 3) := by decide +kernel
theorem dX9_draw_22 : decode cX9_draw 22 = .ok (.aload_n 0, 1) := by decide +kernel
theorem dX9_draw_23 : decode cX9_draw 23 = .ok (.getfield 165, 3) := by decide +kernel
theorem dX9_draw_26 : decode cX9_draw 26 = .ok (.ldc 172, 2) := by decide +kernel
theorem dX9_draw_28 : decode cX9_draw 28 = .ok (.idiv, 1) := by decide +kernel
theorem dX9_draw_29 : decode cX9_draw 29 = .ok (.iload_n 1, 1) := by decide +kernel
theorem dX9_draw_30 : decode cX9_draw 30 = .ok (.irem, 1) := by decide +kernel
theorem dX9_draw_31 : decode cX9_draw 31 = .ok (.ireturn, 1) := by decide +kernel
theorem dX9_downsAt_0 : decode cX9_downsAt 0 = .ok (.iconst 0, 1) := by decide +kernel
theorem dX9_downsAt_1 : decode cX9_downsAt 1 = .ok (.istore_n 2, 1) := by decide +kernel
theorem dX9_downsAt_2 : decode cX9_downsAt 2 = .ok (.iconst 0, 1) := by decide +kernel
theorem dX9_downsAt_3 : decode cX9_downsAt 3 = .ok (.istore_n 3, 1) := by decide +kernel
theorem dX9_downsAt_4 : decode cX9_downsAt 4 = .ok (.iload_n 3, 1) := by decide +kernel
theorem dX9_downsAt_5 : decode cX9_downsAt 5 = .ok (.aload_n 0, 1) := by decide +kernel
theorem dX9_downsAt_6 : decode cX9_downsAt 6 = .ok (.getfield 72, 3) := by decide +kernel
theorem dX9_downsAt_9 : decode cX9_downsAt 9 = .ok (.if_icmp .ge 27, 3) := by decide +kernel
theorem dX9_downsAt_12 : decode cX9_downsAt 12 = .ok (.iload_n 2, 1) := by decide +kernel
theorem dX9_downsAt_13 : decode cX9_downsAt 13 = .ok (.aload_n 0, 1) := by decide +kernel
theorem dX9_downsAt_14 : decode cX9_downsAt 14 = .ok (.iload_n 3, 1) := by decide +kernel
theorem dX9_downsAt_15 : decode cX9_downsAt 15 = .ok (.iload_n 1, 1) := by decide +kernel
theorem dX9_downsAt_16 : decode cX9_downsAt 16 = .ok (.invokevirtual 118, 3) := by decide +kernel
theorem dX9_downsAt_19 : decode cX9_downsAt 19 = .ok (.iconst 4, 1) := by decide +kernel
theorem dX9_downsAt_20 : decode cX9_downsAt 20 = .ok (.if_icmp .ne 7, 3) := by decide +kernel
theorem dX9_downsAt_23 : decode cX9_downsAt 23 = .ok (.iconst 1, 1) := by decide +kernel
theorem dX9_downsAt_24 : decode cX9_downsAt 24 = .ok (.goto 4, 3) := by decide +kernel
theorem dX9_downsAt_27 : decode cX9_downsAt 27 = .ok (.iconst 0, 1) := by decide +kernel
theorem dX9_downsAt_28 : decode cX9_downsAt 28 = .ok (.iadd, 1) := by decide +kernel
theorem dX9_downsAt_29 : decode cX9_downsAt 29 = .ok (.istore_n 2, 1) := by decide +kernel
theorem dX9_downsAt_30 : decode cX9_downsAt 30 = .ok (.iinc 3 1, 3) := by decide +kernel
theorem dX9_downsAt_33 : decode cX9_downsAt 33 = .ok (.goto (-29), 3) := by decide +kernel
theorem dX9_downsAt_36 : decode cX9_downsAt 36 = .ok (.iload_n 2, 1) := by decide +kernel
theorem dX9_downsAt_37 : decode cX9_downsAt 37 = .ok (.ireturn, 1) := by decide +kernel
theorem dX9_storms_0 : decode cX9_storms 0 = .ok (.iload_n 1, 1) := by decide +kernel
theorem dX9_storms_1 : decode cX9_storms 1 = .ok (.i2l, 1) := by decide +kernel
theorem dX9_storms_2 : decode cX9_storms 2 = .ok (.lconst 1, 1) := by decide +kernel
theorem dX9_storms_3 : decode cX9_storms 3 = .ok (.ldc2_w 173, 3) := by decide +kernel
theorem dX9_storms_6 : decode cX9_storms 6 = .ok (.invokestatic 43, 3) := by decide +kernel
theorem dX9_storms_9 : decode cX9_storms 9 = .ok (.ifCond .eq 19, 3) := by decide +kernel
theorem dX9_storms_12 : decode cX9_storms 12 = .ok (.iload_n 2, 1) := by decide +kernel
theorem dX9_storms_13 : decode cX9_storms 13 = .ok (.ifCond .lt 15, 3) := by decide +kernel
theorem dX9_storms_16 : decode cX9_storms 16 = .ok (.iload_n 3, 1) := by decide +kernel
theorem dX9_storms_17 : decode cX9_storms 17 = .ok (.i2l, 1) := by decide +kernel
theorem dX9_storms_18 : decode cX9_storms 18 = .ok (.lconst 0, 1) := by decide +kernel
theorem dX9_storms_19 : decode cX9_storms 19 = .ok (.ldc2_w 175, 3) := by decide +kernel
theorem dX9_storms_22 : decode cX9_storms 22 = .ok (.invokestatic 43, 3) := by decide +kernel
theorem dX9_storms_25 : decode cX9_storms 25 = .ok (.ifCond .ne 6, 3) := by decide +kernel
theorem dX9_storms_28 : decode cX9_storms 28 = .ok (.bipush (-102), 2) := by decide +kernel
theorem dX9_storms_30 : decode cX9_storms 30 = .ok (.ireturn, 1) := by decide +kernel
theorem dX9_storms_31 : decode cX9_storms 31 = .ok (.aload_n 0, 1) := by decide +kernel
theorem dX9_storms_32 : decode cX9_storms 32 = .ok (.invokevirtual 93, 3) := by decide +kernel
theorem dX9_storms_35 : decode cX9_storms 35 = .ok (.ifCond .eq 6, 3) := by decide +kernel
theorem dX9_storms_38 : decode cX9_storms 38 = .ok (.bipush (-103), 2) := by decide +kernel
theorem dX9_storms_40 : decode cX9_storms 40 = .ok (.ireturn, 1) := by decide +kernel
theorem dX9_storms_41 : decode cX9_storms 41 = .ok (.aload_n 0, 1) := by decide +kernel
theorem dX9_storms_42 : decode cX9_storms 42 = .ok (.iload_n 2, 1) := by decide +kernel
theorem dX9_storms_43 : decode cX9_storms 43 = .ok (.putfield 165, 3) := by decide +kernel
theorem dX9_storms_46 : decode cX9_storms 46 = .ok (.aload_n 0, 1) := by decide +kernel
theorem dX9_storms_47 : decode cX9_storms 47 = .ok (.getfield 78, 3) := by decide +kernel
theorem dX9_storms_50 : decode cX9_storms 50 = .ok (.istore 4, 2) := by decide +kernel
theorem dX9_storms_52 : decode cX9_storms 52 = .ok (.iconst 0, 1) := by decide +kernel
theorem dX9_storms_53 : decode cX9_storms 53 = .ok (.istore 5, 2) := by decide +kernel
theorem dX9_storms_55 : decode cX9_storms 55 = .ok (.iconst 0, 1) := by decide +kernel
theorem dX9_storms_56 : decode cX9_storms 56 = .ok (.istore 6, 2) := by decide +kernel
theorem dX9_storms_58 : decode cX9_storms 58 = .ok (.iload 6, 2) := by decide +kernel
theorem dX9_storms_60 : decode cX9_storms 60 = .ok (.iload_n 1, 1) := by decide +kernel
theorem dX9_storms_61 : decode cX9_storms 61 = .ok (.if_icmp .ge 34, 3) := by decide +kernel
theorem dX9_storms_64 : decode cX9_storms 64 = .ok (.aload_n 0, 1) := by decide +kernel
theorem dX9_storms_65 : decode cX9_storms 65 = .ok (.iload 4, 2) := by decide +kernel
theorem dX9_storms_67 : decode cX9_storms 67 = .ok (.aload_n 0, 1) := by decide +kernel
theorem dX9_storms_68 : decode cX9_storms 68 = .ok (.bipush 9, 2) := by decide +kernel
theorem dX9_storms_70 : decode cX9_storms 70 = .ok (.invokevirtual 177, 3) := by decide +kernel
theorem dX9_storms_73 : decode cX9_storms 73 = .ok (.invokevirtual 121, 3) := by decide +kernel
theorem dX9_storms_76 : decode cX9_storms 76 = .ok (.istore 4, 2) := by decide +kernel
theorem dX9_storms_78 : decode cX9_storms 78 = .ok (.iload 5, 2) := by decide +kernel
theorem dX9_storms_80 : decode cX9_storms 80 = .ok (.aload_n 0, 1) := by decide +kernel
theorem dX9_storms_81 : decode cX9_storms 81 = .ok (.iload 4, 2) := by decide +kernel
theorem dX9_storms_83 : decode cX9_storms 83 = .ok (.invokevirtual 180, 3) := by decide +kernel
theorem dX9_storms_86 : decode cX9_storms 86 = .ok (.iadd, 1) := by decide +kernel
theorem dX9_storms_87 : decode cX9_storms 87 = .ok (.istore 5, 2) := by decide +kernel
theorem dX9_storms_89 : decode cX9_storms 89 = .ok (.iinc 6 1, 3) := by decide +kernel
theorem dX9_storms_92 : decode cX9_storms 92 = .ok (.goto (-34), 3) := by decide +kernel
theorem dX9_storms_95 : decode cX9_storms 95 = .ok (.iload_n 3, 1) := by decide +kernel
theorem dX9_storms_96 : decode cX9_storms 96 = .ok (.ifCond .ne 8, 3) := by decide +kernel
theorem dX9_storms_99 : decode cX9_storms 99 = .ok (.iload 4, 2) := by decide +kernel
theorem dX9_storms_101 : decode cX9_storms 101 = .ok (.goto 17, 3) := by decide +kernel
theorem dX9_storms_104 : decode cX9_storms 104 = .ok (.iload_n 3, 1) := by decide +kernel
theorem dX9_storms_105 : decode cX9_storms 105 = .ok (.iconst 1, 1) := by decide +kernel
theorem dX9_storms_106 : decode cX9_storms 106 = .ok (.if_icmp .ne 8, 3) := by decide +kernel
theorem dX9_storms_109 : decode cX9_storms 109 = .ok (.iload 5, 2) := by decide +kernel
theorem dX9_storms_111 : decode cX9_storms 111 = .ok (.goto 7, 3) := by decide +kernel
theorem dX9_storms_114 : decode cX9_storms 114 = .ok (.aload_n 0, 1) := by decide +kernel
theorem dX9_storms_115 : decode cX9_storms 115 = .ok (.getfield 165, 3) := by decide +kernel
theorem dX9_storms_118 : decode cX9_storms 118 = .ok (.ireturn, 1) := by decide +kernel
theorem dX9_image_0 : decode cX9_image 0 = .ok (.aload_n 0, 1) := by decide +kernel
theorem dX9_image_1 : decode cX9_image 1 = .ok (.invokevirtual 93, 3) := by decide +kernel
theorem dX9_image_4 : decode cX9_image 4 = .ok (.ifCond .eq 6, 3) := by decide +kernel
theorem dX9_image_7 : decode cX9_image 7 = .ok (.bipush (-103), 2) := by decide +kernel
theorem dX9_image_9 : decode cX9_image 9 = .ok (.ireturn, 1) := by decide +kernel
theorem dX9_image_10 : decode cX9_image 10 = .ok (.aload_n 0, 1) := by decide +kernel
theorem dX9_image_11 : decode cX9_image 11 = .ok (.getfield 13, 3) := by decide +kernel
theorem dX9_image_14 : decode cX9_image 14 = .ok (.aload_n 0, 1) := by decide +kernel
theorem dX9_image_15 : decode cX9_image 15 = .ok (.getfield 28, 3) := by decide +kernel
theorem dX9_image_18 : decode cX9_image 18 = .ok (.invokestatic 183, 3) := by decide +kernel
theorem dX9_image_21 : decode cX9_image 21 = .ok (.aload_n 0, 1) := by decide +kernel
theorem dX9_image_22 : decode cX9_image 22 = .ok (.getfield 16, 3) := by decide +kernel
theorem dX9_image_25 : decode cX9_image 25 = .ok (.aload_n 0, 1) := by decide +kernel
theorem dX9_image_26 : decode cX9_image 26 = .ok (.getfield 31, 3) := by decide +kernel
theorem dX9_image_29 : decode cX9_image 29 = .ok (.invokestatic 183, 3) := by decide +kernel
theorem dX9_image_32 : decode cX9_image 32 = .ok (.aload_n 0, 1) := by decide +kernel
theorem dX9_image_33 : decode cX9_image 33 = .ok (.getfield 22, 3) := by decide +kernel
theorem dX9_image_36 : decode cX9_image 36 = .ok (.aload_n 0, 1) := by decide +kernel
theorem dX9_image_37 : decode cX9_image 37 = .ok (.getfield 34, 3) := by decide +kernel
theorem dX9_image_40 : decode cX9_image 40 = .ok (.invokestatic 183, 3) := by decide +kernel
theorem dX9_image_43 : decode cX9_image 43 = .ok (.aload_n 0, 1) := by decide +kernel
theorem dX9_image_44 : decode cX9_image 44 = .ok (.aload_n 0, 1) := by decide +kernel
theorem dX9_image_45 : decode cX9_image 45 = .ok (.getfield 78, 3) := by decide +kernel
theorem dX9_image_48 : decode cX9_image 48 = .ok (.putfield 187, 3) := by decide +kernel
theorem dX9_image_51 : decode cX9_image 51 = .ok (.aload_n 0, 1) := by decide +kernel
theorem dX9_image_52 : decode cX9_image 52 = .ok (.aload_n 0, 1) := by decide +kernel
theorem dX9_image_53 : decode cX9_image 53 = .ok (.getfield 81, 3) := by decide +kernel
theorem dX9_image_56 : decode cX9_image 56 = .ok (.putfield 190, 3) := by decide +kernel
theorem dX9_image_59 : decode cX9_image 59 = .ok (.aload_n 0, 1) := by decide +kernel
theorem dX9_image_60 : decode cX9_image 60 = .ok (.aload_n 0, 1) := by decide +kernel
theorem dX9_image_61 : decode cX9_image 61 = .ok (.getfield 84, 3) := by decide +kernel
theorem dX9_image_64 : decode cX9_image 64 = .ok (.putfield 193, 3) := by decide +kernel
theorem dX9_image_67 : decode cX9_image 67 = .ok (.aload_n 0, 1) := by decide +kernel
theorem dX9_image_68 : decode cX9_image 68 = .ok (.aload_n 0, 1) := by decide +kernel
theorem dX9_image_69 : decode cX9_image 69 = .ok (.getfield 87, 3) := by decide +kernel
theorem dX9_image_72 : decode cX9_image 72 = .ok (.putfield 196, 3) := by decide +kernel
theorem dX9_image_75 : decode cX9_image 75 = .ok (.aload_n 0, 1) := by decide +kernel
theorem dX9_image_76 : decode cX9_image 76 = .ok (.aload_n 0, 1) := by decide +kernel
theorem dX9_image_77 : decode cX9_image 77 = .ok (.getfield 90, 3) := by decide +kernel
theorem dX9_image_80 : decode cX9_image 80 = .ok (.putfield 37, 3) := by decide +kernel
theorem dX9_image_83 : decode cX9_image 83 = .ok (.aload_n 0, 1) := by decide +kernel
theorem dX9_image_84 : decode cX9_image 84 = .ok (.getfield 81, 3) := by decide +kernel
theorem dX9_image_87 : decode cX9_image 87 = .ok (.ireturn, 1) := by decide +kernel
theorem dX9_restore_0 : decode cX9_restore 0 = .ok (.aload_n 0, 1) := by decide +kernel
theorem dX9_restore_1 : decode cX9_restore 1 = .ok (.getfield 37, 3) := by decide +kernel
theorem dX9_restore_4 : decode cX9_restore 4 = .ok (.aload_n 0, 1) := by decide +kernel
theorem dX9_restore_5 : decode cX9_restore 5 = .ok (.getfield 90, 3) := by decide +kernel
theorem dX9_restore_8 : decode cX9_restore 8 = .ok (.if_icmp .eq 6, 3) := by decide +kernel
theorem dX9_restore_11 : decode cX9_restore 11 = .ok (.bipush (-103), 2) := by decide +kernel
theorem dX9_restore_13 : decode cX9_restore 13 = .ok (.ireturn, 1) := by decide +kernel
theorem dX9_restore_14 : decode cX9_restore 14 = .ok (.aload_n 0, 1) := by decide +kernel
theorem dX9_restore_15 : decode cX9_restore 15 = .ok (.getfield 28, 3) := by decide +kernel
theorem dX9_restore_18 : decode cX9_restore 18 = .ok (.aload_n 0, 1) := by decide +kernel
theorem dX9_restore_19 : decode cX9_restore 19 = .ok (.getfield 13, 3) := by decide +kernel
theorem dX9_restore_22 : decode cX9_restore 22 = .ok (.invokestatic 183, 3) := by decide +kernel
theorem dX9_restore_25 : decode cX9_restore 25 = .ok (.aload_n 0, 1) := by decide +kernel
theorem dX9_restore_26 : decode cX9_restore 26 = .ok (.getfield 31, 3) := by decide +kernel
theorem dX9_restore_29 : decode cX9_restore 29 = .ok (.aload_n 0, 1) := by decide +kernel
theorem dX9_restore_30 : decode cX9_restore 30 = .ok (.getfield 16, 3) := by decide +kernel
theorem dX9_restore_33 : decode cX9_restore 33 = .ok (.invokestatic 183, 3) := by decide +kernel
theorem dX9_restore_36 : decode cX9_restore 36 = .ok (.aload_n 0, 1) := by decide +kernel
theorem dX9_restore_37 : decode cX9_restore 37 = .ok (.getfield 34, 3) := by decide +kernel
theorem dX9_restore_40 : decode cX9_restore 40 = .ok (.aload_n 0, 1) := by decide +kernel
theorem dX9_restore_41 : decode cX9_restore 41 = .ok (.getfield 22, 3) := by decide +kernel
theorem dX9_restore_44 : decode cX9_restore 44 = .ok (.invokestatic 183, 3) := by decide +kernel
theorem dX9_restore_47 : decode cX9_restore 47 = .ok (.aload_n 0, 1) := by decide +kernel
theorem dX9_restore_48 : decode cX9_restore 48 = .ok (.aload_n 0, 1) := by decide +kernel
theorem dX9_restore_49 : decode cX9_restore 49 = .ok (.getfield 187, 3) := by decide +kernel
theorem dX9_restore_52 : decode cX9_restore 52 = .ok (.putfield 78, 3) := by decide +kernel
theorem dX9_restore_55 : decode cX9_restore 55 = .ok (.aload_n 0, 1) := by decide +kernel
theorem dX9_restore_56 : decode cX9_restore 56 = .ok (.aload_n 0, 1) := by decide +kernel
theorem dX9_restore_57 : decode cX9_restore 57 = .ok (.getfield 190, 3) := by decide +kernel
theorem dX9_restore_60 : decode cX9_restore 60 = .ok (.putfield 81, 3) := by decide +kernel
theorem dX9_restore_63 : decode cX9_restore 63 = .ok (.aload_n 0, 1) := by decide +kernel
theorem dX9_restore_64 : decode cX9_restore 64 = .ok (.aload_n 0, 1) := by decide +kernel
theorem dX9_restore_65 : decode cX9_restore 65 = .ok (.getfield 193, 3) := by decide +kernel
theorem dX9_restore_68 : decode cX9_restore 68 = .ok (.putfield 84, 3) := by decide +kernel
theorem dX9_restore_71 : decode cX9_restore 71 = .ok (.aload_n 0, 1) := by decide +kernel
theorem dX9_restore_72 : decode cX9_restore 72 = .ok (.aload_n 0, 1) := by decide +kernel
theorem dX9_restore_73 : decode cX9_restore 73 = .ok (.getfield 196, 3) := by decide +kernel
theorem dX9_restore_76 : decode cX9_restore 76 = .ok (.putfield 87, 3) := by decide +kernel
theorem dX9_restore_79 : decode cX9_restore 79 = .ok (.aload_n 0, 1) := by decide +kernel
theorem dX9_restore_80 : decode cX9_restore 80 = .ok (.getfield 81, 3) := by decide +kernel
theorem dX9_restore_83 : decode cX9_restore 83 = .ok (.ireturn, 1) := by decide +kernel
theorem dX9_islandsAll_0 : decode cX9_islandsAll 0 = .ok (.iconst 0, 1) := by decide +kernel
theorem dX9_islandsAll_1 : decode cX9_islandsAll 1 = .ok (.istore_n 1, 1) := by decide +kernel
theorem dX9_islandsAll_2 : decode cX9_islandsAll 2 = .ok (.iconst 0, 1) := by decide +kernel
theorem dX9_islandsAll_3 : decode cX9_islandsAll 3 = .ok (.istore_n 2, 1) := by decide +kernel
theorem dX9_islandsAll_4 : decode cX9_islandsAll 4 = .ok (.iload_n 2, 1) := by decide +kernel
theorem dX9_islandsAll_5 : decode cX9_islandsAll 5 = .ok (.bipush 36, 2) := by decide +kernel
theorem dX9_islandsAll_7 : decode cX9_islandsAll 7 = .ok (.if_icmp .ge 18, 3) := by decide +kernel
theorem dX9_islandsAll_10 : decode cX9_islandsAll 10 = .ok (.iload_n 1, 1) := by decide +kernel
theorem dX9_islandsAll_11 : decode cX9_islandsAll 11 = .ok (.aload_n 0, 1) := by decide +kernel
theorem dX9_islandsAll_12 : decode cX9_islandsAll 12 = .ok (.getfield 16, 3) := by decide +kernel
theorem dX9_islandsAll_15 : decode cX9_islandsAll 15 = .ok (.iload_n 2, 1) := by decide +kernel
theorem dX9_islandsAll_16 : decode cX9_islandsAll 16 = .ok (.iaload, 1) := by decide +kernel
theorem dX9_islandsAll_17 : decode cX9_islandsAll 17 = .ok (.iadd, 1) := by decide +kernel
theorem dX9_islandsAll_18 : decode cX9_islandsAll 18 = .ok (.istore_n 1, 1) := by decide +kernel
theorem dX9_islandsAll_19 : decode cX9_islandsAll 19 = .ok (.iinc 2 1, 3) := by decide +kernel
theorem dX9_islandsAll_22 : decode cX9_islandsAll 22 = .ok (.goto (-18), 3) := by decide +kernel
theorem dX9_islandsAll_25 : decode cX9_islandsAll 25 = .ok (.iload_n 1, 1) := by decide +kernel
theorem dX9_islandsAll_26 : decode cX9_islandsAll 26 = .ok (.ireturn, 1) := by decide +kernel
theorem dX9_countOf_0 : decode cX9_countOf 0 = .ok (.iload_n 1, 1) := by decide +kernel
theorem dX9_countOf_1 : decode cX9_countOf 1 = .ok (.tableswitch 100 0 8 #[51, 56, 61, 66, 71, 76, 85, 90, 95], 51) := by decide +kernel
theorem dX9_countOf_52 : decode cX9_countOf 52 = .ok (.aload_n 0, 1) := by decide +kernel
theorem dX9_countOf_53 : decode cX9_countOf 53 = .ok (.getfield 72, 3) := by decide +kernel
theorem dX9_countOf_56 : decode cX9_countOf 56 = .ok (.ireturn, 1) := by decide +kernel
theorem dX9_countOf_57 : decode cX9_countOf 57 = .ok (.aload_n 0, 1) := by decide +kernel
theorem dX9_countOf_58 : decode cX9_countOf 58 = .ok (.getfield 78, 3) := by decide +kernel
theorem dX9_countOf_61 : decode cX9_countOf 61 = .ok (.ireturn, 1) := by decide +kernel
theorem dX9_countOf_62 : decode cX9_countOf 62 = .ok (.aload_n 0, 1) := by decide +kernel
theorem dX9_countOf_63 : decode cX9_countOf 63 = .ok (.invokevirtual 199, 3) := by decide +kernel
theorem dX9_countOf_66 : decode cX9_countOf 66 = .ok (.ireturn, 1) := by decide +kernel
theorem dX9_countOf_67 : decode cX9_countOf 67 = .ok (.aload_n 0, 1) := by decide +kernel
theorem dX9_countOf_68 : decode cX9_countOf 68 = .ok (.getfield 81, 3) := by decide +kernel
theorem dX9_countOf_71 : decode cX9_countOf 71 = .ok (.ireturn, 1) := by decide +kernel
theorem dX9_countOf_72 : decode cX9_countOf 72 = .ok (.aload_n 0, 1) := by decide +kernel
theorem dX9_countOf_73 : decode cX9_countOf 73 = .ok (.getfield 84, 3) := by decide +kernel
theorem dX9_countOf_76 : decode cX9_countOf 76 = .ok (.ireturn, 1) := by decide +kernel
theorem dX9_countOf_77 : decode cX9_countOf 77 = .ok (.aload_n 0, 1) := by decide +kernel
theorem dX9_countOf_78 : decode cX9_countOf 78 = .ok (.aload_n 0, 1) := by decide +kernel
theorem dX9_countOf_79 : decode cX9_countOf 79 = .ok (.getfield 78, 3) := by decide +kernel
theorem dX9_countOf_82 : decode cX9_countOf 82 = .ok (.invokevirtual 180, 3) := by decide +kernel
theorem dX9_countOf_85 : decode cX9_countOf 85 = .ok (.ireturn, 1) := by decide +kernel
theorem dX9_countOf_86 : decode cX9_countOf 86 = .ok (.aload_n 0, 1) := by decide +kernel
theorem dX9_countOf_87 : decode cX9_countOf 87 = .ok (.getfield 87, 3) := by decide +kernel
theorem dX9_countOf_90 : decode cX9_countOf 90 = .ok (.ireturn, 1) := by decide +kernel
theorem dX9_countOf_91 : decode cX9_countOf 91 = .ok (.aload_n 0, 1) := by decide +kernel
theorem dX9_countOf_92 : decode cX9_countOf 92 = .ok (.getfield 47, 3) := by decide +kernel
theorem dX9_countOf_95 : decode cX9_countOf 95 = .ok (.ireturn, 1) := by decide +kernel
theorem dX9_countOf_96 : decode cX9_countOf 96 = .ok (.aload_n 0, 1) := by decide +kernel
theorem dX9_countOf_97 : decode cX9_countOf 97 = .ok (.getfield 90, 3) := by decide +kernel
theorem dX9_countOf_100 : decode cX9_countOf 100 = .ok (.ireturn, 1) := by decide +kernel
theorem dX9_countOf_101 : decode cX9_countOf 101 = .ok (.bipush (-102), 2) := by decide +kernel
theorem dX9_countOf_103 : decode cX9_countOf 103 = .ok (.ireturn, 1) := by decide +kernel
theorem dX9_count_0 : decode cX9_count 0 = .ok (.aload_n 0, 1) := by decide +kernel
theorem dX9_count_1 : decode cX9_count 1 = .ok (.iload_n 1, 1) := by decide +kernel
theorem dX9_count_2 : decode cX9_count 2 = .ok (.invokevirtual 202, 3) := by decide +kernel
theorem dX9_count_5 : decode cX9_count 5 = .ok (.ireturn, 1) := by decide +kernel
theorem dX9_say_0 : decode cX9_say 0 = .ok (.aload_n 0, 1) := by decide +kernel
theorem dX9_say_1 : decode cX9_say 1 = .ok (.ldc2_w 205, 3) := by decide +kernel
theorem dX9_say_4 : decode cX9_say 4 = .ok (.aload_n 0, 1) := by decide +kernel
theorem dX9_say_5 : decode cX9_say 5 = .ok (.getfield 207, 3) := by decide +kernel
theorem dX9_say_8 : decode cX9_say 8 = .ok (.lmul, 1) := by decide +kernel
theorem dX9_say_9 : decode cX9_say 9 = .ok (.lload_n 1, 1) := by decide +kernel
theorem dX9_say_10 : decode cX9_say 10 = .ok (.ladd, 1) := by decide +kernel
theorem dX9_say_11 : decode cX9_say 11 = .ok (.putfield 207, 3) := by decide +kernel
theorem dX9_say_14 : decode cX9_say 14 = .ok (.return_, 1) := by decide +kernel
theorem dX9_digest_0 : decode cX9_digest 0 = .ok (.aload_n 0, 1) := by decide +kernel
theorem dX9_digest_1 : decode cX9_digest 1 = .ok (.ldc2_w 211, 3) := by decide +kernel
theorem dX9_digest_4 : decode cX9_digest 4 = .ok (.putfield 207, 3) := by decide +kernel
theorem dX9_digest_7 : decode cX9_digest 7 = .ok (.iconst 0, 1) := by decide +kernel
theorem dX9_digest_8 : decode cX9_digest 8 = .ok (.istore_n 1, 1) := by decide +kernel
theorem dX9_digest_9 : decode cX9_digest 9 = .ok (.iload_n 1, 1) := by decide +kernel
theorem dX9_digest_10 : decode cX9_digest 10 = .ok (.aload_n 0, 1) := by decide +kernel
theorem dX9_digest_11 : decode cX9_digest 11 = .ok (.getfield 72, 3) := by decide +kernel
theorem dX9_digest_14 : decode cX9_digest 14 = .ok (.if_icmp .ge 69, 3) := by decide +kernel
theorem dX9_digest_17 : decode cX9_digest 17 = .ok (.iconst 0, 1) := by decide +kernel
theorem dX9_digest_18 : decode cX9_digest 18 = .ok (.istore_n 2, 1) := by decide +kernel
theorem dX9_digest_19 : decode cX9_digest 19 = .ok (.iload_n 2, 1) := by decide +kernel
theorem dX9_digest_20 : decode cX9_digest 20 = .ok (.bipush 8, 2) := by decide +kernel
theorem dX9_digest_22 : decode cX9_digest 22 = .ok (.if_icmp .ge 20, 3) := by decide +kernel
theorem dX9_digest_25 : decode cX9_digest 25 = .ok (.aload_n 0, 1) := by decide +kernel
theorem dX9_digest_26 : decode cX9_digest 26 = .ok (.aload_n 0, 1) := by decide +kernel
theorem dX9_digest_27 : decode cX9_digest 27 = .ok (.iload_n 1, 1) := by decide +kernel
theorem dX9_digest_28 : decode cX9_digest 28 = .ok (.iload_n 2, 1) := by decide +kernel
theorem dX9_digest_29 : decode cX9_digest 29 = .ok (.invokevirtual 143, 3) := by decide +kernel
theorem dX9_digest_32 : decode cX9_digest 32 = .ok (.i2l, 1) := by decide +kernel
theorem dX9_digest_33 : decode cX9_digest 33 = .ok (.invokevirtual 213, 3) := by decide +kernel
theorem dX9_digest_36 : decode cX9_digest 36 = .ok (.iinc 2 1, 3) := by decide +kernel
theorem dX9_digest_39 : decode cX9_digest 39 = .ok (.goto (-20), 3) := by decide +kernel
theorem dX9_digest_42 : decode cX9_digest 42 = .ok (.aload_n 0, 1) := by decide +kernel
theorem dX9_digest_43 : decode cX9_digest 43 = .ok (.aload_n 0, 1) := by decide +kernel
theorem dX9_digest_44 : decode cX9_digest 44 = .ok (.iload_n 1, 1) := by decide +kernel
theorem dX9_digest_45 : decode cX9_digest 45 = .ok (.iconst 0, 1) := by decide +kernel
theorem dX9_digest_46 : decode cX9_digest 46 = .ok (.invokevirtual 118, 3) := by decide +kernel
theorem dX9_digest_49 : decode cX9_digest 49 = .ok (.i2l, 1) := by decide +kernel
theorem dX9_digest_50 : decode cX9_digest 50 = .ok (.invokevirtual 213, 3) := by decide +kernel
theorem dX9_digest_53 : decode cX9_digest 53 = .ok (.aload_n 0, 1) := by decide +kernel
theorem dX9_digest_54 : decode cX9_digest 54 = .ok (.aload_n 0, 1) := by decide +kernel
theorem dX9_digest_55 : decode cX9_digest 55 = .ok (.iload_n 1, 1) := by decide +kernel
theorem dX9_digest_56 : decode cX9_digest 56 = .ok (.bipush 14, 2) := by decide +kernel
theorem dX9_digest_58 : decode cX9_digest 58 = .ok (.invokevirtual 118, 3) := by decide +kernel
theorem dX9_digest_61 : decode cX9_digest 61 = .ok (.i2l, 1) := by decide +kernel
theorem dX9_digest_62 : decode cX9_digest 62 = .ok (.invokevirtual 213, 3) := by decide +kernel
theorem dX9_digest_65 : decode cX9_digest 65 = .ok (.aload_n 0, 1) := by decide +kernel
theorem dX9_digest_66 : decode cX9_digest 66 = .ok (.aload_n 0, 1) := by decide +kernel
theorem dX9_digest_67 : decode cX9_digest 67 = .ok (.iload_n 1, 1) := by decide +kernel
theorem dX9_digest_68 : decode cX9_digest 68 = .ok (.bipush 35, 2) := by decide +kernel
theorem dX9_digest_70 : decode cX9_digest 70 = .ok (.invokevirtual 118, 3) := by decide +kernel
theorem dX9_digest_73 : decode cX9_digest 73 = .ok (.i2l, 1) := by decide +kernel
theorem dX9_digest_74 : decode cX9_digest 74 = .ok (.invokevirtual 213, 3) := by decide +kernel
theorem dX9_digest_77 : decode cX9_digest 77 = .ok (.iinc 1 1, 3) := by decide +kernel
theorem dX9_digest_80 : decode cX9_digest 80 = .ok (.goto (-71), 3) := by decide +kernel
theorem dX9_digest_83 : decode cX9_digest 83 = .ok (.aload_n 0, 1) := by decide +kernel
theorem dX9_digest_84 : decode cX9_digest 84 = .ok (.invokevirtual 93, 3) := by decide +kernel
theorem dX9_digest_87 : decode cX9_digest 87 = .ok (.ifCond .ne 47, 3) := by decide +kernel
theorem dX9_digest_90 : decode cX9_digest 90 = .ok (.aload_n 0, 1) := by decide +kernel
theorem dX9_digest_91 : decode cX9_digest 91 = .ok (.aload_n 0, 1) := by decide +kernel
theorem dX9_digest_92 : decode cX9_digest 92 = .ok (.iconst 0, 1) := by decide +kernel
theorem dX9_digest_93 : decode cX9_digest 93 = .ok (.invokevirtual 137, 3) := by decide +kernel
theorem dX9_digest_96 : decode cX9_digest 96 = .ok (.i2l, 1) := by decide +kernel
theorem dX9_digest_97 : decode cX9_digest 97 = .ok (.invokevirtual 213, 3) := by decide +kernel
theorem dX9_digest_100 : decode cX9_digest 100 = .ok (.iconst 0, 1) := by decide +kernel
theorem dX9_digest_101 : decode cX9_digest 101 = .ok (.istore_n 1, 1) := by decide +kernel
theorem dX9_digest_102 : decode cX9_digest 102 = .ok (.iload_n 1, 1) := by decide +kernel
theorem dX9_digest_103 : decode cX9_digest 103 = .ok (.bipush 36, 2) := by decide +kernel
theorem dX9_digest_105 : decode cX9_digest 105 = .ok (.if_icmp .ge 20, 3) := by decide +kernel
theorem dX9_digest_108 : decode cX9_digest 108 = .ok (.aload_n 0, 1) := by decide +kernel
theorem dX9_digest_109 : decode cX9_digest 109 = .ok (.aload_n 0, 1) := by decide +kernel
theorem dX9_digest_110 : decode cX9_digest 110 = .ok (.getfield 16, 3) := by decide +kernel
theorem dX9_digest_113 : decode cX9_digest 113 = .ok (.iload_n 1, 1) := by decide +kernel
theorem dX9_digest_114 : decode cX9_digest 114 = .ok (.iaload, 1) := by decide +kernel
theorem dX9_digest_115 : decode cX9_digest 115 = .ok (.i2l, 1) := by decide +kernel
theorem dX9_digest_116 : decode cX9_digest 116 = .ok (.invokevirtual 213, 3) := by decide +kernel
theorem dX9_digest_119 : decode cX9_digest 119 = .ok (.iinc 1 1, 3) := by decide +kernel
theorem dX9_digest_122 : decode cX9_digest 122 = .ok (.goto (-20), 3) := by decide +kernel
theorem dX9_digest_125 : decode cX9_digest 125 = .ok (.aload_n 0, 1) := by decide +kernel
theorem dX9_digest_126 : decode cX9_digest 126 = .ok (.aload_n 0, 1) := by decide +kernel
theorem dX9_digest_127 : decode cX9_digest 127 = .ok (.invokevirtual 156, 3) := by decide +kernel
theorem dX9_digest_130 : decode cX9_digest 130 = .ok (.i2l, 1) := by decide +kernel
theorem dX9_digest_131 : decode cX9_digest 131 = .ok (.invokevirtual 213, 3) := by decide +kernel
theorem dX9_digest_134 : decode cX9_digest 134 = .ok (.iconst 0, 1) := by decide +kernel
theorem dX9_digest_135 : decode cX9_digest 135 = .ok (.istore_n 1, 1) := by decide +kernel
theorem dX9_digest_136 : decode cX9_digest 136 = .ok (.iload_n 1, 1) := by decide +kernel
theorem dX9_digest_137 : decode cX9_digest 137 = .ok (.aload_n 0, 1) := by decide +kernel
theorem dX9_digest_138 : decode cX9_digest 138 = .ok (.getfield 47, 3) := by decide +kernel
theorem dX9_digest_141 : decode cX9_digest 141 = .ok (.if_icmp .ge 20, 3) := by decide +kernel
theorem dX9_digest_144 : decode cX9_digest 144 = .ok (.aload_n 0, 1) := by decide +kernel
theorem dX9_digest_145 : decode cX9_digest 145 = .ok (.aload_n 0, 1) := by decide +kernel
theorem dX9_digest_146 : decode cX9_digest 146 = .ok (.getfield 7, 3) := by decide +kernel
theorem dX9_digest_149 : decode cX9_digest 149 = .ok (.iload_n 1, 1) := by decide +kernel
theorem dX9_digest_150 : decode cX9_digest 150 = .ok (.iaload, 1) := by decide +kernel
theorem dX9_digest_151 : decode cX9_digest 151 = .ok (.i2l, 1) := by decide +kernel
theorem dX9_digest_152 : decode cX9_digest 152 = .ok (.invokevirtual 213, 3) := by decide +kernel
theorem dX9_digest_155 : decode cX9_digest 155 = .ok (.iinc 1 1, 3) := by decide +kernel
theorem dX9_digest_158 : decode cX9_digest 158 = .ok (.goto (-22), 3) := by decide +kernel
theorem dX9_digest_161 : decode cX9_digest 161 = .ok (.iconst 0, 1) := by decide +kernel
theorem dX9_digest_162 : decode cX9_digest 162 = .ok (.istore_n 1, 1) := by decide +kernel
theorem dX9_digest_163 : decode cX9_digest 163 = .ok (.iload_n 1, 1) := by decide +kernel
theorem dX9_digest_164 : decode cX9_digest 164 = .ok (.bipush 9, 2) := by decide +kernel
theorem dX9_digest_166 : decode cX9_digest 166 = .ok (.if_icmp .ge 19, 3) := by decide +kernel
theorem dX9_digest_169 : decode cX9_digest 169 = .ok (.aload_n 0, 1) := by decide +kernel
theorem dX9_digest_170 : decode cX9_digest 170 = .ok (.aload_n 0, 1) := by decide +kernel
theorem dX9_digest_171 : decode cX9_digest 171 = .ok (.iload_n 1, 1) := by decide +kernel
theorem dX9_digest_172 : decode cX9_digest 172 = .ok (.invokevirtual 202, 3) := by decide +kernel
theorem dX9_digest_175 : decode cX9_digest 175 = .ok (.i2l, 1) := by decide +kernel
theorem dX9_digest_176 : decode cX9_digest 176 = .ok (.invokevirtual 213, 3) := by decide +kernel
theorem dX9_digest_179 : decode cX9_digest 179 = .ok (.iinc 1 1, 3) := by decide +kernel
theorem dX9_digest_182 : decode cX9_digest 182 = .ok (.goto (-19), 3) := by decide +kernel
theorem dX9_digest_185 : decode cX9_digest 185 = .ok (.aload_n 0, 1) := by decide +kernel
theorem dX9_digest_186 : decode cX9_digest 186 = .ok (.getfield 207, 3) := by decide +kernel
theorem dX9_digest_189 : decode cX9_digest 189 = .ok (.lreturn, 1) := by decide +kernel
theorem dJ11_isValidCodePoint_9a6ad_0 : decode cJ11_isValidCodePoint_9a6ad 0 = .ok (.iload_n 0, 1) := by decide +kernel
theorem dJ11_isValidCodePoint_9a6ad_1 : decode cJ11_isValidCodePoint_9a6ad 1 = .ok (.bipush 16, 2) := by decide +kernel
theorem dJ11_isValidCodePoint_9a6ad_3 : decode cJ11_isValidCodePoint_9a6ad 3 = .ok (.iushr, 1) := by decide +kernel
theorem dJ11_isValidCodePoint_9a6ad_4 : decode cJ11_isValidCodePoint_9a6ad 4 = .ok (.istore_n 1, 1) := by decide +kernel
theorem dJ11_isValidCodePoint_9a6ad_5 : decode cJ11_isValidCodePoint_9a6ad 5 = .ok (.iload_n 1, 1) := by decide +kernel
theorem dJ11_isValidCodePoint_9a6ad_6 : decode cJ11_isValidCodePoint_9a6ad 6 = .ok (.bipush 17, 2) := by decide +kernel
theorem dJ11_isValidCodePoint_9a6ad_8 : decode cJ11_isValidCodePoint_9a6ad 8 = .ok (.if_icmp .ge 7, 3) := by decide +kernel
theorem dJ11_isValidCodePoint_9a6ad_11 : decode cJ11_isValidCodePoint_9a6ad 11 = .ok (.iconst 1, 1) := by decide +kernel
theorem dJ11_isValidCodePoint_9a6ad_12 : decode cJ11_isValidCodePoint_9a6ad 12 = .ok (.goto 4, 3) := by decide +kernel
theorem dJ11_isValidCodePoint_9a6ad_15 : decode cJ11_isValidCodePoint_9a6ad 15 = .ok (.iconst 0, 1) := by decide +kernel
theorem dJ11_isValidCodePoint_9a6ad_16 : decode cJ11_isValidCodePoint_9a6ad 16 = .ok (.ireturn, 1) := by decide +kernel
theorem dJ11_highSurrogate_5068e_0 : decode cJ11_highSurrogate_5068e 0 = .ok (.iload_n 0, 1) := by decide +kernel
theorem dJ11_highSurrogate_5068e_1 : decode cJ11_highSurrogate_5068e 1 = .ok (.bipush 10, 2) := by decide +kernel
theorem dJ11_highSurrogate_5068e_3 : decode cJ11_highSurrogate_5068e 3 = .ok (.iushr, 1) := by decide +kernel
theorem dJ11_highSurrogate_5068e_4 : decode cJ11_highSurrogate_5068e 4 = .ok (.ldc 110, 2) := by decide +kernel
theorem dJ11_highSurrogate_5068e_6 : decode cJ11_highSurrogate_5068e 6 = .ok (.iadd, 1) := by decide +kernel
theorem dJ11_highSurrogate_5068e_7 : decode cJ11_highSurrogate_5068e 7 = .ok (.i2c, 1) := by decide +kernel
theorem dJ11_highSurrogate_5068e_8 : decode cJ11_highSurrogate_5068e 8 = .ok (.ireturn, 1) := by decide +kernel
theorem dJ11_lowSurrogate_5068e_0 : decode cJ11_lowSurrogate_5068e 0 = .ok (.iload_n 0, 1) := by decide +kernel
theorem dJ11_lowSurrogate_5068e_1 : decode cJ11_lowSurrogate_5068e 1 = .ok (.sipush 1023, 3) := by decide +kernel
theorem dJ11_lowSurrogate_5068e_4 : decode cJ11_lowSurrogate_5068e 4 = .ok (.iand, 1) := by decide +kernel
theorem dJ11_lowSurrogate_5068e_5 : decode cJ11_lowSurrogate_5068e 5 = .ok (.ldc 76, 2) := by decide +kernel
theorem dJ11_lowSurrogate_5068e_7 : decode cJ11_lowSurrogate_5068e 7 = .ok (.iadd, 1) := by decide +kernel
theorem dJ11_lowSurrogate_5068e_8 : decode cJ11_lowSurrogate_5068e 8 = .ok (.i2c, 1) := by decide +kernel
theorem dJ11_lowSurrogate_5068e_9 : decode cJ11_lowSurrogate_5068e 9 = .ok (.ireturn, 1) := by decide +kernel
theorem dJ13_bitCount_95d88_0 : decode cJ13_bitCount_95d88 0 = .ok (.lload_n 0, 1) := by decide +kernel
theorem dJ13_bitCount_95d88_1 : decode cJ13_bitCount_95d88 1 = .ok (.lload_n 0, 1) := by decide +kernel
theorem dJ13_bitCount_95d88_2 : decode cJ13_bitCount_95d88 2 = .ok (.iconst 1, 1) := by decide +kernel
theorem dJ13_bitCount_95d88_3 : decode cJ13_bitCount_95d88 3 = .ok (.lushr, 1) := by decide +kernel
theorem dJ13_bitCount_95d88_4 : decode cJ13_bitCount_95d88 4 = .ok (.ldc2_w 314, 3) := by decide +kernel
theorem dJ13_bitCount_95d88_7 : decode cJ13_bitCount_95d88 7 = .ok (.land, 1) := by decide +kernel
theorem dJ13_bitCount_95d88_8 : decode cJ13_bitCount_95d88 8 = .ok (.lsub, 1) := by decide +kernel
theorem dJ13_bitCount_95d88_9 : decode cJ13_bitCount_95d88 9 = .ok (.lstore_n 0, 1) := by decide +kernel
theorem dJ13_bitCount_95d88_10 : decode cJ13_bitCount_95d88 10 = .ok (.lload_n 0, 1) := by decide +kernel
theorem dJ13_bitCount_95d88_11 : decode cJ13_bitCount_95d88 11 = .ok (.ldc2_w 316, 3) := by decide +kernel
theorem dJ13_bitCount_95d88_14 : decode cJ13_bitCount_95d88 14 = .ok (.land, 1) := by decide +kernel
theorem dJ13_bitCount_95d88_15 : decode cJ13_bitCount_95d88 15 = .ok (.lload_n 0, 1) := by decide +kernel
theorem dJ13_bitCount_95d88_16 : decode cJ13_bitCount_95d88 16 = .ok (.iconst 2, 1) := by decide +kernel
theorem dJ13_bitCount_95d88_17 : decode cJ13_bitCount_95d88 17 = .ok (.lushr, 1) := by decide +kernel
theorem dJ13_bitCount_95d88_18 : decode cJ13_bitCount_95d88 18 = .ok (.ldc2_w 316, 3) := by decide +kernel
theorem dJ13_bitCount_95d88_21 : decode cJ13_bitCount_95d88 21 = .ok (.land, 1) := by decide +kernel
theorem dJ13_bitCount_95d88_22 : decode cJ13_bitCount_95d88 22 = .ok (.ladd, 1) := by decide +kernel
theorem dJ13_bitCount_95d88_23 : decode cJ13_bitCount_95d88 23 = .ok (.lstore_n 0, 1) := by decide +kernel
theorem dJ13_bitCount_95d88_24 : decode cJ13_bitCount_95d88 24 = .ok (.lload_n 0, 1) := by decide +kernel
theorem dJ13_bitCount_95d88_25 : decode cJ13_bitCount_95d88 25 = .ok (.lload_n 0, 1) := by decide +kernel
theorem dJ13_bitCount_95d88_26 : decode cJ13_bitCount_95d88 26 = .ok (.iconst 4, 1) := by decide +kernel
theorem dJ13_bitCount_95d88_27 : decode cJ13_bitCount_95d88 27 = .ok (.lushr, 1) := by decide +kernel
theorem dJ13_bitCount_95d88_28 : decode cJ13_bitCount_95d88 28 = .ok (.ladd, 1) := by decide +kernel
theorem dJ13_bitCount_95d88_29 : decode cJ13_bitCount_95d88 29 = .ok (.ldc2_w 318, 3) := by decide +kernel
theorem dJ13_bitCount_95d88_32 : decode cJ13_bitCount_95d88 32 = .ok (.land, 1) := by decide +kernel
theorem dJ13_bitCount_95d88_33 : decode cJ13_bitCount_95d88 33 = .ok (.lstore_n 0, 1) := by decide +kernel
theorem dJ13_bitCount_95d88_34 : decode cJ13_bitCount_95d88 34 = .ok (.lload_n 0, 1) := by decide +kernel
theorem dJ13_bitCount_95d88_35 : decode cJ13_bitCount_95d88 35 = .ok (.lload_n 0, 1) := by decide +kernel
theorem dJ13_bitCount_95d88_36 : decode cJ13_bitCount_95d88 36 = .ok (.bipush 8, 2) := by decide +kernel
theorem dJ13_bitCount_95d88_38 : decode cJ13_bitCount_95d88 38 = .ok (.lushr, 1) := by decide +kernel
theorem dJ13_bitCount_95d88_39 : decode cJ13_bitCount_95d88 39 = .ok (.ladd, 1) := by decide +kernel
theorem dJ13_bitCount_95d88_40 : decode cJ13_bitCount_95d88 40 = .ok (.lstore_n 0, 1) := by decide +kernel
theorem dJ13_bitCount_95d88_41 : decode cJ13_bitCount_95d88 41 = .ok (.lload_n 0, 1) := by decide +kernel
theorem dJ13_bitCount_95d88_42 : decode cJ13_bitCount_95d88 42 = .ok (.lload_n 0, 1) := by decide +kernel
theorem dJ13_bitCount_95d88_43 : decode cJ13_bitCount_95d88 43 = .ok (.bipush 16, 2) := by decide +kernel
theorem dJ13_bitCount_95d88_45 : decode cJ13_bitCount_95d88 45 = .ok (.lushr, 1) := by decide +kernel
theorem dJ13_bitCount_95d88_46 : decode cJ13_bitCount_95d88 46 = .ok (.ladd, 1) := by decide +kernel
theorem dJ13_bitCount_95d88_47 : decode cJ13_bitCount_95d88 47 = .ok (.lstore_n 0, 1) := by decide +kernel
theorem dJ13_bitCount_95d88_48 : decode cJ13_bitCount_95d88 48 = .ok (.lload_n 0, 1) := by decide +kernel
theorem dJ13_bitCount_95d88_49 : decode cJ13_bitCount_95d88 49 = .ok (.lload_n 0, 1) := by decide +kernel
theorem dJ13_bitCount_95d88_50 : decode cJ13_bitCount_95d88 50 = .ok (.bipush 32, 2) := by decide +kernel
theorem dJ13_bitCount_95d88_52 : decode cJ13_bitCount_95d88 52 = .ok (.lushr, 1) := by decide +kernel
theorem dJ13_bitCount_95d88_53 : decode cJ13_bitCount_95d88 53 = .ok (.ladd, 1) := by decide +kernel
theorem dJ13_bitCount_95d88_54 : decode cJ13_bitCount_95d88 54 = .ok (.lstore_n 0, 1) := by decide +kernel
theorem dJ13_bitCount_95d88_55 : decode cJ13_bitCount_95d88 55 = .ok (.lload_n 0, 1) := by decide +kernel
theorem dJ13_bitCount_95d88_56 : decode cJ13_bitCount_95d88 56 = .ok (.l2i, 1) := by decide +kernel
theorem dJ13_bitCount_95d88_57 : decode cJ13_bitCount_95d88 57 = .ok (.bipush 127, 2) := by decide +kernel
theorem dJ13_bitCount_95d88_59 : decode cJ13_bitCount_95d88 59 = .ok (.iand, 1) := by decide +kernel
theorem dJ13_bitCount_95d88_60 : decode cJ13_bitCount_95d88 60 = .ok (.ireturn, 1) := by decide +kernel
theorem dJ9_max_7cf53_0 : decode cJ9_max_7cf53 0 = .ok (.iload_n 0, 1) := by decide +kernel
theorem dJ9_max_7cf53_1 : decode cJ9_max_7cf53 1 = .ok (.iload_n 1, 1) := by decide +kernel
theorem dJ9_max_7cf53_2 : decode cJ9_max_7cf53 2 = .ok (.if_icmp .lt 7, 3) := by decide +kernel
theorem dJ9_max_7cf53_5 : decode cJ9_max_7cf53 5 = .ok (.iload_n 0, 1) := by decide +kernel
theorem dJ9_max_7cf53_6 : decode cJ9_max_7cf53 6 = .ok (.goto 4, 3) := by decide +kernel
theorem dJ9_max_7cf53_9 : decode cJ9_max_7cf53 9 = .ok (.iload_n 1, 1) := by decide +kernel
theorem dJ9_max_7cf53_10 : decode cJ9_max_7cf53 10 = .ok (.ireturn, 1) := by decide +kernel
theorem dJ9_min_7cf53_0 : decode cJ9_min_7cf53 0 = .ok (.iload_n 0, 1) := by decide +kernel
theorem dJ9_min_7cf53_1 : decode cJ9_min_7cf53 1 = .ok (.iload_n 1, 1) := by decide +kernel
theorem dJ9_min_7cf53_2 : decode cJ9_min_7cf53 2 = .ok (.if_icmp .gt 7, 3) := by decide +kernel
theorem dJ9_min_7cf53_5 : decode cJ9_min_7cf53 5 = .ok (.iload_n 0, 1) := by decide +kernel
theorem dJ9_min_7cf53_6 : decode cJ9_min_7cf53 6 = .ok (.goto 4, 3) := by decide +kernel
theorem dJ9_min_7cf53_9 : decode cJ9_min_7cf53 9 = .ok (.iload_n 1, 1) := by decide +kernel
theorem dJ9_min_7cf53_10 : decode cJ9_min_7cf53 10 = .ok (.ireturn, 1) := by decide +kernel
theorem dJ0_length_8abf5_0 : decode cJ0_length_8abf5 0 = .ok (.aload_n 0, 1) := by decide +kernel
theorem dJ0_length_8abf5_1 : decode cJ0_length_8abf5 1 = .ok (.getfield 9, 3) := by decide +kernel
theorem dJ0_length_8abf5_4 : decode cJ0_length_8abf5 4 = .ok (.arraylength, 1) := by decide +kernel
theorem dJ0_length_8abf5_5 : decode cJ0_length_8abf5 5 = .ok (.aload_n 0, 1) := by decide +kernel
theorem dJ0_length_8abf5_6 : decode cJ0_length_8abf5 6 = .ok (.invokevirtual 335, 3) := by decide +kernel
theorem dJ0_length_8abf5_9 : decode cJ0_length_8abf5 9 = .ok (.ishr, 1) := by decide +kernel
theorem dJ0_length_8abf5_10 : decode cJ0_length_8abf5 10 = .ok (.ireturn, 1) := by decide +kernel
theorem dJ0_indexOf_0f7a4_0 : decode cJ0_indexOf_0f7a4 0 = .ok (.aload_n 0, 1) := by decide +kernel
theorem dJ0_indexOf_0f7a4_1 : decode cJ0_indexOf_0f7a4 1 = .ok (.iload_n 1, 1) := by decide +kernel
theorem dJ0_indexOf_0f7a4_2 : decode cJ0_indexOf_0f7a4 2 = .ok (.iconst 0, 1) := by decide +kernel
theorem dJ0_indexOf_0f7a4_3 : decode cJ0_indexOf_0f7a4 3 = .ok (.invokevirtual 633, 3) := by decide +kernel
theorem dJ0_indexOf_0f7a4_6 : decode cJ0_indexOf_0f7a4 6 = .ok (.ireturn, 1) := by decide +kernel
theorem dJ0_indexOf_7cf53_0 : decode cJ0_indexOf_7cf53 0 = .ok (.aload_n 0, 1) := by decide +kernel
theorem dJ0_indexOf_7cf53_1 : decode cJ0_indexOf_7cf53 1 = .ok (.invokevirtual 492, 3) := by decide +kernel
theorem dJ0_indexOf_7cf53_4 : decode cJ0_indexOf_7cf53 4 = .ok (.ifCond .eq 19, 3) := by decide +kernel
theorem dJ0_indexOf_7cf53_7 : decode cJ0_indexOf_7cf53 7 = .ok (.aload_n 0, 1) := by decide +kernel
theorem dJ0_indexOf_7cf53_8 : decode cJ0_indexOf_7cf53 8 = .ok (.getfield 9, 3) := by decide +kernel
theorem dJ0_indexOf_7cf53_11 : decode cJ0_indexOf_7cf53 11 = .ok (.iload_n 1, 1) := by decide +kernel
theorem dJ0_indexOf_7cf53_12 : decode cJ0_indexOf_7cf53 12 = .ok (.iload_n 2, 1) := by decide +kernel
theorem dJ0_indexOf_7cf53_13 : decode cJ0_indexOf_7cf53 13 = .ok (.aload_n 0, 1) := by decide +kernel
theorem dJ0_indexOf_7cf53_14 : decode cJ0_indexOf_7cf53 14 = .ok (.invokevirtual 505, 3) := by decide +kernel
theorem dJ0_indexOf_7cf53_17 : decode cJ0_indexOf_7cf53 17 = .ok (.invokestatic 637, 3) := by decide +kernel
theorem dJ0_indexOf_7cf53_20 : decode cJ0_indexOf_7cf53 20 = .ok (.goto 16, 3) := by decide +kernel
theorem dJ0_indexOf_7cf53_23 : decode cJ0_indexOf_7cf53 23 = .ok (.aload_n 0, 1) := by decide +kernel
theorem dJ0_indexOf_7cf53_24 : decode cJ0_indexOf_7cf53 24 = .ok (.getfield 9, 3) := by decide +kernel
theorem dJ0_indexOf_7cf53_27 : decode cJ0_indexOf_7cf53 27 = .ok (.iload_n 1, 1) := by decide +kernel
theorem dJ0_indexOf_7cf53_28 : decode cJ0_indexOf_7cf53 28 = .ok (.iload_n 2, 1) := by decide +kernel
theorem dJ0_indexOf_7cf53_29 : decode cJ0_indexOf_7cf53 29 = .ok (.aload_n 0, 1) := by decide +kernel
theorem dJ0_indexOf_7cf53_30 : decode cJ0_indexOf_7cf53 30 = .ok (.invokevirtual 505, 3) := by decide +kernel
theorem dJ0_indexOf_7cf53_33 : decode cJ0_indexOf_7cf53 33 = .ok (.invokestatic 640, 3) := by decide +kernel
theorem dJ0_indexOf_7cf53_36 : decode cJ0_indexOf_7cf53 36 = .ok (.ireturn, 1) := by decide +kernel
theorem dJ0_coder_7d493_0 : decode cJ0_coder_7d493 0 = .ok (.getstatic 38, 3) := by decide +kernel
theorem dJ0_coder_7d493_3 : decode cJ0_coder_7d493 3 = .ok (.ifCond .eq 10, 3) := by decide +kernel
theorem dJ0_coder_7d493_6 : decode cJ0_coder_7d493 6 = .ok (.aload_n 0, 1) := by decide +kernel
theorem dJ0_coder_7d493_7 : decode cJ0_coder_7d493 7 = .ok (.getfield 15, 3) := by decide +kernel
theorem dJ0_coder_7d493_10 : decode cJ0_coder_7d493 10 = .ok (.goto 4, 3) := by decide +kernel
theorem dJ0_coder_7d493_13 : decode cJ0_coder_7d493 13 = .ok (.iconst 1, 1) := by decide +kernel
theorem dJ0_coder_7d493_14 : decode cJ0_coder_7d493 14 = .ok (.ireturn, 1) := by decide +kernel
theorem dJ0_isLatin1_aae02_0 : decode cJ0_isLatin1_aae02 0 = .ok (.getstatic 38, 3) := by decide +kernel
theorem dJ0_isLatin1_aae02_3 : decode cJ0_isLatin1_aae02 3 = .ok (.ifCond .eq 14, 3) := by decide +kernel
theorem dJ0_isLatin1_aae02_6 : decode cJ0_isLatin1_aae02 6 = .ok (.aload_n 0, 1) := by decide +kernel
theorem dJ0_isLatin1_aae02_7 : decode cJ0_isLatin1_aae02 7 = .ok (.getfield 15, 3) := by decide +kernel
theorem dJ0_isLatin1_aae02_10 : decode cJ0_isLatin1_aae02 10 = .ok (.ifCond .ne 7, 3) := by decide +kernel
theorem dJ0_isLatin1_aae02_13 : decode cJ0_isLatin1_aae02 13 = .ok (.iconst 1, 1) := by decide +kernel
theorem dJ0_isLatin1_aae02_14 : decode cJ0_isLatin1_aae02 14 = .ok (.goto 4, 3) := by decide +kernel
theorem dJ0_isLatin1_aae02_17 : decode cJ0_isLatin1_aae02 17 = .ok (.iconst 0, 1) := by decide +kernel
theorem dJ0_isLatin1_aae02_18 : decode cJ0_isLatin1_aae02 18 = .ok (.ireturn, 1) := by decide +kernel
theorem dJ0_checkBoundsBeginEnd_23922_0 : decode cJ0_checkBoundsBeginEnd_23922 0 = .ok (.iload_n 0, 1) := by decide +kernel
theorem dJ0_checkBoundsBeginEnd_23922_1 : decode cJ0_checkBoundsBeginEnd_23922 1 = .ok (.iload_n 1, 1) := by decide +kernel
theorem dJ0_checkBoundsBeginEnd_23922_2 : decode cJ0_checkBoundsBeginEnd_23922 2 = .ok (.iload_n 2, 1) := by decide +kernel
theorem dJ0_checkBoundsBeginEnd_23922_3 : decode cJ0_checkBoundsBeginEnd_23922 3 = .ok (.getstatic 1053, 3) := by decide +kernel
theorem dJ0_checkBoundsBeginEnd_23922_6 : decode cJ0_checkBoundsBeginEnd_23922 6 = .ok (.invokestatic 1062, 3) := by decide +kernel
theorem dJ0_checkBoundsBeginEnd_23922_9 : decode cJ0_checkBoundsBeginEnd_23922 9 = .ok (.pop, 1) := by decide +kernel
theorem dJ0_checkBoundsBeginEnd_23922_10 : decode cJ0_checkBoundsBeginEnd_23922 10 = .ok (.return_, 1) := by decide +kernel
theorem dJ1_canEncode_9a6ad_0 : decode cJ1_canEncode_9a6ad 0 = .ok (.iload_n 0, 1) := by decide +kernel
theorem dJ1_canEncode_9a6ad_1 : decode cJ1_canEncode_9a6ad 1 = .ok (.ifCond .lt 14, 3) := by decide +kernel
theorem dJ1_canEncode_9a6ad_4 : decode cJ1_canEncode_9a6ad 4 = .ok (.iload_n 0, 1) := by decide +kernel
theorem dJ1_canEncode_9a6ad_5 : decode cJ1_canEncode_9a6ad 5 = .ok (.sipush 255, 3) := by decide +kernel
theorem dJ1_canEncode_9a6ad_8 : decode cJ1_canEncode_9a6ad 8 = .ok (.if_icmp .gt 7, 3) := by decide +kernel
theorem dJ1_canEncode_9a6ad_11 : decode cJ1_canEncode_9a6ad 11 = .ok (.iconst 1, 1) := by decide +kernel
theorem dJ1_canEncode_9a6ad_12 : decode cJ1_canEncode_9a6ad 12 = .ok (.goto 4, 3) := by decide +kernel
theorem dJ1_canEncode_9a6ad_15 : decode cJ1_canEncode_9a6ad 15 = .ok (.iconst 0, 1) := by decide +kernel
theorem dJ1_canEncode_9a6ad_16 : decode cJ1_canEncode_9a6ad 16 = .ok (.ireturn, 1) := by decide +kernel
theorem dJ1_indexOf_4cfef_0 : decode cJ1_indexOf_4cfef 0 = .ok (.iload_n 1, 1) := by decide +kernel
theorem dJ1_indexOf_4cfef_1 : decode cJ1_indexOf_4cfef 1 = .ok (.invokestatic 88, 3) := by decide +kernel
theorem dJ1_indexOf_4cfef_4 : decode cJ1_indexOf_4cfef 4 = .ok (.ifCond .ne 5, 3) := by decide +kernel
theorem dJ1_indexOf_4cfef_7 : decode cJ1_indexOf_4cfef 7 = .ok (.iconst (-1), 1) := by decide +kernel
theorem dJ1_indexOf_4cfef_8 : decode cJ1_indexOf_4cfef 8 = .ok (.ireturn, 1) := by decide +kernel
theorem dJ1_indexOf_4cfef_9 : decode cJ1_indexOf_4cfef 9 = .ok (.iload_n 2, 1) := by decide +kernel
theorem dJ1_indexOf_4cfef_10 : decode cJ1_indexOf_4cfef 10 = .ok (.iconst 0, 1) := by decide +kernel
theorem dJ1_indexOf_4cfef_11 : decode cJ1_indexOf_4cfef 11 = .ok (.invokestatic 92, 3) := by decide +kernel
theorem dJ1_indexOf_4cfef_14 : decode cJ1_indexOf_4cfef 14 = .ok (.istore_n 2, 1) := by decide +kernel
theorem dJ1_indexOf_4cfef_15 : decode cJ1_indexOf_4cfef 15 = .ok (.iload_n 3, 1) := by decide +kernel
theorem dJ1_indexOf_4cfef_16 : decode cJ1_indexOf_4cfef 16 = .ok (.aload_n 0, 1) := by decide +kernel
theorem dJ1_indexOf_4cfef_17 : decode cJ1_indexOf_4cfef 17 = .ok (.arraylength, 1) := by decide +kernel
theorem dJ1_indexOf_4cfef_18 : decode cJ1_indexOf_4cfef 18 = .ok (.invokestatic 38, 3) := by decide +kernel
theorem dJ1_indexOf_4cfef_21 : decode cJ1_indexOf_4cfef 21 = .ok (.istore_n 3, 1) := by decide +kernel
theorem dJ1_indexOf_4cfef_22 : decode cJ1_indexOf_4cfef 22 = .ok (.iload_n 2, 1) := by decide +kernel
theorem dJ1_indexOf_4cfef_23 : decode cJ1_indexOf_4cfef 23 = .ok (.iload_n 3, 1) := by decide +kernel
theorem dJ1_indexOf_4cfef_24 : decode cJ1_indexOf_4cfef 24 = .ok (.if_icmp .lt 5, 3) := by decide +kernel
theorem dJ1_indexOf_4cfef_27 : decode cJ1_indexOf_4cfef 27 = .ok (.iconst (-1), 1) := by decide +kernel
theorem dJ1_indexOf_4cfef_28 : decode cJ1_indexOf_4cfef 28 = .ok (.ireturn, 1) := by decide +kernel
theorem dJ1_indexOf_4cfef_29 : decode cJ1_indexOf_4cfef 29 = .ok (.aload_n 0, 1) := by decide +kernel
theorem dJ1_indexOf_4cfef_30 : decode cJ1_indexOf_4cfef 30 = .ok (.iload_n 1, 1) := by decide +kernel
theorem dJ1_indexOf_4cfef_31 : decode cJ1_indexOf_4cfef 31 = .ok (.iload_n 2, 1) := by decide +kernel
theorem dJ1_indexOf_4cfef_32 : decode cJ1_indexOf_4cfef 32 = .ok (.iload_n 3, 1) := by decide +kernel
theorem dJ1_indexOf_4cfef_33 : decode cJ1_indexOf_4cfef 33 = .ok (.invokestatic 95, 3) := by decide +kernel
theorem dJ1_indexOf_4cfef_36 : decode cJ1_indexOf_4cfef 36 = .ok (.ireturn, 1) := by decide +kernel
theorem dJ1_indexOfChar_4cfef_0 : decode cJ1_indexOfChar_4cfef 0 = .ok (.iload_n 1, 1) := by decide +kernel
theorem dJ1_indexOfChar_4cfef_1 : decode cJ1_indexOfChar_4cfef 1 = .ok (.i2b, 1) := by decide +kernel
theorem dJ1_indexOfChar_4cfef_2 : decode cJ1_indexOfChar_4cfef 2 = .ok (.istore 4, 2) := by decide +kernel
theorem dJ1_indexOfChar_4cfef_4 : decode cJ1_indexOfChar_4cfef 4 = .ok (.iload_n 2, 1) := by decide +kernel
theorem dJ1_indexOfChar_4cfef_5 : decode cJ1_indexOfChar_4cfef 5 = .ok (.istore 5, 2) := by decide +kernel
theorem dJ1_indexOfChar_4cfef_7 : decode cJ1_indexOfChar_4cfef 7 = .ok (.iload 5, 2) := by decide +kernel
theorem dJ1_indexOfChar_4cfef_9 : decode cJ1_indexOfChar_4cfef 9 = .ok (.iload_n 3, 1) := by decide +kernel
theorem dJ1_indexOfChar_4cfef_10 : decode cJ1_indexOfChar_4cfef 10 = .ok (.if_icmp .ge 21, 3) := by decide +kernel
theorem dJ1_indexOfChar_4cfef_13 : decode cJ1_indexOfChar_4cfef 13 = .ok (.aload_n 0, 1) := by decide +kernel
theorem dJ1_indexOfChar_4cfef_14 : decode cJ1_indexOfChar_4cfef 14 = .ok (.iload 5, 2) := by decide +kernel
theorem dJ1_indexOfChar_4cfef_16 : decode cJ1_indexOfChar_4cfef 16 = .ok (.baload, 1) := by decide +kernel
theorem dJ1_indexOfChar_4cfef_17 : decode cJ1_indexOfChar_4cfef 17 = .ok (.iload 4, 2) := by decide +kernel
theorem dJ1_indexOfChar_4cfef_19 : decode cJ1_indexOfChar_4cfef 19 = .ok (.if_icmp .ne 6, 3) := by decide +kernel
theorem dJ1_indexOfChar_4cfef_22 : decode cJ1_indexOfChar_4cfef 22 = .ok (.iload 5, 2) := by decide +kernel
theorem dJ1_indexOfChar_4cfef_24 : decode cJ1_indexOfChar_4cfef 24 = .ok (.ireturn, 1) := by decide +kernel
theorem dJ1_indexOfChar_4cfef_25 : decode cJ1_indexOfChar_4cfef 25 = .ok (.iinc 5 1, 3) := by decide +kernel
theorem dJ1_indexOfChar_4cfef_28 : decode cJ1_indexOfChar_4cfef 28 = .ok (.goto (-21), 3) := by decide +kernel
theorem dJ1_indexOfChar_4cfef_31 : decode cJ1_indexOfChar_4cfef 31 = .ok (.iconst (-1), 1) := by decide +kernel
theorem dJ1_indexOfChar_4cfef_32 : decode cJ1_indexOfChar_4cfef 32 = .ok (.ireturn, 1) := by decide +kernel
theorem dJ2_getChar_3b067_0 : decode cJ2_getChar_3b067 0 = .ok (.getstatic 44, 3) := by decide +kernel
theorem dJ2_getChar_3b067_3 : decode cJ2_getChar_3b067 3 = .ok (.ifCond .ne 25, 3) := by decide +kernel
theorem dJ2_getChar_3b067_6 : decode cJ2_getChar_3b067 6 = .ok (.iload_n 1, 1) := by decide +kernel
theorem dJ2_getChar_3b067_7 : decode cJ2_getChar_3b067 7 = .ok (.ifCond .lt 11, 3) := by decide +kernel
theorem dJ2_getChar_3b067_10 : decode cJ2_getChar_3b067 10 = .ok (.iload_n 1, 1) := by decide +kernel
theorem dJ2_getChar_3b067_11 : decode cJ2_getChar_3b067 11 = .ok (.aload_n 0, 1) := by decide +kernel
theorem dJ2_getChar_3b067_12 : decode cJ2_getChar_3b067 12 = .ok (.invokestatic 48, 3) := by decide +kernel
theorem dJ2_getChar_3b067_15 : decode cJ2_getChar_3b067 15 = .ok (.if_icmp .lt 13, 3) := by decide +kernel
theorem dJ2_getChar_3b067_18 : decode cJ2_getChar_3b067 18 = .ok (.new 52, 3) := by decide +kernel
theorem dJ2_getChar_3b067_21 : decode cJ2_getChar_3b067 21 = .ok (.dup, 1) := by decide +kernel
theorem dJ2_getChar_3b067_22 : decode cJ2_getChar_3b067 22 = .ok (.ldc 54, 2) := by decide +kernel
theorem dJ2_getChar_3b067_24 : decode cJ2_getChar_3b067 24 = .ok (.invokespecial 56, 3) := by decide +kernel
theorem dJ2_getChar_3b067_27 : decode cJ2_getChar_3b067 27 = .ok (.athrow, 1) := by decide +kernel
theorem dJ2_getChar_3b067_28 : decode cJ2_getChar_3b067 28 = .ok (.iload_n 1, 1) := by decide +kernel
theorem dJ2_getChar_3b067_29 : decode cJ2_getChar_3b067 29 = .ok (.iconst 1, 1) := by decide +kernel
theorem dJ2_getChar_3b067_30 : decode cJ2_getChar_3b067 30 = .ok (.ishl, 1) := by decide +kernel
theorem dJ2_getChar_3b067_31 : decode cJ2_getChar_3b067 31 = .ok (.istore_n 1, 1) := by decide +kernel
theorem dJ2_getChar_3b067_32 : decode cJ2_getChar_3b067 32 = .ok (.aload_n 0, 1) := by decide +kernel
theorem dJ2_getChar_3b067_33 : decode cJ2_getChar_3b067 33 = .ok (.iload_n 1, 1) := by decide +kernel
theorem dJ2_getChar_3b067_34 : decode cJ2_getChar_3b067 34 = .ok (.iinc 1 1, 3) := by decide +kernel
theorem dJ2_getChar_3b067_37 : decode cJ2_getChar_3b067 37 = .ok (.baload, 1) := by decide +kernel
theorem dJ2_getChar_3b067_38 : decode cJ2_getChar_3b067 38 = .ok (.sipush 255, 3) := by decide +kernel
theorem dJ2_getChar_3b067_41 : decode cJ2_getChar_3b067 41 = .ok (.iand, 1) := by decide +kernel
theorem dJ2_getChar_3b067_42 : decode cJ2_getChar_3b067 42 = .ok (.getstatic 59, 3) := by decide +kernel
theorem dJ2_getChar_3b067_45 : decode cJ2_getChar_3b067 45 = .ok (.ishl, 1) := by decide +kernel
theorem dJ2_getChar_3b067_46 : decode cJ2_getChar_3b067 46 = .ok (.aload_n 0, 1) := by decide +kernel
theorem dJ2_getChar_3b067_47 : decode cJ2_getChar_3b067 47 = .ok (.iload_n 1, 1) := by decide +kernel
theorem dJ2_getChar_3b067_48 : decode cJ2_getChar_3b067 48 = .ok (.baload, 1) := by decide +kernel
theorem dJ2_getChar_3b067_49 : decode cJ2_getChar_3b067 49 = .ok (.sipush 255, 3) := by decide +kernel
theorem dJ2_getChar_3b067_52 : decode cJ2_getChar_3b067 52 = .ok (.iand, 1) := by decide +kernel
theorem dJ2_getChar_3b067_53 : decode cJ2_getChar_3b067 53 = .ok (.getstatic 63, 3) := by decide +kernel
theorem dJ2_getChar_3b067_56 : decode cJ2_getChar_3b067 56 = .ok (.ishl, 1) := by decide +kernel
theorem dJ2_getChar_3b067_57 : decode cJ2_getChar_3b067 57 = .ok (.ior, 1) := by decide +kernel
theorem dJ2_getChar_3b067_58 : decode cJ2_getChar_3b067 58 = .ok (.i2c, 1) := by decide +kernel
theorem dJ2_getChar_3b067_59 : decode cJ2_getChar_3b067 59 = .ok (.ireturn, 1) := by decide +kernel
theorem dJ2_length_9d52b_0 : decode cJ2_length_9d52b 0 = .ok (.aload_n 0, 1) := by decide +kernel
theorem dJ2_length_9d52b_1 : decode cJ2_length_9d52b 1 = .ok (.arraylength, 1) := by decide +kernel
theorem dJ2_length_9d52b_2 : decode cJ2_length_9d52b 2 = .ok (.iconst 1, 1) := by decide +kernel
theorem dJ2_length_9d52b_3 : decode cJ2_length_9d52b 3 = .ok (.ishr, 1) := by decide +kernel
theorem dJ2_length_9d52b_4 : decode cJ2_length_9d52b 4 = .ok (.ireturn, 1) := by decide +kernel
theorem dJ2_indexOf_4cfef_0 : decode cJ2_indexOf_4cfef 0 = .ok (.iload_n 2, 1) := by decide +kernel
theorem dJ2_indexOf_4cfef_1 : decode cJ2_indexOf_4cfef 1 = .ok (.iconst 0, 1) := by decide +kernel
theorem dJ2_indexOf_4cfef_2 : decode cJ2_indexOf_4cfef 2 = .ok (.invokestatic 224, 3) := by decide +kernel
theorem dJ2_indexOf_4cfef_5 : decode cJ2_indexOf_4cfef 5 = .ok (.istore_n 2, 1) := by decide +kernel
theorem dJ2_indexOf_4cfef_6 : decode cJ2_indexOf_4cfef 6 = .ok (.iload_n 3, 1) := by decide +kernel
theorem dJ2_indexOf_4cfef_7 : decode cJ2_indexOf_4cfef 7 = .ok (.aload_n 0, 1) := by decide +kernel
theorem dJ2_indexOf_4cfef_8 : decode cJ2_indexOf_4cfef 8 = .ok (.arraylength, 1) := by decide +kernel
theorem dJ2_indexOf_4cfef_9 : decode cJ2_indexOf_4cfef 9 = .ok (.iconst 1, 1) := by decide +kernel
theorem dJ2_indexOf_4cfef_10 : decode cJ2_indexOf_4cfef 10 = .ok (.ishr, 1) := by decide +kernel
theorem dJ2_indexOf_4cfef_11 : decode cJ2_indexOf_4cfef 11 = .ok (.invokestatic 183, 3) := by decide +kernel
theorem dJ2_indexOf_4cfef_14 : decode cJ2_indexOf_4cfef 14 = .ok (.istore_n 3, 1) := by decide +kernel
theorem dJ2_indexOf_4cfef_15 : decode cJ2_indexOf_4cfef 15 = .ok (.iload_n 2, 1) := by decide +kernel
theorem dJ2_indexOf_4cfef_16 : decode cJ2_indexOf_4cfef 16 = .ok (.iload_n 3, 1) := by decide +kernel
theorem dJ2_indexOf_4cfef_17 : decode cJ2_indexOf_4cfef 17 = .ok (.if_icmp .lt 5, 3) := by decide +kernel
theorem dJ2_indexOf_4cfef_20 : decode cJ2_indexOf_4cfef 20 = .ok (.iconst (-1), 1) := by decide +kernel
theorem dJ2_indexOf_4cfef_21 : decode cJ2_indexOf_4cfef 21 = .ok (.ireturn, 1) := by decide +kernel
theorem dJ2_indexOf_4cfef_22 : decode cJ2_indexOf_4cfef 22 = .ok (.iload_n 1, 1) := by decide +kernel
theorem dJ2_indexOf_4cfef_23 : decode cJ2_indexOf_4cfef 23 = .ok (.ldc 227, 2) := by decide +kernel
theorem dJ2_indexOf_4cfef_25 : decode cJ2_indexOf_4cfef 25 = .ok (.if_icmp .ge 11, 3) := by decide +kernel
theorem dJ2_indexOf_4cfef_28 : decode cJ2_indexOf_4cfef 28 = .ok (.aload_n 0, 1) := by decide +kernel
theorem dJ2_indexOf_4cfef_29 : decode cJ2_indexOf_4cfef 29 = .ok (.iload_n 1, 1) := by decide +kernel
theorem dJ2_indexOf_4cfef_30 : decode cJ2_indexOf_4cfef 30 = .ok (.iload_n 2, 1) := by decide +kernel
theorem dJ2_indexOf_4cfef_31 : decode cJ2_indexOf_4cfef 31 = .ok (.iload_n 3, 1) := by decide +kernel
theorem dJ2_indexOf_4cfef_32 : decode cJ2_indexOf_4cfef 32 = .ok (.invokestatic 228, 3) := by decide +kernel
theorem dJ2_indexOf_4cfef_35 : decode cJ2_indexOf_4cfef 35 = .ok (.ireturn, 1) := by decide +kernel
theorem dJ2_indexOf_4cfef_36 : decode cJ2_indexOf_4cfef 36 = .ok (.aload_n 0, 1) := by decide +kernel
theorem dJ2_indexOf_4cfef_37 : decode cJ2_indexOf_4cfef 37 = .ok (.iload_n 1, 1) := by decide +kernel
theorem dJ2_indexOf_4cfef_38 : decode cJ2_indexOf_4cfef 38 = .ok (.iload_n 2, 1) := by decide +kernel
theorem dJ2_indexOf_4cfef_39 : decode cJ2_indexOf_4cfef 39 = .ok (.iload_n 3, 1) := by decide +kernel
theorem dJ2_indexOf_4cfef_40 : decode cJ2_indexOf_4cfef 40 = .ok (.invokestatic 232, 3) := by decide +kernel
theorem dJ2_indexOf_4cfef_43 : decode cJ2_indexOf_4cfef 43 = .ok (.ireturn, 1) := by decide +kernel
theorem dJ2_indexOfChar_4cfef_0 : decode cJ2_indexOfChar_4cfef 0 = .ok (.iload_n 2, 1) := by decide +kernel
theorem dJ2_indexOfChar_4cfef_1 : decode cJ2_indexOfChar_4cfef 1 = .ok (.iload_n 3, 1) := by decide +kernel
theorem dJ2_indexOfChar_4cfef_2 : decode cJ2_indexOfChar_4cfef 2 = .ok (.aload_n 0, 1) := by decide +kernel
theorem dJ2_indexOfChar_4cfef_3 : decode cJ2_indexOfChar_4cfef 3 = .ok (.invokestatic 96, 3) := by decide +kernel
theorem dJ2_indexOfChar_4cfef_6 : decode cJ2_indexOfChar_4cfef 6 = .ok (.aload_n 0, 1) := by decide +kernel
theorem dJ2_indexOfChar_4cfef_7 : decode cJ2_indexOfChar_4cfef 7 = .ok (.iload_n 1, 1) := by decide +kernel
theorem dJ2_indexOfChar_4cfef_8 : decode cJ2_indexOfChar_4cfef 8 = .ok (.iload_n 2, 1) := by decide +kernel
theorem dJ2_indexOfChar_4cfef_9 : decode cJ2_indexOfChar_4cfef 9 = .ok (.iload_n 3, 1) := by decide +kernel
theorem dJ2_indexOfChar_4cfef_10 : decode cJ2_indexOfChar_4cfef 10 = .ok (.invokestatic 244, 3) := by decide +kernel
theorem dJ2_indexOfChar_4cfef_13 : decode cJ2_indexOfChar_4cfef 13 = .ok (.ireturn, 1) := by decide +kernel
theorem dJ2_indexOfCharUnsafe_4cfef_0 : decode cJ2_indexOfCharUnsafe_4cfef 0 = .ok (.iload_n 2, 1) := by decide +kernel
theorem dJ2_indexOfCharUnsafe_4cfef_1 : decode cJ2_indexOfCharUnsafe_4cfef 1 = .ok (.istore 4, 2) := by decide +kernel
theorem dJ2_indexOfCharUnsafe_4cfef_3 : decode cJ2_indexOfCharUnsafe_4cfef 3 = .ok (.iload 4, 2) := by decide +kernel
theorem dJ2_indexOfCharUnsafe_4cfef_5 : decode cJ2_indexOfCharUnsafe_4cfef 5 = .ok (.iload_n 3, 1) := by decide +kernel
theorem dJ2_indexOfCharUnsafe_4cfef_6 : decode cJ2_indexOfCharUnsafe_4cfef 6 = .ok (.if_icmp .ge 22, 3) := by decide +kernel
theorem dJ2_indexOfCharUnsafe_4cfef_9 : decode cJ2_indexOfCharUnsafe_4cfef 9 = .ok (.aload_n 0, 1) := by decide +kernel
theorem dJ2_indexOfCharUnsafe_4cfef_10 : decode cJ2_indexOfCharUnsafe_4cfef 10 = .ok (.iload 4, 2) := by decide +kernel
theorem dJ2_indexOfCharUnsafe_4cfef_12 : decode cJ2_indexOfCharUnsafe_4cfef 12 = .ok (.invokestatic 71, 3) := by decide +kernel
theorem dJ2_indexOfCharUnsafe_4cfef_15 : decode cJ2_indexOfCharUnsafe_4cfef 15 = .ok (.iload_n 1, 1) := by decide +kernel
theorem dJ2_indexOfCharUnsafe_4cfef_16 : decode cJ2_indexOfCharUnsafe_4cfef 16 = .ok (.if_icmp .ne 6, 3) := by decide +kernel
theorem dJ2_indexOfCharUnsafe_4cfef_19 : decode cJ2_indexOfCharUnsafe_4cfef 19 = .ok (.iload 4, 2) := by decide +kernel
theorem dJ2_indexOfCharUnsafe_4cfef_21 : decode cJ2_indexOfCharUnsafe_4cfef 21 = .ok (.ireturn, 1) := by decide +kernel
theorem dJ2_indexOfCharUnsafe_4cfef_22 : decode cJ2_indexOfCharUnsafe_4cfef 22 = .ok (.iinc 4 1, 3) := by decide +kernel
theorem dJ2_indexOfCharUnsafe_4cfef_25 : decode cJ2_indexOfCharUnsafe_4cfef 25 = .ok (.goto (-22), 3) := by decide +kernel
theorem dJ2_indexOfCharUnsafe_4cfef_28 : decode cJ2_indexOfCharUnsafe_4cfef 28 = .ok (.iconst (-1), 1) := by decide +kernel
theorem dJ2_indexOfCharUnsafe_4cfef_29 : decode cJ2_indexOfCharUnsafe_4cfef 29 = .ok (.ireturn, 1) := by decide +kernel
theorem dJ2_indexOfSupplementary_4cfef_0 : decode cJ2_indexOfSupplementary_4cfef 0 = .ok (.iload_n 1, 1) := by decide +kernel
theorem dJ2_indexOfSupplementary_4cfef_1 : decode cJ2_indexOfSupplementary_4cfef 1 = .ok (.invokestatic 164, 3) := by decide +kernel
theorem dJ2_indexOfSupplementary_4cfef_4 : decode cJ2_indexOfSupplementary_4cfef 4 = .ok (.ifCond .eq 65, 3) := by decide +kernel
theorem dJ2_indexOfSupplementary_4cfef_7 : decode cJ2_indexOfSupplementary_4cfef 7 = .ok (.iload_n 1, 1) := by decide +kernel
theorem dJ2_indexOfSupplementary_4cfef_8 : decode cJ2_indexOfSupplementary_4cfef 8 = .ok (.invokestatic 157, 3) := by decide +kernel
theorem dJ2_indexOfSupplementary_4cfef_11 : decode cJ2_indexOfSupplementary_4cfef 11 = .ok (.istore 4, 2) := by decide +kernel
theorem dJ2_indexOfSupplementary_4cfef_13 : decode cJ2_indexOfSupplementary_4cfef 13 = .ok (.iload_n 1, 1) := by decide +kernel
theorem dJ2_indexOfSupplementary_4cfef_14 : decode cJ2_indexOfSupplementary_4cfef 14 = .ok (.invokestatic 161, 3) := by decide +kernel
theorem dJ2_indexOfSupplementary_4cfef_17 : decode cJ2_indexOfSupplementary_4cfef 17 = .ok (.istore 5, 2) := by decide +kernel
theorem dJ2_indexOfSupplementary_4cfef_19 : decode cJ2_indexOfSupplementary_4cfef 19 = .ok (.iload_n 2, 1) := by decide +kernel
theorem dJ2_indexOfSupplementary_4cfef_20 : decode cJ2_indexOfSupplementary_4cfef 20 = .ok (.iload_n 3, 1) := by decide +kernel
theorem dJ2_indexOfSupplementary_4cfef_21 : decode cJ2_indexOfSupplementary_4cfef 21 = .ok (.aload_n 0, 1) := by decide +kernel
theorem dJ2_indexOfSupplementary_4cfef_22 : decode cJ2_indexOfSupplementary_4cfef 22 = .ok (.invokestatic 96, 3) := by decide +kernel
theorem dJ2_indexOfSupplementary_4cfef_25 : decode cJ2_indexOfSupplementary_4cfef 25 = .ok (.iload_n 2, 1) := by decide +kernel
theorem dJ2_indexOfSupplementary_4cfef_26 : decode cJ2_indexOfSupplementary_4cfef 26 = .ok (.istore 6, 2) := by decide +kernel
theorem dJ2_indexOfSupplementary_4cfef_28 : decode cJ2_indexOfSupplementary_4cfef 28 = .ok (.iload 6, 2) := by decide +kernel
theorem dJ2_indexOfSupplementary_4cfef_30 : decode cJ2_indexOfSupplementary_4cfef 30 = .ok (.iload_n 3, 1) := by decide +kernel
theorem dJ2_indexOfSupplementary_4cfef_31 : decode cJ2_indexOfSupplementary_4cfef 31 = .ok (.iconst 1, 1) := by decide +kernel
theorem dJ2_indexOfSupplementary_4cfef_32 : decode cJ2_indexOfSupplementary_4cfef 32 = .ok (.isub, 1) := by decide +kernel
theorem dJ2_indexOfSupplementary_4cfef_33 : decode cJ2_indexOfSupplementary_4cfef 33 = .ok (.if_icmp .ge 36, 3) := by decide +kernel
theorem dJ2_indexOfSupplementary_4cfef_36 : decode cJ2_indexOfSupplementary_4cfef 36 = .ok (.aload_n 0, 1) := by decide +kernel
theorem dJ2_indexOfSupplementary_4cfef_37 : decode cJ2_indexOfSupplementary_4cfef 37 = .ok (.iload 6, 2) := by decide +kernel
theorem dJ2_indexOfSupplementary_4cfef_39 : decode cJ2_indexOfSupplementary_4cfef 39 = .ok (.invokestatic 71, 3) := by decide +kernel
theorem dJ2_indexOfSupplementary_4cfef_42 : decode cJ2_indexOfSupplementary_4cfef 42 = .ok (.iload 4, 2) := by decide +kernel
theorem dJ2_indexOfSupplementary_4cfef_44 : decode cJ2_indexOfSupplementary_4cfef 44 = .ok (.if_icmp .ne 19, 3) := by decide +kernel
theorem dJ2_indexOfSupplementary_4cfef_47 : decode cJ2_indexOfSupplementary_4cfef 47 = .ok (.aload_n 0, 1) := by decide +kernel
theorem dJ2_indexOfSupplementary_4cfef_48 : decode cJ2_indexOfSupplementary_4cfef 48 = .ok (.iload 6, 2) := by decide +kernel
theorem dJ2_indexOfSupplementary_4cfef_50 : decode cJ2_indexOfSupplementary_4cfef 50 = .ok (.iconst 1, 1) := by decide +kernel
theorem dJ2_indexOfSupplementary_4cfef_51 : decode cJ2_indexOfSupplementary_4cfef 51 = .ok (.iadd, 1) := by decide +kernel
theorem dJ2_indexOfSupplementary_4cfef_52 : decode cJ2_indexOfSupplementary_4cfef 52 = .ok (.invokestatic 71, 3) := by decide +kernel
theorem dJ2_indexOfSupplementary_4cfef_55 : decode cJ2_indexOfSupplementary_4cfef 55 = .ok (.iload 5, 2) := by decide +kernel
theorem dJ2_indexOfSupplementary_4cfef_57 : decode cJ2_indexOfSupplementary_4cfef 57 = .ok (.if_icmp .ne 6, 3) := by decide +kernel
theorem dJ2_indexOfSupplementary_4cfef_60 : decode cJ2_indexOfSupplementary_4cfef 60 = .ok (.iload 6, 2) := by decide +kernel
theorem dJ2_indexOfSupplementary_4cfef_62 : decode cJ2_indexOfSupplementary_4cfef 62 = .ok (.ireturn, 1) := by decide +kernel
theorem dJ2_indexOfSupplementary_4cfef_63 : decode cJ2_indexOfSupplementary_4cfef 63 = .ok (.iinc 6 1, 3) := by decide +kernel
theorem dJ2_indexOfSupplementary_4cfef_66 : decode cJ2_indexOfSupplementary_4cfef 66 = .ok (.goto (-38), 3) := by decide +kernel
theorem dJ2_indexOfSupplementary_4cfef_69 : decode cJ2_indexOfSupplementary_4cfef 69 = .ok (.iconst (-1), 1) := by decide +kernel
theorem dJ2_indexOfSupplementary_4cfef_70 : decode cJ2_indexOfSupplementary_4cfef 70 = .ok (.ireturn, 1) := by decide +kernel
theorem dJ2_checkBoundsBeginEnd_d044e_0 : decode cJ2_checkBoundsBeginEnd_d044e 0 = .ok (.iload_n 0, 1) := by decide +kernel
theorem dJ2_checkBoundsBeginEnd_d044e_1 : decode cJ2_checkBoundsBeginEnd_d044e 1 = .ok (.iload_n 1, 1) := by decide +kernel
theorem dJ2_checkBoundsBeginEnd_d044e_2 : decode cJ2_checkBoundsBeginEnd_d044e 2 = .ok (.aload_n 2, 1) := by decide +kernel
theorem dJ2_checkBoundsBeginEnd_d044e_3 : decode cJ2_checkBoundsBeginEnd_d044e 3 = .ok (.invokestatic 48, 3) := by decide +kernel
theorem dJ2_checkBoundsBeginEnd_d044e_6 : decode cJ2_checkBoundsBeginEnd_d044e 6 = .ok (.invokestatic 241, 3) := by decide +kernel
theorem dJ2_checkBoundsBeginEnd_d044e_9 : decode cJ2_checkBoundsBeginEnd_d044e 9 = .ok (.return_, 1) := by decide +kernel
theorem dJ7_fill_53178_0 : decode cJ7_fill_53178 0 = .ok (.iconst 0, 1) := by decide +kernel
theorem dJ7_fill_53178_1 : decode cJ7_fill_53178 1 = .ok (.istore_n 2, 1) := by decide +kernel
theorem dJ7_fill_53178_2 : decode cJ7_fill_53178 2 = .ok (.aload_n 0, 1) := by decide +kernel
theorem dJ7_fill_53178_3 : decode cJ7_fill_53178 3 = .ok (.arraylength, 1) := by decide +kernel
theorem dJ7_fill_53178_4 : decode cJ7_fill_53178 4 = .ok (.istore_n 3, 1) := by decide +kernel
theorem dJ7_fill_53178_5 : decode cJ7_fill_53178 5 = .ok (.iload_n 2, 1) := by decide +kernel
theorem dJ7_fill_53178_6 : decode cJ7_fill_53178 6 = .ok (.iload_n 3, 1) := by decide +kernel
theorem dJ7_fill_53178_7 : decode cJ7_fill_53178 7 = .ok (.if_icmp .ge 13, 3) := by decide +kernel
theorem dJ7_fill_53178_10 : decode cJ7_fill_53178 10 = .ok (.aload_n 0, 1) := by decide +kernel
theorem dJ7_fill_53178_11 : decode cJ7_fill_53178 11 = .ok (.iload_n 2, 1) := by decide +kernel
theorem dJ7_fill_53178_12 : decode cJ7_fill_53178 12 = .ok (.iload_n 1, 1) := by decide +kernel
theorem dJ7_fill_53178_13 : decode cJ7_fill_53178 13 = .ok (.iastore, 1) := by decide +kernel
theorem dJ7_fill_53178_14 : decode cJ7_fill_53178 14 = .ok (.iinc 2 1, 3) := by decide +kernel
theorem dJ7_fill_53178_17 : decode cJ7_fill_53178 17 = .ok (.goto (-12), 3) := by decide +kernel
theorem dJ7_fill_53178_20 : decode cJ7_fill_53178 20 = .ok (.return_, 1) := by decide +kernel
theorem dJ3_checkFromToIndex_8c36e_0 : decode cJ3_checkFromToIndex_8c36e 0 = .ok (.iload_n 0, 1) := by decide +kernel
theorem dJ3_checkFromToIndex_8c36e_1 : decode cJ3_checkFromToIndex_8c36e 1 = .ok (.ifCond .lt 13, 3) := by decide +kernel
theorem dJ3_checkFromToIndex_8c36e_4 : decode cJ3_checkFromToIndex_8c36e 4 = .ok (.iload_n 0, 1) := by decide +kernel
theorem dJ3_checkFromToIndex_8c36e_5 : decode cJ3_checkFromToIndex_8c36e 5 = .ok (.iload_n 1, 1) := by decide +kernel
theorem dJ3_checkFromToIndex_8c36e_6 : decode cJ3_checkFromToIndex_8c36e 6 = .ok (.if_icmp .gt 8, 3) := by decide +kernel
theorem dJ3_checkFromToIndex_8c36e_9 : decode cJ3_checkFromToIndex_8c36e 9 = .ok (.iload_n 1, 1) := by decide +kernel
theorem dJ3_checkFromToIndex_8c36e_10 : decode cJ3_checkFromToIndex_8c36e 10 = .ok (.iload_n 2, 1) := by decide +kernel
theorem dJ3_checkFromToIndex_8c36e_11 : decode cJ3_checkFromToIndex_8c36e 11 = .ok (.if_icmp .le 11, 3) := by decide +kernel
theorem dJ3_checkFromToIndex_8c36e_14 : decode cJ3_checkFromToIndex_8c36e 14 = .ok (.aload_n 3, 1) := by decide +kernel
theorem dJ3_checkFromToIndex_8c36e_15 : decode cJ3_checkFromToIndex_8c36e 15 = .ok (.iload_n 0, 1) := by decide +kernel
theorem dJ3_checkFromToIndex_8c36e_16 : decode cJ3_checkFromToIndex_8c36e 16 = .ok (.iload_n 1, 1) := by decide +kernel
theorem dJ3_checkFromToIndex_8c36e_17 : decode cJ3_checkFromToIndex_8c36e 17 = .ok (.iload_n 2, 1) := by decide +kernel
theorem dJ3_checkFromToIndex_8c36e_18 : decode cJ3_checkFromToIndex_8c36e 18 = .ok (.invokestatic 99, 3) := by decide +kernel
theorem dJ3_checkFromToIndex_8c36e_21 : decode cJ3_checkFromToIndex_8c36e 21 = .ok (.athrow, 1) := by decide +kernel
theorem dJ3_checkFromToIndex_8c36e_22 : decode cJ3_checkFromToIndex_8c36e 22 = .ok (.iload_n 0, 1) := by decide +kernel
theorem dJ3_checkFromToIndex_8c36e_23 : decode cJ3_checkFromToIndex_8c36e 23 = .ok (.ireturn, 1) := by decide +kernel
end
section
def xL_ : Nat := 0
theorem dL_law_0 : decode cL_law 0 = .ok (.new 7, 3) := by decide +kernel
theorem dL_law_3 : decode cL_law 3 = .ok (.dup, 1) := by decide +kernel
theorem dL_law_4 : decode cL_law 4 = .ok (.invokespecial 9, 3) := by decide +kernel
theorem dL_law_7 : decode cL_law 7 = .ok (.astore_n 1, 1) := by decide +kernel
theorem dL_law_8 : decode cL_law 8 = .ok (.new 10, 3) := by decide +kernel
theorem dL_law_11 : decode cL_law 11 = .ok (.dup, 1) := by decide +kernel
theorem dL_law_12 : decode cL_law 12 = .ok (.invokespecial 12, 3) := by decide +kernel
theorem dL_law_15 : decode cL_law 15 = .ok (.astore_n 2, 1) := by decide +kernel
theorem dL_law_16 : decode cL_law 16 = .ok (.iconst 0, 1) := by decide +kernel
theorem dL_law_17 : decode cL_law 17 = .ok (.istore_n 3, 1) := by decide +kernel
theorem dL_law_18 : decode cL_law 18 = .ok (.iload_n 3, 1) := by decide +kernel
theorem dL_law_19 : decode cL_law 19 = .ok (.aload_n 0, 1) := by decide +kernel
theorem dL_law_20 : decode cL_law 20 = .ok (.arraylength, 1) := by decide +kernel
theorem dL_law_21 : decode cL_law 21 = .ok (.iconst 4, 1) := by decide +kernel
theorem dL_law_22 : decode cL_law 22 = .ok (.isub, 1) := by decide +kernel
theorem dL_law_23 : decode cL_law 23 = .ok (.if_icmp .gt 598, 3) := by decide +kernel
theorem dL_law_26 : decode cL_law 26 = .ok (.aload_n 0, 1) := by decide +kernel
theorem dL_law_27 : decode cL_law 27 = .ok (.iload_n 3, 1) := by decide +kernel
theorem dL_law_28 : decode cL_law 28 = .ok (.iaload, 1) := by decide +kernel
theorem dL_law_29 : decode cL_law 29 = .ok (.bipush 31, 2) := by decide +kernel
theorem dL_law_31 : decode cL_law 31 = .ok (.iand, 1) := by decide +kernel
theorem dL_law_32 : decode cL_law 32 = .ok (.tableswitch 583 0 19 #[96, 119, 132, 145, 158, 191, 224, 257, 290, 313, 362, 385, 408, 421, 464, 477, 520, 533, 546, 569], 96) := by decide +kernel
theorem dL_law_128 : decode cL_law 128 = .ok (.aload_n 1, 1) := by decide +kernel
theorem dL_law_129 : decode cL_law 129 = .ok (.aload_n 0, 1) := by decide +kernel
theorem dL_law_130 : decode cL_law 130 = .ok (.iload_n 3, 1) := by decide +kernel
theorem dL_law_131 : decode cL_law 131 = .ok (.iconst 1, 1) := by decide +kernel
theorem dL_law_132 : decode cL_law 132 = .ok (.iadd, 1) := by decide +kernel
theorem dL_law_133 : decode cL_law 133 = .ok (.iaload, 1) := by decide +kernel
theorem dL_law_134 : decode cL_law 134 = .ok (.invokevirtual 13, 3) := by decide +kernel
theorem dL_law_137 : decode cL_law 137 = .ok (.aload_n 2, 1) := by decide +kernel
theorem dL_law_138 : decode cL_law 138 = .ok (.aload_n 0, 1) := by decide +kernel
theorem dL_law_139 : decode cL_law 139 = .ok (.iload_n 3, 1) := by decide +kernel
theorem dL_law_140 : decode cL_law 140 = .ok (.iconst 1, 1) := by decide +kernel
theorem dL_law_141 : decode cL_law 141 = .ok (.iadd, 1) := by decide +kernel
theorem dL_law_142 : decode cL_law 142 = .ok (.iaload, 1) := by decide +kernel
theorem dL_law_143 : decode cL_law 143 = .ok (.invokevirtual 17, 3) := by decide +kernel
theorem dL_law_146 : decode cL_law 146 = .ok (.if_icmp .eq 469, 3) := by decide +kernel
theorem dL_law_149 : decode cL_law 149 = .ok (.iconst 0, 1) := by decide +kernel
theorem dL_law_150 : decode cL_law 150 = .ok (.ireturn, 1) := by decide +kernel
theorem dL_law_151 : decode cL_law 151 = .ok (.aload_n 1, 1) := by decide +kernel
theorem dL_law_152 : decode cL_law 152 = .ok (.invokevirtual 18, 3) := by decide +kernel
theorem dL_law_155 : decode cL_law 155 = .ok (.aload_n 2, 1) := by decide +kernel
theorem dL_law_156 : decode cL_law 156 = .ok (.invokevirtual 22, 3) := by decide +kernel
theorem dL_law_159 : decode cL_law 159 = .ok (.if_icmp .eq 456, 3) := by decide +kernel
theorem dL_law_162 : decode cL_law 162 = .ok (.iconst 0, 1) := by decide +kernel
theorem dL_law_163 : decode cL_law 163 = .ok (.ireturn, 1) := by decide +kernel
theorem dL_law_164 : decode cL_law 164 = .ok (.aload_n 1, 1) := by decide +kernel
theorem dL_law_165 : decode cL_law 165 = .ok (.invokevirtual 23, 3) := by decide +kernel
theorem dL_law_168 : decode cL_law 168 = .ok (.aload_n 2, 1) := by decide +kernel
theorem dL_law_169 : decode cL_law 169 = .ok (.invokevirtual 26, 3) := by decide +kernel
theorem dL_law_172 : decode cL_law 172 = .ok (.if_icmp .eq 443, 3) := by decide +kernel
theorem dL_law_175 : decode cL_law 175 = .ok (.iconst 0, 1) := by decide +kernel
theorem dL_law_176 : decode cL_law 176 = .ok (.ireturn, 1) := by decide +kernel
theorem dL_law_177 : decode cL_law 177 = .ok (.aload_n 1, 1) := by decide +kernel
theorem dL_law_178 : decode cL_law 178 = .ok (.invokevirtual 27, 3) := by decide +kernel
theorem dL_law_181 : decode cL_law 181 = .ok (.aload_n 2, 1) := by decide +kernel
theorem dL_law_182 : decode cL_law 182 = .ok (.invokevirtual 30, 3) := by decide +kernel
theorem dL_law_185 : decode cL_law 185 = .ok (.if_icmp .eq 430, 3) := by decide +kernel
theorem dL_law_188 : decode cL_law 188 = .ok (.iconst 0, 1) := by decide +kernel
theorem dL_law_189 : decode cL_law 189 = .ok (.ireturn, 1) := by decide +kernel
theorem dL_law_190 : decode cL_law 190 = .ok (.aload_n 1, 1) := by decide +kernel
theorem dL_law_191 : decode cL_law 191 = .ok (.aload_n 0, 1) := by decide +kernel
theorem dL_law_192 : decode cL_law 192 = .ok (.iload_n 3, 1) := by decide +kernel
theorem dL_law_193 : decode cL_law 193 = .ok (.iconst 1, 1) := by decide +kernel
theorem dL_law_194 : decode cL_law 194 = .ok (.iadd, 1) := by decide +kernel
theorem dL_law_195 : decode cL_law 195 = .ok (.iaload, 1) := by decide +kernel
theorem dL_law_196 : decode cL_law 196 = .ok (.aload_n 0, 1) := by decide +kernel
theorem dL_law_197 : decode cL_law 197 = .ok (.iload_n 3, 1) := by decide +kernel
theorem dL_law_198 : decode cL_law 198 = .ok (.iconst 2, 1) := by decide +kernel
theorem dL_law_199 : decode cL_law 199 = .ok (.iadd, 1) := by decide +kernel
theorem dL_law_200 : decode cL_law 200 = .ok (.iaload, 1) := by decide +kernel
theorem dL_law_201 : decode cL_law 201 = .ok (.invokevirtual 31, 3) := by decide +kernel
theorem dL_law_204 : decode cL_law 204 = .ok (.aload_n 2, 1) := by decide +kernel
theorem dL_law_205 : decode cL_law 205 = .ok (.aload_n 0, 1) := by decide +kernel
theorem dL_law_206 : decode cL_law 206 = .ok (.iload_n 3, 1) := by decide +kernel
theorem dL_law_207 : decode cL_law 207 = .ok (.iconst 1, 1) := by decide +kernel
theorem dL_law_208 : decode cL_law 208 = .ok (.iadd, 1) := by decide +kernel
theorem dL_law_209 : decode cL_law 209 = .ok (.iaload, 1) := by decide +kernel
theorem dL_law_210 : decode cL_law 210 = .ok (.aload_n 0, 1) := by decide +kernel
theorem dL_law_211 : decode cL_law 211 = .ok (.iload_n 3, 1) := by decide +kernel
theorem dL_law_212 : decode cL_law 212 = .ok (.iconst 2, 1) := by decide +kernel
theorem dL_law_213 : decode cL_law 213 = .ok (.iadd, 1) := by decide +kernel
theorem dL_law_214 : decode cL_law 214 = .ok (.iaload, 1) := by decide +kernel
theorem dL_law_215 : decode cL_law 215 = .ok (.invokevirtual 35, 3) := by decide +kernel
theorem dL_law_218 : decode cL_law 218 = .ok (.if_icmp .eq 397, 3) := by decide +kernel
theorem dL_law_221 : decode cL_law 221 = .ok (.iconst 0, 1) := by decide +kernel
theorem dL_law_222 : decode cL_law 222 = .ok (.ireturn, 1) := by decide +kernel
theorem dL_law_223 : decode cL_law 223 = .ok (.aload_n 1, 1) := by decide +kernel
theorem dL_law_224 : decode cL_law 224 = .ok (.aload_n 0, 1) := by decide +kernel
theorem dL_law_225 : decode cL_law 225 = .ok (.iload_n 3, 1) := by decide +kernel
theorem dL_law_226 : decode cL_law 226 = .ok (.iconst 1, 1) := by decide +kernel
theorem dL_law_227 : decode cL_law 227 = .ok (.iadd, 1) := by decide +kernel
theorem dL_law_228 : decode cL_law 228 = .ok (.iaload, 1) := by decide +kernel
theorem dL_law_229 : decode cL_law 229 = .ok (.aload_n 0, 1) := by decide +kernel
theorem dL_law_230 : decode cL_law 230 = .ok (.iload_n 3, 1) := by decide +kernel
theorem dL_law_231 : decode cL_law 231 = .ok (.iconst 2, 1) := by decide +kernel
theorem dL_law_232 : decode cL_law 232 = .ok (.iadd, 1) := by decide +kernel
theorem dL_law_233 : decode cL_law 233 = .ok (.iaload, 1) := by decide +kernel
theorem dL_law_234 : decode cL_law 234 = .ok (.invokevirtual 36, 3) := by decide +kernel
theorem dL_law_237 : decode cL_law 237 = .ok (.aload_n 2, 1) := by decide +kernel
theorem dL_law_238 : decode cL_law 238 = .ok (.aload_n 0, 1) := by decide +kernel
theorem dL_law_239 : decode cL_law 239 = .ok (.iload_n 3, 1) := by decide +kernel
theorem dL_law_240 : decode cL_law 240 = .ok (.iconst 1, 1) := by decide +kernel
theorem dL_law_241 : decode cL_law 241 = .ok (.iadd, 1) := by decide +kernel
theorem dL_law_242 : decode cL_law 242 = .ok (.iaload, 1) := by decide +kernel
theorem dL_law_243 : decode cL_law 243 = .ok (.aload_n 0, 1) := by decide +kernel
theorem dL_law_244 : decode cL_law 244 = .ok (.iload_n 3, 1) := by decide +kernel
theorem dL_law_245 : decode cL_law 245 = .ok (.iconst 2, 1) := by decide +kernel
theorem dL_law_246 : decode cL_law 246 = .ok (.iadd, 1) := by decide +kernel
theorem dL_law_247 : decode cL_law 247 = .ok (.iaload, 1) := by decide +kernel
theorem dL_law_248 : decode cL_law 248 = .ok (.invokevirtual 39, 3) := by decide +kernel
theorem dL_law_251 : decode cL_law 251 = .ok (.if_icmp .eq 364, 3) := by decide +kernel
theorem dL_law_254 : decode cL_law 254 = .ok (.iconst 0, 1) := by decide +kernel
theorem dL_law_255 : decode cL_law 255 = .ok (.ireturn, 1) := by decide +kernel
theorem dL_law_256 : decode cL_law 256 = .ok (.aload_n 1, 1) := by decide +kernel
theorem dL_law_257 : decode cL_law 257 = .ok (.aload_n 0, 1) := by decide +kernel
theorem dL_law_258 : decode cL_law 258 = .ok (.iload_n 3, 1) := by decide +kernel
theorem dL_law_259 : decode cL_law 259 = .ok (.iconst 1, 1) := by decide +kernel
theorem dL_law_260 : decode cL_law 260 = .ok (.iadd, 1) := by decide +kernel
theorem dL_law_261 : decode cL_law 261 = .ok (.iaload, 1) := by decide +kernel
theorem dL_law_262 : decode cL_law 262 = .ok (.aload_n 0, 1) := by decide +kernel
theorem dL_law_263 : decode cL_law 263 = .ok (.iload_n 3, 1) := by decide +kernel
theorem dL_law_264 : decode cL_law 264 = .ok (.iconst 2, 1) := by decide +kernel
theorem dL_law_265 : decode cL_law 265 = .ok (.iadd, 1) := by decide +kernel
theorem dL_law_266 : decode cL_law 266 = .ok (.iaload, 1) := by decide +kernel
theorem dL_law_267 : decode cL_law 267 = .ok (.invokevirtual 40, 3) := by decide +kernel
theorem dL_law_270 : decode cL_law 270 = .ok (.aload_n 2, 1) := by decide +kernel
theorem dL_law_271 : decode cL_law 271 = .ok (.aload_n 0, 1) := by decide +kernel
theorem dL_law_272 : decode cL_law 272 = .ok (.iload_n 3, 1) := by decide +kernel
theorem dL_law_273 : decode cL_law 273 = .ok (.iconst 1, 1) := by decide +kernel
theorem dL_law_274 : decode cL_law 274 = .ok (.iadd, 1) := by decide +kernel
theorem dL_law_275 : decode cL_law 275 = .ok (.iaload, 1) := by decide +kernel
theorem dL_law_276 : decode cL_law 276 = .ok (.aload_n 0, 1) := by decide +kernel
theorem dL_law_277 : decode cL_law 277 = .ok (.iload_n 3, 1) := by decide +kernel
theorem dL_law_278 : decode cL_law 278 = .ok (.iconst 2, 1) := by decide +kernel
theorem dL_law_279 : decode cL_law 279 = .ok (.iadd, 1) := by decide +kernel
theorem dL_law_280 : decode cL_law 280 = .ok (.iaload, 1) := by decide +kernel
theorem dL_law_281 : decode cL_law 281 = .ok (.invokevirtual 43, 3) := by decide +kernel
theorem dL_law_284 : decode cL_law 284 = .ok (.if_icmp .eq 331, 3) := by decide +kernel
theorem dL_law_287 : decode cL_law 287 = .ok (.iconst 0, 1) := by decide +kernel
theorem dL_law_288 : decode cL_law 288 = .ok (.ireturn, 1) := by decide +kernel
theorem dL_law_289 : decode cL_law 289 = .ok (.aload_n 1, 1) := by decide +kernel
theorem dL_law_290 : decode cL_law 290 = .ok (.aload_n 0, 1) := by decide +kernel
theorem dL_law_291 : decode cL_law 291 = .ok (.iload_n 3, 1) := by decide +kernel
theorem dL_law_292 : decode cL_law 292 = .ok (.iconst 1, 1) := by decide +kernel
theorem dL_law_293 : decode cL_law 293 = .ok (.iadd, 1) := by decide +kernel
theorem dL_law_294 : decode cL_law 294 = .ok (.iaload, 1) := by decide +kernel
theorem dL_law_295 : decode cL_law 295 = .ok (.aload_n 0, 1) := by decide +kernel
theorem dL_law_296 : decode cL_law 296 = .ok (.iload_n 3, 1) := by decide +kernel
theorem dL_law_297 : decode cL_law 297 = .ok (.iconst 2, 1) := by decide +kernel
theorem dL_law_298 : decode cL_law 298 = .ok (.iadd, 1) := by decide +kernel
theorem dL_law_299 : decode cL_law 299 = .ok (.iaload, 1) := by decide +kernel
theorem dL_law_300 : decode cL_law 300 = .ok (.invokevirtual 44, 3) := by decide +kernel
theorem dL_law_303 : decode cL_law 303 = .ok (.aload_n 2, 1) := by decide +kernel
theorem dL_law_304 : decode cL_law 304 = .ok (.aload_n 0, 1) := by decide +kernel
theorem dL_law_305 : decode cL_law 305 = .ok (.iload_n 3, 1) := by decide +kernel
theorem dL_law_306 : decode cL_law 306 = .ok (.iconst 1, 1) := by decide +kernel
theorem dL_law_307 : decode cL_law 307 = .ok (.iadd, 1) := by decide +kernel
theorem dL_law_308 : decode cL_law 308 = .ok (.iaload, 1) := by decide +kernel
theorem dL_law_309 : decode cL_law 309 = .ok (.aload_n 0, 1) := by decide +kernel
theorem dL_law_310 : decode cL_law 310 = .ok (.iload_n 3, 1) := by decide +kernel
theorem dL_law_311 : decode cL_law 311 = .ok (.iconst 2, 1) := by decide +kernel
theorem dL_law_312 : decode cL_law 312 = .ok (.iadd, 1) := by decide +kernel
theorem dL_law_313 : decode cL_law 313 = .ok (.iaload, 1) := by decide +kernel
theorem dL_law_314 : decode cL_law 314 = .ok (.invokevirtual 47, 3) := by decide +kernel
theorem dL_law_317 : decode cL_law 317 = .ok (.if_icmp .eq 298, 3) := by decide +kernel
theorem dL_law_320 : decode cL_law 320 = .ok (.iconst 0, 1) := by decide +kernel
theorem dL_law_321 : decode cL_law 321 = .ok (.ireturn, 1) := by decide +kernel
theorem dL_law_322 : decode cL_law 322 = .ok (.aload_n 1, 1) := by decide +kernel
theorem dL_law_323 : decode cL_law 323 = .ok (.aload_n 0, 1) := by decide +kernel
theorem dL_law_324 : decode cL_law 324 = .ok (.iload_n 3, 1) := by decide +kernel
theorem dL_law_325 : decode cL_law 325 = .ok (.iconst 1, 1) := by decide +kernel
theorem dL_law_326 : decode cL_law 326 = .ok (.iadd, 1) := by decide +kernel
theorem dL_law_327 : decode cL_law 327 = .ok (.iaload, 1) := by decide +kernel
theorem dL_law_328 : decode cL_law 328 = .ok (.invokevirtual 48, 3) := by decide +kernel
theorem dL_law_331 : decode cL_law 331 = .ok (.aload_n 2, 1) := by decide +kernel
theorem dL_law_332 : decode cL_law 332 = .ok (.aload_n 0, 1) := by decide +kernel
theorem dL_law_333 : decode cL_law 333 = .ok (.iload_n 3, 1) := by decide +kernel
theorem dL_law_334 : decode cL_law 334 = .ok (.iconst 1, 1) := by decide +kernel
theorem dL_law_335 : decode cL_law 335 = .ok (.iadd, 1) := by decide +kernel
theorem dL_law_336 : decode cL_law 336 = .ok (.iaload, 1) := by decide +kernel
theorem dL_law_337 : decode cL_law 337 = .ok (.invokevirtual 51, 3) := by decide +kernel
theorem dL_law_340 : decode cL_law 340 = .ok (.if_icmp .eq 275, 3) := by decide +kernel
theorem dL_law_343 : decode cL_law 343 = .ok (.iconst 0, 1) := by decide +kernel
theorem dL_law_344 : decode cL_law 344 = .ok (.ireturn, 1) := by decide +kernel
theorem dL_law_345 : decode cL_law 345 = .ok (.aload_n 1, 1) := by decide +kernel
theorem dL_law_346 : decode cL_law 346 = .ok (.aload_n 0, 1) := by decide +kernel
theorem dL_law_347 : decode cL_law 347 = .ok (.iload_n 3, 1) := by decide +kernel
theorem dL_law_348 : decode cL_law 348 = .ok (.iconst 1, 1) := by decide +kernel
theorem dL_law_349 : decode cL_law 349 = .ok (.iadd, 1) := by decide +kernel
theorem dL_law_350 : decode cL_law 350 = .ok (.iaload, 1) := by decide +kernel
theorem dL_law_351 : decode cL_law 351 = .ok (.aload_n 0, 1) := by decide +kernel
theorem dL_law_352 : decode cL_law 352 = .ok (.iload_n 3, 1) := by decide +kernel
theorem dL_law_353 : decode cL_law 353 = .ok (.iconst 2, 1) := by decide +kernel
theorem dL_law_354 : decode cL_law 354 = .ok (.iadd, 1) := by decide +kernel
theorem dL_law_355 : decode cL_law 355 = .ok (.iaload, 1) := by decide +kernel
theorem dL_law_356 : decode cL_law 356 = .ok (.ifCond .eq 7, 3) := by decide +kernel
theorem dL_law_359 : decode cL_law 359 = .ok (.iconst 1, 1) := by decide +kernel
theorem dL_law_360 : decode cL_law 360 = .ok (.goto 4, 3) := by decide +kernel
theorem dL_law_363 : decode cL_law 363 = .ok (.iconst 0, 1) := by decide +kernel
theorem dL_law_364 : decode cL_law 364 = .ok (.invokevirtual 52, 3) := by decide +kernel
theorem dL_law_367 : decode cL_law 367 = .ok (.aload_n 2, 1) := by decide +kernel
theorem dL_law_368 : decode cL_law 368 = .ok (.aload_n 0, 1) := by decide +kernel
theorem dL_law_369 : decode cL_law 369 = .ok (.iload_n 3, 1) := by decide +kernel
theorem dL_law_370 : decode cL_law 370 = .ok (.iconst 1, 1) := by decide +kernel
theorem dL_law_371 : decode cL_law 371 = .ok (.iadd, 1) := by decide +kernel
theorem dL_law_372 : decode cL_law 372 = .ok (.iaload, 1) := by decide +kernel
theorem dL_law_373 : decode cL_law 373 = .ok (.aload_n 0, 1) := by decide +kernel
theorem dL_law_374 : decode cL_law 374 = .ok (.iload_n 3, 1) := by decide +kernel
theorem dL_law_375 : decode cL_law 375 = .ok (.iconst 2, 1) := by decide +kernel
theorem dL_law_376 : decode cL_law 376 = .ok (.iadd, 1) := by decide +kernel
theorem dL_law_377 : decode cL_law 377 = .ok (.iaload, 1) := by decide +kernel
theorem dL_law_378 : decode cL_law 378 = .ok (.ifCond .eq 7, 3) := by decide +kernel
theorem dL_law_381 : decode cL_law 381 = .ok (.iconst 1, 1) := by decide +kernel
theorem dL_law_382 : decode cL_law 382 = .ok (.goto 4, 3) := by decide +kernel
theorem dL_law_385 : decode cL_law 385 = .ok (.iconst 0, 1) := by decide +kernel
theorem dL_law_386 : decode cL_law 386 = .ok (.invokevirtual 56, 3) := by decide +kernel
theorem dL_law_389 : decode cL_law 389 = .ok (.if_icmp .eq 226, 3) := by decide +kernel
theorem dL_law_392 : decode cL_law 392 = .ok (.iconst 0, 1) := by decide +kernel
theorem dL_law_393 : decode cL_law 393 = .ok (.ireturn, 1) := by decide +kernel
theorem dL_law_394 : decode cL_law 394 = .ok (.aload_n 1, 1) := by decide +kernel
theorem dL_law_395 : decode cL_law 395 = .ok (.aload_n 0, 1) := by decide +kernel
theorem dL_law_396 : decode cL_law 396 = .ok (.iload_n 3, 1) := by decide +kernel
theorem dL_law_397 : decode cL_law 397 = .ok (.iconst 1, 1) := by decide +kernel
theorem dL_law_398 : decode cL_law 398 = .ok (.iadd, 1) := by decide +kernel
theorem dL_law_399 : decode cL_law 399 = .ok (.iaload, 1) := by decide +kernel
theorem dL_law_400 : decode cL_law 400 = .ok (.invokevirtual 57, 3) := by decide +kernel
theorem dL_law_403 : decode cL_law 403 = .ok (.aload_n 2, 1) := by decide +kernel
theorem dL_law_404 : decode cL_law 404 = .ok (.aload_n 0, 1) := by decide +kernel
theorem dL_law_405 : decode cL_law 405 = .ok (.iload_n 3, 1) := by decide +kernel
theorem dL_law_406 : decode cL_law 406 = .ok (.iconst 1, 1) := by decide +kernel
theorem dL_law_407 : decode cL_law 407 = .ok (.iadd, 1) := by decide +kernel
theorem dL_law_408 : decode cL_law 408 = .ok (.iaload, 1) := by decide +kernel
theorem dL_law_409 : decode cL_law 409 = .ok (.invokevirtual 60, 3) := by decide +kernel
theorem dL_law_412 : decode cL_law 412 = .ok (.if_icmp .eq 203, 3) := by decide +kernel
theorem dL_law_415 : decode cL_law 415 = .ok (.iconst 0, 1) := by decide +kernel
theorem dL_law_416 : decode cL_law 416 = .ok (.ireturn, 1) := by decide +kernel
theorem dL_law_417 : decode cL_law 417 = .ok (.aload_n 1, 1) := by decide +kernel
theorem dL_law_418 : decode cL_law 418 = .ok (.aload_n 0, 1) := by decide +kernel
theorem dL_law_419 : decode cL_law 419 = .ok (.iload_n 3, 1) := by decide +kernel
theorem dL_law_420 : decode cL_law 420 = .ok (.iconst 1, 1) := by decide +kernel
theorem dL_law_421 : decode cL_law 421 = .ok (.iadd, 1) := by decide +kernel
theorem dL_law_422 : decode cL_law 422 = .ok (.iaload, 1) := by decide +kernel
theorem dL_law_423 : decode cL_law 423 = .ok (.invokevirtual 61, 3) := by decide +kernel
theorem dL_law_426 : decode cL_law 426 = .ok (.aload_n 2, 1) := by decide +kernel
theorem dL_law_427 : decode cL_law 427 = .ok (.aload_n 0, 1) := by decide +kernel
theorem dL_law_428 : decode cL_law 428 = .ok (.iload_n 3, 1) := by decide +kernel
theorem dL_law_429 : decode cL_law 429 = .ok (.iconst 1, 1) := by decide +kernel
theorem dL_law_430 : decode cL_law 430 = .ok (.iadd, 1) := by decide +kernel
theorem dL_law_431 : decode cL_law 431 = .ok (.iaload, 1) := by decide +kernel
theorem dL_law_432 : decode cL_law 432 = .ok (.invokevirtual 64, 3) := by decide +kernel
theorem dL_law_435 : decode cL_law 435 = .ok (.if_icmp .eq 180, 3) := by decide +kernel
theorem dL_law_438 : decode cL_law 438 = .ok (.iconst 0, 1) := by decide +kernel
theorem dL_law_439 : decode cL_law 439 = .ok (.ireturn, 1) := by decide +kernel
theorem dL_law_440 : decode cL_law 440 = .ok (.aload_n 1, 1) := by decide +kernel
theorem dL_law_441 : decode cL_law 441 = .ok (.invokevirtual 65, 3) := by decide +kernel
theorem dL_law_444 : decode cL_law 444 = .ok (.aload_n 2, 1) := by decide +kernel
theorem dL_law_445 : decode cL_law 445 = .ok (.invokevirtual 68, 3) := by decide +kernel
theorem dL_law_448 : decode cL_law 448 = .ok (.if_icmp .eq 167, 3) := by decide +kernel
theorem dL_law_451 : decode cL_law 451 = .ok (.iconst 0, 1) := by decide +kernel
theorem dL_law_452 : decode cL_law 452 = .ok (.ireturn, 1) := by decide +kernel
theorem dL_law_453 : decode cL_law 453 = .ok (.aload_n 1, 1) := by decide +kernel
theorem dL_law_454 : decode cL_law 454 = .ok (.aload_n 0, 1) := by decide +kernel
theorem dL_law_455 : decode cL_law 455 = .ok (.iload_n 3, 1) := by decide +kernel
theorem dL_law_456 : decode cL_law 456 = .ok (.iconst 1, 1) := by decide +kernel
theorem dL_law_457 : decode cL_law 457 = .ok (.iadd, 1) := by decide +kernel
theorem dL_law_458 : decode cL_law 458 = .ok (.iaload, 1) := by decide +kernel
theorem dL_law_459 : decode cL_law 459 = .ok (.aload_n 0, 1) := by decide +kernel
theorem dL_law_460 : decode cL_law 460 = .ok (.iload_n 3, 1) := by decide +kernel
theorem dL_law_461 : decode cL_law 461 = .ok (.iconst 2, 1) := by decide +kernel
theorem dL_law_462 : decode cL_law 462 = .ok (.iadd, 1) := by decide +kernel
theorem dL_law_463 : decode cL_law 463 = .ok (.iaload, 1) := by decide +kernel
theorem dL_law_464 : decode cL_law 464 = .ok (.aload_n 0, 1) := by decide +kernel
theorem dL_law_465 : decode cL_law 465 = .ok (.iload_n 3, 1) := by decide +kernel
theorem dL_law_466 : decode cL_law 466 = .ok (.iconst 3, 1) := by decide +kernel
theorem dL_law_467 : decode cL_law 467 = .ok (.iadd, 1) := by decide +kernel
theorem dL_law_468 : decode cL_law 468 = .ok (.iaload, 1) := by decide +kernel
theorem dL_law_469 : decode cL_law 469 = .ok (.invokevirtual 69, 3) := by decide +kernel
theorem dL_law_472 : decode cL_law 472 = .ok (.aload_n 2, 1) := by decide +kernel
theorem dL_law_473 : decode cL_law 473 = .ok (.aload_n 0, 1) := by decide +kernel
theorem dL_law_474 : decode cL_law 474 = .ok (.iload_n 3, 1) := by decide +kernel
theorem dL_law_475 : decode cL_law 475 = .ok (.iconst 1, 1) := by decide +kernel
theorem dL_law_476 : decode cL_law 476 = .ok (.iadd, 1) := by decide +kernel
theorem dL_law_477 : decode cL_law 477 = .ok (.iaload, 1) := by decide +kernel
theorem dL_law_478 : decode cL_law 478 = .ok (.aload_n 0, 1) := by decide +kernel
theorem dL_law_479 : decode cL_law 479 = .ok (.iload_n 3, 1) := by decide +kernel
theorem dL_law_480 : decode cL_law 480 = .ok (.iconst 2, 1) := by decide +kernel
theorem dL_law_481 : decode cL_law 481 = .ok (.iadd, 1) := by decide +kernel
theorem dL_law_482 : decode cL_law 482 = .ok (.iaload, 1) := by decide +kernel
theorem dL_law_483 : decode cL_law 483 = .ok (.aload_n 0, 1) := by decide +kernel
theorem dL_law_484 : decode cL_law 484 = .ok (.iload_n 3, 1) := by decide +kernel
theorem dL_law_485 : decode cL_law 485 = .ok (.iconst 3, 1) := by decide +kernel
theorem dL_law_486 : decode cL_law 486 = .ok (.iadd, 1) := by decide +kernel
theorem dL_law_487 : decode cL_law 487 = .ok (.iaload, 1) := by decide +kernel
theorem dL_law_488 : decode cL_law 488 = .ok (.invokevirtual 73, 3) := by decide +kernel
theorem dL_law_491 : decode cL_law 491 = .ok (.if_icmp .eq 124, 3) := by decide +kernel
theorem dL_law_494 : decode cL_law 494 = .ok (.iconst 0, 1) := by decide +kernel
theorem dL_law_495 : decode cL_law 495 = .ok (.ireturn, 1) := by decide +kernel
theorem dL_law_496 : decode cL_law 496 = .ok (.aload_n 1, 1) := by decide +kernel
theorem dL_law_497 : decode cL_law 497 = .ok (.invokevirtual 74, 3) := by decide +kernel
theorem dL_law_500 : decode cL_law 500 = .ok (.aload_n 2, 1) := by decide +kernel
theorem dL_law_501 : decode cL_law 501 = .ok (.invokevirtual 77, 3) := by decide +kernel
theorem dL_law_504 : decode cL_law 504 = .ok (.if_icmp .eq 111, 3) := by decide +kernel
theorem dL_law_507 : decode cL_law 507 = .ok (.iconst 0, 1) := by decide +kernel
theorem dL_law_508 : decode cL_law 508 = .ok (.ireturn, 1) := by decide +kernel
theorem dL_law_509 : decode cL_law 509 = .ok (.aload_n 1, 1) := by decide +kernel
theorem dL_law_510 : decode cL_law 510 = .ok (.aload_n 0, 1) := by decide +kernel
theorem dL_law_511 : decode cL_law 511 = .ok (.iload_n 3, 1) := by decide +kernel
theorem dL_law_512 : decode cL_law 512 = .ok (.iconst 1, 1) := by decide +kernel
theorem dL_law_513 : decode cL_law 513 = .ok (.iadd, 1) := by decide +kernel
theorem dL_law_514 : decode cL_law 514 = .ok (.iaload, 1) := by decide +kernel
theorem dL_law_515 : decode cL_law 515 = .ok (.aload_n 0, 1) := by decide +kernel
theorem dL_law_516 : decode cL_law 516 = .ok (.iload_n 3, 1) := by decide +kernel
theorem dL_law_517 : decode cL_law 517 = .ok (.iconst 2, 1) := by decide +kernel
theorem dL_law_518 : decode cL_law 518 = .ok (.iadd, 1) := by decide +kernel
theorem dL_law_519 : decode cL_law 519 = .ok (.iaload, 1) := by decide +kernel
theorem dL_law_520 : decode cL_law 520 = .ok (.aload_n 0, 1) := by decide +kernel
theorem dL_law_521 : decode cL_law 521 = .ok (.iload_n 3, 1) := by decide +kernel
theorem dL_law_522 : decode cL_law 522 = .ok (.iconst 3, 1) := by decide +kernel
theorem dL_law_523 : decode cL_law 523 = .ok (.iadd, 1) := by decide +kernel
theorem dL_law_524 : decode cL_law 524 = .ok (.iaload, 1) := by decide +kernel
theorem dL_law_525 : decode cL_law 525 = .ok (.invokevirtual 78, 3) := by decide +kernel
theorem dL_law_528 : decode cL_law 528 = .ok (.aload_n 2, 1) := by decide +kernel
theorem dL_law_529 : decode cL_law 529 = .ok (.aload_n 0, 1) := by decide +kernel
theorem dL_law_530 : decode cL_law 530 = .ok (.iload_n 3, 1) := by decide +kernel
theorem dL_law_531 : decode cL_law 531 = .ok (.iconst 1, 1) := by decide +kernel
theorem dL_law_532 : decode cL_law 532 = .ok (.iadd, 1) := by decide +kernel
theorem dL_law_533 : decode cL_law 533 = .ok (.iaload, 1) := by decide +kernel
theorem dL_law_534 : decode cL_law 534 = .ok (.aload_n 0, 1) := by decide +kernel
theorem dL_law_535 : decode cL_law 535 = .ok (.iload_n 3, 1) := by decide +kernel
theorem dL_law_536 : decode cL_law 536 = .ok (.iconst 2, 1) := by decide +kernel
theorem dL_law_537 : decode cL_law 537 = .ok (.iadd, 1) := by decide +kernel
theorem dL_law_538 : decode cL_law 538 = .ok (.iaload, 1) := by decide +kernel
theorem dL_law_539 : decode cL_law 539 = .ok (.aload_n 0, 1) := by decide +kernel
theorem dL_law_540 : decode cL_law 540 = .ok (.iload_n 3, 1) := by decide +kernel
theorem dL_law_541 : decode cL_law 541 = .ok (.iconst 3, 1) := by decide +kernel
theorem dL_law_542 : decode cL_law 542 = .ok (.iadd, 1) := by decide +kernel
theorem dL_law_543 : decode cL_law 543 = .ok (.iaload, 1) := by decide +kernel
theorem dL_law_544 : decode cL_law 544 = .ok (.invokevirtual 81, 3) := by decide +kernel
theorem dL_law_547 : decode cL_law 547 = .ok (.if_icmp .eq 68, 3) := by decide +kernel
theorem dL_law_550 : decode cL_law 550 = .ok (.iconst 0, 1) := by decide +kernel
theorem dL_law_551 : decode cL_law 551 = .ok (.ireturn, 1) := by decide +kernel
theorem dL_law_552 : decode cL_law 552 = .ok (.aload_n 1, 1) := by decide +kernel
theorem dL_law_553 : decode cL_law 553 = .ok (.invokevirtual 82, 3) := by decide +kernel
theorem dL_law_556 : decode cL_law 556 = .ok (.aload_n 2, 1) := by decide +kernel
theorem dL_law_557 : decode cL_law 557 = .ok (.invokevirtual 85, 3) := by decide +kernel
theorem dL_law_560 : decode cL_law 560 = .ok (.if_icmp .eq 55, 3) := by decide +kernel
theorem dL_law_563 : decode cL_law 563 = .ok (.iconst 0, 1) := by decide +kernel
theorem dL_law_564 : decode cL_law 564 = .ok (.ireturn, 1) := by decide +kernel
theorem dL_law_565 : decode cL_law 565 = .ok (.aload_n 1, 1) := by decide +kernel
theorem dL_law_566 : decode cL_law 566 = .ok (.invokevirtual 86, 3) := by decide +kernel
theorem dL_law_569 : decode cL_law 569 = .ok (.aload_n 2, 1) := by decide +kernel
theorem dL_law_570 : decode cL_law 570 = .ok (.invokevirtual 89, 3) := by decide +kernel
theorem dL_law_573 : decode cL_law 573 = .ok (.if_icmp .eq 42, 3) := by decide +kernel
theorem dL_law_576 : decode cL_law 576 = .ok (.iconst 0, 1) := by decide +kernel
theorem dL_law_577 : decode cL_law 577 = .ok (.ireturn, 1) := by decide +kernel
theorem dL_law_578 : decode cL_law 578 = .ok (.aload_n 1, 1) := by decide +kernel
theorem dL_law_579 : decode cL_law 579 = .ok (.aload_n 0, 1) := by decide +kernel
theorem dL_law_580 : decode cL_law 580 = .ok (.iload_n 3, 1) := by decide +kernel
theorem dL_law_581 : decode cL_law 581 = .ok (.iconst 1, 1) := by decide +kernel
theorem dL_law_582 : decode cL_law 582 = .ok (.iadd, 1) := by decide +kernel
theorem dL_law_583 : decode cL_law 583 = .ok (.iaload, 1) := by decide +kernel
theorem dL_law_584 : decode cL_law 584 = .ok (.invokevirtual 90, 3) := by decide +kernel
theorem dL_law_587 : decode cL_law 587 = .ok (.aload_n 2, 1) := by decide +kernel
theorem dL_law_588 : decode cL_law 588 = .ok (.aload_n 0, 1) := by decide +kernel
theorem dL_law_589 : decode cL_law 589 = .ok (.iload_n 3, 1) := by decide +kernel
theorem dL_law_590 : decode cL_law 590 = .ok (.iconst 1, 1) := by decide +kernel
theorem dL_law_591 : decode cL_law 591 = .ok (.iadd, 1) := by decide +kernel
theorem dL_law_592 : decode cL_law 592 = .ok (.iaload, 1) := by decide +kernel
theorem dL_law_593 : decode cL_law 593 = .ok (.invokevirtual 93, 3) := by decide +kernel
theorem dL_law_596 : decode cL_law 596 = .ok (.if_icmp .eq 19, 3) := by decide +kernel
theorem dL_law_599 : decode cL_law 599 = .ok (.iconst 0, 1) := by decide +kernel
theorem dL_law_600 : decode cL_law 600 = .ok (.ireturn, 1) := by decide +kernel
theorem dL_law_601 : decode cL_law 601 = .ok (.aload_n 1, 1) := by decide +kernel
theorem dL_law_602 : decode cL_law 602 = .ok (.invokevirtual 94, 3) := by decide +kernel
theorem dL_law_605 : decode cL_law 605 = .ok (.aload_n 2, 1) := by decide +kernel
theorem dL_law_606 : decode cL_law 606 = .ok (.invokevirtual 98, 3) := by decide +kernel
theorem dL_law_609 : decode cL_law 609 = .ok (.lcmp, 1) := by decide +kernel
theorem dL_law_610 : decode cL_law 610 = .ok (.ifCond .eq 5, 3) := by decide +kernel
theorem dL_law_613 : decode cL_law 613 = .ok (.iconst 0, 1) := by decide +kernel
theorem dL_law_614 : decode cL_law 614 = .ok (.ireturn, 1) := by decide +kernel
theorem dL_law_615 : decode cL_law 615 = .ok (.iinc 3 4, 3) := by decide +kernel
theorem dL_law_618 : decode cL_law 618 = .ok (.goto (-600), 3) := by decide +kernel
theorem dL_law_621 : decode cL_law 621 = .ok (.iconst 1, 1) := by decide +kernel
theorem dL_law_622 : decode cL_law 622 = .ok (.ireturn, 1) := by decide +kernel
end
section
theorem wd_0 : Cond.initialized RL ∈ gT := gT_at 0 (by decide +kernel) rfl
theorem wd_1 : Cond.initialized RX8 ∈ gT := gT_at 1 (by decide +kernel) rfl
theorem wd_2 : Cond.initialized RX2 ∈ gT := gT_at 2 (by decide +kernel) rfl
theorem wd_3 : Cond.initialized RX7 ∈ gT := gT_at 3 (by decide +kernel) rfl
theorem wd_4 : Cond.initialized RX5 ∈ gT := gT_at 4 (by decide +kernel) rfl
theorem wd_5 : Cond.initialized RX1 ∈ gT := gT_at 5 (by decide +kernel) rfl
theorem wd_6 : Cond.initialized RX9 ∈ gT := gT_at 6 (by decide +kernel) rfl
theorem wd_7 : Cond.initialized RJ0 ∈ gT := gT_at 7 (by decide +kernel) rfl
theorem wd_8 : Cond.initialized RJ1 ∈ gT := gT_at 8 (by decide +kernel) rfl
theorem wd_9 : Cond.initialized RJ9 ∈ gT := gT_at 9 (by decide +kernel) rfl
theorem wd_10 : Cond.initialized RJ2 ∈ gT := gT_at 10 (by decide +kernel) rfl
theorem wd_11 : Cond.initialized RJ3 ∈ gT := gT_at 11 (by decide +kernel) rfl
theorem wd_12 : Cond.initialized RJ11 ∈ gT := gT_at 12 (by decide +kernel) rfl
theorem wd_13 : Cond.initialized RX3 ∈ gT := gT_at 13 (by decide +kernel) rfl
theorem wd_14 : Cond.initialized RX0 ∈ gT := gT_at 14 (by decide +kernel) rfl
theorem wd_15 : Cond.initialized RX6 ∈ gT := gT_at 15 (by decide +kernel) rfl
theorem wd_16 : Cond.initialized RX4 ∈ gT := gT_at 16 (by decide +kernel) rfl
theorem wd_17 : Cond.initialized RJ7 ∈ gT := gT_at 17 (by decide +kernel) rfl
theorem wd_18 : Cond.initialized RJ13 ∈ gT := gT_at 18 (by decide +kernel) rfl
theorem wd_19 : Cond.initialized RJ10 ∈ gT := gT_at 19 (by decide +kernel) rfl
theorem wd_20 : Cond.classLink RL 7 RX8 ∈ gT := gT_at 20 (by decide +kernel) rfl
theorem wd_21 : Cond.instantiable RX8 11 ∈ gT := gT_at 21 (by decide +kernel) rfl
theorem wd_22 : Cond.methodLink RL 9 yX8_init ∈ gT := gT_at 22 (by decide +kernel) rfl
theorem wd_23 : Cond.instanceMethod yX8_init ∈ gT := gT_at 23 (by decide +kernel) rfl
theorem wd_24 : Cond.code yX8_init cX8_init 2 none ∈ gT := gT_at 24 (by decide +kernel) rfl
theorem wd_25 : Cond.methodLink RX8 1 objectInit ∈ gT := gT_at 25 (by decide +kernel) rfl
theorem wd_26 : Cond.instanceMethod objectInit ∈ gT := gT_at 26 (by decide +kernel) rfl
theorem wd_27 : Cond.code objectInit ⟨#[0xb1]⟩ 1 none ∈ gT := gT_at 27 (by decide +kernel) rfl
theorem wd_28 : Cond.classLink RX8 7 RX2 ∈ gT := gT_at 28 (by decide +kernel) rfl
theorem wd_29 : Cond.instantiable RX2 2 ∈ gT := gT_at 29 (by decide +kernel) rfl
theorem wd_31 : Cond.instanceMethod yX2_init ∈ gT := gT_at 31 (by decide +kernel) rfl
theorem wd_32 : Cond.code yX2_init cX2_init 1 none ∈ gT := gT_at 32 (by decide +kernel) rfl
theorem wd_33 : Cond.methodLink RX2 3 objectInit ∈ gT := gT_at 33 (by decide +kernel) rfl
theorem wd_34 : Cond.fieldLink RX2 9 "HomeNeedles$Page" "letters" "[C" ∈ gT := gT_at 34 (by decide +kernel) rfl
theorem wd_35 : Cond.fieldLink RX8 210 "HomeNeedles$Page" "letters" "[C" ∈ gT := gT_at 35 (by decide +kernel) rfl
theorem wd_36 : Cond.fieldLink RX2 15 "HomeNeedles$Page" "size" "I" ∈ gT := gT_at 36 (by decide +kernel) rfl
theorem wd_37 : Cond.fieldLink RX8 61 "HomeNeedles$Page" "size" "I" ∈ gT := gT_at 37 (by decide +kernel) rfl
theorem wd_38 : Cond.laysFinal RX2 "HomeNeedles$Page" "letters" "[C" ∈ gT := gT_at 38 (by decide +kernel) rfl
theorem wd_40 : Cond.lays RX2 "HomeNeedles$Page" "size" "I" ∈ gT := gT_at 40 (by decide +kernel) rfl
theorem wd_43 : Cond.arrayClass .char ∈ gT := gT_at 43 (by decide +kernel) rfl
theorem wd_44 : Cond.classLink RX8 16 RX1 ∈ gT := gT_at 44 (by decide +kernel) rfl
theorem wd_46 : Cond.classLink RX8 22 RX7 ∈ gT := gT_at 46 (by decide +kernel) rfl
theorem wd_47 : Cond.instantiable RX7 9 ∈ gT := gT_at 47 (by decide +kernel) rfl
theorem wd_49 : Cond.instanceMethod yX7_init ∈ gT := gT_at 49 (by decide +kernel) rfl
theorem wd_50 : Cond.code yX7_init cX7_init 1 none ∈ gT := gT_at 50 (by decide +kernel) rfl
theorem wd_51 : Cond.methodLink RX7 3 objectInit ∈ gT := gT_at 51 (by decide +kernel) rfl
theorem wd_52 : Cond.fieldLink RX7 9 "HomeNeedles$Voyage" "homes" "[I" ∈ gT := gT_at 52 (by decide +kernel) rfl
theorem wd_53 : Cond.fieldLink RX8 96 "HomeNeedles$Voyage" "homes" "[I" ∈ gT := gT_at 53 (by decide +kernel) rfl
theorem wd_54 : Cond.fieldLink RX7 15 "HomeNeedles$Voyage" "seenNeedles" "[I" ∈ gT := gT_at 54 (by decide +kernel) rfl
theorem wd_55 : Cond.fieldLink RX8 246 "HomeNeedles$Voyage" "seenNeedles" "[I" ∈ gT := gT_at 55 (by decide +kernel) rfl
theorem wd_56 : Cond.fieldLink RX7 18 "HomeNeedles$Voyage" "seenPlaces" "[I" ∈ gT := gT_at 56 (by decide +kernel) rfl
theorem wd_57 : Cond.fieldLink RX8 249 "HomeNeedles$Voyage" "seenPlaces" "[I" ∈ gT := gT_at 57 (by decide +kernel) rfl
theorem wd_58 : Cond.fieldLink RX7 21 "HomeNeedles$Voyage" "seenDirections" "[I" ∈ gT := gT_at 58 (by decide +kernel) rfl
theorem wd_59 : Cond.fieldLink RX8 252 "HomeNeedles$Voyage" "seenDirections" "[I" ∈ gT := gT_at 59 (by decide +kernel) rfl
theorem wd_60 : Cond.fieldLink RX7 24 "HomeNeedles$Voyage" "islands" "J" ∈ gT := gT_at 60 (by decide +kernel) rfl
theorem wd_61 : Cond.fieldLink RX8 193 "HomeNeedles$Voyage" "islands" "J" ∈ gT := gT_at 61 (by decide +kernel) rfl
theorem wd_62 : Cond.fieldLink RX7 28 "HomeNeedles$Voyage" "bearer" "I" ∈ gT := gT_at 62 (by decide +kernel) rfl
theorem wd_63 : Cond.fieldLink RX8 102 "HomeNeedles$Voyage" "bearer" "I" ∈ gT := gT_at 63 (by decide +kernel) rfl
theorem wd_64 : Cond.fieldLink RX7 32 "HomeNeedles$Voyage" "steps" "I" ∈ gT := gT_at 64 (by decide +kernel) rfl
theorem wd_65 : Cond.fieldLink RX8 192 "HomeNeedles$Voyage" "steps" "I" ∈ gT := gT_at 65 (by decide +kernel) rfl
theorem wd_66 : Cond.fieldLink RX7 35 "HomeNeedles$Voyage" "stepsOn" "I" ∈ gT := gT_at 66 (by decide +kernel) rfl
theorem wd_67 : Cond.fieldLink RX8 197 "HomeNeedles$Voyage" "stepsOn" "I" ∈ gT := gT_at 67 (by decide +kernel) rfl
theorem wd_68 : Cond.fieldLink RX7 38 "HomeNeedles$Voyage" "seen" "I" ∈ gT := gT_at 68 (by decide +kernel) rfl
theorem wd_69 : Cond.fieldLink RX8 171 "HomeNeedles$Voyage" "seen" "I" ∈ gT := gT_at 69 (by decide +kernel) rfl
theorem wd_70 : Cond.laysFinal RX7 "HomeNeedles$Voyage" "homes" "[I" ∈ gT := gT_at 70 (by decide +kernel) rfl
theorem wd_72 : Cond.laysFinal RX7 "HomeNeedles$Voyage" "seenNeedles" "[I" ∈ gT := gT_at 72 (by decide +kernel) rfl
theorem wd_74 : Cond.laysFinal RX7 "HomeNeedles$Voyage" "seenPlaces" "[I" ∈ gT := gT_at 74 (by decide +kernel) rfl
theorem wd_76 : Cond.laysFinal RX7 "HomeNeedles$Voyage" "seenDirections" "[I" ∈ gT := gT_at 76 (by decide +kernel) rfl
theorem wd_78 : Cond.lays RX7 "HomeNeedles$Voyage" "islands" "J" ∈ gT := gT_at 78 (by decide +kernel) rfl
theorem wd_80 : Cond.lays RX7 "HomeNeedles$Voyage" "bearer" "I" ∈ gT := gT_at 80 (by decide +kernel) rfl
theorem wd_82 : Cond.lays RX7 "HomeNeedles$Voyage" "steps" "I" ∈ gT := gT_at 82 (by decide +kernel) rfl
theorem wd_84 : Cond.lays RX7 "HomeNeedles$Voyage" "stepsOn" "I" ∈ gT := gT_at 84 (by decide +kernel) rfl
theorem wd_86 : Cond.lays RX7 "HomeNeedles$Voyage" "seen" "I" ∈ gT := gT_at 86 (by decide +kernel) rfl
theorem wd_89 : Cond.arrayClass .int ∈ gT := gT_at 89 (by decide +kernel) rfl
theorem wd_90 : Cond.classLink RX8 32 RX5 ∈ gT := gT_at 90 (by decide +kernel) rfl
theorem wd_91 : Cond.instantiable RX5 2 ∈ gT := gT_at 91 (by decide +kernel) rfl
theorem wd_93 : Cond.instanceMethod yX5_init ∈ gT := gT_at 93 (by decide +kernel) rfl
theorem wd_94 : Cond.code yX5_init cX5_init 1 none ∈ gT := gT_at 94 (by decide +kernel) rfl
theorem wd_95 : Cond.methodLink RX5 1 objectInit ∈ gT := gT_at 95 (by decide +kernel) rfl
theorem wd_96 : Cond.fieldLink RX5 7 "HomeNeedles$Trail" "steps" "I" ∈ gT := gT_at 96 (by decide +kernel) rfl
theorem wd_97 : Cond.fieldLink RX8 123 "HomeNeedles$Trail" "steps" "I" ∈ gT := gT_at 97 (by decide +kernel) rfl
theorem wd_98 : Cond.fieldLink RX5 13 "HomeNeedles$Trail" "place" "I" ∈ gT := gT_at 98 (by decide +kernel) rfl
theorem wd_99 : Cond.fieldLink RX8 126 "HomeNeedles$Trail" "place" "I" ∈ gT := gT_at 99 (by decide +kernel) rfl
theorem wd_100 : Cond.lays RX5 "HomeNeedles$Trail" "steps" "I" ∈ gT := gT_at 100 (by decide +kernel) rfl
theorem wd_102 : Cond.lays RX5 "HomeNeedles$Trail" "place" "I" ∈ gT := gT_at 102 (by decide +kernel) rfl
theorem wd_105 : Cond.instantiable RX1 0 ∈ gT := gT_at 105 (by decide +kernel) rfl
theorem wd_107 : Cond.instanceMethod yX1_init ∈ gT := gT_at 107 (by decide +kernel) rfl
theorem wd_108 : Cond.code yX1_init cX1_init 1 none ∈ gT := gT_at 108 (by decide +kernel) rfl
theorem wd_109 : Cond.methodLink RX1 3 objectInit ∈ gT := gT_at 109 (by decide +kernel) rfl
theorem wd_111 : Cond.fieldLink RX8 10 "HomeNeedles" "page" "LHomeNeedles$Page;" ∈ gT := gT_at 111 (by decide +kernel) rfl
theorem wd_112 : Cond.fieldLink RX8 18 "HomeNeedles" "needles" "[LHomeNeedles$Needle;" ∈ gT := gT_at 112 (by decide +kernel) rfl
theorem wd_113 : Cond.fieldLink RX8 25 "HomeNeedles" "now" "LHomeNeedles$Voyage;" ∈ gT := gT_at 113 (by decide +kernel) rfl
theorem wd_114 : Cond.fieldLink RX8 29 "HomeNeedles" "kept" "LHomeNeedles$Voyage;" ∈ gT := gT_at 114 (by decide +kernel) rfl
theorem wd_115 : Cond.fieldLink RX8 35 "HomeNeedles" "trail" "LHomeNeedles$Trail;" ∈ gT := gT_at 115 (by decide +kernel) rfl
theorem wd_116 : Cond.fieldLink RX8 39 "HomeNeedles" "stepsAway" "[I" ∈ gT := gT_at 116 (by decide +kernel) rfl
theorem wd_117 : Cond.fieldLink RX8 43 "HomeNeedles" "waiting" "[I" ∈ gT := gT_at 117 (by decide +kernel) rfl
theorem wd_118 : Cond.fieldLink RX8 46 "HomeNeedles" "leftByDirection" "[I" ∈ gT := gT_at 118 (by decide +kernel) rfl
theorem wd_119 : Cond.fieldLink RX8 49 "HomeNeedles" "needleCount" "I" ∈ gT := gT_at 119 (by decide +kernel) rfl
theorem wd_120 : Cond.fieldLink RX8 53 "HomeNeedles" "seasRead" "I" ∈ gT := gT_at 120 (by decide +kernel) rfl
theorem wd_121 : Cond.fieldLink RX8 56 "HomeNeedles" "imageKept" "Z" ∈ gT := gT_at 121 (by decide +kernel) rfl
theorem wd_122 : Cond.laysFinal RX8 "HomeNeedles" "page" "LHomeNeedles$Page;" ∈ gT := gT_at 122 (by decide +kernel) rfl
theorem wd_124 : Cond.laysFinal RX8 "HomeNeedles" "needles" "[LHomeNeedles$Needle;" ∈ gT := gT_at 124 (by decide +kernel) rfl
theorem wd_126 : Cond.laysFinal RX8 "HomeNeedles" "now" "LHomeNeedles$Voyage;" ∈ gT := gT_at 126 (by decide +kernel) rfl
theorem wd_128 : Cond.laysFinal RX8 "HomeNeedles" "kept" "LHomeNeedles$Voyage;" ∈ gT := gT_at 128 (by decide +kernel) rfl
theorem wd_130 : Cond.laysFinal RX8 "HomeNeedles" "trail" "LHomeNeedles$Trail;" ∈ gT := gT_at 130 (by decide +kernel) rfl
theorem wd_132 : Cond.laysFinal RX8 "HomeNeedles" "stepsAway" "[I" ∈ gT := gT_at 132 (by decide +kernel) rfl
theorem wd_134 : Cond.laysFinal RX8 "HomeNeedles" "waiting" "[I" ∈ gT := gT_at 134 (by decide +kernel) rfl
theorem wd_136 : Cond.laysFinal RX8 "HomeNeedles" "leftByDirection" "[I" ∈ gT := gT_at 136 (by decide +kernel) rfl
theorem wd_138 : Cond.lays RX8 "HomeNeedles" "needleCount" "I" ∈ gT := gT_at 138 (by decide +kernel) rfl
theorem wd_140 : Cond.lays RX8 "HomeNeedles" "seasRead" "I" ∈ gT := gT_at 140 (by decide +kernel) rfl
theorem wd_142 : Cond.lays RX8 "HomeNeedles" "imageKept" "Z" ∈ gT := gT_at 142 (by decide +kernel) rfl
theorem wd_145 : Cond.methodLink RL 13 yX8_letter ∈ gT := gT_at 145 (by decide +kernel) rfl
theorem wd_146 : Cond.instanceMethod yX8_letter ∈ gT := gT_at 146 (by decide +kernel) rfl
theorem wd_147 : Cond.selects RX8 yX8_letter yX8_letter ∈ gT := gT_at 147 (by decide +kernel) rfl
theorem wd_148 : Cond.code yX8_letter cX8_letter 2 (some .int) ∈ gT := gT_at 148 (by decide +kernel) rfl
theorem wd_149 : Cond.methodLink RX8 64 yX2_write ∈ gT := gT_at 149 (by decide +kernel) rfl
theorem wd_150 : Cond.instanceMethod yX2_write ∈ gT := gT_at 150 (by decide +kernel) rfl
theorem wd_151 : Cond.selects RX2 yX2_write yX2_write ∈ gT := gT_at 151 (by decide +kernel) rfl
theorem wd_152 : Cond.code yX2_write cX2_write 2 none ∈ gT := gT_at 152 (by decide +kernel) rfl
theorem wd_153 : Cond.methodLink RL 18 yX8_blank ∈ gT := gT_at 153 (by decide +kernel) rfl
theorem wd_154 : Cond.instanceMethod yX8_blank ∈ gT := gT_at 154 (by decide +kernel) rfl
theorem wd_155 : Cond.selects RX8 yX8_blank yX8_blank ∈ gT := gT_at 155 (by decide +kernel) rfl
theorem wd_156 : Cond.code yX8_blank cX8_blank 2 (some .int) ∈ gT := gT_at 156 (by decide +kernel) rfl
theorem wd_157 : Cond.methodLink RL 23 yX8_fault ∈ gT := gT_at 157 (by decide +kernel) rfl
theorem wd_158 : Cond.instanceMethod yX8_fault ∈ gT := gT_at 158 (by decide +kernel) rfl
theorem wd_159 : Cond.selects RX8 yX8_fault yX8_fault ∈ gT := gT_at 159 (by decide +kernel) rfl
theorem wd_160 : Cond.code yX8_fault cX8_fault 1 (some .int) ∈ gT := gT_at 160 (by decide +kernel) rfl
theorem wd_161 : Cond.methodLink RX8 68 yX2_firstWrong ∈ gT := gT_at 161 (by decide +kernel) rfl
theorem wd_162 : Cond.instanceMethod yX2_firstWrong ∈ gT := gT_at 162 (by decide +kernel) rfl
theorem wd_163 : Cond.selects RX2 yX2_firstWrong yX2_firstWrong ∈ gT := gT_at 163 (by decide +kernel) rfl
theorem wd_164 : Cond.code yX2_firstWrong cX2_firstWrong 4 (some .int) ∈ gT := gT_at 164 (by decide +kernel) rfl
theorem wd_165 : Cond.methodLink RX2 19 yX2_headEnd ∈ gT := gT_at 165 (by decide +kernel) rfl
theorem wd_166 : Cond.instanceMethod yX2_headEnd ∈ gT := gT_at 166 (by decide +kernel) rfl
theorem wd_167 : Cond.selects RX2 yX2_headEnd yX2_headEnd ∈ gT := gT_at 167 (by decide +kernel) rfl
theorem wd_168 : Cond.code yX2_headEnd cX2_headEnd 2 (some .int) ∈ gT := gT_at 168 (by decide +kernel) rfl
theorem wd_169 : Cond.methodLink RX2 23 yX2_fitsHead ∈ gT := gT_at 169 (by decide +kernel) rfl
theorem wd_171 : Cond.instanceMethod yX2_fitsHead ∈ gT := gT_at 171 (by decide +kernel) rfl
theorem wd_172 : Cond.code yX2_fitsHead cX2_fitsHead 2 (some .boolean) ∈ gT := gT_at 172 (by decide +kernel) rfl
theorem wd_173 : Cond.methodLink RX2 34 yX2_kindAt ∈ gT := gT_at 173 (by decide +kernel) rfl
theorem wd_174 : Cond.instanceMethod yX2_kindAt ∈ gT := gT_at 174 (by decide +kernel) rfl
theorem wd_175 : Cond.selects RX2 yX2_kindAt yX2_kindAt ∈ gT := gT_at 175 (by decide +kernel) rfl
theorem wd_176 : Cond.code yX2_kindAt cX2_kindAt 2 (some .int) ∈ gT := gT_at 176 (by decide +kernel) rfl
theorem wd_178 : Cond.methodLink RX2 44 yJ0_indexOf_0f7a4 ∈ gT := gT_at 178 (by decide +kernel) rfl
theorem wd_179 : Cond.instanceMethod yJ0_indexOf_0f7a4 ∈ gT := gT_at 179 (by decide +kernel) rfl
theorem wd_180 : Cond.selects RJ0 yJ0_indexOf_0f7a4 yJ0_indexOf_0f7a4 ∈ gT := gT_at 180 (by decide +kernel) rfl
theorem wd_181 : Cond.code yJ0_indexOf_0f7a4 cJ0_indexOf_0f7a4 2 (some .int) ∈ gT := gT_at 181 (by decide +kernel) rfl
theorem wd_182 : Cond.methodLink RJ0 633 yJ0_indexOf_7cf53 ∈ gT := gT_at 182 (by decide +kernel) rfl
theorem wd_183 : Cond.instanceMethod yJ0_indexOf_7cf53 ∈ gT := gT_at 183 (by decide +kernel) rfl
theorem wd_184 : Cond.selects RJ0 yJ0_indexOf_7cf53 yJ0_indexOf_7cf53 ∈ gT := gT_at 184 (by decide +kernel) rfl
theorem wd_185 : Cond.code yJ0_indexOf_7cf53 cJ0_indexOf_7cf53 3 (some .int) ∈ gT := gT_at 185 (by decide +kernel) rfl
theorem wd_186 : Cond.methodLink RJ0 492 yJ0_isLatin1_aae02 ∈ gT := gT_at 186 (by decide +kernel) rfl
theorem wd_187 : Cond.instanceMethod yJ0_isLatin1_aae02 ∈ gT := gT_at 187 (by decide +kernel) rfl
theorem wd_188 : Cond.selects RJ0 yJ0_isLatin1_aae02 yJ0_isLatin1_aae02 ∈ gT := gT_at 188 (by decide +kernel) rfl
theorem wd_189 : Cond.code yJ0_isLatin1_aae02 cJ0_isLatin1_aae02 1 (some .boolean) ∈ gT := gT_at 189 (by decide +kernel) rfl
theorem wd_190 : Cond.fieldLink RJ0 38 "java/lang/String" "COMPACT_STRINGS" "Z" ∈ gT := gT_at 190 (by decide +kernel) rfl
theorem wd_192 : Cond.methodLink RJ0 505 yJ0_length_8abf5 ∈ gT := gT_at 192 (by decide +kernel) rfl
theorem wd_193 : Cond.instanceMethod yJ0_length_8abf5 ∈ gT := gT_at 193 (by decide +kernel) rfl
theorem wd_194 : Cond.selects RJ0 yJ0_length_8abf5 yJ0_length_8abf5 ∈ gT := gT_at 194 (by decide +kernel) rfl
theorem wd_195 : Cond.code yJ0_length_8abf5 cJ0_length_8abf5 1 (some .int) ∈ gT := gT_at 195 (by decide +kernel) rfl
theorem wd_196 : Cond.methodLink RJ0 335 yJ0_coder_7d493 ∈ gT := gT_at 196 (by decide +kernel) rfl
theorem wd_197 : Cond.instanceMethod yJ0_coder_7d493 ∈ gT := gT_at 197 (by decide +kernel) rfl
theorem wd_198 : Cond.selects RJ0 yJ0_coder_7d493 yJ0_coder_7d493 ∈ gT := gT_at 198 (by decide +kernel) rfl
theorem wd_199 : Cond.code yJ0_coder_7d493 cJ0_coder_7d493 1 (some .byte) ∈ gT := gT_at 199 (by decide +kernel) rfl
theorem wd_200 : Cond.methodLink RJ0 637 yJ1_indexOf_4cfef ∈ gT := gT_at 200 (by decide +kernel) rfl
theorem wd_201 : Cond.static yJ1_indexOf_4cfef ∈ gT := gT_at 201 (by decide +kernel) rfl
theorem wd_202 : Cond.code yJ1_indexOf_4cfef cJ1_indexOf_4cfef 4 (some .int) ∈ gT := gT_at 202 (by decide +kernel) rfl
theorem wd_203 : Cond.methodLink RJ1 88 yJ1_canEncode_9a6ad ∈ gT := gT_at 203 (by decide +kernel) rfl
theorem wd_204 : Cond.static yJ1_canEncode_9a6ad ∈ gT := gT_at 204 (by decide +kernel) rfl
theorem wd_205 : Cond.code yJ1_canEncode_9a6ad cJ1_canEncode_9a6ad 1 (some .boolean) ∈ gT := gT_at 205 (by decide +kernel) rfl
theorem wd_206 : Cond.methodLink RJ1 92 Lib.Math.max.name ∈ gT := gT_at 206 (by decide +kernel) rfl
theorem wd_207 : Cond.static Lib.Math.max.name ∈ gT := gT_at 207 (by decide +kernel) rfl
theorem wd_208 : Cond.code Lib.Math.max.name cJ9_max_7cf53 2 (some .int) ∈ gT := gT_at 208 (by decide +kernel) rfl
theorem wd_209 : Cond.methodLink RJ1 38 Lib.Math.min.name ∈ gT := gT_at 209 (by decide +kernel) rfl
theorem wd_210 : Cond.static Lib.Math.min.name ∈ gT := gT_at 210 (by decide +kernel) rfl
theorem wd_211 : Cond.code Lib.Math.min.name cJ9_min_7cf53 2 (some .int) ∈ gT := gT_at 211 (by decide +kernel) rfl
theorem wd_212 : Cond.methodLink RJ1 95 yJ1_indexOfChar_4cfef ∈ gT := gT_at 212 (by decide +kernel) rfl
theorem wd_213 : Cond.static yJ1_indexOfChar_4cfef ∈ gT := gT_at 213 (by decide +kernel) rfl
theorem wd_214 : Cond.code yJ1_indexOfChar_4cfef cJ1_indexOfChar_4cfef 6 (some .int) ∈ gT := gT_at 214 (by decide +kernel) rfl
theorem wd_215 : Cond.methodLink RJ0 640 yJ2_indexOf_4cfef ∈ gT := gT_at 215 (by decide +kernel) rfl
theorem wd_216 : Cond.static yJ2_indexOf_4cfef ∈ gT := gT_at 216 (by decide +kernel) rfl
theorem wd_217 : Cond.code yJ2_indexOf_4cfef cJ2_indexOf_4cfef 4 (some .int) ∈ gT := gT_at 217 (by decide +kernel) rfl
theorem wd_218 : Cond.methodLink RJ2 224 Lib.Math.max.name ∈ gT := gT_at 218 (by decide +kernel) rfl
theorem wd_219 : Cond.methodLink RJ2 183 Lib.Math.min.name ∈ gT := gT_at 219 (by decide +kernel) rfl
theorem wd_220 : Cond.constant RJ2 227 (65536 : Int32) ∈ gT := gT_at 220 (by decide +kernel) rfl
theorem wd_221 : Cond.methodLink RJ2 228 yJ2_indexOfChar_4cfef ∈ gT := gT_at 221 (by decide +kernel) rfl
theorem wd_222 : Cond.static yJ2_indexOfChar_4cfef ∈ gT := gT_at 222 (by decide +kernel) rfl
theorem wd_223 : Cond.code yJ2_indexOfChar_4cfef cJ2_indexOfChar_4cfef 4 (some .int) ∈ gT := gT_at 223 (by decide +kernel) rfl
theorem wd_224 : Cond.methodLink RJ2 96 yJ2_checkBoundsBeginEnd_d044e ∈ gT := gT_at 224 (by decide +kernel) rfl
theorem wd_225 : Cond.static yJ2_checkBoundsBeginEnd_d044e ∈ gT := gT_at 225 (by decide +kernel) rfl
theorem wd_226 : Cond.code yJ2_checkBoundsBeginEnd_d044e cJ2_checkBoundsBeginEnd_d044e 3 none ∈ gT := gT_at 226 (by decide +kernel) rfl
theorem wd_227 : Cond.methodLink RJ2 48 yJ2_length_9d52b ∈ gT := gT_at 227 (by decide +kernel) rfl
theorem wd_228 : Cond.static yJ2_length_9d52b ∈ gT := gT_at 228 (by decide +kernel) rfl
theorem wd_229 : Cond.code yJ2_length_9d52b cJ2_length_9d52b 1 (some .int) ∈ gT := gT_at 229 (by decide +kernel) rfl
theorem wd_230 : Cond.methodLink RJ2 241 yJ0_checkBoundsBeginEnd_23922 ∈ gT := gT_at 230 (by decide +kernel) rfl
theorem wd_231 : Cond.static yJ0_checkBoundsBeginEnd_23922 ∈ gT := gT_at 231 (by decide +kernel) rfl
theorem wd_232 : Cond.code yJ0_checkBoundsBeginEnd_23922 cJ0_checkBoundsBeginEnd_23922 3 none ∈ gT := gT_at 232 (by decide +kernel) rfl
theorem wd_233 : Cond.fieldLink RJ0 1053 "jdk/internal/util/Preconditions" "SIOOBE_FORMATTER" "Ljava/util/function/BiFunction;" ∈ gT := gT_at 233 (by decide +kernel) rfl
theorem wd_235 : Cond.methodLink RJ0 1062 yJ3_checkFromToIndex_8c36e ∈ gT := gT_at 235 (by decide +kernel) rfl
theorem wd_236 : Cond.static yJ3_checkFromToIndex_8c36e ∈ gT := gT_at 236 (by decide +kernel) rfl
theorem wd_237 : Cond.code yJ3_checkFromToIndex_8c36e cJ3_checkFromToIndex_8c36e 4 (some .int) ∈ gT := gT_at 237 (by decide +kernel) rfl
theorem wd_238 : Cond.methodLink RJ2 244 yJ2_indexOfCharUnsafe_4cfef ∈ gT := gT_at 238 (by decide +kernel) rfl
theorem wd_239 : Cond.static yJ2_indexOfCharUnsafe_4cfef ∈ gT := gT_at 239 (by decide +kernel) rfl
theorem wd_240 : Cond.code yJ2_indexOfCharUnsafe_4cfef cJ2_indexOfCharUnsafe_4cfef 5 (some .int) ∈ gT := gT_at 240 (by decide +kernel) rfl
theorem wd_241 : Cond.methodLink RJ2 71 yJ2_getChar_3b067 ∈ gT := gT_at 241 (by decide +kernel) rfl
theorem wd_242 : Cond.static yJ2_getChar_3b067 ∈ gT := gT_at 242 (by decide +kernel) rfl
theorem wd_243 : Cond.code yJ2_getChar_3b067 cJ2_getChar_3b067 2 (some .char) ∈ gT := gT_at 243 (by decide +kernel) rfl
theorem wd_244 : Cond.fieldLink RJ2 44 "java/lang/StringUTF16" "$assertionsDisabled" "Z" ∈ gT := gT_at 244 (by decide +kernel) rfl
theorem wd_246 : Cond.fieldLink RJ2 59 "java/lang/StringUTF16" "HI_BYTE_SHIFT" "I" ∈ gT := gT_at 246 (by decide +kernel) rfl
theorem wd_248 : Cond.fieldLink RJ2 63 "java/lang/StringUTF16" "LO_BYTE_SHIFT" "I" ∈ gT := gT_at 248 (by decide +kernel) rfl
theorem wd_250 : Cond.methodLink RJ2 232 yJ2_indexOfSupplementary_4cfef ∈ gT := gT_at 250 (by decide +kernel) rfl
theorem wd_251 : Cond.static yJ2_indexOfSupplementary_4cfef ∈ gT := gT_at 251 (by decide +kernel) rfl
theorem wd_252 : Cond.code yJ2_indexOfSupplementary_4cfef cJ2_indexOfSupplementary_4cfef 7 (some .int) ∈ gT := gT_at 252 (by decide +kernel) rfl
theorem wd_253 : Cond.methodLink RJ2 164 yJ11_isValidCodePoint_9a6ad ∈ gT := gT_at 253 (by decide +kernel) rfl
theorem wd_254 : Cond.static yJ11_isValidCodePoint_9a6ad ∈ gT := gT_at 254 (by decide +kernel) rfl
theorem wd_255 : Cond.code yJ11_isValidCodePoint_9a6ad cJ11_isValidCodePoint_9a6ad 2 (some .boolean) ∈ gT := gT_at 255 (by decide +kernel) rfl
theorem wd_256 : Cond.methodLink RJ2 157 yJ11_highSurrogate_5068e ∈ gT := gT_at 256 (by decide +kernel) rfl
theorem wd_257 : Cond.static yJ11_highSurrogate_5068e ∈ gT := gT_at 257 (by decide +kernel) rfl
theorem wd_258 : Cond.code yJ11_highSurrogate_5068e cJ11_highSurrogate_5068e 1 (some .char) ∈ gT := gT_at 258 (by decide +kernel) rfl
theorem wd_259 : Cond.constant RJ11 110 (55232 : Int32) ∈ gT := gT_at 259 (by decide +kernel) rfl
theorem wd_260 : Cond.methodLink RJ2 161 yJ11_lowSurrogate_5068e ∈ gT := gT_at 260 (by decide +kernel) rfl
theorem wd_261 : Cond.static yJ11_lowSurrogate_5068e ∈ gT := gT_at 261 (by decide +kernel) rfl
theorem wd_262 : Cond.code yJ11_lowSurrogate_5068e cJ11_lowSurrogate_5068e 1 (some .char) ∈ gT := gT_at 262 (by decide +kernel) rfl
theorem wd_263 : Cond.constant RJ11 76 (56320 : Int32) ∈ gT := gT_at 263 (by decide +kernel) rfl
theorem wd_264 : Cond.methodLink RX2 38 yX2_isDigit ∈ gT := gT_at 264 (by decide +kernel) rfl
theorem wd_265 : Cond.static yX2_isDigit ∈ gT := gT_at 265 (by decide +kernel) rfl
theorem wd_266 : Cond.code yX2_isDigit cX2_isDigit 1 (some .boolean) ∈ gT := gT_at 266 (by decide +kernel) rfl
theorem wd_267 : Cond.methodLink RX2 27 yX2_fitsTail ∈ gT := gT_at 267 (by decide +kernel) rfl
theorem wd_269 : Cond.instanceMethod yX2_fitsTail ∈ gT := gT_at 269 (by decide +kernel) rfl
theorem wd_270 : Cond.code yX2_fitsTail cX2_fitsTail 3 (some .boolean) ∈ gT := gT_at 270 (by decide +kernel) rfl
theorem wd_271 : Cond.arrayClass .byte ∈ gT := gT_at 271 (by decide +kernel) rfl
theorem wd_272 : Cond.methodLink RL 27 yX8_sea ∈ gT := gT_at 272 (by decide +kernel) rfl
theorem wd_273 : Cond.instanceMethod yX8_sea ∈ gT := gT_at 273 (by decide +kernel) rfl
theorem wd_274 : Cond.selects RX8 yX8_sea yX8_sea ∈ gT := gT_at 274 (by decide +kernel) rfl
theorem wd_275 : Cond.code yX8_sea cX8_sea 3 (some .int) ∈ gT := gT_at 275 (by decide +kernel) rfl
theorem wd_276 : Cond.methodLink RX8 72 yX2_isWhole ∈ gT := gT_at 276 (by decide +kernel) rfl
theorem wd_277 : Cond.instanceMethod yX2_isWhole ∈ gT := gT_at 277 (by decide +kernel) rfl
theorem wd_278 : Cond.selects RX2 yX2_isWhole yX2_isWhole ∈ gT := gT_at 278 (by decide +kernel) rfl
theorem wd_279 : Cond.code yX2_isWhole cX2_isWhole 2 (some .boolean) ∈ gT := gT_at 279 (by decide +kernel) rfl
theorem wd_280 : Cond.methodLink RX2 31 yX2_firstWrong ∈ gT := gT_at 280 (by decide +kernel) rfl
theorem wd_281 : Cond.methodLink RX8 76 yX2_headEnd ∈ gT := gT_at 281 (by decide +kernel) rfl
theorem wd_282 : Cond.methodLink RX8 79 Lib.Math.min.name ∈ gT := gT_at 282 (by decide +kernel) rfl
theorem wd_283 : Cond.methodLink RX8 85 yX7_clear ∈ gT := gT_at 283 (by decide +kernel) rfl
theorem wd_284 : Cond.instanceMethod yX7_clear ∈ gT := gT_at 284 (by decide +kernel) rfl
theorem wd_285 : Cond.selects RX7 yX7_clear yX7_clear ∈ gT := gT_at 285 (by decide +kernel) rfl
theorem wd_286 : Cond.code yX7_clear cX7_clear 1 none ∈ gT := gT_at 286 (by decide +kernel) rfl
theorem wd_287 : Cond.methodLink RX8 88 yX2_kindAt ∈ gT := gT_at 287 (by decide +kernel) rfl
theorem wd_288 : Cond.methodLink RX8 92 yX8_newNeedle ∈ gT := gT_at 288 (by decide +kernel) rfl
theorem wd_289 : Cond.static yX8_newNeedle ∈ gT := gT_at 289 (by decide +kernel) rfl
theorem wd_290 : Cond.code yX8_newNeedle cX8_newNeedle 1 (some (.object "HomeNeedles$Needle")) ∈ gT := gT_at 290 (by decide +kernel) rfl
theorem wd_291 : Cond.classLink RX8 268 RX3 ∈ gT := gT_at 291 (by decide +kernel) rfl
theorem wd_292 : Cond.instantiable RX3 0 ∈ gT := gT_at 292 (by decide +kernel) rfl
theorem wd_294 : Cond.instanceMethod yX3_init ∈ gT := gT_at 294 (by decide +kernel) rfl
theorem wd_295 : Cond.code yX3_init cX3_init 1 none ∈ gT := gT_at 295 (by decide +kernel) rfl
theorem wd_298 : Cond.classLink RX8 271 RX0 ∈ gT := gT_at 298 (by decide +kernel) rfl
theorem wd_299 : Cond.instantiable RX0 0 ∈ gT := gT_at 299 (by decide +kernel) rfl
theorem wd_301 : Cond.instanceMethod yX0_init ∈ gT := gT_at 301 (by decide +kernel) rfl
theorem wd_302 : Cond.code yX0_init cX0_init 1 none ∈ gT := gT_at 302 (by decide +kernel) rfl
theorem wd_305 : Cond.classLink RX8 274 RX6 ∈ gT := gT_at 305 (by decide +kernel) rfl
theorem wd_306 : Cond.instantiable RX6 0 ∈ gT := gT_at 306 (by decide +kernel) rfl
theorem wd_308 : Cond.instanceMethod yX6_init ∈ gT := gT_at 308 (by decide +kernel) rfl
theorem wd_309 : Cond.code yX6_init cX6_init 1 none ∈ gT := gT_at 309 (by decide +kernel) rfl
theorem wd_312 : Cond.classLink RX8 277 RX4 ∈ gT := gT_at 312 (by decide +kernel) rfl
theorem wd_313 : Cond.instantiable RX4 0 ∈ gT := gT_at 313 (by decide +kernel) rfl
theorem wd_315 : Cond.instanceMethod yX4_init ∈ gT := gT_at 315 (by decide +kernel) rfl
theorem wd_316 : Cond.code yX4_init cX4_init 1 none ∈ gT := gT_at 316 (by decide +kernel) rfl
theorem wd_319 : Cond.methodLink RX8 99 yX2_placeAt ∈ gT := gT_at 319 (by decide +kernel) rfl
theorem wd_320 : Cond.instanceMethod yX2_placeAt ∈ gT := gT_at 320 (by decide +kernel) rfl
theorem wd_321 : Cond.selects RX2 yX2_placeAt yX2_placeAt ∈ gT := gT_at 321 (by decide +kernel) rfl
theorem wd_322 : Cond.code yX2_placeAt cX2_placeAt 2 (some .int) ∈ gT := gT_at 322 (by decide +kernel) rfl
theorem wd_323 : Cond.methodLink RX8 105 yX7_setIsland ∈ gT := gT_at 323 (by decide +kernel) rfl
theorem wd_324 : Cond.instanceMethod yX7_setIsland ∈ gT := gT_at 324 (by decide +kernel) rfl
theorem wd_325 : Cond.selects RX7 yX7_setIsland yX7_setIsland ∈ gT := gT_at 325 (by decide +kernel) rfl
theorem wd_326 : Cond.code yX7_setIsland cX7_setIsland 5 none ∈ gT := gT_at 326 (by decide +kernel) rfl
theorem wd_327 : Cond.constantLong RX7 47 (-1 : Int64) ∈ gT := gT_at 327 (by decide +kernel) rfl
theorem wd_328 : Cond.methodLink RL 31 yX8_needle ∈ gT := gT_at 328 (by decide +kernel) rfl
theorem wd_329 : Cond.instanceMethod yX8_needle ∈ gT := gT_at 329 (by decide +kernel) rfl
theorem wd_330 : Cond.selects RX8 yX8_needle yX8_needle ∈ gT := gT_at 330 (by decide +kernel) rfl
theorem wd_331 : Cond.code yX8_needle cX8_needle 3 (some .int) ∈ gT := gT_at 331 (by decide +kernel) rfl
theorem wd_332 : Cond.methodLink RX8 109 yX8_isNeedle ∈ gT := gT_at 332 (by decide +kernel) rfl
theorem wd_334 : Cond.instanceMethod yX8_isNeedle ∈ gT := gT_at 334 (by decide +kernel) rfl
theorem wd_335 : Cond.code yX8_isNeedle cX8_isNeedle 2 (some .boolean) ∈ gT := gT_at 335 (by decide +kernel) rfl
theorem wd_336 : Cond.methodLink RX8 113 yX1_kind ∈ gT := gT_at 336 (by decide +kernel) rfl
theorem wd_337 : Cond.instanceMethod yX1_kind ∈ gT := gT_at 337 (by decide +kernel) rfl
theorem wd_338 : Cond.selects RX1 yX1_kind yX1_kind ∈ gT := gT_at 338 (by decide +kernel) rfl
theorem wd_339 : Cond.sameMethod "HomeNeedles$Needle" "HomeNeedles$Needle" "kind" "()I" ∈ gT := gT_at 339 (by decide +kernel) rfl
theorem wd_340 : Cond.selects RX0 yX1_kind yX0_kind ∈ gT := gT_at 340 (by decide +kernel) rfl
theorem wd_341 : Cond.instanceMethod yX0_kind ∈ gT := gT_at 341 (by decide +kernel) rfl
theorem wd_342 : Cond.code yX0_kind cX0_kind 1 (some .int) ∈ gT := gT_at 342 (by decide +kernel) rfl
theorem wd_343 : Cond.selects RX3 yX1_kind yX3_kind ∈ gT := gT_at 343 (by decide +kernel) rfl
theorem wd_344 : Cond.instanceMethod yX3_kind ∈ gT := gT_at 344 (by decide +kernel) rfl
theorem wd_345 : Cond.code yX3_kind cX3_kind 1 (some .int) ∈ gT := gT_at 345 (by decide +kernel) rfl
theorem wd_346 : Cond.selects RX4 yX1_kind yX4_kind ∈ gT := gT_at 346 (by decide +kernel) rfl
theorem wd_347 : Cond.instanceMethod yX4_kind ∈ gT := gT_at 347 (by decide +kernel) rfl
theorem wd_348 : Cond.code yX4_kind cX4_kind 1 (some .int) ∈ gT := gT_at 348 (by decide +kernel) rfl
theorem wd_349 : Cond.selects RX6 yX1_kind yX6_kind ∈ gT := gT_at 349 (by decide +kernel) rfl
theorem wd_350 : Cond.instanceMethod yX6_kind ∈ gT := gT_at 350 (by decide +kernel) rfl
theorem wd_351 : Cond.code yX6_kind cX6_kind 1 (some .int) ∈ gT := gT_at 351 (by decide +kernel) rfl
theorem wd_352 : Cond.code yX1_kind cX1_kind 1 (some .int) ∈ gT := gT_at 352 (by decide +kernel) rfl
theorem wd_353 : Cond.methodLink RX8 116 yX8_pointing ∈ gT := gT_at 353 (by decide +kernel) rfl
theorem wd_355 : Cond.instanceMethod yX8_pointing ∈ gT := gT_at 355 (by decide +kernel) rfl
theorem wd_356 : Cond.code yX8_pointing cX8_pointing 3 (some .int) ∈ gT := gT_at 356 (by decide +kernel) rfl
theorem wd_357 : Cond.methodLink RX8 226 yX8_pointingHome ∈ gT := gT_at 357 (by decide +kernel) rfl
theorem wd_358 : Cond.static yX8_pointingHome ∈ gT := gT_at 358 (by decide +kernel) rfl
theorem wd_359 : Cond.code yX8_pointingHome cX8_pointingHome 5 (some .int) ∈ gT := gT_at 359 (by decide +kernel) rfl
theorem wd_360 : Cond.methodLink RX8 230 yX8_nearer ∈ gT := gT_at 360 (by decide +kernel) rfl
theorem wd_361 : Cond.static yX8_nearer ∈ gT := gT_at 361 (by decide +kernel) rfl
theorem wd_362 : Cond.code yX8_nearer cX8_nearer 2 (some .int) ∈ gT := gT_at 362 (by decide +kernel) rfl
theorem wd_363 : Cond.methodLink RX8 233 yX1_turn ∈ gT := gT_at 363 (by decide +kernel) rfl
theorem wd_364 : Cond.instanceMethod yX1_turn ∈ gT := gT_at 364 (by decide +kernel) rfl
theorem wd_365 : Cond.selects RX1 yX1_turn yX1_turn ∈ gT := gT_at 365 (by decide +kernel) rfl
theorem wd_366 : Cond.sameMethod "HomeNeedles$Needle" "HomeNeedles$Needle" "turn" "(II)I" ∈ gT := gT_at 366 (by decide +kernel) rfl
theorem wd_367 : Cond.selects RX0 yX1_turn yX0_turn ∈ gT := gT_at 367 (by decide +kernel) rfl
theorem wd_368 : Cond.instanceMethod yX0_turn ∈ gT := gT_at 368 (by decide +kernel) rfl
theorem wd_369 : Cond.code yX0_turn cX0_turn 3 (some .int) ∈ gT := gT_at 369 (by decide +kernel) rfl
theorem wd_370 : Cond.selects RX3 yX1_turn yX3_turn ∈ gT := gT_at 370 (by decide +kernel) rfl
theorem wd_371 : Cond.instanceMethod yX3_turn ∈ gT := gT_at 371 (by decide +kernel) rfl
theorem wd_372 : Cond.code yX3_turn cX3_turn 3 (some .int) ∈ gT := gT_at 372 (by decide +kernel) rfl
theorem wd_373 : Cond.selects RX4 yX1_turn yX4_turn ∈ gT := gT_at 373 (by decide +kernel) rfl
theorem wd_374 : Cond.instanceMethod yX4_turn ∈ gT := gT_at 374 (by decide +kernel) rfl
theorem wd_375 : Cond.code yX4_turn cX4_turn 3 (some .int) ∈ gT := gT_at 375 (by decide +kernel) rfl
theorem wd_376 : Cond.selects RX6 yX1_turn yX6_turn ∈ gT := gT_at 376 (by decide +kernel) rfl
theorem wd_377 : Cond.instanceMethod yX6_turn ∈ gT := gT_at 377 (by decide +kernel) rfl
theorem wd_378 : Cond.code yX6_turn cX6_turn 3 (some .int) ∈ gT := gT_at 378 (by decide +kernel) rfl
theorem wd_379 : Cond.code yX1_turn cX1_turn 3 (some .int) ∈ gT := gT_at 379 (by decide +kernel) rfl
theorem wd_380 : Cond.methodLink RX8 119 yX8_trailOf ∈ gT := gT_at 380 (by decide +kernel) rfl
theorem wd_382 : Cond.instanceMethod yX8_trailOf ∈ gT := gT_at 382 (by decide +kernel) rfl
theorem wd_383 : Cond.code yX8_trailOf cX8_trailOf 4 (some (.object "HomeNeedles$Trail")) ∈ gT := gT_at 383 (by decide +kernel) rfl
theorem wd_384 : Cond.methodLink RX8 182 yX7_placeBehind ∈ gT := gT_at 384 (by decide +kernel) rfl
theorem wd_385 : Cond.instanceMethod yX7_placeBehind ∈ gT := gT_at 385 (by decide +kernel) rfl
theorem wd_386 : Cond.selects RX7 yX7_placeBehind yX7_placeBehind ∈ gT := gT_at 386 (by decide +kernel) rfl
theorem wd_387 : Cond.code yX7_placeBehind cX7_placeBehind 6 (some .int) ∈ gT := gT_at 387 (by decide +kernel) rfl
theorem wd_388 : Cond.methodLink RX7 49 yX7_isIsland ∈ gT := gT_at 388 (by decide +kernel) rfl
theorem wd_389 : Cond.instanceMethod yX7_isIsland ∈ gT := gT_at 389 (by decide +kernel) rfl
theorem wd_390 : Cond.selects RX7 yX7_isIsland yX7_isIsland ∈ gT := gT_at 390 (by decide +kernel) rfl
theorem wd_391 : Cond.code yX7_isIsland cX7_isIsland 2 (some .boolean) ∈ gT := gT_at 391 (by decide +kernel) rfl
theorem wd_392 : Cond.methodLink RX8 129 yX8_fewestSteps ∈ gT := gT_at 392 (by decide +kernel) rfl
theorem wd_394 : Cond.instanceMethod yX8_fewestSteps ∈ gT := gT_at 394 (by decide +kernel) rfl
theorem wd_395 : Cond.code yX8_fewestSteps cX8_fewestSteps 7 (some .int) ∈ gT := gT_at 395 (by decide +kernel) rfl
theorem wd_396 : Cond.methodLink RX8 236 yJ7_fill_53178 ∈ gT := gT_at 396 (by decide +kernel) rfl
theorem wd_397 : Cond.static yJ7_fill_53178 ∈ gT := gT_at 397 (by decide +kernel) rfl
theorem wd_398 : Cond.code yJ7_fill_53178 cJ7_fill_53178 4 none ∈ gT := gT_at 398 (by decide +kernel) rfl
theorem wd_399 : Cond.methodLink RX8 132 yX8_possibleHomes ∈ gT := gT_at 399 (by decide +kernel) rfl
theorem wd_401 : Cond.instanceMethod yX8_possibleHomes ∈ gT := gT_at 401 (by decide +kernel) rfl
theorem wd_402 : Cond.code yX8_possibleHomes cX8_possibleHomes 5 (some .long) ∈ gT := gT_at 402 (by decide +kernel) rfl
theorem wd_403 : Cond.methodLink RX8 242 yX8_canBeHome ∈ gT := gT_at 403 (by decide +kernel) rfl
theorem wd_405 : Cond.instanceMethod yX8_canBeHome ∈ gT := gT_at 405 (by decide +kernel) rfl
theorem wd_406 : Cond.code yX8_canBeHome cX8_canBeHome 4 (some .boolean) ∈ gT := gT_at 406 (by decide +kernel) rfl
theorem wd_407 : Cond.methodLink RX8 136 yJ13_bitCount_95d88 ∈ gT := gT_at 407 (by decide +kernel) rfl
theorem wd_408 : Cond.static yJ13_bitCount_95d88 ∈ gT := gT_at 408 (by decide +kernel) rfl
theorem wd_409 : Cond.code yJ13_bitCount_95d88 cJ13_bitCount_95d88 2 (some .int) ∈ gT := gT_at 409 (by decide +kernel) rfl
theorem wd_410 : Cond.constantLong RJ13 314 (6148914691236517205 : Int64) ∈ gT := gT_at 410 (by decide +kernel) rfl
theorem wd_411 : Cond.constantLong RJ13 316 (3689348814741910323 : Int64) ∈ gT := gT_at 411 (by decide +kernel) rfl
theorem wd_412 : Cond.constantLong RJ13 318 (1085102592571150095 : Int64) ∈ gT := gT_at 412 (by decide +kernel) rfl
theorem wd_413 : Cond.methodLink RX8 142 yX8_leastPlace ∈ gT := gT_at 413 (by decide +kernel) rfl
theorem wd_414 : Cond.static yX8_leastPlace ∈ gT := gT_at 414 (by decide +kernel) rfl
theorem wd_415 : Cond.code yX8_leastPlace cX8_leastPlace 3 (some .int) ∈ gT := gT_at 415 (by decide +kernel) rfl
theorem wd_416 : Cond.methodLink RX8 145 yX8_bestLook ∈ gT := gT_at 416 (by decide +kernel) rfl
theorem wd_418 : Cond.instanceMethod yX8_bestLook ∈ gT := gT_at 418 (by decide +kernel) rfl
theorem wd_419 : Cond.code yX8_bestLook cX8_bestLook 8 (some .int) ∈ gT := gT_at 419 (by decide +kernel) rfl
theorem wd_420 : Cond.methodLink RX8 255 yX8_leftAtWorst ∈ gT := gT_at 420 (by decide +kernel) rfl
theorem wd_422 : Cond.instanceMethod yX8_leftAtWorst ∈ gT := gT_at 422 (by decide +kernel) rfl
theorem wd_423 : Cond.code yX8_leftAtWorst cX8_leftAtWorst 8 (some .int) ∈ gT := gT_at 423 (by decide +kernel) rfl
theorem wd_424 : Cond.methodLink RX8 259 Lib.Math.max.name ∈ gT := gT_at 424 (by decide +kernel) rfl
theorem wd_425 : Cond.methodLink RL 36 yX8_as ∈ gT := gT_at 425 (by decide +kernel) rfl
theorem wd_426 : Cond.instanceMethod yX8_as ∈ gT := gT_at 426 (by decide +kernel) rfl
theorem wd_427 : Cond.selects RX8 yX8_as yX8_as ∈ gT := gT_at 427 (by decide +kernel) rfl
theorem wd_428 : Cond.code yX8_as cX8_as 3 (some .int) ∈ gT := gT_at 428 (by decide +kernel) rfl
theorem wd_429 : Cond.methodLink RX8 149 yX8_isOfKind ∈ gT := gT_at 429 (by decide +kernel) rfl
theorem wd_430 : Cond.static yX8_isOfKind ∈ gT := gT_at 430 (by decide +kernel) rfl
theorem wd_431 : Cond.code yX8_isOfKind cX8_isOfKind 2 (some .boolean) ∈ gT := gT_at 431 (by decide +kernel) rfl
theorem wd_432 : Cond.methodLink RL 40 yX8_points ∈ gT := gT_at 432 (by decide +kernel) rfl
theorem wd_433 : Cond.instanceMethod yX8_points ∈ gT := gT_at 433 (by decide +kernel) rfl
theorem wd_434 : Cond.selects RX8 yX8_points yX8_points ∈ gT := gT_at 434 (by decide +kernel) rfl
theorem wd_435 : Cond.code yX8_points cX8_points 3 (some .int) ∈ gT := gT_at 435 (by decide +kernel) rfl
theorem wd_436 : Cond.methodLink RX8 153 yX8_isPlace ∈ gT := gT_at 436 (by decide +kernel) rfl
theorem wd_437 : Cond.static yX8_isPlace ∈ gT := gT_at 437 (by decide +kernel) rfl
theorem wd_438 : Cond.code yX8_isPlace cX8_isPlace 1 (some .boolean) ∈ gT := gT_at 438 (by decide +kernel) rfl
theorem wd_439 : Cond.methodLink RL 44 yX8_swing ∈ gT := gT_at 439 (by decide +kernel) rfl
theorem wd_440 : Cond.instanceMethod yX8_swing ∈ gT := gT_at 440 (by decide +kernel) rfl
theorem wd_441 : Cond.selects RX8 yX8_swing yX8_swing ∈ gT := gT_at 441 (by decide +kernel) rfl
theorem wd_442 : Cond.code yX8_swing cX8_swing 4 (some .int) ∈ gT := gT_at 442 (by decide +kernel) rfl
theorem wd_443 : Cond.methodLink RL 48 yX8_island ∈ gT := gT_at 443 (by decide +kernel) rfl
theorem wd_444 : Cond.instanceMethod yX8_island ∈ gT := gT_at 444 (by decide +kernel) rfl
end
section
theorem wd_445 : Cond.selects RX8 yX8_island yX8_island ∈ gT := gT_at 445 (by decide +kernel) rfl
theorem wd_446 : Cond.code yX8_island cX8_island 2 (some .int) ∈ gT := gT_at 446 (by decide +kernel) rfl
theorem wd_447 : Cond.methodLink RX8 156 yX8_hasSea ∈ gT := gT_at 447 (by decide +kernel) rfl
theorem wd_449 : Cond.instanceMethod yX8_hasSea ∈ gT := gT_at 449 (by decide +kernel) rfl
theorem wd_450 : Cond.code yX8_hasSea cX8_hasSea 1 (some .boolean) ∈ gT := gT_at 450 (by decide +kernel) rfl
theorem wd_451 : Cond.methodLink RX8 159 yX7_isIsland ∈ gT := gT_at 451 (by decide +kernel) rfl
theorem wd_452 : Cond.methodLink RL 52 yX8_raise ∈ gT := gT_at 452 (by decide +kernel) rfl
theorem wd_453 : Cond.instanceMethod yX8_raise ∈ gT := gT_at 453 (by decide +kernel) rfl
theorem wd_454 : Cond.selects RX8 yX8_raise yX8_raise ∈ gT := gT_at 454 (by decide +kernel) rfl
theorem wd_455 : Cond.code yX8_raise cX8_raise 4 (some .int) ∈ gT := gT_at 455 (by decide +kernel) rfl
theorem wd_456 : Cond.methodLink RL 57 yX8_step ∈ gT := gT_at 456 (by decide +kernel) rfl
theorem wd_457 : Cond.instanceMethod yX8_step ∈ gT := gT_at 457 (by decide +kernel) rfl
theorem wd_458 : Cond.selects RX8 yX8_step yX8_step ∈ gT := gT_at 458 (by decide +kernel) rfl
theorem wd_459 : Cond.code yX8_step cX8_step 2 (some .int) ∈ gT := gT_at 459 (by decide +kernel) rfl
theorem wd_460 : Cond.methodLink RX8 162 yX8_isDirection ∈ gT := gT_at 460 (by decide +kernel) rfl
theorem wd_461 : Cond.static yX8_isDirection ∈ gT := gT_at 461 (by decide +kernel) rfl
theorem wd_462 : Cond.code yX8_isDirection cX8_isDirection 1 (some .boolean) ∈ gT := gT_at 462 (by decide +kernel) rfl
theorem wd_463 : Cond.methodLink RX8 165 yX7_move ∈ gT := gT_at 463 (by decide +kernel) rfl
theorem wd_464 : Cond.instanceMethod yX7_move ∈ gT := gT_at 464 (by decide +kernel) rfl
theorem wd_465 : Cond.selects RX7 yX7_move yX7_move ∈ gT := gT_at 465 (by decide +kernel) rfl
theorem wd_466 : Cond.code yX7_move cX7_move 3 (some .int) ∈ gT := gT_at 466 (by decide +kernel) rfl
theorem wd_467 : Cond.methodLink RX7 53 yX7_placeBehind ∈ gT := gT_at 467 (by decide +kernel) rfl
theorem wd_468 : Cond.methodLink RL 61 yX8_follow ∈ gT := gT_at 468 (by decide +kernel) rfl
theorem wd_469 : Cond.instanceMethod yX8_follow ∈ gT := gT_at 469 (by decide +kernel) rfl
theorem wd_470 : Cond.selects RX8 yX8_follow yX8_follow ∈ gT := gT_at 470 (by decide +kernel) rfl
theorem wd_471 : Cond.code yX8_follow cX8_follow 2 (some .int) ∈ gT := gT_at 471 (by decide +kernel) rfl
theorem wd_472 : Cond.methodLink RL 65 yX8_homing ∈ gT := gT_at 472 (by decide +kernel) rfl
theorem wd_473 : Cond.instanceMethod yX8_homing ∈ gT := gT_at 473 (by decide +kernel) rfl
theorem wd_474 : Cond.selects RX8 yX8_homing yX8_homing ∈ gT := gT_at 474 (by decide +kernel) rfl
theorem wd_475 : Cond.code yX8_homing cX8_homing 1 (some .int) ∈ gT := gT_at 475 (by decide +kernel) rfl
theorem wd_476 : Cond.methodLink RX8 168 yX8_homingBits ∈ gT := gT_at 476 (by decide +kernel) rfl
theorem wd_478 : Cond.instanceMethod yX8_homingBits ∈ gT := gT_at 478 (by decide +kernel) rfl
theorem wd_479 : Cond.code yX8_homingBits cX8_homingBits 3 (some .int) ∈ gT := gT_at 479 (by decide +kernel) rfl
theorem wd_480 : Cond.methodLink RL 69 yX8_see ∈ gT := gT_at 480 (by decide +kernel) rfl
theorem wd_481 : Cond.instanceMethod yX8_see ∈ gT := gT_at 481 (by decide +kernel) rfl
theorem wd_482 : Cond.selects RX8 yX8_see yX8_see ∈ gT := gT_at 482 (by decide +kernel) rfl
theorem wd_483 : Cond.code yX8_see cX8_see 4 (some .int) ∈ gT := gT_at 483 (by decide +kernel) rfl
theorem wd_484 : Cond.methodLink RX8 174 yX7_addSeen ∈ gT := gT_at 484 (by decide +kernel) rfl
theorem wd_485 : Cond.instanceMethod yX7_addSeen ∈ gT := gT_at 485 (by decide +kernel) rfl
theorem wd_486 : Cond.selects RX7 yX7_addSeen yX7_addSeen ∈ gT := gT_at 486 (by decide +kernel) rfl
theorem wd_487 : Cond.code yX7_addSeen cX7_addSeen 4 none ∈ gT := gT_at 487 (by decide +kernel) rfl
theorem wd_488 : Cond.methodLink RL 74 yX8_forget ∈ gT := gT_at 488 (by decide +kernel) rfl
theorem wd_489 : Cond.instanceMethod yX8_forget ∈ gT := gT_at 489 (by decide +kernel) rfl
theorem wd_490 : Cond.selects RX8 yX8_forget yX8_forget ∈ gT := gT_at 490 (by decide +kernel) rfl
theorem wd_491 : Cond.code yX8_forget cX8_forget 2 (some .int) ∈ gT := gT_at 491 (by decide +kernel) rfl
theorem wd_492 : Cond.methodLink RL 78 yX8_storms ∈ gT := gT_at 492 (by decide +kernel) rfl
theorem wd_493 : Cond.instanceMethod yX8_storms ∈ gT := gT_at 493 (by decide +kernel) rfl
theorem wd_494 : Cond.selects RX8 yX8_storms yX8_storms ∈ gT := gT_at 494 (by decide +kernel) rfl
theorem wd_495 : Cond.code yX8_storms cX8_storms 8 (some .int) ∈ gT := gT_at 495 (by decide +kernel) rfl
theorem wd_496 : Cond.methodLink RX8 178 yX8_seedBehind ∈ gT := gT_at 496 (by decide +kernel) rfl
theorem wd_497 : Cond.static yX8_seedBehind ∈ gT := gT_at 497 (by decide +kernel) rfl
theorem wd_498 : Cond.code yX8_seedBehind cX8_seedBehind 1 (some .int) ∈ gT := gT_at 498 (by decide +kernel) rfl
theorem wd_499 : Cond.constantLong RX8 262 (1103515245 : Int64) ∈ gT := gT_at 499 (by decide +kernel) rfl
theorem wd_500 : Cond.constantLong RX8 264 (12345 : Int64) ∈ gT := gT_at 500 (by decide +kernel) rfl
theorem wd_501 : Cond.constantLong RX8 266 (2147483648 : Int64) ∈ gT := gT_at 501 (by decide +kernel) rfl
theorem wd_502 : Cond.constant RX8 181 (65536 : Int32) ∈ gT := gT_at 502 (by decide +kernel) rfl
theorem wd_503 : Cond.methodLink RX8 185 yX8_needlesDownAt ∈ gT := gT_at 503 (by decide +kernel) rfl
theorem wd_505 : Cond.instanceMethod yX8_needlesDownAt ∈ gT := gT_at 505 (by decide +kernel) rfl
theorem wd_506 : Cond.code yX8_needlesDownAt cX8_needlesDownAt 4 (some .int) ∈ gT := gT_at 506 (by decide +kernel) rfl
theorem wd_507 : Cond.methodLink RL 82 yX8_image ∈ gT := gT_at 507 (by decide +kernel) rfl
theorem wd_508 : Cond.instanceMethod yX8_image ∈ gT := gT_at 508 (by decide +kernel) rfl
theorem wd_509 : Cond.selects RX8 yX8_image yX8_image ∈ gT := gT_at 509 (by decide +kernel) rfl
theorem wd_510 : Cond.code yX8_image cX8_image 1 (some .int) ∈ gT := gT_at 510 (by decide +kernel) rfl
theorem wd_511 : Cond.methodLink RX8 188 yX7_copyFrom ∈ gT := gT_at 511 (by decide +kernel) rfl
theorem wd_512 : Cond.instanceMethod yX7_copyFrom ∈ gT := gT_at 512 (by decide +kernel) rfl
theorem wd_513 : Cond.selects RX7 yX7_copyFrom yX7_copyFrom ∈ gT := gT_at 513 (by decide +kernel) rfl
theorem wd_514 : Cond.code yX7_copyFrom cX7_copyFrom 2 none ∈ gT := gT_at 514 (by decide +kernel) rfl
theorem wd_515 : Cond.methodLink RX7 41 arraycopyName ∈ gT := gT_at 515 (by decide +kernel) rfl
theorem wd_516 : Cond.static arraycopyName ∈ gT := gT_at 516 (by decide +kernel) rfl
theorem wd_517 : Cond.native arraycopyName ∈ gT := gT_at 517 (by decide +kernel) rfl
theorem wd_518 : Cond.methodLink RL 86 yX8_restore ∈ gT := gT_at 518 (by decide +kernel) rfl
theorem wd_519 : Cond.instanceMethod yX8_restore ∈ gT := gT_at 519 (by decide +kernel) rfl
theorem wd_520 : Cond.selects RX8 yX8_restore yX8_restore ∈ gT := gT_at 520 (by decide +kernel) rfl
theorem wd_521 : Cond.code yX8_restore cX8_restore 1 (some .int) ∈ gT := gT_at 521 (by decide +kernel) rfl
theorem wd_522 : Cond.methodLink RL 90 yX8_count ∈ gT := gT_at 522 (by decide +kernel) rfl
theorem wd_523 : Cond.instanceMethod yX8_count ∈ gT := gT_at 523 (by decide +kernel) rfl
theorem wd_524 : Cond.selects RX8 yX8_count yX8_count ∈ gT := gT_at 524 (by decide +kernel) rfl
theorem wd_525 : Cond.code yX8_count cX8_count 2 (some .int) ∈ gT := gT_at 525 (by decide +kernel) rfl
theorem wd_526 : Cond.methodLink RL 94 yX8_digest ∈ gT := gT_at 526 (by decide +kernel) rfl
theorem wd_527 : Cond.instanceMethod yX8_digest ∈ gT := gT_at 527 (by decide +kernel) rfl
theorem wd_528 : Cond.selects RX8 yX8_digest yX8_digest ∈ gT := gT_at 528 (by decide +kernel) rfl
theorem wd_529 : Cond.code yX8_digest cX8_digest 4 (some .long) ∈ gT := gT_at 529 (by decide +kernel) rfl
theorem wd_530 : Cond.constantLong RX8 200 (1091 : Int64) ∈ gT := gT_at 530 (by decide +kernel) rfl
theorem wd_531 : Cond.methodLink RX8 202 yX8_withNeedle ∈ gT := gT_at 531 (by decide +kernel) rfl
theorem wd_533 : Cond.instanceMethod yX8_withNeedle ∈ gT := gT_at 533 (by decide +kernel) rfl
theorem wd_534 : Cond.code yX8_withNeedle cX8_withNeedle 7 (some .long) ∈ gT := gT_at 534 (by decide +kernel) rfl
theorem wd_535 : Cond.methodLink RX8 223 yX8_needle ∈ gT := gT_at 535 (by decide +kernel) rfl
theorem wd_536 : Cond.methodLink RX8 214 yX8_with ∈ gT := gT_at 536 (by decide +kernel) rfl
theorem wd_537 : Cond.static yX8_with ∈ gT := gT_at 537 (by decide +kernel) rfl
theorem wd_538 : Cond.code yX8_with cX8_with 4 (some .long) ∈ gT := gT_at 538 (by decide +kernel) rfl
theorem wd_539 : Cond.constantLong RX8 221 (31 : Int64) ∈ gT := gT_at 539 (by decide +kernel) rfl
theorem wd_540 : Cond.methodLink RX8 206 yX8_withSea ∈ gT := gT_at 540 (by decide +kernel) rfl
theorem wd_542 : Cond.instanceMethod yX8_withSea ∈ gT := gT_at 542 (by decide +kernel) rfl
theorem wd_543 : Cond.code yX8_withSea cX8_withSea 6 (some .long) ∈ gT := gT_at 543 (by decide +kernel) rfl
theorem wd_544 : Cond.methodLink RX8 218 yX8_count ∈ gT := gT_at 544 (by decide +kernel) rfl
theorem wd_545 : Cond.classLink RL 10 RX9 ∈ gT := gT_at 545 (by decide +kernel) rfl
theorem wd_546 : Cond.instantiable RX9 26 ∈ gT := gT_at 546 (by decide +kernel) rfl
theorem wd_547 : Cond.methodLink RL 12 yX9_init ∈ gT := gT_at 547 (by decide +kernel) rfl
theorem wd_548 : Cond.instanceMethod yX9_init ∈ gT := gT_at 548 (by decide +kernel) rfl
theorem wd_549 : Cond.code yX9_init cX9_init 1 none ∈ gT := gT_at 549 (by decide +kernel) rfl
theorem wd_550 : Cond.methodLink RX9 1 objectInit ∈ gT := gT_at 550 (by decide +kernel) rfl
theorem wd_551 : Cond.fieldLink RX9 7 "HomeNeedlesModel" "page" "[I" ∈ gT := gT_at 551 (by decide +kernel) rfl
theorem wd_552 : Cond.fieldLink RX9 47 "HomeNeedlesModel" "pageMany" "I" ∈ gT := gT_at 552 (by decide +kernel) rfl
theorem wd_553 : Cond.fieldLink RX9 54 "HomeNeedlesModel" "endAt" "I" ∈ gT := gT_at 553 (by decide +kernel) rfl
theorem wd_554 : Cond.fieldLink RX9 72 "HomeNeedlesModel" "needles" "I" ∈ gT := gT_at 554 (by decide +kernel) rfl
theorem wd_555 : Cond.fieldLink RX9 78 "HomeNeedlesModel" "place" "I" ∈ gT := gT_at 555 (by decide +kernel) rfl
theorem wd_556 : Cond.fieldLink RX9 81 "HomeNeedlesModel" "stepsNow" "I" ∈ gT := gT_at 556 (by decide +kernel) rfl
theorem wd_557 : Cond.fieldLink RX9 84 "HomeNeedlesModel" "ledOn" "I" ∈ gT := gT_at 557 (by decide +kernel) rfl
theorem wd_558 : Cond.fieldLink RX9 90 "HomeNeedlesModel" "seasRead" "I" ∈ gT := gT_at 558 (by decide +kernel) rfl
theorem wd_559 : Cond.fieldLink RX9 13 "HomeNeedlesModel" "rows" "[I" ∈ gT := gT_at 559 (by decide +kernel) rfl
theorem wd_560 : Cond.fieldLink RX9 16 "HomeNeedlesModel" "islands" "[I" ∈ gT := gT_at 560 (by decide +kernel) rfl
theorem wd_561 : Cond.fieldLink RX9 112 "HomeNeedlesModel" "followEnd" "I" ∈ gT := gT_at 561 (by decide +kernel) rfl
theorem wd_562 : Cond.fieldLink RX9 115 "HomeNeedlesModel" "followSteps" "I" ∈ gT := gT_at 562 (by decide +kernel) rfl
theorem wd_563 : Cond.fieldLink RX9 19 "HomeNeedlesModel" "far" "[I" ∈ gT := gT_at 563 (by decide +kernel) rfl
theorem wd_564 : Cond.fieldLink RX9 87 "HomeNeedlesModel" "seenMany" "I" ∈ gT := gT_at 564 (by decide +kernel) rfl
theorem wd_565 : Cond.fieldLink RX9 22 "HomeNeedlesModel" "sights" "[I" ∈ gT := gT_at 565 (by decide +kernel) rfl
theorem wd_566 : Cond.fieldLink RX9 25 "HomeNeedlesModel" "parts" "[I" ∈ gT := gT_at 566 (by decide +kernel) rfl
theorem wd_567 : Cond.fieldLink RX9 165 "HomeNeedlesModel" "seedNow" "I" ∈ gT := gT_at 567 (by decide +kernel) rfl
theorem wd_568 : Cond.fieldLink RX9 37 "HomeNeedlesModel" "keptSea" "I" ∈ gT := gT_at 568 (by decide +kernel) rfl
theorem wd_569 : Cond.fieldLink RX9 187 "HomeNeedlesModel" "keptPlace" "I" ∈ gT := gT_at 569 (by decide +kernel) rfl
theorem wd_570 : Cond.fieldLink RX9 190 "HomeNeedlesModel" "keptSteps" "I" ∈ gT := gT_at 570 (by decide +kernel) rfl
theorem wd_571 : Cond.fieldLink RX9 193 "HomeNeedlesModel" "keptLed" "I" ∈ gT := gT_at 571 (by decide +kernel) rfl
theorem wd_572 : Cond.fieldLink RX9 196 "HomeNeedlesModel" "keptSeen" "I" ∈ gT := gT_at 572 (by decide +kernel) rfl
theorem wd_573 : Cond.fieldLink RX9 28 "HomeNeedlesModel" "keptRows" "[I" ∈ gT := gT_at 573 (by decide +kernel) rfl
theorem wd_574 : Cond.fieldLink RX9 31 "HomeNeedlesModel" "keptIslands" "[I" ∈ gT := gT_at 574 (by decide +kernel) rfl
theorem wd_575 : Cond.fieldLink RX9 34 "HomeNeedlesModel" "keptSights" "[I" ∈ gT := gT_at 575 (by decide +kernel) rfl
theorem wd_576 : Cond.fieldLink RX9 207 "HomeNeedlesModel" "hash" "J" ∈ gT := gT_at 576 (by decide +kernel) rfl
theorem wd_577 : Cond.laysFinal RX9 "HomeNeedlesModel" "page" "[I" ∈ gT := gT_at 577 (by decide +kernel) rfl
theorem wd_579 : Cond.lays RX9 "HomeNeedlesModel" "pageMany" "I" ∈ gT := gT_at 579 (by decide +kernel) rfl
theorem wd_581 : Cond.lays RX9 "HomeNeedlesModel" "endAt" "I" ∈ gT := gT_at 581 (by decide +kernel) rfl
theorem wd_583 : Cond.lays RX9 "HomeNeedlesModel" "needles" "I" ∈ gT := gT_at 583 (by decide +kernel) rfl
theorem wd_585 : Cond.lays RX9 "HomeNeedlesModel" "place" "I" ∈ gT := gT_at 585 (by decide +kernel) rfl
theorem wd_587 : Cond.lays RX9 "HomeNeedlesModel" "stepsNow" "I" ∈ gT := gT_at 587 (by decide +kernel) rfl
theorem wd_589 : Cond.lays RX9 "HomeNeedlesModel" "ledOn" "I" ∈ gT := gT_at 589 (by decide +kernel) rfl
theorem wd_591 : Cond.lays RX9 "HomeNeedlesModel" "seasRead" "I" ∈ gT := gT_at 591 (by decide +kernel) rfl
theorem wd_593 : Cond.laysFinal RX9 "HomeNeedlesModel" "rows" "[I" ∈ gT := gT_at 593 (by decide +kernel) rfl
theorem wd_595 : Cond.laysFinal RX9 "HomeNeedlesModel" "islands" "[I" ∈ gT := gT_at 595 (by decide +kernel) rfl
theorem wd_597 : Cond.lays RX9 "HomeNeedlesModel" "followEnd" "I" ∈ gT := gT_at 597 (by decide +kernel) rfl
theorem wd_599 : Cond.lays RX9 "HomeNeedlesModel" "followSteps" "I" ∈ gT := gT_at 599 (by decide +kernel) rfl
theorem wd_601 : Cond.laysFinal RX9 "HomeNeedlesModel" "far" "[I" ∈ gT := gT_at 601 (by decide +kernel) rfl
theorem wd_603 : Cond.lays RX9 "HomeNeedlesModel" "seenMany" "I" ∈ gT := gT_at 603 (by decide +kernel) rfl
theorem wd_605 : Cond.laysFinal RX9 "HomeNeedlesModel" "sights" "[I" ∈ gT := gT_at 605 (by decide +kernel) rfl
theorem wd_607 : Cond.laysFinal RX9 "HomeNeedlesModel" "parts" "[I" ∈ gT := gT_at 607 (by decide +kernel) rfl
theorem wd_609 : Cond.lays RX9 "HomeNeedlesModel" "seedNow" "I" ∈ gT := gT_at 609 (by decide +kernel) rfl
theorem wd_611 : Cond.lays RX9 "HomeNeedlesModel" "keptSea" "I" ∈ gT := gT_at 611 (by decide +kernel) rfl
theorem wd_613 : Cond.lays RX9 "HomeNeedlesModel" "keptPlace" "I" ∈ gT := gT_at 613 (by decide +kernel) rfl
theorem wd_615 : Cond.lays RX9 "HomeNeedlesModel" "keptSteps" "I" ∈ gT := gT_at 615 (by decide +kernel) rfl
theorem wd_617 : Cond.lays RX9 "HomeNeedlesModel" "keptLed" "I" ∈ gT := gT_at 617 (by decide +kernel) rfl
theorem wd_619 : Cond.lays RX9 "HomeNeedlesModel" "keptSeen" "I" ∈ gT := gT_at 619 (by decide +kernel) rfl
theorem wd_621 : Cond.laysFinal RX9 "HomeNeedlesModel" "keptRows" "[I" ∈ gT := gT_at 621 (by decide +kernel) rfl
theorem wd_623 : Cond.laysFinal RX9 "HomeNeedlesModel" "keptIslands" "[I" ∈ gT := gT_at 623 (by decide +kernel) rfl
theorem wd_625 : Cond.laysFinal RX9 "HomeNeedlesModel" "keptSights" "[I" ∈ gT := gT_at 625 (by decide +kernel) rfl
theorem wd_627 : Cond.lays RX9 "HomeNeedlesModel" "hash" "J" ∈ gT := gT_at 627 (by decide +kernel) rfl
theorem wd_630 : Cond.methodLink RL 17 yX9_letter ∈ gT := gT_at 630 (by decide +kernel) rfl
theorem wd_631 : Cond.instanceMethod yX9_letter ∈ gT := gT_at 631 (by decide +kernel) rfl
theorem wd_632 : Cond.selects RX9 yX9_letter yX9_letter ∈ gT := gT_at 632 (by decide +kernel) rfl
theorem wd_633 : Cond.code yX9_letter cX9_letter 2 (some .int) ∈ gT := gT_at 633 (by decide +kernel) rfl
theorem wd_634 : Cond.constantLong RX9 41 (126 : Int64) ∈ gT := gT_at 634 (by decide +kernel) rfl
theorem wd_635 : Cond.methodLink RX9 43 yX9_in ∈ gT := gT_at 635 (by decide +kernel) rfl
theorem wd_636 : Cond.static yX9_in ∈ gT := gT_at 636 (by decide +kernel) rfl
theorem wd_637 : Cond.code yX9_in cX9_in 6 (some .boolean) ∈ gT := gT_at 637 (by decide +kernel) rfl
theorem wd_638 : Cond.methodLink RL 22 yX9_blank ∈ gT := gT_at 638 (by decide +kernel) rfl
theorem wd_639 : Cond.instanceMethod yX9_blank ∈ gT := gT_at 639 (by decide +kernel) rfl
theorem wd_640 : Cond.selects RX9 yX9_blank yX9_blank ∈ gT := gT_at 640 (by decide +kernel) rfl
theorem wd_641 : Cond.code yX9_blank cX9_blank 2 (some .int) ∈ gT := gT_at 641 (by decide +kernel) rfl
theorem wd_642 : Cond.methodLink RL 26 yX9_fault ∈ gT := gT_at 642 (by decide +kernel) rfl
theorem wd_643 : Cond.instanceMethod yX9_fault ∈ gT := gT_at 643 (by decide +kernel) rfl
theorem wd_644 : Cond.selects RX9 yX9_fault yX9_fault ∈ gT := gT_at 644 (by decide +kernel) rfl
theorem wd_645 : Cond.code yX9_fault cX9_fault 1 (some .int) ∈ gT := gT_at 645 (by decide +kernel) rfl
theorem wd_646 : Cond.methodLink RX9 68 yX9_faultOf ∈ gT := gT_at 646 (by decide +kernel) rfl
theorem wd_648 : Cond.instanceMethod yX9_faultOf ∈ gT := gT_at 648 (by decide +kernel) rfl
theorem wd_649 : Cond.code yX9_faultOf cX9_faultOf 2 (some .int) ∈ gT := gT_at 649 (by decide +kernel) rfl
theorem wd_650 : Cond.methodLink RX9 65 yX9_isGood ∈ gT := gT_at 650 (by decide +kernel) rfl
theorem wd_652 : Cond.instanceMethod yX9_isGood ∈ gT := gT_at 652 (by decide +kernel) rfl
theorem wd_653 : Cond.code yX9_isGood cX9_isGood 3 (some .boolean) ∈ gT := gT_at 653 (by decide +kernel) rfl
theorem wd_654 : Cond.methodLink RX9 57 yX9_isDigit ∈ gT := gT_at 654 (by decide +kernel) rfl
theorem wd_655 : Cond.static yX9_isDigit ∈ gT := gT_at 655 (by decide +kernel) rfl
theorem wd_656 : Cond.code yX9_isDigit cX9_isDigit 1 (some .boolean) ∈ gT := gT_at 656 (by decide +kernel) rfl
theorem wd_657 : Cond.constantLong RX9 50 (48 : Int64) ∈ gT := gT_at 657 (by decide +kernel) rfl
theorem wd_658 : Cond.constantLong RX9 52 (53 : Int64) ∈ gT := gT_at 658 (by decide +kernel) rfl
theorem wd_659 : Cond.methodLink RX9 61 yX9_kindBy ∈ gT := gT_at 659 (by decide +kernel) rfl
theorem wd_660 : Cond.static yX9_kindBy ∈ gT := gT_at 660 (by decide +kernel) rfl
theorem wd_661 : Cond.code yX9_kindBy cX9_kindBy 1 (some .int) ∈ gT := gT_at 661 (by decide +kernel) rfl
theorem wd_662 : Cond.methodLink RL 30 yX9_sea ∈ gT := gT_at 662 (by decide +kernel) rfl
theorem wd_663 : Cond.instanceMethod yX9_sea ∈ gT := gT_at 663 (by decide +kernel) rfl
theorem wd_664 : Cond.selects RX9 yX9_sea yX9_sea ∈ gT := gT_at 664 (by decide +kernel) rfl
theorem wd_665 : Cond.code yX9_sea cX9_sea 2 (some .int) ∈ gT := gT_at 665 (by decide +kernel) rfl
theorem wd_666 : Cond.methodLink RX9 75 yX9_placeAt ∈ gT := gT_at 666 (by decide +kernel) rfl
theorem wd_668 : Cond.instanceMethod yX9_placeAt ∈ gT := gT_at 668 (by decide +kernel) rfl
theorem wd_669 : Cond.code yX9_placeAt cX9_placeAt 2 (some .int) ∈ gT := gT_at 669 (by decide +kernel) rfl
theorem wd_670 : Cond.methodLink RL 35 yX9_needle ∈ gT := gT_at 670 (by decide +kernel) rfl
theorem wd_671 : Cond.instanceMethod yX9_needle ∈ gT := gT_at 671 (by decide +kernel) rfl
theorem wd_672 : Cond.selects RX9 yX9_needle yX9_needle ∈ gT := gT_at 672 (by decide +kernel) rfl
theorem wd_673 : Cond.code yX9_needle cX9_needle 3 (some .int) ∈ gT := gT_at 673 (by decide +kernel) rfl
theorem wd_674 : Cond.methodLink RX9 140 yX9_isNeedle ∈ gT := gT_at 674 (by decide +kernel) rfl
theorem wd_676 : Cond.instanceMethod yX9_isNeedle ∈ gT := gT_at 676 (by decide +kernel) rfl
theorem wd_677 : Cond.code yX9_isNeedle cX9_isNeedle 2 (some .boolean) ∈ gT := gT_at 677 (by decide +kernel) rfl
theorem wd_678 : Cond.methodLink RX9 143 yX9_tell ∈ gT := gT_at 678 (by decide +kernel) rfl
theorem wd_680 : Cond.instanceMethod yX9_tell ∈ gT := gT_at 680 (by decide +kernel) rfl
theorem wd_681 : Cond.code yX9_tell cX9_tell 3 (some .int) ∈ gT := gT_at 681 (by decide +kernel) rfl
theorem wd_682 : Cond.methodLink RX9 118 yX9_pointsOf ∈ gT := gT_at 682 (by decide +kernel) rfl
theorem wd_684 : Cond.instanceMethod yX9_pointsOf ∈ gT := gT_at 684 (by decide +kernel) rfl
theorem wd_685 : Cond.code yX9_pointsOf cX9_pointsOf 3 (some .int) ∈ gT := gT_at 685 (by decide +kernel) rfl
theorem wd_686 : Cond.methodLink RX9 106 yX9_pointsBy ∈ gT := gT_at 686 (by decide +kernel) rfl
theorem wd_687 : Cond.static yX9_pointsBy ∈ gT := gT_at 687 (by decide +kernel) rfl
theorem wd_688 : Cond.code yX9_pointsBy cX9_pointsBy 5 (some .int) ∈ gT := gT_at 688 (by decide +kernel) rfl
theorem wd_689 : Cond.methodLink RX9 99 yX9_signOf ∈ gT := gT_at 689 (by decide +kernel) rfl
theorem wd_690 : Cond.static yX9_signOf ∈ gT := gT_at 690 (by decide +kernel) rfl
theorem wd_691 : Cond.code yX9_signOf cX9_signOf 1 (some .int) ∈ gT := gT_at 691 (by decide +kernel) rfl
theorem wd_692 : Cond.methodLink RX9 102 yX9_directionBy ∈ gT := gT_at 692 (by decide +kernel) rfl
theorem wd_693 : Cond.static yX9_directionBy ∈ gT := gT_at 693 (by decide +kernel) rfl
theorem wd_694 : Cond.code yX9_directionBy cX9_directionBy 2 (some .int) ∈ gT := gT_at 694 (by decide +kernel) rfl
theorem wd_695 : Cond.methodLink RX9 128 yX9_followOf ∈ gT := gT_at 695 (by decide +kernel) rfl
theorem wd_697 : Cond.instanceMethod yX9_followOf ∈ gT := gT_at 697 (by decide +kernel) rfl
theorem wd_698 : Cond.code yX9_followOf cX9_followOf 3 (some .int) ∈ gT := gT_at 698 (by decide +kernel) rfl
theorem wd_699 : Cond.methodLink RX9 124 yX9_layFollow ∈ gT := gT_at 699 (by decide +kernel) rfl
theorem wd_701 : Cond.instanceMethod yX9_layFollow ∈ gT := gT_at 701 (by decide +kernel) rfl
theorem wd_702 : Cond.code yX9_layFollow cX9_layFollow 4 none ∈ gT := gT_at 702 (by decide +kernel) rfl
theorem wd_703 : Cond.methodLink RX9 121 yX9_stepped ∈ gT := gT_at 703 (by decide +kernel) rfl
theorem wd_705 : Cond.instanceMethod yX9_stepped ∈ gT := gT_at 705 (by decide +kernel) rfl
theorem wd_706 : Cond.code yX9_stepped cX9_stepped 6 (some .int) ∈ gT := gT_at 706 (by decide +kernel) rfl
theorem wd_707 : Cond.constantLong RX9 110 (5 : Int64) ∈ gT := gT_at 707 (by decide +kernel) rfl
theorem wd_708 : Cond.methodLink RX9 131 yX9_fewOf ∈ gT := gT_at 708 (by decide +kernel) rfl
theorem wd_710 : Cond.instanceMethod yX9_fewOf ∈ gT := gT_at 710 (by decide +kernel) rfl
theorem wd_711 : Cond.code yX9_fewOf cX9_fewOf 6 (some .int) ∈ gT := gT_at 711 (by decide +kernel) rfl
theorem wd_712 : Cond.methodLink RX9 134 yX9_homesOf ∈ gT := gT_at 712 (by decide +kernel) rfl
theorem wd_714 : Cond.instanceMethod yX9_homesOf ∈ gT := gT_at 714 (by decide +kernel) rfl
theorem wd_715 : Cond.code yX9_homesOf cX9_homesOf 6 (some .int) ∈ gT := gT_at 715 (by decide +kernel) rfl
theorem wd_716 : Cond.methodLink RX9 159 yX9_isHome ∈ gT := gT_at 716 (by decide +kernel) rfl
theorem wd_718 : Cond.instanceMethod yX9_isHome ∈ gT := gT_at 718 (by decide +kernel) rfl
theorem wd_719 : Cond.code yX9_isHome cX9_isHome 6 (some .boolean) ∈ gT := gT_at 719 (by decide +kernel) rfl
theorem wd_720 : Cond.methodLink RX9 137 yX9_lookOf ∈ gT := gT_at 720 (by decide +kernel) rfl
theorem wd_722 : Cond.instanceMethod yX9_lookOf ∈ gT := gT_at 722 (by decide +kernel) rfl
theorem wd_723 : Cond.code yX9_lookOf cX9_lookOf 8 (some .int) ∈ gT := gT_at 723 (by decide +kernel) rfl
theorem wd_724 : Cond.methodLink RL 39 yX9_as ∈ gT := gT_at 724 (by decide +kernel) rfl
theorem wd_725 : Cond.instanceMethod yX9_as ∈ gT := gT_at 725 (by decide +kernel) rfl
theorem wd_726 : Cond.selects RX9 yX9_as yX9_as ∈ gT := gT_at 726 (by decide +kernel) rfl
theorem wd_727 : Cond.code yX9_as cX9_as 5 (some .int) ∈ gT := gT_at 727 (by decide +kernel) rfl
theorem wd_728 : Cond.constantLong RX9 146 (4 : Int64) ∈ gT := gT_at 728 (by decide +kernel) rfl
theorem wd_729 : Cond.methodLink RL 43 yX9_points ∈ gT := gT_at 729 (by decide +kernel) rfl
theorem wd_730 : Cond.instanceMethod yX9_points ∈ gT := gT_at 730 (by decide +kernel) rfl
theorem wd_731 : Cond.selects RX9 yX9_points yX9_points ∈ gT := gT_at 731 (by decide +kernel) rfl
theorem wd_732 : Cond.code yX9_points cX9_points 3 (some .int) ∈ gT := gT_at 732 (by decide +kernel) rfl
theorem wd_733 : Cond.methodLink RX9 148 yX9_isPlace ∈ gT := gT_at 733 (by decide +kernel) rfl
theorem wd_735 : Cond.instanceMethod yX9_isPlace ∈ gT := gT_at 735 (by decide +kernel) rfl
theorem wd_736 : Cond.code yX9_isPlace cX9_isPlace 2 (some .boolean) ∈ gT := gT_at 736 (by decide +kernel) rfl
theorem wd_737 : Cond.methodLink RX9 93 yX9_lacks ∈ gT := gT_at 737 (by decide +kernel) rfl
theorem wd_739 : Cond.instanceMethod yX9_lacks ∈ gT := gT_at 739 (by decide +kernel) rfl
theorem wd_740 : Cond.code yX9_lacks cX9_lacks 1 (some .boolean) ∈ gT := gT_at 740 (by decide +kernel) rfl
theorem wd_741 : Cond.constantLong RX9 97 (35 : Int64) ∈ gT := gT_at 741 (by decide +kernel) rfl
theorem wd_742 : Cond.methodLink RL 47 yX9_swing ∈ gT := gT_at 742 (by decide +kernel) rfl
theorem wd_743 : Cond.instanceMethod yX9_swing ∈ gT := gT_at 743 (by decide +kernel) rfl
theorem wd_744 : Cond.selects RX9 yX9_swing yX9_swing ∈ gT := gT_at 744 (by decide +kernel) rfl
theorem wd_745 : Cond.code yX9_swing cX9_swing 4 (some .int) ∈ gT := gT_at 745 (by decide +kernel) rfl
theorem wd_746 : Cond.methodLink RL 51 yX9_island ∈ gT := gT_at 746 (by decide +kernel) rfl
theorem wd_747 : Cond.instanceMethod yX9_island ∈ gT := gT_at 747 (by decide +kernel) rfl
theorem wd_748 : Cond.selects RX9 yX9_island yX9_island ∈ gT := gT_at 748 (by decide +kernel) rfl
theorem wd_749 : Cond.code yX9_island cX9_island 2 (some .int) ∈ gT := gT_at 749 (by decide +kernel) rfl
theorem wd_750 : Cond.methodLink RL 56 yX9_raise ∈ gT := gT_at 750 (by decide +kernel) rfl
theorem wd_751 : Cond.instanceMethod yX9_raise ∈ gT := gT_at 751 (by decide +kernel) rfl
theorem wd_752 : Cond.selects RX9 yX9_raise yX9_raise ∈ gT := gT_at 752 (by decide +kernel) rfl
theorem wd_753 : Cond.code yX9_raise cX9_raise 4 (some .int) ∈ gT := gT_at 753 (by decide +kernel) rfl
theorem wd_754 : Cond.methodLink RL 60 yX9_step ∈ gT := gT_at 754 (by decide +kernel) rfl
theorem wd_755 : Cond.instanceMethod yX9_step ∈ gT := gT_at 755 (by decide +kernel) rfl
theorem wd_756 : Cond.selects RX9 yX9_step yX9_step ∈ gT := gT_at 756 (by decide +kernel) rfl
theorem wd_757 : Cond.code yX9_step cX9_step 2 (some .int) ∈ gT := gT_at 757 (by decide +kernel) rfl
theorem wd_758 : Cond.constantLong RX9 151 (8 : Int64) ∈ gT := gT_at 758 (by decide +kernel) rfl
theorem wd_759 : Cond.methodLink RX9 153 yX9_go ∈ gT := gT_at 759 (by decide +kernel) rfl
theorem wd_761 : Cond.instanceMethod yX9_go ∈ gT := gT_at 761 (by decide +kernel) rfl
theorem wd_762 : Cond.code yX9_go cX9_go 3 (some .int) ∈ gT := gT_at 762 (by decide +kernel) rfl
theorem wd_763 : Cond.methodLink RL 64 yX9_follow ∈ gT := gT_at 763 (by decide +kernel) rfl
theorem wd_764 : Cond.instanceMethod yX9_follow ∈ gT := gT_at 764 (by decide +kernel) rfl
theorem wd_765 : Cond.selects RX9 yX9_follow yX9_follow ∈ gT := gT_at 765 (by decide +kernel) rfl
theorem wd_766 : Cond.code yX9_follow cX9_follow 2 (some .int) ∈ gT := gT_at 766 (by decide +kernel) rfl
theorem wd_767 : Cond.methodLink RL 68 yX9_homing ∈ gT := gT_at 767 (by decide +kernel) rfl
theorem wd_768 : Cond.instanceMethod yX9_homing ∈ gT := gT_at 768 (by decide +kernel) rfl
theorem wd_769 : Cond.selects RX9 yX9_homing yX9_homing ∈ gT := gT_at 769 (by decide +kernel) rfl
theorem wd_770 : Cond.code yX9_homing cX9_homing 1 (some .int) ∈ gT := gT_at 770 (by decide +kernel) rfl
theorem wd_771 : Cond.methodLink RX9 156 yX9_homingOf ∈ gT := gT_at 771 (by decide +kernel) rfl
theorem wd_773 : Cond.instanceMethod yX9_homingOf ∈ gT := gT_at 773 (by decide +kernel) rfl
theorem wd_774 : Cond.code yX9_homingOf cX9_homingOf 3 (some .int) ∈ gT := gT_at 774 (by decide +kernel) rfl
theorem wd_775 : Cond.methodLink RL 73 yX9_see ∈ gT := gT_at 775 (by decide +kernel) rfl
theorem wd_776 : Cond.instanceMethod yX9_see ∈ gT := gT_at 776 (by decide +kernel) rfl
theorem wd_777 : Cond.selects RX9 yX9_see yX9_see ∈ gT := gT_at 777 (by decide +kernel) rfl
theorem wd_778 : Cond.code yX9_see cX9_see 4 (some .int) ∈ gT := gT_at 778 (by decide +kernel) rfl
theorem wd_779 : Cond.methodLink RL 77 yX9_forget ∈ gT := gT_at 779 (by decide +kernel) rfl
theorem wd_780 : Cond.instanceMethod yX9_forget ∈ gT := gT_at 780 (by decide +kernel) rfl
theorem wd_781 : Cond.selects RX9 yX9_forget yX9_forget ∈ gT := gT_at 781 (by decide +kernel) rfl
theorem wd_782 : Cond.code yX9_forget cX9_forget 2 (some .int) ∈ gT := gT_at 782 (by decide +kernel) rfl
theorem wd_783 : Cond.methodLink RL 81 yX9_storms ∈ gT := gT_at 783 (by decide +kernel) rfl
theorem wd_784 : Cond.instanceMethod yX9_storms ∈ gT := gT_at 784 (by decide +kernel) rfl
theorem wd_785 : Cond.selects RX9 yX9_storms yX9_storms ∈ gT := gT_at 785 (by decide +kernel) rfl
theorem wd_786 : Cond.code yX9_storms cX9_storms 7 (some .int) ∈ gT := gT_at 786 (by decide +kernel) rfl
theorem wd_787 : Cond.constantLong RX9 173 (60 : Int64) ∈ gT := gT_at 787 (by decide +kernel) rfl
theorem wd_788 : Cond.constantLong RX9 175 (2 : Int64) ∈ gT := gT_at 788 (by decide +kernel) rfl
theorem wd_789 : Cond.methodLink RX9 177 yX9_draw ∈ gT := gT_at 789 (by decide +kernel) rfl
theorem wd_791 : Cond.instanceMethod yX9_draw ∈ gT := gT_at 791 (by decide +kernel) rfl
theorem wd_792 : Cond.code yX9_draw cX9_draw 2 (some .int) ∈ gT := gT_at 792 (by decide +kernel) rfl
theorem wd_793 : Cond.constantLong RX9 163 (1103515245 : Int64) ∈ gT := gT_at 793 (by decide +kernel) rfl
theorem wd_794 : Cond.constantLong RX9 168 (12345 : Int64) ∈ gT := gT_at 794 (by decide +kernel) rfl
theorem wd_795 : Cond.constantLong RX9 170 (2147483647 : Int64) ∈ gT := gT_at 795 (by decide +kernel) rfl
theorem wd_796 : Cond.constant RX9 172 (65536 : Int32) ∈ gT := gT_at 796 (by decide +kernel) rfl
theorem wd_797 : Cond.methodLink RX9 180 yX9_downsAt ∈ gT := gT_at 797 (by decide +kernel) rfl
theorem wd_799 : Cond.instanceMethod yX9_downsAt ∈ gT := gT_at 799 (by decide +kernel) rfl
theorem wd_800 : Cond.code yX9_downsAt cX9_downsAt 4 (some .int) ∈ gT := gT_at 800 (by decide +kernel) rfl
theorem wd_801 : Cond.methodLink RL 85 yX9_image ∈ gT := gT_at 801 (by decide +kernel) rfl
theorem wd_802 : Cond.instanceMethod yX9_image ∈ gT := gT_at 802 (by decide +kernel) rfl
theorem wd_803 : Cond.selects RX9 yX9_image yX9_image ∈ gT := gT_at 803 (by decide +kernel) rfl
theorem wd_804 : Cond.code yX9_image cX9_image 1 (some .int) ∈ gT := gT_at 804 (by decide +kernel) rfl
theorem wd_805 : Cond.methodLink RX9 183 yX9_copy ∈ gT := gT_at 805 (by decide +kernel) rfl
theorem wd_806 : Cond.static yX9_copy ∈ gT := gT_at 806 (by decide +kernel) rfl
theorem wd_807 : Cond.code yX9_copy cX9_copy 3 none ∈ gT := gT_at 807 (by decide +kernel) rfl
theorem wd_808 : Cond.methodLink RL 89 yX9_restore ∈ gT := gT_at 808 (by decide +kernel) rfl
theorem wd_809 : Cond.instanceMethod yX9_restore ∈ gT := gT_at 809 (by decide +kernel) rfl
theorem wd_810 : Cond.selects RX9 yX9_restore yX9_restore ∈ gT := gT_at 810 (by decide +kernel) rfl
theorem wd_811 : Cond.code yX9_restore cX9_restore 1 (some .int) ∈ gT := gT_at 811 (by decide +kernel) rfl
theorem wd_812 : Cond.methodLink RL 93 yX9_count ∈ gT := gT_at 812 (by decide +kernel) rfl
theorem wd_813 : Cond.instanceMethod yX9_count ∈ gT := gT_at 813 (by decide +kernel) rfl
theorem wd_814 : Cond.selects RX9 yX9_count yX9_count ∈ gT := gT_at 814 (by decide +kernel) rfl
theorem wd_815 : Cond.code yX9_count cX9_count 2 (some .int) ∈ gT := gT_at 815 (by decide +kernel) rfl
theorem wd_816 : Cond.methodLink RX9 202 yX9_countOf ∈ gT := gT_at 816 (by decide +kernel) rfl
theorem wd_818 : Cond.instanceMethod yX9_countOf ∈ gT := gT_at 818 (by decide +kernel) rfl
theorem wd_819 : Cond.code yX9_countOf cX9_countOf 2 (some .int) ∈ gT := gT_at 819 (by decide +kernel) rfl
theorem wd_820 : Cond.methodLink RX9 199 yX9_islandsAll ∈ gT := gT_at 820 (by decide +kernel) rfl
theorem wd_822 : Cond.instanceMethod yX9_islandsAll ∈ gT := gT_at 822 (by decide +kernel) rfl
theorem wd_823 : Cond.code yX9_islandsAll cX9_islandsAll 3 (some .int) ∈ gT := gT_at 823 (by decide +kernel) rfl
theorem wd_824 : Cond.methodLink RL 98 yX9_digest ∈ gT := gT_at 824 (by decide +kernel) rfl
theorem wd_825 : Cond.instanceMethod yX9_digest ∈ gT := gT_at 825 (by decide +kernel) rfl
theorem wd_826 : Cond.selects RX9 yX9_digest yX9_digest ∈ gT := gT_at 826 (by decide +kernel) rfl
theorem wd_827 : Cond.code yX9_digest cX9_digest 3 (some .long) ∈ gT := gT_at 827 (by decide +kernel) rfl
theorem wd_828 : Cond.constantLong RX9 211 (1091 : Int64) ∈ gT := gT_at 828 (by decide +kernel) rfl
theorem wd_829 : Cond.methodLink RX9 213 yX9_say ∈ gT := gT_at 829 (by decide +kernel) rfl
theorem wd_831 : Cond.instanceMethod yX9_say ∈ gT := gT_at 831 (by decide +kernel) rfl
theorem wd_832 : Cond.code yX9_say cX9_say 3 none ∈ gT := gT_at 832 (by decide +kernel) rfl
theorem wd_833 : Cond.constantLong RX9 205 (31 : Int64) ∈ gT := gT_at 833 (by decide +kernel) rfl
theorem wd_839 : Cond.fieldLink RJ0 15 "java/lang/String" "coder" "B" ∈ gT := gT_at 839 (by decide +kernel) rfl
theorem wd_840 : Cond.fieldLink RJ0 9 "java/lang/String" "value" "[B" ∈ gT := gT_at 840 (by decide +kernel) rfl
theorem wp_0 : Cond.selects RX2 yX2_fitsHead yX2_fitsHead ∈ gT := gT_pr 0 (by decide +kernel) rfl
theorem wp_1 : Cond.selects RX2 yX2_fitsTail yX2_fitsTail ∈ gT := gT_pr 1 (by decide +kernel) rfl
theorem wp_2 : Cond.selects RX8 yX8_isNeedle yX8_isNeedle ∈ gT := gT_pr 2 (by decide +kernel) rfl
theorem wp_3 : Cond.selects RX8 yX8_pointing yX8_pointing ∈ gT := gT_pr 3 (by decide +kernel) rfl
theorem wp_4 : Cond.selects RX8 yX8_trailOf yX8_trailOf ∈ gT := gT_pr 4 (by decide +kernel) rfl
theorem wp_5 : Cond.selects RX8 yX8_fewestSteps yX8_fewestSteps ∈ gT := gT_pr 5 (by decide +kernel) rfl
theorem wp_6 : Cond.selects RX8 yX8_possibleHomes yX8_possibleHomes ∈ gT := gT_pr 6 (by decide +kernel) rfl
theorem wp_7 : Cond.selects RX8 yX8_canBeHome yX8_canBeHome ∈ gT := gT_pr 7 (by decide +kernel) rfl
theorem wp_8 : Cond.selects RX8 yX8_bestLook yX8_bestLook ∈ gT := gT_pr 8 (by decide +kernel) rfl
theorem wp_9 : Cond.selects RX8 yX8_leftAtWorst yX8_leftAtWorst ∈ gT := gT_pr 9 (by decide +kernel) rfl
theorem wp_10 : Cond.selects RX8 yX8_hasSea yX8_hasSea ∈ gT := gT_pr 10 (by decide +kernel) rfl
theorem wp_11 : Cond.selects RX8 yX8_homingBits yX8_homingBits ∈ gT := gT_pr 11 (by decide +kernel) rfl
theorem wp_12 : Cond.selects RX8 yX8_needlesDownAt yX8_needlesDownAt ∈ gT := gT_pr 12 (by decide +kernel) rfl
theorem wp_13 : Cond.selects RX8 yX8_withNeedle yX8_withNeedle ∈ gT := gT_pr 13 (by decide +kernel) rfl
theorem wp_14 : Cond.selects RX8 yX8_withSea yX8_withSea ∈ gT := gT_pr 14 (by decide +kernel) rfl
theorem wp_15 : Cond.selects RX9 yX9_faultOf yX9_faultOf ∈ gT := gT_pr 15 (by decide +kernel) rfl
theorem wp_16 : Cond.selects RX9 yX9_isGood yX9_isGood ∈ gT := gT_pr 16 (by decide +kernel) rfl
theorem wp_17 : Cond.selects RX9 yX9_placeAt yX9_placeAt ∈ gT := gT_pr 17 (by decide +kernel) rfl
theorem wp_18 : Cond.selects RX9 yX9_isNeedle yX9_isNeedle ∈ gT := gT_pr 18 (by decide +kernel) rfl
theorem wp_19 : Cond.selects RX9 yX9_tell yX9_tell ∈ gT := gT_pr 19 (by decide +kernel) rfl
theorem wp_20 : Cond.selects RX9 yX9_pointsOf yX9_pointsOf ∈ gT := gT_pr 20 (by decide +kernel) rfl
theorem wp_21 : Cond.selects RX9 yX9_followOf yX9_followOf ∈ gT := gT_pr 21 (by decide +kernel) rfl
theorem wp_22 : Cond.selects RX9 yX9_layFollow yX9_layFollow ∈ gT := gT_pr 22 (by decide +kernel) rfl
theorem wp_23 : Cond.selects RX9 yX9_stepped yX9_stepped ∈ gT := gT_pr 23 (by decide +kernel) rfl
theorem wp_24 : Cond.selects RX9 yX9_fewOf yX9_fewOf ∈ gT := gT_pr 24 (by decide +kernel) rfl
theorem wp_25 : Cond.selects RX9 yX9_homesOf yX9_homesOf ∈ gT := gT_pr 25 (by decide +kernel) rfl
theorem wp_26 : Cond.selects RX9 yX9_isHome yX9_isHome ∈ gT := gT_pr 26 (by decide +kernel) rfl
theorem wp_27 : Cond.selects RX9 yX9_lookOf yX9_lookOf ∈ gT := gT_pr 27 (by decide +kernel) rfl
theorem wp_28 : Cond.selects RX9 yX9_isPlace yX9_isPlace ∈ gT := gT_pr 28 (by decide +kernel) rfl
theorem wp_29 : Cond.selects RX9 yX9_lacks yX9_lacks ∈ gT := gT_pr 29 (by decide +kernel) rfl
theorem wp_30 : Cond.selects RX9 yX9_go yX9_go ∈ gT := gT_pr 30 (by decide +kernel) rfl
theorem wp_31 : Cond.selects RX9 yX9_homingOf yX9_homingOf ∈ gT := gT_pr 31 (by decide +kernel) rfl
theorem wp_32 : Cond.selects RX9 yX9_draw yX9_draw ∈ gT := gT_pr 32 (by decide +kernel) rfl
theorem wp_33 : Cond.selects RX9 yX9_downsAt yX9_downsAt ∈ gT := gT_pr 33 (by decide +kernel) rfl
theorem wp_34 : Cond.selects RX9 yX9_countOf yX9_countOf ∈ gT := gT_pr 34 (by decide +kernel) rfl
theorem wp_35 : Cond.selects RX9 yX9_islandsAll yX9_islandsAll ∈ gT := gT_pr 35 (by decide +kernel) rfl
theorem wp_36 : Cond.selects RX9 yX9_say yX9_say ∈ gT := gT_pr 36 (by decide +kernel) rfl
theorem iX0 : ∀ w ∈ u_ws RX0 TX0 0, w ∈ gT := by
  have e : u_ws RX0 TX0 0 = [] := by decide +kernel
  rw [e]
  exact fun _ h => absurd h List.not_mem_nil
theorem iX1 : ∀ w ∈ u_ws RX1 TX1 0, w ∈ gT := by
  have e : u_ws RX1 TX1 0 = [] := by decide +kernel
  rw [e]
  exact fun _ h => absurd h List.not_mem_nil
theorem iX2 : ∀ w ∈ u_ws RX2 TX2 2, w ∈ gT := by
  have e : u_ws RX2 TX2 2 = [Cond.laysFinal RX2 "HomeNeedles$Page" "letters" "[C", Cond.lays RX2 "HomeNeedles$Page" "size" "I"] := by decide +kernel
  rw [e]
  exact List.forall_mem_cons.mpr ⟨wd_38, List.forall_mem_cons.mpr ⟨wd_40, fun _ h => absurd h List.not_mem_nil⟩⟩
theorem iX3 : ∀ w ∈ u_ws RX3 TX3 0, w ∈ gT := by
  have e : u_ws RX3 TX3 0 = [] := by decide +kernel
  rw [e]
  exact fun _ h => absurd h List.not_mem_nil
theorem iX4 : ∀ w ∈ u_ws RX4 TX4 0, w ∈ gT := by
  have e : u_ws RX4 TX4 0 = [] := by decide +kernel
  rw [e]
  exact fun _ h => absurd h List.not_mem_nil
theorem iX5 : ∀ w ∈ u_ws RX5 TX5 2, w ∈ gT := by
  have e : u_ws RX5 TX5 2 = [Cond.lays RX5 "HomeNeedles$Trail" "steps" "I", Cond.lays RX5 "HomeNeedles$Trail" "place" "I"] := by decide +kernel
  rw [e]
  exact List.forall_mem_cons.mpr ⟨wd_100, List.forall_mem_cons.mpr ⟨wd_102, fun _ h => absurd h List.not_mem_nil⟩⟩
theorem iX6 : ∀ w ∈ u_ws RX6 TX6 0, w ∈ gT := by
  have e : u_ws RX6 TX6 0 = [] := by decide +kernel
  rw [e]
  exact fun _ h => absurd h List.not_mem_nil
theorem iX7 : ∀ w ∈ u_ws RX7 TX7 9, w ∈ gT := by
  have e : u_ws RX7 TX7 9 = [Cond.laysFinal RX7 "HomeNeedles$Voyage" "homes" "[I", Cond.laysFinal RX7 "HomeNeedles$Voyage" "seenNeedles" "[I", Cond.laysFinal RX7 "HomeNeedles$Voyage" "seenPlaces" "[I", Cond.laysFinal RX7 "HomeNeedles$Voyage" "seenDirections" "[I", Cond.lays RX7 "HomeNeedles$Voyage" "islands" "J", Cond.lays RX7 "HomeNeedles$Voyage" "bearer" "I", Cond.lays RX7 "HomeNeedles$Voyage" "steps" "I", Cond.lays RX7 "HomeNeedles$Voyage" "stepsOn" "I", Cond.lays RX7 "HomeNeedles$Voyage" "seen" "I"] := by decide +kernel
  rw [e]
  exact List.forall_mem_cons.mpr ⟨wd_70, List.forall_mem_cons.mpr ⟨wd_72, List.forall_mem_cons.mpr ⟨wd_74, List.forall_mem_cons.mpr ⟨wd_76, List.forall_mem_cons.mpr ⟨wd_78, List.forall_mem_cons.mpr ⟨wd_80, List.forall_mem_cons.mpr ⟨wd_82, List.forall_mem_cons.mpr ⟨wd_84, List.forall_mem_cons.mpr ⟨wd_86, fun _ h => absurd h List.not_mem_nil⟩⟩⟩⟩⟩⟩⟩⟩⟩
theorem iX8 : ∀ w ∈ u_ws RX8 TX8 11, w ∈ gT := by
  have e : u_ws RX8 TX8 11 = [Cond.laysFinal RX8 "HomeNeedles" "page" "LHomeNeedles$Page;", Cond.laysFinal RX8 "HomeNeedles" "needles" "[LHomeNeedles$Needle;", Cond.laysFinal RX8 "HomeNeedles" "now" "LHomeNeedles$Voyage;", Cond.laysFinal RX8 "HomeNeedles" "kept" "LHomeNeedles$Voyage;", Cond.laysFinal RX8 "HomeNeedles" "trail" "LHomeNeedles$Trail;", Cond.laysFinal RX8 "HomeNeedles" "stepsAway" "[I", Cond.laysFinal RX8 "HomeNeedles" "waiting" "[I", Cond.laysFinal RX8 "HomeNeedles" "leftByDirection" "[I", Cond.lays RX8 "HomeNeedles" "needleCount" "I", Cond.lays RX8 "HomeNeedles" "seasRead" "I", Cond.lays RX8 "HomeNeedles" "imageKept" "Z"] := by decide +kernel
  rw [e]
  exact List.forall_mem_cons.mpr ⟨wd_122, List.forall_mem_cons.mpr ⟨wd_124, List.forall_mem_cons.mpr ⟨wd_126, List.forall_mem_cons.mpr ⟨wd_128, List.forall_mem_cons.mpr ⟨wd_130, List.forall_mem_cons.mpr ⟨wd_132, List.forall_mem_cons.mpr ⟨wd_134, List.forall_mem_cons.mpr ⟨wd_136, List.forall_mem_cons.mpr ⟨wd_138, List.forall_mem_cons.mpr ⟨wd_140, List.forall_mem_cons.mpr ⟨wd_142, fun _ h => absurd h List.not_mem_nil⟩⟩⟩⟩⟩⟩⟩⟩⟩⟩⟩
theorem iX9 : ∀ w ∈ u_ws RX9 TX9 26, w ∈ gT := by
  have e : u_ws RX9 TX9 26 = [Cond.laysFinal RX9 "HomeNeedlesModel" "page" "[I", Cond.lays RX9 "HomeNeedlesModel" "pageMany" "I", Cond.lays RX9 "HomeNeedlesModel" "endAt" "I", Cond.lays RX9 "HomeNeedlesModel" "needles" "I", Cond.lays RX9 "HomeNeedlesModel" "place" "I", Cond.lays RX9 "HomeNeedlesModel" "stepsNow" "I", Cond.lays RX9 "HomeNeedlesModel" "ledOn" "I", Cond.lays RX9 "HomeNeedlesModel" "seasRead" "I", Cond.laysFinal RX9 "HomeNeedlesModel" "rows" "[I", Cond.laysFinal RX9 "HomeNeedlesModel" "islands" "[I", Cond.lays RX9 "HomeNeedlesModel" "followEnd" "I", Cond.lays RX9 "HomeNeedlesModel" "followSteps" "I", Cond.laysFinal RX9 "HomeNeedlesModel" "far" "[I", Cond.lays RX9 "HomeNeedlesModel" "seenMany" "I", Cond.laysFinal RX9 "HomeNeedlesModel" "sights" "[I", Cond.laysFinal RX9 "HomeNeedlesModel" "parts" "[I", Cond.lays RX9 "HomeNeedlesModel" "seedNow" "I", Cond.lays RX9 "HomeNeedlesModel" "keptSea" "I", Cond.lays RX9 "HomeNeedlesModel" "keptPlace" "I", Cond.lays RX9 "HomeNeedlesModel" "keptSteps" "I", Cond.lays RX9 "HomeNeedlesModel" "keptLed" "I", Cond.lays RX9 "HomeNeedlesModel" "keptSeen" "I", Cond.laysFinal RX9 "HomeNeedlesModel" "keptRows" "[I", Cond.laysFinal RX9 "HomeNeedlesModel" "keptIslands" "[I", Cond.laysFinal RX9 "HomeNeedlesModel" "keptSights" "[I", Cond.lays RX9 "HomeNeedlesModel" "hash" "J"] := by decide +kernel
  rw [e]
  exact List.forall_mem_cons.mpr ⟨wd_577, List.forall_mem_cons.mpr ⟨wd_579, List.forall_mem_cons.mpr ⟨wd_581, List.forall_mem_cons.mpr ⟨wd_583, List.forall_mem_cons.mpr ⟨wd_585, List.forall_mem_cons.mpr ⟨wd_587, List.forall_mem_cons.mpr ⟨wd_589, List.forall_mem_cons.mpr ⟨wd_591, List.forall_mem_cons.mpr ⟨wd_593, List.forall_mem_cons.mpr ⟨wd_595, List.forall_mem_cons.mpr ⟨wd_597, List.forall_mem_cons.mpr ⟨wd_599, List.forall_mem_cons.mpr ⟨wd_601, List.forall_mem_cons.mpr ⟨wd_603, List.forall_mem_cons.mpr ⟨wd_605, List.forall_mem_cons.mpr ⟨wd_607, List.forall_mem_cons.mpr ⟨wd_609, List.forall_mem_cons.mpr ⟨wd_611, List.forall_mem_cons.mpr ⟨wd_613, List.forall_mem_cons.mpr ⟨wd_615, List.forall_mem_cons.mpr ⟨wd_617, List.forall_mem_cons.mpr ⟨wd_619, List.forall_mem_cons.mpr ⟨wd_621, List.forall_mem_cons.mpr ⟨wd_623, List.forall_mem_cons.mpr ⟨wd_625, List.forall_mem_cons.mpr ⟨wd_627, fun _ h => absurd h List.not_mem_nil⟩⟩⟩⟩⟩⟩⟩⟩⟩⟩⟩⟩⟩⟩⟩⟩⟩⟩⟩⟩⟩⟩⟩⟩⟩⟩
end
section
/-! help: rooms, read-only contracts, contracts that write, their calls -/
abbrev rk (k : Nat) : Room := { frames := k, cells := 0, slots := 0, locals := 32 * k }
def bI (b : Bool) : Int32 := if b = true then 1 else 0
theorem bI_f {b : Bool} (h : bI b = 0) : b = false := by cases b <;> first | rfl | (exact absurd h (by decide))
theorem bI_t {b : Bool} (h : ¬ bI b = 0) : b = true := by cases b <;> first | rfl | (exact absurd rfl h)
theorem bI_1 : bI true = 1 := rfl
theorem bI_0 : bI false = 0 := rfl
theorem bI_n (b : Bool) : narrow .boolean (.int (bI b)) = .int (bI b) := by cases b <;> decide +kernel
theorem bI_d {P : Prop} [Decidable P] (h : P) : bI (decide P) = 1 := by simp [bI, h]
theorem bI_nd {P : Prop} [Decidable P] (h : ¬ P) : bI (decide P) = 0 := by simp [bI, h]
theorem upd_nI (f : Nat → Nat) (i v : Nat) : upd (fun j => nI (f j)) i (nI v) = fun j => nI (va_up f i v j) := by
  funext j
  by_cases h : j = i <;> simp [upd, va_up, h]
/-- the array classes: of the system's rows 0 to 12, of the reference's 13 to 21 -/
abbrev TY (ca : Nat → ClassId) : List (ClassId × FieldType) := [(ca 0, .char), (ca 1, .object "HomeNeedles$Needle"), (ca 2, .int), (ca 3, .int), (ca 4, .int), (ca 5, .int), (ca 6, .int), (ca 7, .int), (ca 8, .int), (ca 9, .int), (ca 10, .int), (ca 11, .int), (ca 12, .int), (ca 13, .int), (ca 14, .int), (ca 15, .int), (ca 16, .int), (ca 17, .int), (ca 18, .int), (ca 19, .int), (ca 20, .int), (ca 21, .int)]
theorem arrV_cg (cA : ClassId) (n : Nat) {f g : Nat → Value} (h : ∀ j, j < n → f j = g j) : arrV cA n f = arrV cA n g := by
  unfold arrV
  congr 2
  funext j
  exact h j.1 j.2
/-- an array's numbers, told by another function that says the same within -/
theorem va_P_fn {D : va_G} {cl : List vw_C} {ws : va_W} {H : Heap} (hP : va_P D cl ws H) (k : Nat) {a n : Nat} {cA : ClassId} {f g : Nat → Int32} (hk : ws[k]? = some (a, .inl (cA, n, .inl f))) (hfg : ∀ j, j < n → f j = g j) : va_P D cl (ws.set k (a, .inl (cA, n, .inl g))) H := by
  intro i x hx
  have hl := (List.getElem?_eq_some_iff.mp hk).1
  by_cases hi : i = k
  · subst hi
    rw [List.getElem?_set_self hl] at hx
    cases hx
    have h0 := hP i _ hk
    show H[a]? = some (vp_cell _ _)
    rw [vp_cell_i, ← arrV_cg cA n (f := fun j => .int (f j)) (g := fun j => .int (g j)) (fun j hj => by rw [hfg j hj])]
    exact h0
  · rw [List.getElem?_set_ne (Ne.symm hi)] at hx
    exact hP i x hx
theorem nI_max {a b : Nat} (ha : a < 2 ^ 31) (hb : b < 2 ^ 31) : (if nI a < nI b then nI b else nI a) = nI (if a < b then b else a) := by
  by_cases h : a < b
  · rw [if_pos h, if_pos (nI_lt h hb)]
  · rw [if_neg h, if_neg (nI_nlt (by omega) ha)]
theorem nI_min {a b : Nat} (ha : a < 2 ^ 31) (hb : b < 2 ^ 31) : (if nI b < nI a then nI b else nI a) = nI (if b < a then b else a) := by
  by_cases h : b < a
  · rw [if_pos h, if_pos (nI_lt h ha)]
  · rw [if_neg h, if_neg (nI_nlt (by omega) hb)]
/-- where a read-only method begins -/
abbrev ROp (D : va_G) (ws : va_W) (tys : List (ClassId × FieldType)) (av : List Value) : Array Value → State → Prop := va_Pc av (fun U => va_P D vwCl ws U.heap ∧ va_K D vwCl tys U)
/-- where a method begins that writes -/
abbrev EFp (D : va_G) (ws : va_W) (tys : List (ClassId × FieldType)) (sz : Nat) (av : List Value) : Array Value → State → Prop := va_Pc av (fun U => U.heap.size = sz ∧ va_P D vwCl ws U.heap ∧ va_K D vwCl tys U ∧ va_D (fun _ => True) ws)
/-- and what stands behind it -/
abbrev EFb {S : Type} (D : va_G) (w1 : S → va_W) (tys : List (ClassId × FieldType)) (A : Nat → Prop) : S → State → Prop := fun u t => va_P D vwCl (w1 u) t.heap ∧ va_K D vwCl tys t ∧ va_D A (w1 u)
theorem ro_bl {D : va_G} {ws : va_W} {tys : List (ClassId × FieldType)} {av : List Value} : FrameBlind (ROp D ws tys av) := fun a U g mk q => ⟨q.1, q.2.1, va_K.moved (u := U) (U := U.calling g mk a) (Vm.Alike.refl U.vm) q.2.2⟩
theorem ro_pre {D : va_G} {ws : va_W} {tys : List (ClassId × FieldType)} {av : List Value} {s : State} {H : Heap} (hP : va_P D vwCl ws H) (hK : va_K D vwCl tys s) : PreS s H (ROp D ws tys av) av := ⟨ro_bl, fun U hU hW => ⟨rfl, by rw [hU]; exact hP, va_K.moved hW.alike hK⟩⟩
theorem ro_preV {D : va_G} {ws : va_W} {tys : List (ClassId × FieldType)} {b : Nat} {As : List Value} {s : State} {H : Heap} {C : String} (hP : va_P D vwCl ws H) (hK : va_K D vwCl tys s) (hr : ∃ cell : Cell, H[b]? = some cell ∧ cell.vm.isStatics = false ∧ s.vm.findClass C = some cell.cls) : PreV s H C b (ROp D ws tys (.ref b :: As)) As := ⟨ro_bl, hr, fun U hU hW => ⟨rfl, by rw [hU]; exact hP, va_K.moved hW.alike hK⟩⟩
theorem ef_bl {D : va_G} {ws : va_W} {tys : List (ClassId × FieldType)} {sz : Nat} {av : List Value} : FrameBlind (EFp D ws tys sz av) := fun a U g mk q => ⟨q.1, q.2.1, q.2.2.1, va_K.moved (u := U) (U := U.calling g mk a) (Vm.Alike.refl U.vm) q.2.2.2.1, q.2.2.2.2⟩
theorem ef_pre {D : va_G} {ws : va_W} {tys : List (ClassId × FieldType)} {av : List Value} {s : State} {H : Heap} {A : Nat → Prop} (hP : va_P D vwCl ws H) (hD : va_D A ws) (hK : va_K D vwCl tys s) : PreS s H (EFp D ws tys H.size av) av := ⟨ef_bl, fun U hU hW => ⟨rfl, by rw [hU], by rw [hU]; exact hP, va_K.moved hW.alike hK, hD.weaken (fun _ _ _ _ => trivial)⟩⟩
theorem ef_preV {D : va_G} {ws : va_W} {tys : List (ClassId × FieldType)} {b : Nat} {As : List Value} {s : State} {H : Heap} {A : Nat → Prop} {C : String} (hP : va_P D vwCl ws H) (hD : va_D A ws) (hK : va_K D vwCl tys s) (hr : ∃ cell : Cell, H[b]? = some cell ∧ cell.vm.isStatics = false ∧ s.vm.findClass C = some cell.cls) : PreV s H C b (EFp D ws tys H.size (.ref b :: As)) As := ⟨ef_bl, hr, fun U hU hW => ⟨rfl, by rw [hU], by rw [hU]; exact hP, va_K.moved hW.alike hK, hD.weaken (fun _ _ _ _ => trivial)⟩⟩
/-- the String constant of the kinds' letters, and that texts are compact -/
def SFh (k1 k2 : Nat → Nat) (U : State) (H : Heap) : Prop := vk_S 1 [5] [[110, 115, 108, 116, 111]] k1 k2 (fun _ => False) U H ∧ vk_R RX2 42 "nslto" (k1 0) U ∧ va_Z "java/lang/String" "COMPACT_STRINGS" "Z" (.int 1) (fun _ => False) U H
theorem SFh.warm {k1 k2 : Nat → Nat} {s U : State} {H : Heap} (hW : s.WarmedH U.vm) (h : SFh k1 k2 s H) : SFh k1 k2 U H := ⟨vk_S.moved hW.alike h.1, vk_R.warm hW h.2.1, va_Z.moved hW.alike h.2.2⟩
abbrev ROs (D : va_G) (ws : va_W) (tys : List (ClassId × FieldType)) (k1 k2 : Nat → Nat) (av : List Value) : Array Value → State → Prop := va_Pc av (fun U => va_P D vwCl ws U.heap ∧ va_K D vwCl tys U ∧ SFh k1 k2 U U.heap)
theorem rs_bl {D : va_G} {ws : va_W} {tys : List (ClassId × FieldType)} {k1 k2 : Nat → Nat} {av : List Value} : FrameBlind (ROs D ws tys k1 k2 av) := fun a U g mk q => ⟨q.1, q.2.1, va_K.moved (u := U) (U := U.calling g mk a) (Vm.Alike.refl U.vm) q.2.2.1, vk_S.moved (u := U) (U := U.calling g mk a) (Vm.Alike.refl U.vm) q.2.2.2.1, vk_R.same (u := U) (U := U.calling g mk a) rfl q.2.2.2.2.1, va_Z.moved (u := U) (U := U.calling g mk a) (Vm.Alike.refl U.vm) q.2.2.2.2.2⟩
theorem rs_pre {D : va_G} {ws : va_W} {tys : List (ClassId × FieldType)} {k1 k2 : Nat → Nat} {av : List Value} {s : State} {H : Heap} (hP : va_P D vwCl ws H) (hF : SFh k1 k2 s H) (hK : va_K D vwCl tys s) : PreS s H (ROs D ws tys k1 k2 av) av := ⟨rs_bl, fun U hU hW => ⟨rfl, by rw [hU]; exact hP, va_K.moved hW.alike hK, by rw [hU]; exact hF.warm hW⟩⟩
theorem rs_preV {D : va_G} {ws : va_W} {tys : List (ClassId × FieldType)} {k1 k2 : Nat → Nat} {b : Nat} {As : List Value} {s : State} {H : Heap} {C : String} (hP : va_P D vwCl ws H) (hF : SFh k1 k2 s H) (hK : va_K D vwCl tys s) (hr : ∃ cell : Cell, H[b]? = some cell ∧ cell.vm.isStatics = false ∧ s.vm.findClass C = some cell.cls) : PreV s H C b (ROs D ws tys k1 k2 (.ref b :: As)) As := ⟨rs_bl, hr, fun U hU hW => ⟨rfl, by rw [hU]; exact hP, va_K.moved hW.alike hK, by rw [hU]; exact hF.warm hW⟩⟩
section HLP
variable {p : Program} {l : Launch} {e : Env} {R : Room} {s : State} {m : MethodId} {args : Array Value} {below : List Frame} {meth : Method} {c : Code} {H : Heap} {locs : List Loc} {cells slots : Nat} {Q : State → Prop}
variable {cc : ByteArray} {pc : Nat} {ls : Array Slot} {rest st0 : List Value}
theorem lv_ri {x y : Int32} (h : x = y) (k : W p l e R s m args below meth c H locs cells slots Q (F0 m pc ls (.int y :: rest))) : W p l e R s m args below meth c H locs cells slots Q (F0 m pc ls (.int x :: rest)) := h ▸ k
theorem lv_rv {x y : Value} (h : x = y) (k : W p l e R s m args below meth c H locs cells slots Q (F0 m pc ls (y :: rest))) : W p l e R s m args below meth c H locs cells slots Q (F0 m pc ls (x :: rest)) := h ▸ k
theorem lv_rl {x y : Int64} (h : x = y) (k : W p l e R s m args below meth c H locs cells slots Q (F0 m pc ls (.long y :: rest))) : W p l e R s m args below meth c H locs cells slots Q (F0 m pc ls (.long x :: rest)) := h ▸ k
variable {D : va_G} {ws wc wr : va_W} {tys : List (ClassId × FieldType)} {y : MethodName} {bytes : ByteArray} {maxL nL n index : Nat} {ret : Option FieldType} {rm : Room} {own C : String} {b : Nat} {As : List Value}
/-- the words and the room of a virtual call, of a static one -/
theorem cVg {mc ms : Nat} (n : Nat) (ht : ∀ w ∈ gT, w.before args s = true) (w1 : Cond.methodLink own index y ∈ gT) (w2 : Cond.instanceMethod y ∈ gT) (w3 : Cond.selects C y y ∈ gT) (w4 : Cond.initialized C ∈ gT) (w5 : Cond.code y bytes maxL ret ∈ gT) (hrc : rm.cells = mc) (hrs : rm.slots = ms)
    (hd : y.cls = C ∧ y.cls ≠ "java/lang/invoke/MethodHandle" ∧ y.cls ≠ "java/lang/invoke/VarHandle" ∧ (parseMethodDescriptor y.desc).map (fun d => d.parameters.length) = some n) (hR : rm.frames + 1 ≤ R.frames ∧ 8 + (maxL + 11) + rm.locals ≤ R.locals) :
    CallW R s args own C index y bytes maxL ret (Cond.code y bytes maxL ret :: gT) rm mc ms n := cwV n ht (gT_V w1 w2 w3 w4 w5) rfl hrc hrs hd hR
theorem cSg {mc ms : Nat} (n : Nat) (ht : ∀ w ∈ gT, w.before args s = true) (w1 : Cond.methodLink own index y ∈ gT) (w2 : Cond.static y ∈ gT) (w4 : Cond.initialized y.cls ∈ gT) (w5 : Cond.code y bytes maxL ret ∈ gT) (hrc : rm.cells = mc) (hrs : rm.slots = ms)
    (hd : y.cls ≠ "java/lang/invoke/MethodHandle" ∧ y.cls ≠ "java/lang/invoke/VarHandle" ∧ (parseMethodDescriptor y.desc).map (fun d => d.parameters.length) = some n) (hR : rm.frames + 1 ≤ R.frames ∧ 8 + (maxL + 11) + rm.locals ≤ R.locals) :
    CallB R s args own index y bytes maxL ret (Cond.code y bytes maxL ret :: gT) rm mc ms n ∧ (Cond.static y).before args s = true := va_cwS n ht (gT_S w1 w2 w4 w5) rfl hrc hrs hd hR
theorem cOg {mc ms : Nat} {owner : String} {x : MethodName} {b0 : ByteArray} {m0 : Nat} {r0 : Option FieldType} (n : Nat) (ht : ∀ w ∈ gT, w.before args s = true) (w1 : Cond.methodLink own index x ∈ gT) (w2 : Cond.sameMethod x.cls owner x.name x.desc ∈ gT) (w3 : Cond.instanceMethod ⟨owner, x.name, x.desc⟩ ∈ gT) (w4 : Cond.selects C x y ∈ gT) (w5 : Cond.instanceMethod y ∈ gT) (w6 : Cond.initialized y.cls ∈ gT) (w7 : Cond.code y bytes maxL ret ∈ gT) (h0 : Cond.code ⟨owner, x.name, x.desc⟩ b0 m0 r0 ∈ gT) (hrc : rm.cells = mc) (hrs : rm.slots = ms)
    (hd : owner ≠ "java/lang/invoke/MethodHandle" ∧ owner ≠ "java/lang/invoke/VarHandle" ∧ (parseMethodDescriptor x.desc).map (fun d => d.parameters.length) = some n) (hR : rm.frames + 1 ≤ R.frames ∧ 8 + (maxL + 11) + rm.locals ≤ R.locals) :
    va_CU R s args own C owner index x y bytes maxL ret (Cond.code y bytes maxL ret :: gT) rm mc ms n := by
  refine va_cwO n ht ?_ rfl hrc hrs h0 hd hR
  intro v hv
  unfold va_wsO at hv
  rcases List.mem_append.mp hv with h | h
  · simp only [List.mem_cons, List.not_mem_nil, or_false] at h
    rcases h with rfl | rfl | rfl | rfl | rfl | rfl
    · exact gT_good w1
    · exact gT_good w2
    · exact gT_good w3
    · exact gT_good w4
    · exact gT_good w5
    · exact gT_good w6
  · exact gT_cons w7 v h
theorem roV {post : Int32 → Prop} (hM : Met l y (Cond.code y bytes maxL ret :: gT) rm (ROp D wc tys (.ref b :: As)) (vp_Si post) 0 0 (fun _ => False)) (S : CallFix p m c cc nL s args gT own) (cw : CallW R s args own C index y bytes maxL ret (Cond.code y bytes maxL ret :: gT) rm 0 0 n) (hP : va_P D vwCl wc H) (hK : va_K D vwCl tys s) (hr : ∃ cell : Cell, H[b]? = some cell ∧ cell.vm.isStatics = false ∧ s.vm.findClass C = some cell.cls)
    (hn : As.length = n) (hsize : ls.size = nL) (hst : st0 = As.reverse ++ .ref b :: rest) (hW : (rest.map fun v => v.category).sum ≤ 8) (hdg : decode cc pc = .ok (.invokevirtual index, 3)) (hf : cells ≤ R.cells ∧ slots ≤ R.slots)
    (kk : ∀ r : Int32, post r → W p l e R s m args below meth c H locs cells slots Q (F0 m (pc + 3) ls (.int r :: rest))) : W p l e R s m args below meth c H locs cells slots Q (F0 m pc ls st0) :=
  vp_callSi (va_Run.run (va_runV (g := F0 m pc ls st0) S hM cw (ro_preV hP hK hr) rfl hn hsize hst (lv_room hW) hdg hf)) kk
theorem roS {post : Int32 → Prop} (hM : Met l y (Cond.code y bytes maxL ret :: gT) rm (ROp D wc tys As) (vp_Si post) 0 0 (fun _ => False)) (S : CallFix p m c cc nL s args gT own) (cw : CallB R s args own index y bytes maxL ret (Cond.code y bytes maxL ret :: gT) rm 0 0 n ∧ (Cond.static y).before args s = true) (hP : va_P D vwCl wc H) (hK : va_K D vwCl tys s)
    (hn : As.length = n) (hsize : ls.size = nL) (hst : st0 = As.reverse ++ rest) (hW : (rest.map fun v => v.category).sum ≤ 8) (hdg : decode cc pc = .ok (.invokestatic index, 3)) (hf : cells ≤ R.cells ∧ slots ≤ R.slots)
    (kk : ∀ r : Int32, post r → W p l e R s m args below meth c H locs cells slots Q (F0 m (pc + 3) ls (.int r :: rest))) : W p l e R s m args below meth c H locs cells slots Q (F0 m pc ls st0) :=
  vp_callSi (va_Run.run (va_runS (g := F0 m pc ls st0) S hM cw (ro_pre hP hK) rfl hn hsize hst (lv_room hW) hdg hf)) kk
theorem roVs {k1 k2 : Nat → Nat} {post : Int32 → Prop} (hM : Met l y (Cond.code y bytes maxL ret :: gT) rm (ROs D wc tys k1 k2 (.ref b :: As)) (vp_Si post) 0 0 (fun _ => False)) (S : CallFix p m c cc nL s args gT own) (cw : CallW R s args own C index y bytes maxL ret (Cond.code y bytes maxL ret :: gT) rm 0 0 n) (hP : va_P D vwCl wc H) (hF : SFh k1 k2 s H) (hK : va_K D vwCl tys s) (hr : ∃ cell : Cell, H[b]? = some cell ∧ cell.vm.isStatics = false ∧ s.vm.findClass C = some cell.cls)
    (hn : As.length = n) (hsize : ls.size = nL) (hst : st0 = As.reverse ++ .ref b :: rest) (hW : (rest.map fun v => v.category).sum ≤ 8) (hdg : decode cc pc = .ok (.invokevirtual index, 3)) (hf : cells ≤ R.cells ∧ slots ≤ R.slots)
    (kk : ∀ r : Int32, post r → W p l e R s m args below meth c H locs cells slots Q (F0 m (pc + 3) ls (.int r :: rest))) : W p l e R s m args below meth c H locs cells slots Q (F0 m pc ls st0) :=
  vp_callSi (va_Run.run (va_runV (g := F0 m pc ls st0) S hM cw (rs_preV hP hF hK hr) rfl hn hsize hst (lv_room hW) hdg hf)) kk
theorem roSs {k1 k2 : Nat → Nat} {post : Int32 → Prop} (hM : Met l y (Cond.code y bytes maxL ret :: gT) rm (ROs D wc tys k1 k2 As) (vp_Si post) 0 0 (fun _ => False)) (S : CallFix p m c cc nL s args gT own) (cw : CallB R s args own index y bytes maxL ret (Cond.code y bytes maxL ret :: gT) rm 0 0 n ∧ (Cond.static y).before args s = true) (hP : va_P D vwCl wc H) (hF : SFh k1 k2 s H) (hK : va_K D vwCl tys s)
    (hn : As.length = n) (hsize : ls.size = nL) (hst : st0 = As.reverse ++ rest) (hW : (rest.map fun v => v.category).sum ≤ 8) (hdg : decode cc pc = .ok (.invokestatic index, 3)) (hf : cells ≤ R.cells ∧ slots ≤ R.slots)
    (kk : ∀ r : Int32, post r → W p l e R s m args below meth c H locs cells slots Q (F0 m (pc + 3) ls (.int r :: rest))) : W p l e R s m args below meth c H locs cells slots Q (F0 m pc ls st0) :=
  vp_callSi (va_Run.run (va_runS (g := F0 m pc ls st0) S hM cw (rs_pre hP hF hK) rfl hn hsize hst (lv_room hW) hdg hf)) kk
theorem roVl {post : Int64 → Prop} (hM : Met l y (Cond.code y bytes maxL ret :: gT) rm (ROp D wc tys (.ref b :: As)) (vp_Sl post) 0 0 (fun _ => False)) (S : CallFix p m c cc nL s args gT own) (cw : CallW R s args own C index y bytes maxL ret (Cond.code y bytes maxL ret :: gT) rm 0 0 n) (hP : va_P D vwCl wc H) (hK : va_K D vwCl tys s) (hr : ∃ cell : Cell, H[b]? = some cell ∧ cell.vm.isStatics = false ∧ s.vm.findClass C = some cell.cls)
    (hn : As.length = n) (hsize : ls.size = nL) (hst : st0 = As.reverse ++ .ref b :: rest) (hW : (rest.map fun v => v.category).sum ≤ 8) (hdg : decode cc pc = .ok (.invokevirtual index, 3)) (hf : cells ≤ R.cells ∧ slots ≤ R.slots)
    (kk : ∀ r : Int64, post r → W p l e R s m args below meth c H locs cells slots Q (F0 m (pc + 3) ls (.long r :: rest))) : W p l e R s m args below meth c H locs cells slots Q (F0 m pc ls st0) :=
  vp_callSl (va_Run.run (va_runV (g := F0 m pc ls st0) S hM cw (ro_preV hP hK hr) rfl hn hsize hst (lv_room hW) hdg hf)) kk
theorem roSl {post : Int64 → Prop} (hM : Met l y (Cond.code y bytes maxL ret :: gT) rm (ROp D wc tys As) (vp_Sl post) 0 0 (fun _ => False)) (S : CallFix p m c cc nL s args gT own) (cw : CallB R s args own index y bytes maxL ret (Cond.code y bytes maxL ret :: gT) rm 0 0 n ∧ (Cond.static y).before args s = true) (hP : va_P D vwCl wc H) (hK : va_K D vwCl tys s)
    (hn : As.length = n) (hsize : ls.size = nL) (hst : st0 = As.reverse ++ rest) (hW : (rest.map fun v => v.category).sum ≤ 8) (hdg : decode cc pc = .ok (.invokestatic index, 3)) (hf : cells ≤ R.cells ∧ slots ≤ R.slots)
    (kk : ∀ r : Int64, post r → W p l e R s m args below meth c H locs cells slots Q (F0 m (pc + 3) ls (.long r :: rest))) : W p l e R s m args below meth c H locs cells slots Q (F0 m pc ls st0) :=
  vp_callSl (va_Run.run (va_runS (g := F0 m pc ls st0) S hM cw (ro_pre hP hK) rfl hn hsize hst (lv_room hW) hdg hf)) kk
/-- an overriding kind's method, and the named class's own -/
theorem roU {post : Int32 → Prop} {x : MethodName} {owner : String} (hM : Met l y (Cond.code y bytes maxL ret :: gT) rm (ROp D wc tys (.ref b :: As)) (vp_Si post) 0 0 (fun _ => False)) (S : CallFix p m c cc nL s args gT own) (cw : va_CU R s args own C owner index x y bytes maxL ret (Cond.code y bytes maxL ret :: gT) rm 0 0 n) (hP : va_P D vwCl wc H) (hK : va_K D vwCl tys s) (hr : ∃ cell : Cell, H[b]? = some cell ∧ cell.vm.isStatics = false ∧ s.vm.findClass C = some cell.cls)
    (hn : As.length = n) (hsize : ls.size = nL) (hst : st0 = As.reverse ++ .ref b :: rest) (hW : (rest.map fun v => v.category).sum ≤ 8) (hdg : decode cc pc = .ok (.invokevirtual index, 3)) (hf : cells ≤ R.cells ∧ slots ≤ R.slots)
    (kk : ∀ r : Int32, post r → W p l e R s m args below meth c H locs cells slots Q (F0 m (pc + 3) ls (.int r :: rest))) : W p l e R s m args below meth c H locs cells slots Q (F0 m pc ls st0) :=
  vp_callSi (va_Run.run (va_runU (g := F0 m pc ls st0) S hM cw (ro_preV hP hK hr) rfl hn hsize hst (lv_room hW) hdg hf)) kk
variable {A0 : Nat → Prop} {H0 : Heap} {T : Type} {w1 : T → va_W} {isC isR : List Nat}
/-- a call that writes: the callee's cells come back beside the rest -/
theorem efV {post : Int32 → T → Prop} (hM : Met l y (Cond.code y bytes maxL ret :: gT) rm (EFp D wc tys H.size (.ref b :: As)) (va_Qi post (EFb D w1 tys (va_A wc H.size)) (va_A wc H.size)) 0 0 (va_A wc H.size)) (S : CallFix p m c cc nL s args gT own) (cw : CallW R s args own C index y bytes maxL ret (Cond.code y bytes maxL ret :: gT) rm 0 0 n)
    (hP : va_P D vwCl ws H) (hD : va_D A0 ws) (hS : va_S A0 H0 H locs) (hA : ∀ q, H0.size ≤ q → A0 q) (hK : va_K D vwCl tys s) (isC isR : List Nat) (hC : isC.map (fun i => ws[i]?) = wc.map some) (hR : isR.map (fun i => ws[i]?) = wr.map some) (hnc : va_nd isC = true) (hnr : va_nd isR = true) (hdis : ∀ i ∈ isR, i ∉ isC)
    (hr : ∃ cell : Cell, H[b]? = some cell ∧ cell.vm.isStatics = false ∧ s.vm.findClass C = some cell.cls) (hn : As.length = n) (hsize : ls.size = nL) (hst : st0 = As.reverse ++ .ref b :: rest) (hW : (rest.map fun v => v.category).sum ≤ 8) (hdg : decode cc pc = .ok (.invokevirtual index, 3)) (hf : cells ≤ R.cells ∧ slots ≤ R.slots)
    (kk : ∀ (r : Int32) (u : T) (H1 : Heap) (locs1 : List Loc), post r u → va_P D vwCl (wr ++ w1 u) H1 → va_D A0 (wr ++ w1 u) → va_S A0 H0 H1 locs1 → W p l e R s m args below meth c H1 locs1 cells slots Q (F0 m (pc + 3) ls (.int r :: rest))) : W p l e R s m args below meth c H locs cells slots Q (F0 m pc ls st0) := by
  have hDc := hD.sub isC hnc hC
  have hPc : va_P D vwCl wc H := fun k q hk => by
    have h1 : (isC.map (fun i => ws[i]?))[k]? = some (some q) := by rw [hC, List.getElem?_map, hk]; rfl
    rw [List.getElem?_map] at h1
    cases hi : isC[k]? with
    | none => rw [hi] at h1; cases h1
    | some i => rw [hi] at h1; exact hP i q (Option.some.inj h1)
  have hFc := va_free (wc := wc) hD hS hA isC hC
  refine va_calli (va_runV (g := F0 m pc ls st0) S hM cw (ef_preV hPc hDc hK hr) rfl hn hsize hst (lv_room hW) hdg hf) hS (fun q _ h => hFc q h) hFc (fun r u t H1 locs1 ht hvm hw hB hz1 hk1 hS => ?_)
  obtain ⟨hP1, hK1, hD1⟩ := hB
  rw [ht] at hP1
  obtain ⟨hP2, hD2⟩ := va_join (wr := wr) (w1 := w1 u) hP hD isC isR hC hR hnr hdis hk1 hFc hP1 hD1
  exact kk r u H1 locs1 hw hP2 hD2 hS
theorem efVl {post : Int64 → T → Prop} (hM : Met l y (Cond.code y bytes maxL ret :: gT) rm (EFp D wc tys H.size (.ref b :: As)) (va_Ql post (EFb D w1 tys (va_A wc H.size)) (va_A wc H.size)) 0 0 (va_A wc H.size)) (S : CallFix p m c cc nL s args gT own) (cw : CallW R s args own C index y bytes maxL ret (Cond.code y bytes maxL ret :: gT) rm 0 0 n)
    (hP : va_P D vwCl ws H) (hD : va_D A0 ws) (hS : va_S A0 H0 H locs) (hA : ∀ q, H0.size ≤ q → A0 q) (hK : va_K D vwCl tys s) (isC isR : List Nat) (hC : isC.map (fun i => ws[i]?) = wc.map some) (hR : isR.map (fun i => ws[i]?) = wr.map some) (hnc : va_nd isC = true) (hnr : va_nd isR = true) (hdis : ∀ i ∈ isR, i ∉ isC)
    (hr : ∃ cell : Cell, H[b]? = some cell ∧ cell.vm.isStatics = false ∧ s.vm.findClass C = some cell.cls) (hn : As.length = n) (hsize : ls.size = nL) (hst : st0 = As.reverse ++ .ref b :: rest) (hW : (rest.map fun v => v.category).sum ≤ 8) (hdg : decode cc pc = .ok (.invokevirtual index, 3)) (hf : cells ≤ R.cells ∧ slots ≤ R.slots)
    (kk : ∀ (r : Int64) (u : T) (H1 : Heap) (locs1 : List Loc), post r u → va_P D vwCl (wr ++ w1 u) H1 → va_D A0 (wr ++ w1 u) → va_S A0 H0 H1 locs1 → W p l e R s m args below meth c H1 locs1 cells slots Q (F0 m (pc + 3) ls (.long r :: rest))) : W p l e R s m args below meth c H locs cells slots Q (F0 m pc ls st0) := by
  have hDc := hD.sub isC hnc hC
  have hPc : va_P D vwCl wc H := fun k q hk => by
    have h1 : (isC.map (fun i => ws[i]?))[k]? = some (some q) := by rw [hC, List.getElem?_map, hk]; rfl
    rw [List.getElem?_map] at h1
    cases hi : isC[k]? with
    | none => rw [hi] at h1; cases h1
    | some i => rw [hi] at h1; exact hP i q (Option.some.inj h1)
  have hFc := va_free (wc := wc) hD hS hA isC hC
  refine va_calll (va_runV (g := F0 m pc ls st0) S hM cw (ef_preV hPc hDc hK hr) rfl hn hsize hst (lv_room hW) hdg hf) hS (fun q _ h => hFc q h) hFc (fun r u t H1 locs1 ht hvm hw hB hz1 hk1 hS => ?_)
  obtain ⟨hP1, hK1, hD1⟩ := hB
  rw [ht] at hP1
  obtain ⟨hP2, hD2⟩ := va_join (wr := wr) (w1 := w1 u) hP hD isC isR hC hR hnr hdis hk1 hFc hP1 hD1
  exact kk r u H1 locs1 hw hP2 hD2 hS
theorem efVv {post : T → Prop} (hM : Met l y (Cond.code y bytes maxL ret :: gT) rm (EFp D wc tys H.size (.ref b :: As)) (va_Qv post (EFb D w1 tys (va_A wc H.size)) (va_A wc H.size)) 0 0 (va_A wc H.size)) (S : CallFix p m c cc nL s args gT own) (cw : CallW R s args own C index y bytes maxL ret (Cond.code y bytes maxL ret :: gT) rm 0 0 n)
    (hP : va_P D vwCl ws H) (hD : va_D A0 ws) (hS : va_S A0 H0 H locs) (hA : ∀ q, H0.size ≤ q → A0 q) (hK : va_K D vwCl tys s) (isC isR : List Nat) (hC : isC.map (fun i => ws[i]?) = wc.map some) (hR : isR.map (fun i => ws[i]?) = wr.map some) (hnc : va_nd isC = true) (hnr : va_nd isR = true) (hdis : ∀ i ∈ isR, i ∉ isC)
    (hr : ∃ cell : Cell, H[b]? = some cell ∧ cell.vm.isStatics = false ∧ s.vm.findClass C = some cell.cls) (hn : As.length = n) (hsize : ls.size = nL) (hst : st0 = As.reverse ++ .ref b :: rest) (hW : (rest.map fun v => v.category).sum ≤ 8) (hdg : decode cc pc = .ok (.invokevirtual index, 3)) (hf : cells ≤ R.cells ∧ slots ≤ R.slots)
    (kk : ∀ (u : T) (H1 : Heap) (locs1 : List Loc), post u → va_P D vwCl (wr ++ w1 u) H1 → va_D A0 (wr ++ w1 u) → va_S A0 H0 H1 locs1 → W p l e R s m args below meth c H1 locs1 cells slots Q (F0 m (pc + 3) ls rest)) : W p l e R s m args below meth c H locs cells slots Q (F0 m pc ls st0) := by
  have hDc := hD.sub isC hnc hC
  have hPc : va_P D vwCl wc H := fun k q hk => by
    have h1 : (isC.map (fun i => ws[i]?))[k]? = some (some q) := by rw [hC, List.getElem?_map, hk]; rfl
    rw [List.getElem?_map] at h1
    cases hi : isC[k]? with
    | none => rw [hi] at h1; cases h1
    | some i => rw [hi] at h1; exact hP i q (Option.some.inj h1)
  have hFc := va_free (wc := wc) hD hS hA isC hC
  refine va_callv (va_runV (g := F0 m pc ls st0) S hM cw (ef_preV hPc hDc hK hr) rfl hn hsize hst (lv_room hW) hdg hf) hS (fun q _ h => hFc q h) hFc (fun u t H1 locs1 ht hvm hw hB hz1 hk1 hS => ?_)
  obtain ⟨hP1, hK1, hD1⟩ := hB
  rw [ht] at hP1
  obtain ⟨hP2, hD2⟩ := va_join (wr := wr) (w1 := w1 u) hP hD isC isR hC hR hnr hdis hk1 hFc hP1 hD1
  exact kk u H1 locs1 hw hP2 hD2 hS
theorem efVr {post : T → Prop} {ra : Nat} (hM : Met l y (Cond.code y bytes maxL ret :: gT) rm (EFp D wc tys H.size (.ref b :: As)) (va_Qr post (fun u a t => a = ra ∧ EFb D w1 tys (va_A wc H.size) u t) (va_A wc H.size)) 0 0 (va_A wc H.size)) (S : CallFix p m c cc nL s args gT own) (cw : CallW R s args own C index y bytes maxL ret (Cond.code y bytes maxL ret :: gT) rm 0 0 n)
    (hP : va_P D vwCl ws H) (hD : va_D A0 ws) (hS : va_S A0 H0 H locs) (hA : ∀ q, H0.size ≤ q → A0 q) (hK : va_K D vwCl tys s) (isC isR : List Nat) (hC : isC.map (fun i => ws[i]?) = wc.map some) (hR : isR.map (fun i => ws[i]?) = wr.map some) (hnc : va_nd isC = true) (hnr : va_nd isR = true) (hdis : ∀ i ∈ isR, i ∉ isC)
    (hr : ∃ cell : Cell, H[b]? = some cell ∧ cell.vm.isStatics = false ∧ s.vm.findClass C = some cell.cls) (hn : As.length = n) (hsize : ls.size = nL) (hst : st0 = As.reverse ++ .ref b :: rest) (hW : (rest.map fun v => v.category).sum ≤ 8) (hdg : decode cc pc = .ok (.invokevirtual index, 3)) (hf : cells ≤ R.cells ∧ slots ≤ R.slots)
    (kk : ∀ (u : T) (H1 : Heap) (locs1 : List Loc), post u → va_P D vwCl (wr ++ w1 u) H1 → va_D A0 (wr ++ w1 u) → va_S A0 H0 H1 locs1 → W p l e R s m args below meth c H1 locs1 cells slots Q (F0 m (pc + 3) ls (.ref ra :: rest))) : W p l e R s m args below meth c H locs cells slots Q (F0 m pc ls st0) := by
  have hDc := hD.sub isC hnc hC
  have hPc : va_P D vwCl wc H := fun k q hk => by
    have h1 : (isC.map (fun i => ws[i]?))[k]? = some (some q) := by rw [hC, List.getElem?_map, hk]; rfl
    rw [List.getElem?_map] at h1
    cases hi : isC[k]? with
    | none => rw [hi] at h1; cases h1
    | some i => rw [hi] at h1; exact hP i q (Option.some.inj h1)
  have hFc := va_free (wc := wc) hD hS hA isC hC
  refine va_callr (va_runV (g := F0 m pc ls st0) S hM cw (ef_preV hPc hDc hK hr) rfl hn hsize hst (lv_room hW) hdg hf) hS (fun q _ h => hFc q h) hFc (fun u ra9 t H1 locs1 ht hvm hw hB hz1 hk1 hS => ?_)
  obtain ⟨rfl, hP1, hK1, hD1⟩ := hB
  rw [ht] at hP1
  obtain ⟨hP2, hD2⟩ := va_join (wr := wr) (w1 := w1 u) hP hD isC isR hC hR hnr hdis hk1 hFc hP1 hD1
  exact kk u H1 locs1 hw hP2 hD2 hS
theorem efSv {post : T → Prop} (hM : Met l y (Cond.code y bytes maxL ret :: gT) rm (EFp D wc tys H.size As) (va_Qv post (EFb D w1 tys (va_A wc H.size)) (va_A wc H.size)) 0 0 (va_A wc H.size)) (S : CallFix p m c cc nL s args gT own) (cw : CallB R s args own index y bytes maxL ret (Cond.code y bytes maxL ret :: gT) rm 0 0 n ∧ (Cond.static y).before args s = true)
    (hP : va_P D vwCl ws H) (hD : va_D A0 ws) (hS : va_S A0 H0 H locs) (hA : ∀ q, H0.size ≤ q → A0 q) (hK : va_K D vwCl tys s) (isC isR : List Nat) (hC : isC.map (fun i => ws[i]?) = wc.map some) (hR : isR.map (fun i => ws[i]?) = wr.map some) (hnc : va_nd isC = true) (hnr : va_nd isR = true) (hdis : ∀ i ∈ isR, i ∉ isC)
    (hn : As.length = n) (hsize : ls.size = nL) (hst : st0 = As.reverse ++ rest) (hW : (rest.map fun v => v.category).sum ≤ 8) (hdg : decode cc pc = .ok (.invokestatic index, 3)) (hf : cells ≤ R.cells ∧ slots ≤ R.slots)
    (kk : ∀ (u : T) (H1 : Heap) (locs1 : List Loc), post u → va_P D vwCl (wr ++ w1 u) H1 → va_D A0 (wr ++ w1 u) → va_S A0 H0 H1 locs1 → W p l e R s m args below meth c H1 locs1 cells slots Q (F0 m (pc + 3) ls rest)) : W p l e R s m args below meth c H locs cells slots Q (F0 m pc ls st0) := by
  have hDc := hD.sub isC hnc hC
  have hPc : va_P D vwCl wc H := fun k q hk => by
    have h1 : (isC.map (fun i => ws[i]?))[k]? = some (some q) := by rw [hC, List.getElem?_map, hk]; rfl
    rw [List.getElem?_map] at h1
    cases hi : isC[k]? with
    | none => rw [hi] at h1; cases h1
    | some i => rw [hi] at h1; exact hP i q (Option.some.inj h1)
  have hFc := va_free (wc := wc) hD hS hA isC hC
  refine va_callv (va_runS (g := F0 m pc ls st0) S hM cw (ef_pre hPc hDc hK) rfl hn hsize hst (lv_room hW) hdg hf) hS (fun q _ h => hFc q h) hFc (fun u t H1 locs1 ht hvm hw hB hz1 hk1 hS => ?_)
  obtain ⟨hP1, hK1, hD1⟩ := hB
  rw [ht] at hP1
  obtain ⟨hP2, hD2⟩ := va_join (wr := wr) (w1 := w1 u) hP hD isC isR hC hR hnr hdis hk1 hFc hP1 hD1
  exact kk u H1 locs1 hw hP2 hD2 hS
end HLP
end
section
/-! the pure words: numbers, directions, steps -/
theorem lgE {a b : Int64} : lg_cmp a b = 0 ↔ a = b := by
  unfold lg_cmp
  by_cases h : b < a
  · rw [if_pos h]
    refine ⟨fun q => absurd q (by decide), fun q => ?_⟩
    subst q
    exact absurd h (by simp)
  · rw [if_neg h]
    by_cases h2 : a = b <;> simp [h2]
theorem lgG {a b : Int64} : 0 < lg_cmp a b ↔ b < a := by
  unfold lg_cmp
  by_cases h : b < a
  · simp [h]
  · by_cases h2 : a = b <;> simp [h, h2] <;> decide
theorem lgL {a b : Int64} : lg_cmp a b < 0 ↔ a < b := by
  unfold lg_cmp
  have e1 : (a < b) = (a.toInt < b.toInt) := propext Int64.lt_iff_toInt_lt
  have e2 : (b < a) = (b.toInt < a.toInt) := propext Int64.lt_iff_toInt_lt
  have e3 : (a = b) = (a.toInt = b.toInt) := propext Int64.toInt_inj.symm
  rw [e1]
  by_cases h : b < a
  · rw [if_pos h]
    rw [e2] at h
    exact ⟨fun q => absurd q (by decide), fun q => absurd q (by omega)⟩
  · rw [if_neg h]
    rw [e2] at h
    by_cases h2 : a = b
    · rw [if_pos h2]
      rw [e3] at h2
      exact ⟨fun q => absurd q (by decide), fun q => absurd q (by omega)⟩
    · rw [if_neg h2]
      rw [e3] at h2
      exact ⟨fun _ => by omega, fun _ => by decide⟩
theorem i32nl {x : Int32} : (0 ≤ x) ↔ ¬ x < 0 := by
  rw [Int32.le_iff_toInt_le, Int32.lt_iff_toInt_lt]
  omega
theorem i64nl {x y : Int64} : (x ≤ y) ↔ ¬ y < x := by
  rw [Int64.le_iff_toInt_le, Int64.lt_iff_toInt_lt]
  omega
theorem lgGe {a b : Int64} : 0 ≤ lg_cmp a b ↔ b ≤ a := by rw [i32nl, lgL, i64nl]
theorem lgLe {a b : Int64} : lg_cmp a b ≤ 0 ↔ a ≤ b := by
  have h : (lg_cmp a b ≤ 0) ↔ ¬ (0 < lg_cmp a b) := by
    rw [Int32.le_iff_toInt_le, Int32.lt_iff_toInt_lt]
    omega
  rw [h, lgG, i64nl]
theorem sub1_neg {a : Nat} (h : a < 2 ^ 30) : nI a - nI 1 < 0 ↔ a < 1 := by
  rw [Int32.lt_iff_toInt_lt, pk_sub_toInt h (by decide)]
  show (a : Int) - 1 < 0 ↔ _
  omega
theorem sub1_ge {a b : Nat} (h : a < 2 ^ 30) (hb : b < 2 ^ 30) : nI b ≤ nI a - nI 1 ↔ b + 1 ≤ a := by
  rw [Int32.le_iff_toInt_le, pk_sub_toInt h (by decide), nI_toInt (by omega)]
  omega
theorem sub1_lt {a b : Nat} (h : a < 2 ^ 30) (hb : b < 2 ^ 30) : nI a - nI 1 < nI b ↔ a < b + 1 := by
  rw [Int32.lt_iff_toInt_lt, pk_sub_toInt h (by decide), nI_toInt (by omega)]
  omega
def kc : Nat → Nat
  | 0 => 1
  | 1 => 3
  | 2 => 0
  | 3 => 6
  | _ => 4
/-- one and the way from a to b: 0, 1, 2 -/
def upN (a b : Nat) : Nat := if a < b then 2 else if b < a then 0 else 1
/-- where a needle of a kind points, by its home, from a place -/
def pointN (k h p : Nat) : Nat :=
  match k with
  | 0 => 3 * upN (p / 6) (h / 6) + upN (p % 6) (h % 6)
  | 1 => 3 * (2 - upN (p / 6) (h / 6)) + (2 - upN (p % 6) (h % 6))
  | 2 => if upN (p % 6) (h % 6) = 1 then 3 * upN (p / 6) (h / 6) + 1 else 3 + upN (p % 6) (h % 6)
  | 3 => 3 * upN (p % 6) (h % 6) + (2 - upN (p / 6) (h / 6))
  | _ => if upN (p / 6) (h / 6) = 1 then 3 + upN (p % 6) (h % 6) else 3 * upN (p / 6) (h / 6) + 1
theorem upN_lt (a b : Nat) : upN a b < 3 := by
  unfold upN
  split
  · omega
  · split <;> omega
theorem pointN_lt (k h p : Nat) : pointN k h p < 9 := by
  have h1 := upN_lt (p / 6) (h / 6)
  have h2 := upN_lt (p % 6) (h % 6)
  unfold pointN
  split
  · omega
  · omega
  · split <;> omega
  · omega
  · split <;> omega
/-- an island, by the system's bits, by the reference's row -/
def xb (isl : Int64) (j : Nat) : Bool := decide (j < 36) && decide (isl >>> ((nI j).toInt64 &&& 63) &&& 1 = 1)
def mb (im : Nat → Int32) (j : Nat) : Bool := decide (j < 36) && decide (im j = 1)
theorem xb_t {isl : Int64} {j : Nat} (h : j < 36) (c : isl >>> ((nI j).toInt64 &&& 63) &&& 1 = 1) : nI 1 = bI (xb isl j) := by
  simp [xb, h, c]; rfl
theorem xb_f {isl : Int64} {j : Nat} (h : j < 36) (c : ¬ isl >>> ((nI j).toInt64 &&& 63) &&& 1 = 1) : nI 0 = bI (xb isl j) := by
  simp [xb, h, c]; rfl
/-- where a step leads -/
def stepN (ib : Nat → Bool) (p d : Nat) : Nat :=
  if p / 6 + d / 3 < 1 ∨ 7 ≤ p / 6 + d / 3 ∨ p % 6 + d % 3 < 1 ∨ 7 ≤ p % 6 + d % 3 then p
  else if ib (6 * (p / 6 + d / 3 - 1) + (p % 6 + d % 3 - 1)) = true then p else 6 * (p / 6 + d / 3 - 1) + (p % 6 + d % 3 - 1)
theorem stepN_off {ib : Nat → Bool} {p d : Nat} (h : p / 6 + d / 3 < 1 ∨ 7 ≤ p / 6 + d / 3 ∨ p % 6 + d % 3 < 1 ∨ 7 ≤ p % 6 + d % 3) : stepN ib p d = p := by
  unfold stepN; rw [if_pos h]
theorem stepN_isl {ib : Nat → Bool} {p d : Nat} (c : ib (6 * (p / 6 + d / 3 - 1) + (p % 6 + d % 3 - 1)) = true) : stepN ib p d = p := by
  unfold stepN
  rw [if_pos c]
  split <;> rfl
theorem stepN_on {ib : Nat → Bool} {p d : Nat} (h : ¬ (p / 6 + d / 3 < 1 ∨ 7 ≤ p / 6 + d / 3 ∨ p % 6 + d % 3 < 1 ∨ 7 ≤ p % 6 + d % 3)) (c : ib (6 * (p / 6 + d / 3 - 1) + (p % 6 + d % 3 - 1)) = false) : stepN ib p d = 6 * (p / 6 + d / 3 - 1) + (p % 6 + d % 3 - 1) := by
  unfold stepN
  rw [if_neg h, if_neg (by rw [c]; decide)]
theorem stepN_lt {ib : Nat → Bool} {p d : Nat} (hp : p < 36) : stepN ib p d < 36 := by
  unfold stepN
  split
  · exact hp
  · split
    · exact hp
    · omega
end
section
def s_X8_nearer (x1 : Int32) (x2 : Int32) : Int32 := if x2 ≤ x1 then (if x1 ≤ x2 then (nI 0) else ((-1))) else (nI 1)
set_option maxHeartbeats 4000000 in
set_option maxRecDepth 100000 in
theorem kX8_nearer (l : Launch) (dC : Nat → ClassId) (dI : Nat → Nat → Nat) (ca : Nat → ClassId) (x1 : Int32) (x2 : Int32) : Met l yX8_nearer (Cond.code yX8_nearer cX8_nearer 2 (some .int) :: gT) (rk 1) (ROp (dC, dI) [] (TY ca) [Value.int x1, Value.int x2]) (vp_Si (fun r => r = s_X8_nearer x1 x2)) 0 0 (fun _ => False) := by
  refine Met.ofW (cc := cX8_nearer) (maxL := 2) (ret := (some .int)) (by decide) rfl ?_
  intro p e s m args below meth c s₁ B hml hv
  obtain ⟨rfl, hP, hK⟩ := hv
  have hx := B.exec
  have hb := B.bytes
  have hr := B.returns
  have hts := atoms_spec (ws := (Cond.code yX8_nearer cX8_nearer 2 (some .int) :: gT)) B.pre
  have htl : ∀ w ∈ gT, w.before _ s = true := fun w h => hts w (List.mem_cons_of_mem _ h)
  have hown : s.vm.findClass RX8 = some m.cls := findClass_of_methodNamed B.named
  have hlocks := B.notSynchronized
  have hl := lv_entry ([Value.int x1, Value.int x2]) (n := 2) (Nat.le_of_ble_eq_true rfl)
  rw [lg_entry_eq]
  generalize (lg_sl ([Value.int x1, Value.int x2]) ++ List.replicate (2 - (lg_sl ([Value.int x1, Value.int x2])).length) Slot.unset).toArray = ls at hl ⊢
  have hl : lv_has ls 2 [(0, .int x1), (1, .int x2)] := hl
  refine lv_iload_n hx hb dX8_nearer_0 rfl (lv_at hl 1 rfl) ?_
  refine lv_iload_n hx hb dX8_nearer_1 rfl (lv_at hl 0 rfl) ?_
  refine lv_icmp_le (tgt := 9) hx hb dX8_nearer_2 (by decide) (fun c_1 => ?_) (fun c_1 => ?_)
  · refine lv_iload_n hx hb dX8_nearer_9 rfl (lv_at hl 1 rfl) ?_
    refine lv_iload_n hx hb dX8_nearer_10 rfl (lv_at hl 0 rfl) ?_
    refine lv_icmp_ge (tgt := 18) hx hb dX8_nearer_11 (by decide) (fun c_2 => ?_) (fun c_2 => ?_)
    · refine lv_iconst (v := nI 0) hx hb dX8_nearer_18 (by decide) ?_
      exact W.iret (v := nI 0) hx hb hr (fun t ht hW => ⟨nI 0, rfl, by show _ = _; unfold s_X8_nearer; (first | rw [if_pos c_1] | rw [if_neg c_1] | rw [if_neg (by rw [c_1]; decide)]); (first | rw [if_pos c_2] | rw [if_neg c_2] | rw [if_neg (by rw [c_2]; decide)]); (first | done | rfl), ht⟩) (fun q h => by cases h) dX8_nearer_19
    · refine lv_iconst (v := (-1)) hx hb dX8_nearer_14 (by decide) ?_
      refine lv_goto (tgt := 19) hx hb dX8_nearer_15 (by decide) ?_
      exact W.iret (v := (-1)) hx hb hr (fun t ht hW => ⟨(-1), rfl, by show _ = _; unfold s_X8_nearer; (first | rw [if_pos c_1] | rw [if_neg c_1] | rw [if_neg (by rw [c_1]; decide)]); (first | rw [if_pos c_2] | rw [if_neg c_2] | rw [if_neg (by rw [c_2]; decide)]); (first | done | rfl), ht⟩) (fun q h => by cases h) dX8_nearer_19
  · refine lv_iconst (v := nI 1) hx hb dX8_nearer_5 (by decide) ?_
    refine lv_goto (tgt := 19) hx hb dX8_nearer_6 (by decide) ?_
    exact W.iret (v := nI 1) hx hb hr (fun t ht hW => ⟨nI 1, rfl, by show _ = _; unfold s_X8_nearer; (first | rw [if_pos c_1] | rw [if_neg c_1] | rw [if_neg (by rw [c_1]; decide)]); (first | done | rfl), ht⟩) (fun q h => by cases h) dX8_nearer_19
def s_X8_isPlace (x1 : Int32) : Bool := if x1 < 0 then false else (if (nI 36) ≤ x1 then false else (true))
set_option maxHeartbeats 4000000 in
set_option maxRecDepth 100000 in
theorem kX8_isPlace (l : Launch) (dC : Nat → ClassId) (dI : Nat → Nat → Nat) (ca : Nat → ClassId) (x1 : Int32) : Met l yX8_isPlace (Cond.code yX8_isPlace cX8_isPlace 1 (some .boolean) :: gT) (rk 1) (ROp (dC, dI) [] (TY ca) [Value.int x1]) (vp_Si (fun r => r = bI (s_X8_isPlace x1))) 0 0 (fun _ => False) := by
  refine Met.ofW (cc := cX8_isPlace) (maxL := 1) (ret := (some .boolean)) (by decide) rfl ?_
  intro p e s m args below meth c s₁ B hml hv
  obtain ⟨rfl, hP, hK⟩ := hv
  have hx := B.exec
  have hb := B.bytes
  have hr := B.returns
  have hts := atoms_spec (ws := (Cond.code yX8_isPlace cX8_isPlace 1 (some .boolean) :: gT)) B.pre
  have htl : ∀ w ∈ gT, w.before _ s = true := fun w h => hts w (List.mem_cons_of_mem _ h)
  have hown : s.vm.findClass RX8 = some m.cls := findClass_of_methodNamed B.named
  have hlocks := B.notSynchronized
  have hl := lv_entry ([Value.int x1]) (n := 1) (Nat.le_of_ble_eq_true rfl)
  rw [lg_entry_eq]
  generalize (lg_sl ([Value.int x1]) ++ List.replicate (1 - (lg_sl ([Value.int x1])).length) Slot.unset).toArray = ls at hl ⊢
  have hl : lv_has ls 1 [(0, .int x1)] := hl
  refine lv_iload_n hx hb dX8_isPlace_0 rfl (lv_at hl 0 rfl) ?_
  refine lv_if_lt (tgt := 14) hx hb dX8_isPlace_1 (by decide) (fun c_1 => ?_) (fun c_1 => ?_)
  · refine lv_iconst (v := nI 0) hx hb dX8_isPlace_14 (by decide) ?_
    exact W.zret (v := nI 0) hx hb hr (by decide +kernel) (fun t ht hW => ⟨nI 0, rfl, by show _ = _; unfold s_X8_isPlace; (first | rw [if_pos c_1] | rw [if_neg c_1] | rw [if_neg (by rw [c_1]; decide)]); (first | done | rfl), ht⟩) (fun q h => by cases h) dX8_isPlace_15
  · refine lv_iload_n hx hb dX8_isPlace_4 rfl (lv_at hl 0 rfl) ?_
    refine lv_bipush (v := nI 36) hx hb dX8_isPlace_5 (by decide) ?_
    refine lv_icmp_ge (tgt := 14) hx hb dX8_isPlace_7 (by decide) (fun c_2 => ?_) (fun c_2 => ?_)
    · refine lv_iconst (v := nI 0) hx hb dX8_isPlace_14 (by decide) ?_
      exact W.zret (v := nI 0) hx hb hr (by decide +kernel) (fun t ht hW => ⟨nI 0, rfl, by show _ = _; unfold s_X8_isPlace; (first | rw [if_pos c_1] | rw [if_neg c_1] | rw [if_neg (by rw [c_1]; decide)]); (first | rw [if_pos c_2] | rw [if_neg c_2] | rw [if_neg (by rw [c_2]; decide)]); (first | done | rfl), ht⟩) (fun q h => by cases h) dX8_isPlace_15
    · refine lv_iconst (v := nI 1) hx hb dX8_isPlace_10 (by decide) ?_
      refine lv_goto (tgt := 15) hx hb dX8_isPlace_11 (by decide) ?_
      exact W.zret (v := nI 1) hx hb hr (by decide +kernel) (fun t ht hW => ⟨nI 1, rfl, by show _ = _; unfold s_X8_isPlace; (first | rw [if_pos c_1] | rw [if_neg c_1] | rw [if_neg (by rw [c_1]; decide)]); (first | rw [if_pos c_2] | rw [if_neg c_2] | rw [if_neg (by rw [c_2]; decide)]); (first | done | rfl), ht⟩) (fun q h => by cases h) dX8_isPlace_15
def s_X8_isDirection (x1 : Int32) : Bool := if x1 < 0 then false else (if (nI 9) ≤ x1 then false else (true))
set_option maxHeartbeats 4000000 in
set_option maxRecDepth 100000 in
theorem kX8_isDirection (l : Launch) (dC : Nat → ClassId) (dI : Nat → Nat → Nat) (ca : Nat → ClassId) (x1 : Int32) : Met l yX8_isDirection (Cond.code yX8_isDirection cX8_isDirection 1 (some .boolean) :: gT) (rk 1) (ROp (dC, dI) [] (TY ca) [Value.int x1]) (vp_Si (fun r => r = bI (s_X8_isDirection x1))) 0 0 (fun _ => False) := by
  refine Met.ofW (cc := cX8_isDirection) (maxL := 1) (ret := (some .boolean)) (by decide) rfl ?_
  intro p e s m args below meth c s₁ B hml hv
  obtain ⟨rfl, hP, hK⟩ := hv
  have hx := B.exec
  have hb := B.bytes
  have hr := B.returns
  have hts := atoms_spec (ws := (Cond.code yX8_isDirection cX8_isDirection 1 (some .boolean) :: gT)) B.pre
  have htl : ∀ w ∈ gT, w.before _ s = true := fun w h => hts w (List.mem_cons_of_mem _ h)
  have hown : s.vm.findClass RX8 = some m.cls := findClass_of_methodNamed B.named
  have hlocks := B.notSynchronized
  have hl := lv_entry ([Value.int x1]) (n := 1) (Nat.le_of_ble_eq_true rfl)
  rw [lg_entry_eq]
  generalize (lg_sl ([Value.int x1]) ++ List.replicate (1 - (lg_sl ([Value.int x1])).length) Slot.unset).toArray = ls at hl ⊢
  have hl : lv_has ls 1 [(0, .int x1)] := hl
  refine lv_iload_n hx hb dX8_isDirection_0 rfl (lv_at hl 0 rfl) ?_
  refine lv_if_lt (tgt := 14) hx hb dX8_isDirection_1 (by decide) (fun c_1 => ?_) (fun c_1 => ?_)
  · refine lv_iconst (v := nI 0) hx hb dX8_isDirection_14 (by decide) ?_
    exact W.zret (v := nI 0) hx hb hr (by decide +kernel) (fun t ht hW => ⟨nI 0, rfl, by show _ = _; unfold s_X8_isDirection; (first | rw [if_pos c_1] | rw [if_neg c_1] | rw [if_neg (by rw [c_1]; decide)]); (first | done | rfl), ht⟩) (fun q h => by cases h) dX8_isDirection_15
  · refine lv_iload_n hx hb dX8_isDirection_4 rfl (lv_at hl 0 rfl) ?_
    refine lv_bipush (v := nI 9) hx hb dX8_isDirection_5 (by decide) ?_
    refine lv_icmp_ge (tgt := 14) hx hb dX8_isDirection_7 (by decide) (fun c_2 => ?_) (fun c_2 => ?_)
    · refine lv_iconst (v := nI 0) hx hb dX8_isDirection_14 (by decide) ?_
      exact W.zret (v := nI 0) hx hb hr (by decide +kernel) (fun t ht hW => ⟨nI 0, rfl, by show _ = _; unfold s_X8_isDirection; (first | rw [if_pos c_1] | rw [if_neg c_1] | rw [if_neg (by rw [c_1]; decide)]); (first | rw [if_pos c_2] | rw [if_neg c_2] | rw [if_neg (by rw [c_2]; decide)]); (first | done | rfl), ht⟩) (fun q h => by cases h) dX8_isDirection_15
    · refine lv_iconst (v := nI 1) hx hb dX8_isDirection_10 (by decide) ?_
      refine lv_goto (tgt := 15) hx hb dX8_isDirection_11 (by decide) ?_
      exact W.zret (v := nI 1) hx hb hr (by decide +kernel) (fun t ht hW => ⟨nI 1, rfl, by show _ = _; unfold s_X8_isDirection; (first | rw [if_pos c_1] | rw [if_neg c_1] | rw [if_neg (by rw [c_1]; decide)]); (first | rw [if_pos c_2] | rw [if_neg c_2] | rw [if_neg (by rw [c_2]; decide)]); (first | done | rfl), ht⟩) (fun q h => by cases h) dX8_isDirection_15
def s_X8_isNeedle (nc : Nat) (x1 : Int32) : Bool := if x1 < 0 then false else (if (nI nc) ≤ x1 then false else (true))
set_option maxHeartbeats 4000000 in
set_option maxRecDepth 100000 in
theorem kX8_isNeedle (l : Launch) (dC : Nat → ClassId) (dI : Nat → Nat → Nat) (ca : Nat → ClassId) (x1 : Int32) (q : Nat → Nat) (nc : Nat) (sr : Int32) (ik : Int32) : Met l yX8_isNeedle (Cond.code yX8_isNeedle cX8_isNeedle 2 (some .boolean) :: gT) (rk 1) (ROp (dC, dI) [(q 0, .inr (8, [.ref (q 1), .ref (q 3), .ref (q 4), .ref (q 9), .ref (q 14), .ref (q 15), .ref (q 16), .ref (q 17), .int (nI nc), .int sr, .int ik]))] (TY ca) [Value.ref (q 0), Value.int x1]) (vp_Si (fun r => r = bI (s_X8_isNeedle nc x1))) 0 0 (fun _ => False) := by
  refine Met.ofW (cc := cX8_isNeedle) (maxL := 2) (ret := (some .boolean)) (by decide) rfl ?_
  intro p e s m args below meth c s₁ B hml hv
  obtain ⟨rfl, hP, hK⟩ := hv
  have hx := B.exec
  have hb := B.bytes
  have hr := B.returns
  have hts := atoms_spec (ws := (Cond.code yX8_isNeedle cX8_isNeedle 2 (some .boolean) :: gT)) B.pre
  have htl : ∀ w ∈ gT, w.before _ s = true := fun w h => hts w (List.mem_cons_of_mem _ h)
  have hown : s.vm.findClass RX8 = some m.cls := findClass_of_methodNamed B.named
  have hlocks := B.notSynchronized
  have hl := lv_entry ([Value.ref (q 0), Value.int x1]) (n := 2) (Nat.le_of_ble_eq_true rfl)
  rw [lg_entry_eq]
  generalize (lg_sl ([Value.ref (q 0), Value.int x1]) ++ List.replicate (2 - (lg_sl ([Value.ref (q 0), Value.int x1])).length) Slot.unset).toArray = ls at hl ⊢
  have hl : lv_has ls 2 [(0, .ref (q 0)), (1, .int x1)] := hl
  refine lv_iload_n hx hb dX8_isNeedle_0 rfl (lv_at hl 1 rfl) ?_
  refine lv_if_lt (tgt := 16) hx hb dX8_isNeedle_1 (by decide) (fun c_1 => ?_) (fun c_1 => ?_)
  · refine lv_iconst (v := nI 0) hx hb dX8_isNeedle_16 (by decide) ?_
    exact W.zret (v := nI 0) hx hb hr (by decide +kernel) (fun t ht hW => ⟨nI 0, rfl, by show _ = _; unfold s_X8_isNeedle; (first | rw [if_pos c_1] | rw [if_neg c_1] | rw [if_neg (by rw [c_1]; decide)]); (first | done | rfl), ht⟩) (fun q h => by cases h) dX8_isNeedle_17
  · refine lv_iload_n hx hb dX8_isNeedle_4 rfl (lv_at hl 1 rfl) ?_
    refine lv_aload_n hx hb dX8_isNeedle_5 rfl (lv_at hl 0 rfl) ?_
    refine va_get (D := (dC, dI)) (ci := 8) (v := .int (nI nc)) (C := RX8) (T := TX8) (N := 11) hx hb htl iX8 hown hK hP 0 rfl rfl 8 (by decide) (htl _ wd_119) (fun _ h9 => h9) rfl dX8_isNeedle_6 ?_
    refine lv_icmp_ge (tgt := 16) hx hb dX8_isNeedle_9 (by decide) (fun c_2 => ?_) (fun c_2 => ?_)
    · refine lv_iconst (v := nI 0) hx hb dX8_isNeedle_16 (by decide) ?_
      exact W.zret (v := nI 0) hx hb hr (by decide +kernel) (fun t ht hW => ⟨nI 0, rfl, by show _ = _; unfold s_X8_isNeedle; (first | rw [if_pos c_1] | rw [if_neg c_1] | rw [if_neg (by rw [c_1]; decide)]); (first | rw [if_pos c_2] | rw [if_neg c_2] | rw [if_neg (by rw [c_2]; decide)]); (first | done | rfl), ht⟩) (fun q h => by cases h) dX8_isNeedle_17
    · refine lv_iconst (v := nI 1) hx hb dX8_isNeedle_12 (by decide) ?_
      refine lv_goto (tgt := 17) hx hb dX8_isNeedle_13 (by decide) ?_
      exact W.zret (v := nI 1) hx hb hr (by decide +kernel) (fun t ht hW => ⟨nI 1, rfl, by show _ = _; unfold s_X8_isNeedle; (first | rw [if_pos c_1] | rw [if_neg c_1] | rw [if_neg (by rw [c_1]; decide)]); (first | rw [if_pos c_2] | rw [if_neg c_2] | rw [if_neg (by rw [c_2]; decide)]); (first | done | rfl), ht⟩) (fun q h => by cases h) dX8_isNeedle_17
def s_X8_hasSea (nc : Nat) : Bool := if (nI nc) ≤ 0 then false else (true)
set_option maxHeartbeats 4000000 in
set_option maxRecDepth 100000 in
theorem kX8_hasSea (l : Launch) (dC : Nat → ClassId) (dI : Nat → Nat → Nat) (ca : Nat → ClassId) (q : Nat → Nat) (nc : Nat) (sr : Int32) (ik : Int32) : Met l yX8_hasSea (Cond.code yX8_hasSea cX8_hasSea 1 (some .boolean) :: gT) (rk 1) (ROp (dC, dI) [(q 0, .inr (8, [.ref (q 1), .ref (q 3), .ref (q 4), .ref (q 9), .ref (q 14), .ref (q 15), .ref (q 16), .ref (q 17), .int (nI nc), .int sr, .int ik]))] (TY ca) [Value.ref (q 0)]) (vp_Si (fun r => r = bI (s_X8_hasSea nc))) 0 0 (fun _ => False) := by
  refine Met.ofW (cc := cX8_hasSea) (maxL := 1) (ret := (some .boolean)) (by decide) rfl ?_
  intro p e s m args below meth c s₁ B hml hv
  obtain ⟨rfl, hP, hK⟩ := hv
  have hx := B.exec
  have hb := B.bytes
  have hr := B.returns
  have hts := atoms_spec (ws := (Cond.code yX8_hasSea cX8_hasSea 1 (some .boolean) :: gT)) B.pre
  have htl : ∀ w ∈ gT, w.before _ s = true := fun w h => hts w (List.mem_cons_of_mem _ h)
  have hown : s.vm.findClass RX8 = some m.cls := findClass_of_methodNamed B.named
  have hlocks := B.notSynchronized
  have hl := lv_entry ([Value.ref (q 0)]) (n := 1) (Nat.le_of_ble_eq_true rfl)
  rw [lg_entry_eq]
  generalize (lg_sl ([Value.ref (q 0)]) ++ List.replicate (1 - (lg_sl ([Value.ref (q 0)])).length) Slot.unset).toArray = ls at hl ⊢
  have hl : lv_has ls 1 [(0, .ref (q 0))] := hl
  refine lv_aload_n hx hb dX8_hasSea_0 rfl (lv_at hl 0 rfl) ?_
  refine va_get (D := (dC, dI)) (ci := 8) (v := .int (nI nc)) (C := RX8) (T := TX8) (N := 11) hx hb htl iX8 hown hK hP 0 rfl rfl 8 (by decide) (htl _ wd_119) (fun _ h9 => h9) rfl dX8_hasSea_1 ?_
  refine lv_if_le (tgt := 11) hx hb dX8_hasSea_4 (by decide) (fun c_1 => ?_) (fun c_1 => ?_)
  · refine lv_iconst (v := nI 0) hx hb dX8_hasSea_11 (by decide) ?_
    exact W.zret (v := nI 0) hx hb hr (by decide +kernel) (fun t ht hW => ⟨nI 0, rfl, by show _ = _; unfold s_X8_hasSea; (first | rw [if_pos c_1] | rw [if_neg c_1] | rw [if_neg (by rw [c_1]; decide)]); (first | done | rfl), ht⟩) (fun q h => by cases h) dX8_hasSea_12
  · refine lv_iconst (v := nI 1) hx hb dX8_hasSea_7 (by decide) ?_
    refine lv_goto (tgt := 12) hx hb dX8_hasSea_8 (by decide) ?_
    exact W.zret (v := nI 1) hx hb hr (by decide +kernel) (fun t ht hW => ⟨nI 1, rfl, by show _ = _; unfold s_X8_hasSea; (first | rw [if_pos c_1] | rw [if_neg c_1] | rw [if_neg (by rw [c_1]; decide)]); (first | done | rfl), ht⟩) (fun q h => by cases h) dX8_hasSea_12
set_option maxHeartbeats 4000000 in
set_option maxRecDepth 100000 in
theorem kX7_isIsland (l : Launch) (dC : Nat → ClassId) (dI : Nat → Nat → Nat) (ca : Nat → ClassId) (j : Nat) (q : Nat → Nat) (isl : Int64) (br : Nat) (st : Int32) (so : Int32) (se : Nat) (hj : j < 36) : Met l yX7_isIsland (Cond.code yX7_isIsland cX7_isIsland 2 (some .boolean) :: gT) (rk 1) (ROp (dC, dI) [(q 4, .inr (7, [.ref (q 5), .ref (q 6), .ref (q 7), .ref (q 8), .long isl, .int (nI br), .int st, .int so, .int (nI se)]))] (TY ca) [Value.ref (q 4), Value.int (nI j)]) (vp_Si (fun r => r = bI (xb isl j))) 0 0 (fun _ => False) := by
  refine Met.ofW (cc := cX7_isIsland) (maxL := 2) (ret := (some .boolean)) (by decide) rfl ?_
  intro p e s m args below meth c s₁ B hml hv
  obtain ⟨rfl, hP, hK⟩ := hv
  have hx := B.exec
  have hb := B.bytes
  have hr := B.returns
  have hts := atoms_spec (ws := (Cond.code yX7_isIsland cX7_isIsland 2 (some .boolean) :: gT)) B.pre
  have htl : ∀ w ∈ gT, w.before _ s = true := fun w h => hts w (List.mem_cons_of_mem _ h)
  have hown : s.vm.findClass RX7 = some m.cls := findClass_of_methodNamed B.named
  have hlocks := B.notSynchronized
  have hl := lv_entry ([Value.ref (q 4), Value.int (nI j)]) (n := 2) (Nat.le_of_ble_eq_true rfl)
  rw [lg_entry_eq]
  generalize (lg_sl ([Value.ref (q 4), Value.int (nI j)]) ++ List.replicate (2 - (lg_sl ([Value.ref (q 4), Value.int (nI j)])).length) Slot.unset).toArray = ls at hl ⊢
  have hl : lv_has ls 2 [(0, .ref (q 4)), (1, .int (nI j))] := hl
  refine lv_aload_n hx hb dX7_isIsland_0 rfl (lv_at hl 0 rfl) ?_
  refine va_get (D := (dC, dI)) (ci := 7) (v := .long isl) (C := RX7) (T := TX7) (N := 9) hx hb htl iX7 hown hK hP 0 rfl rfl 4 (by decide) (htl _ wd_60) (fun _ h9 => h9) rfl dX7_isIsland_1 ?_
  refine lv_iload_n hx hb dX7_isIsland_4 rfl (lv_at hl 1 rfl) ?_
  refine lv_lshr (v := isl >>> ((nI j).toInt64 &&& 63)) hx hb dX7_isIsland_5 rfl ?_
  refine lv_lconst (v := 1) hx hb dX7_isIsland_6 (by decide) ?_
  refine lv_land hx hb dX7_isIsland_7 ?_
  refine lv_lconst (v := 1) hx hb dX7_isIsland_8 (by decide) ?_
  refine W.lcmp hx hb dX7_isIsland_9 ?_
  refine lv_if_ne (tgt := 17) hx hb dX7_isIsland_10 (by decide) (fun c_1 => ?_) (fun c_1 => ?_)
  · rw [lgE] at c_1
    refine lv_iconst (v := nI 0) hx hb dX7_isIsland_17 (by decide) ?_
    exact W.zret (v := nI 0) hx hb hr (by decide +kernel) (fun t ht hW => ⟨nI 0, rfl, xb_f hj c_1, ht⟩) (fun q h => by cases h) dX7_isIsland_18
  · rw [lgE] at c_1
    refine lv_iconst (v := nI 1) hx hb dX7_isIsland_13 (by decide) ?_
    refine lv_goto (tgt := 18) hx hb dX7_isIsland_14 (by decide) ?_
    exact W.zret (v := nI 1) hx hb hr (by decide +kernel) (fun t ht hW => ⟨nI 1, rfl, xb_t hj c_1, ht⟩) (fun q h => by cases h) dX7_isIsland_18
def s_X0_kind  : Int32 := nI 2
set_option maxHeartbeats 4000000 in
set_option maxRecDepth 100000 in
theorem kX0_kind (l : Launch) (dC : Nat → ClassId) (dI : Nat → Nat → Nat) (ca : Nat → ClassId) (h : Nat) : Met l yX0_kind (Cond.code yX0_kind cX0_kind 1 (some .int) :: gT) (rk 1) (ROp (dC, dI) [(h, .inr (0, []))] (TY ca) [Value.ref h]) (vp_Si (fun r => r = s_X0_kind)) 0 0 (fun _ => False) := by
  refine Met.ofW (cc := cX0_kind) (maxL := 1) (ret := (some .int)) (by decide) rfl ?_
  intro p e s m args below meth c s₁ B hml hv
  obtain ⟨rfl, hP, hK⟩ := hv
  have hx := B.exec
  have hb := B.bytes
  have hr := B.returns
  have hts := atoms_spec (ws := (Cond.code yX0_kind cX0_kind 1 (some .int) :: gT)) B.pre
  have htl : ∀ w ∈ gT, w.before _ s = true := fun w h => hts w (List.mem_cons_of_mem _ h)
  have hown : s.vm.findClass RX0 = some m.cls := findClass_of_methodNamed B.named
  have hlocks := B.notSynchronized
  have hl := lv_entry ([Value.ref h]) (n := 1) (Nat.le_of_ble_eq_true rfl)
  rw [lg_entry_eq]
  generalize (lg_sl ([Value.ref h]) ++ List.replicate (1 - (lg_sl ([Value.ref h])).length) Slot.unset).toArray = ls at hl ⊢
  have hl : lv_has ls 1 [(0, .ref h)] := hl
  refine lv_iconst (v := nI 2) hx hb dX0_kind_0 (by decide) ?_
  exact W.iret (v := nI 2) hx hb hr (fun t ht hW => ⟨nI 2, rfl, by show _ = _; unfold s_X0_kind; rfl, ht⟩) (fun q h => by cases h) dX0_kind_1
def s_X0_turn (x1 : Int32) (x2 : Int32) : Int32 := if x2 = 0 then ((nI 4) + ((nI 3) * x1)) else ((nI 4) + x2)
set_option maxHeartbeats 4000000 in
set_option maxRecDepth 100000 in
theorem kX0_turn (l : Launch) (dC : Nat → ClassId) (dI : Nat → Nat → Nat) (ca : Nat → ClassId) (h : Nat) (x1 : Int32) (x2 : Int32) : Met l yX0_turn (Cond.code yX0_turn cX0_turn 3 (some .int) :: gT) (rk 1) (ROp (dC, dI) [(h, .inr (0, []))] (TY ca) [Value.ref h, Value.int x1, Value.int x2]) (vp_Si (fun r => r = s_X0_turn x1 x2)) 0 0 (fun _ => False) := by
  refine Met.ofW (cc := cX0_turn) (maxL := 3) (ret := (some .int)) (by decide) rfl ?_
  intro p e s m args below meth c s₁ B hml hv
  obtain ⟨rfl, hP, hK⟩ := hv
  have hx := B.exec
  have hb := B.bytes
  have hr := B.returns
  have hts := atoms_spec (ws := (Cond.code yX0_turn cX0_turn 3 (some .int) :: gT)) B.pre
  have htl : ∀ w ∈ gT, w.before _ s = true := fun w h => hts w (List.mem_cons_of_mem _ h)
  have hown : s.vm.findClass RX0 = some m.cls := findClass_of_methodNamed B.named
  have hlocks := B.notSynchronized
  have hl := lv_entry ([Value.ref h, Value.int x1, Value.int x2]) (n := 3) (Nat.le_of_ble_eq_true rfl)
  rw [lg_entry_eq]
  generalize (lg_sl ([Value.ref h, Value.int x1, Value.int x2]) ++ List.replicate (3 - (lg_sl ([Value.ref h, Value.int x1, Value.int x2])).length) Slot.unset).toArray = ls at hl ⊢
  have hl : lv_has ls 3 [(0, .ref h), (1, .int x1), (2, .int x2)] := hl
  refine lv_iload_n hx hb dX0_turn_0 rfl (lv_at hl 2 rfl) ?_
  refine lv_if_eq (tgt := 10) hx hb dX0_turn_1 (by decide) (fun c_1 => ?_) (fun c_1 => ?_)
  · refine lv_iconst (v := nI 4) hx hb dX0_turn_10 (by decide) ?_
    refine lv_iconst (v := nI 3) hx hb dX0_turn_11 (by decide) ?_
    refine lv_iload_n hx hb dX0_turn_12 rfl (lv_at hl 1 rfl) ?_
    refine lv_imul hx hb dX0_turn_13 ?_
    refine lv_iadd hx hb dX0_turn_14 ?_
    exact W.iret (v := (nI 4) + ((nI 3) * x1)) hx hb hr (fun t ht hW => ⟨(nI 4) + ((nI 3) * x1), rfl, by show _ = _; unfold s_X0_turn; (first | rw [if_pos c_1] | rw [if_neg c_1] | rw [if_neg (by rw [c_1]; decide)]); (first | done | rfl), ht⟩) (fun q h => by cases h) dX0_turn_15
  · refine lv_iconst (v := nI 4) hx hb dX0_turn_4 (by decide) ?_
    refine lv_iload_n hx hb dX0_turn_5 rfl (lv_at hl 2 rfl) ?_
    refine lv_iadd hx hb dX0_turn_6 ?_
    refine lv_goto (tgt := 15) hx hb dX0_turn_7 (by decide) ?_
    exact W.iret (v := (nI 4) + x2) hx hb hr (fun t ht hW => ⟨(nI 4) + x2, rfl, by show _ = _; unfold s_X0_turn; (first | rw [if_pos c_1] | rw [if_neg c_1] | rw [if_neg (by rw [c_1]; decide)]); (first | done | rfl), ht⟩) (fun q h => by cases h) dX0_turn_15
def s_X1_kind  : Int32 := nI 0
set_option maxHeartbeats 4000000 in
set_option maxRecDepth 100000 in
theorem kX1_kind (l : Launch) (dC : Nat → ClassId) (dI : Nat → Nat → Nat) (ca : Nat → ClassId) (h : Nat) : Met l yX1_kind (Cond.code yX1_kind cX1_kind 1 (some .int) :: gT) (rk 1) (ROp (dC, dI) [(h, .inr (1, []))] (TY ca) [Value.ref h]) (vp_Si (fun r => r = s_X1_kind)) 0 0 (fun _ => False) := by
  refine Met.ofW (cc := cX1_kind) (maxL := 1) (ret := (some .int)) (by decide) rfl ?_
  intro p e s m args below meth c s₁ B hml hv
  obtain ⟨rfl, hP, hK⟩ := hv
  have hx := B.exec
  have hb := B.bytes
  have hr := B.returns
  have hts := atoms_spec (ws := (Cond.code yX1_kind cX1_kind 1 (some .int) :: gT)) B.pre
  have htl : ∀ w ∈ gT, w.before _ s = true := fun w h => hts w (List.mem_cons_of_mem _ h)
  have hown : s.vm.findClass RX1 = some m.cls := findClass_of_methodNamed B.named
  have hlocks := B.notSynchronized
  have hl := lv_entry ([Value.ref h]) (n := 1) (Nat.le_of_ble_eq_true rfl)
  rw [lg_entry_eq]
  generalize (lg_sl ([Value.ref h]) ++ List.replicate (1 - (lg_sl ([Value.ref h])).length) Slot.unset).toArray = ls at hl ⊢
  have hl : lv_has ls 1 [(0, .ref h)] := hl
  refine lv_iconst (v := nI 0) hx hb dX1_kind_0 (by decide) ?_
  exact W.iret (v := nI 0) hx hb hr (fun t ht hW => ⟨nI 0, rfl, by show _ = _; unfold s_X1_kind; rfl, ht⟩) (fun q h => by cases h) dX1_kind_1
def s_X1_turn (x1 : Int32) (x2 : Int32) : Int32 := ((nI 4) + ((nI 3) * x1)) + x2
set_option maxHeartbeats 4000000 in
set_option maxRecDepth 100000 in
theorem kX1_turn (l : Launch) (dC : Nat → ClassId) (dI : Nat → Nat → Nat) (ca : Nat → ClassId) (h : Nat) (x1 : Int32) (x2 : Int32) : Met l yX1_turn (Cond.code yX1_turn cX1_turn 3 (some .int) :: gT) (rk 1) (ROp (dC, dI) [(h, .inr (1, []))] (TY ca) [Value.ref h, Value.int x1, Value.int x2]) (vp_Si (fun r => r = s_X1_turn x1 x2)) 0 0 (fun _ => False) := by
  refine Met.ofW (cc := cX1_turn) (maxL := 3) (ret := (some .int)) (by decide) rfl ?_
  intro p e s m args below meth c s₁ B hml hv
  obtain ⟨rfl, hP, hK⟩ := hv
  have hx := B.exec
  have hb := B.bytes
  have hr := B.returns
  have hts := atoms_spec (ws := (Cond.code yX1_turn cX1_turn 3 (some .int) :: gT)) B.pre
  have htl : ∀ w ∈ gT, w.before _ s = true := fun w h => hts w (List.mem_cons_of_mem _ h)
  have hown : s.vm.findClass RX1 = some m.cls := findClass_of_methodNamed B.named
  have hlocks := B.notSynchronized
  have hl := lv_entry ([Value.ref h, Value.int x1, Value.int x2]) (n := 3) (Nat.le_of_ble_eq_true rfl)
  rw [lg_entry_eq]
  generalize (lg_sl ([Value.ref h, Value.int x1, Value.int x2]) ++ List.replicate (3 - (lg_sl ([Value.ref h, Value.int x1, Value.int x2])).length) Slot.unset).toArray = ls at hl ⊢
  have hl : lv_has ls 3 [(0, .ref h), (1, .int x1), (2, .int x2)] := hl
  refine lv_iconst (v := nI 4) hx hb dX1_turn_0 (by decide) ?_
  refine lv_iconst (v := nI 3) hx hb dX1_turn_1 (by decide) ?_
  refine lv_iload_n hx hb dX1_turn_2 rfl (lv_at hl 1 rfl) ?_
  refine lv_imul hx hb dX1_turn_3 ?_
  refine lv_iadd hx hb dX1_turn_4 ?_
  refine lv_iload_n hx hb dX1_turn_5 rfl (lv_at hl 2 rfl) ?_
  refine lv_iadd hx hb dX1_turn_6 ?_
  exact W.iret (v := ((nI 4) + ((nI 3) * x1)) + x2) hx hb hr (fun t ht hW => ⟨((nI 4) + ((nI 3) * x1)) + x2, rfl, by show _ = _; unfold s_X1_turn; rfl, ht⟩) (fun q h => by cases h) dX1_turn_7
def s_X3_kind  : Int32 := nI 1
set_option maxHeartbeats 4000000 in
set_option maxRecDepth 100000 in
theorem kX3_kind (l : Launch) (dC : Nat → ClassId) (dI : Nat → Nat → Nat) (ca : Nat → ClassId) (h : Nat) : Met l yX3_kind (Cond.code yX3_kind cX3_kind 1 (some .int) :: gT) (rk 1) (ROp (dC, dI) [(h, .inr (3, []))] (TY ca) [Value.ref h]) (vp_Si (fun r => r = s_X3_kind)) 0 0 (fun _ => False) := by
  refine Met.ofW (cc := cX3_kind) (maxL := 1) (ret := (some .int)) (by decide) rfl ?_
  intro p e s m args below meth c s₁ B hml hv
  obtain ⟨rfl, hP, hK⟩ := hv
  have hx := B.exec
  have hb := B.bytes
  have hr := B.returns
  have hts := atoms_spec (ws := (Cond.code yX3_kind cX3_kind 1 (some .int) :: gT)) B.pre
  have htl : ∀ w ∈ gT, w.before _ s = true := fun w h => hts w (List.mem_cons_of_mem _ h)
  have hown : s.vm.findClass RX3 = some m.cls := findClass_of_methodNamed B.named
  have hlocks := B.notSynchronized
  have hl := lv_entry ([Value.ref h]) (n := 1) (Nat.le_of_ble_eq_true rfl)
  rw [lg_entry_eq]
  generalize (lg_sl ([Value.ref h]) ++ List.replicate (1 - (lg_sl ([Value.ref h])).length) Slot.unset).toArray = ls at hl ⊢
  have hl : lv_has ls 1 [(0, .ref h)] := hl
  refine lv_iconst (v := nI 1) hx hb dX3_kind_0 (by decide) ?_
  exact W.iret (v := nI 1) hx hb hr (fun t ht hW => ⟨nI 1, rfl, by show _ = _; unfold s_X3_kind; rfl, ht⟩) (fun q h => by cases h) dX3_kind_1
def s_X3_turn (x1 : Int32) (x2 : Int32) : Int32 := ((nI 4) - ((nI 3) * x1)) - x2
set_option maxHeartbeats 4000000 in
set_option maxRecDepth 100000 in
theorem kX3_turn (l : Launch) (dC : Nat → ClassId) (dI : Nat → Nat → Nat) (ca : Nat → ClassId) (h : Nat) (x1 : Int32) (x2 : Int32) : Met l yX3_turn (Cond.code yX3_turn cX3_turn 3 (some .int) :: gT) (rk 1) (ROp (dC, dI) [(h, .inr (3, []))] (TY ca) [Value.ref h, Value.int x1, Value.int x2]) (vp_Si (fun r => r = s_X3_turn x1 x2)) 0 0 (fun _ => False) := by
  refine Met.ofW (cc := cX3_turn) (maxL := 3) (ret := (some .int)) (by decide) rfl ?_
  intro p e s m args below meth c s₁ B hml hv
  obtain ⟨rfl, hP, hK⟩ := hv
  have hx := B.exec
  have hb := B.bytes
  have hr := B.returns
  have hts := atoms_spec (ws := (Cond.code yX3_turn cX3_turn 3 (some .int) :: gT)) B.pre
  have htl : ∀ w ∈ gT, w.before _ s = true := fun w h => hts w (List.mem_cons_of_mem _ h)
  have hown : s.vm.findClass RX3 = some m.cls := findClass_of_methodNamed B.named
  have hlocks := B.notSynchronized
  have hl := lv_entry ([Value.ref h, Value.int x1, Value.int x2]) (n := 3) (Nat.le_of_ble_eq_true rfl)
  rw [lg_entry_eq]
  generalize (lg_sl ([Value.ref h, Value.int x1, Value.int x2]) ++ List.replicate (3 - (lg_sl ([Value.ref h, Value.int x1, Value.int x2])).length) Slot.unset).toArray = ls at hl ⊢
  have hl : lv_has ls 3 [(0, .ref h), (1, .int x1), (2, .int x2)] := hl
  refine lv_iconst (v := nI 4) hx hb dX3_turn_0 (by decide) ?_
  refine lv_iconst (v := nI 3) hx hb dX3_turn_1 (by decide) ?_
  refine lv_iload_n hx hb dX3_turn_2 rfl (lv_at hl 1 rfl) ?_
  refine lv_imul hx hb dX3_turn_3 ?_
  refine lv_isub hx hb dX3_turn_4 ?_
  refine lv_iload_n hx hb dX3_turn_5 rfl (lv_at hl 2 rfl) ?_
  refine lv_isub hx hb dX3_turn_6 ?_
  exact W.iret (v := ((nI 4) - ((nI 3) * x1)) - x2) hx hb hr (fun t ht hW => ⟨((nI 4) - ((nI 3) * x1)) - x2, rfl, by show _ = _; unfold s_X3_turn; rfl, ht⟩) (fun q h => by cases h) dX3_turn_7
def s_X4_kind  : Int32 := nI 4
set_option maxHeartbeats 4000000 in
set_option maxRecDepth 100000 in
theorem kX4_kind (l : Launch) (dC : Nat → ClassId) (dI : Nat → Nat → Nat) (ca : Nat → ClassId) (h : Nat) : Met l yX4_kind (Cond.code yX4_kind cX4_kind 1 (some .int) :: gT) (rk 1) (ROp (dC, dI) [(h, .inr (4, []))] (TY ca) [Value.ref h]) (vp_Si (fun r => r = s_X4_kind)) 0 0 (fun _ => False) := by
  refine Met.ofW (cc := cX4_kind) (maxL := 1) (ret := (some .int)) (by decide) rfl ?_
  intro p e s m args below meth c s₁ B hml hv
  obtain ⟨rfl, hP, hK⟩ := hv
  have hx := B.exec
  have hb := B.bytes
  have hr := B.returns
  have hts := atoms_spec (ws := (Cond.code yX4_kind cX4_kind 1 (some .int) :: gT)) B.pre
  have htl : ∀ w ∈ gT, w.before _ s = true := fun w h => hts w (List.mem_cons_of_mem _ h)
  have hown : s.vm.findClass RX4 = some m.cls := findClass_of_methodNamed B.named
  have hlocks := B.notSynchronized
  have hl := lv_entry ([Value.ref h]) (n := 1) (Nat.le_of_ble_eq_true rfl)
  rw [lg_entry_eq]
  generalize (lg_sl ([Value.ref h]) ++ List.replicate (1 - (lg_sl ([Value.ref h])).length) Slot.unset).toArray = ls at hl ⊢
  have hl : lv_has ls 1 [(0, .ref h)] := hl
  refine lv_iconst (v := nI 4) hx hb dX4_kind_0 (by decide) ?_
  exact W.iret (v := nI 4) hx hb hr (fun t ht hW => ⟨nI 4, rfl, by show _ = _; unfold s_X4_kind; rfl, ht⟩) (fun q h => by cases h) dX4_kind_1
def s_X4_turn (x1 : Int32) (x2 : Int32) : Int32 := if x1 = 0 then ((nI 4) + x2) else ((nI 4) + ((nI 3) * x1))
set_option maxHeartbeats 4000000 in
set_option maxRecDepth 100000 in
theorem kX4_turn (l : Launch) (dC : Nat → ClassId) (dI : Nat → Nat → Nat) (ca : Nat → ClassId) (h : Nat) (x1 : Int32) (x2 : Int32) : Met l yX4_turn (Cond.code yX4_turn cX4_turn 3 (some .int) :: gT) (rk 1) (ROp (dC, dI) [(h, .inr (4, []))] (TY ca) [Value.ref h, Value.int x1, Value.int x2]) (vp_Si (fun r => r = s_X4_turn x1 x2)) 0 0 (fun _ => False) := by
  refine Met.ofW (cc := cX4_turn) (maxL := 3) (ret := (some .int)) (by decide) rfl ?_
  intro p e s m args below meth c s₁ B hml hv
  obtain ⟨rfl, hP, hK⟩ := hv
  have hx := B.exec
  have hb := B.bytes
  have hr := B.returns
  have hts := atoms_spec (ws := (Cond.code yX4_turn cX4_turn 3 (some .int) :: gT)) B.pre
  have htl : ∀ w ∈ gT, w.before _ s = true := fun w h => hts w (List.mem_cons_of_mem _ h)
  have hown : s.vm.findClass RX4 = some m.cls := findClass_of_methodNamed B.named
  have hlocks := B.notSynchronized
  have hl := lv_entry ([Value.ref h, Value.int x1, Value.int x2]) (n := 3) (Nat.le_of_ble_eq_true rfl)
  rw [lg_entry_eq]
  generalize (lg_sl ([Value.ref h, Value.int x1, Value.int x2]) ++ List.replicate (3 - (lg_sl ([Value.ref h, Value.int x1, Value.int x2])).length) Slot.unset).toArray = ls at hl ⊢
  have hl : lv_has ls 3 [(0, .ref h), (1, .int x1), (2, .int x2)] := hl
  refine lv_iload_n hx hb dX4_turn_0 rfl (lv_at hl 1 rfl) ?_
  refine lv_if_eq (tgt := 12) hx hb dX4_turn_1 (by decide) (fun c_1 => ?_) (fun c_1 => ?_)
  · refine lv_iconst (v := nI 4) hx hb dX4_turn_12 (by decide) ?_
    refine lv_iload_n hx hb dX4_turn_13 rfl (lv_at hl 2 rfl) ?_
    refine lv_iadd hx hb dX4_turn_14 ?_
    exact W.iret (v := (nI 4) + x2) hx hb hr (fun t ht hW => ⟨(nI 4) + x2, rfl, by show _ = _; unfold s_X4_turn; (first | rw [if_pos c_1] | rw [if_neg c_1] | rw [if_neg (by rw [c_1]; decide)]); (first | done | rfl), ht⟩) (fun q h => by cases h) dX4_turn_15
  · refine lv_iconst (v := nI 4) hx hb dX4_turn_4 (by decide) ?_
    refine lv_iconst (v := nI 3) hx hb dX4_turn_5 (by decide) ?_
    refine lv_iload_n hx hb dX4_turn_6 rfl (lv_at hl 1 rfl) ?_
    refine lv_imul hx hb dX4_turn_7 ?_
    refine lv_iadd hx hb dX4_turn_8 ?_
    refine lv_goto (tgt := 15) hx hb dX4_turn_9 (by decide) ?_
    exact W.iret (v := (nI 4) + ((nI 3) * x1)) hx hb hr (fun t ht hW => ⟨(nI 4) + ((nI 3) * x1), rfl, by show _ = _; unfold s_X4_turn; (first | rw [if_pos c_1] | rw [if_neg c_1] | rw [if_neg (by rw [c_1]; decide)]); (first | done | rfl), ht⟩) (fun q h => by cases h) dX4_turn_15
def s_X6_kind  : Int32 := nI 3
set_option maxHeartbeats 4000000 in
set_option maxRecDepth 100000 in
theorem kX6_kind (l : Launch) (dC : Nat → ClassId) (dI : Nat → Nat → Nat) (ca : Nat → ClassId) (h : Nat) : Met l yX6_kind (Cond.code yX6_kind cX6_kind 1 (some .int) :: gT) (rk 1) (ROp (dC, dI) [(h, .inr (6, []))] (TY ca) [Value.ref h]) (vp_Si (fun r => r = s_X6_kind)) 0 0 (fun _ => False) := by
  refine Met.ofW (cc := cX6_kind) (maxL := 1) (ret := (some .int)) (by decide) rfl ?_
  intro p e s m args below meth c s₁ B hml hv
  obtain ⟨rfl, hP, hK⟩ := hv
  have hx := B.exec
  have hb := B.bytes
  have hr := B.returns
  have hts := atoms_spec (ws := (Cond.code yX6_kind cX6_kind 1 (some .int) :: gT)) B.pre
  have htl : ∀ w ∈ gT, w.before _ s = true := fun w h => hts w (List.mem_cons_of_mem _ h)
  have hown : s.vm.findClass RX6 = some m.cls := findClass_of_methodNamed B.named
  have hlocks := B.notSynchronized
  have hl := lv_entry ([Value.ref h]) (n := 1) (Nat.le_of_ble_eq_true rfl)
  rw [lg_entry_eq]
  generalize (lg_sl ([Value.ref h]) ++ List.replicate (1 - (lg_sl ([Value.ref h])).length) Slot.unset).toArray = ls at hl ⊢
  have hl : lv_has ls 1 [(0, .ref h)] := hl
  refine lv_iconst (v := nI 3) hx hb dX6_kind_0 (by decide) ?_
  exact W.iret (v := nI 3) hx hb hr (fun t ht hW => ⟨nI 3, rfl, by show _ = _; unfold s_X6_kind; rfl, ht⟩) (fun q h => by cases h) dX6_kind_1
def s_X6_turn (x1 : Int32) (x2 : Int32) : Int32 := ((nI 4) + ((nI 3) * x2)) - x1
set_option maxHeartbeats 4000000 in
set_option maxRecDepth 100000 in
theorem kX6_turn (l : Launch) (dC : Nat → ClassId) (dI : Nat → Nat → Nat) (ca : Nat → ClassId) (h : Nat) (x1 : Int32) (x2 : Int32) : Met l yX6_turn (Cond.code yX6_turn cX6_turn 3 (some .int) :: gT) (rk 1) (ROp (dC, dI) [(h, .inr (6, []))] (TY ca) [Value.ref h, Value.int x1, Value.int x2]) (vp_Si (fun r => r = s_X6_turn x1 x2)) 0 0 (fun _ => False) := by
  refine Met.ofW (cc := cX6_turn) (maxL := 3) (ret := (some .int)) (by decide) rfl ?_
  intro p e s m args below meth c s₁ B hml hv
  obtain ⟨rfl, hP, hK⟩ := hv
  have hx := B.exec
  have hb := B.bytes
  have hr := B.returns
  have hts := atoms_spec (ws := (Cond.code yX6_turn cX6_turn 3 (some .int) :: gT)) B.pre
  have htl : ∀ w ∈ gT, w.before _ s = true := fun w h => hts w (List.mem_cons_of_mem _ h)
  have hown : s.vm.findClass RX6 = some m.cls := findClass_of_methodNamed B.named
  have hlocks := B.notSynchronized
  have hl := lv_entry ([Value.ref h, Value.int x1, Value.int x2]) (n := 3) (Nat.le_of_ble_eq_true rfl)
  rw [lg_entry_eq]
  generalize (lg_sl ([Value.ref h, Value.int x1, Value.int x2]) ++ List.replicate (3 - (lg_sl ([Value.ref h, Value.int x1, Value.int x2])).length) Slot.unset).toArray = ls at hl ⊢
  have hl : lv_has ls 3 [(0, .ref h), (1, .int x1), (2, .int x2)] := hl
  refine lv_iconst (v := nI 4) hx hb dX6_turn_0 (by decide) ?_
  refine lv_iconst (v := nI 3) hx hb dX6_turn_1 (by decide) ?_
  refine lv_iload_n hx hb dX6_turn_2 rfl (lv_at hl 2 rfl) ?_
  refine lv_imul hx hb dX6_turn_3 ?_
  refine lv_iadd hx hb dX6_turn_4 ?_
  refine lv_iload_n hx hb dX6_turn_5 rfl (lv_at hl 1 rfl) ?_
  refine lv_isub hx hb dX6_turn_6 ?_
  exact W.iret (v := ((nI 4) + ((nI 3) * x2)) - x1) hx hb hr (fun t ht hW => ⟨((nI 4) + ((nI 3) * x2)) - x1, rfl, by show _ = _; unfold s_X6_turn; rfl, ht⟩) (fun q h => by cases h) dX6_turn_7
end
section
theorem nd4 {D : va_G} {ws : va_W} {H : Heap} {qn kd : Nat → Nat} (hP : va_P D vwCl ws H) (i : Nat) (hi : i < 4) (k0 k1 k2 k3 : Nat) (h0 : ws[k0]? = some (qn 0, .inr (kc (kd 0), []))) (h1 : ws[k1]? = some (qn 1, .inr (kc (kd 1), []))) (h2 : ws[k2]? = some (qn 2, .inr (kc (kd 2), []))) (h3 : ws[k3]? = some (qn 3, .inr (kc (kd 3), []))) : va_P D vwCl [(qn i, .inr (kc (kd i), []))] H := by
  intro k q hk
  have hz : k < 1 := (List.getElem?_eq_some_iff.mp hk).1
  rw [show k = 0 by omega] at hk
  cases hk
  match i, hi with
  | 0, _ => exact hP k0 _ h0
  | 1, _ => exact hP k1 _ h1
  | 2, _ => exact hP k2 _ h2
  | 3, _ => exact hP k3 _ h3
  | n + 4, h => exact absurd h (by omega)
set_option maxHeartbeats 4000000 in
set_option maxRecDepth 100000 in
theorem kX7_placeBehind (l : Launch) (dC : Nat → ClassId) (dI : Nat → Nat → Nat) (ca : Nat → ClassId) (pp : Nat) (d : Nat) (q : Nat → Nat) (isl : Int64) (br : Nat) (st : Int32) (so : Int32) (se : Nat) (hp : pp < 36) (hd : d < 9) : Met l yX7_placeBehind (Cond.code yX7_placeBehind cX7_placeBehind 6 (some .int) :: gT) (rk 2) (ROp (dC, dI) [(q 4, .inr (7, [.ref (q 5), .ref (q 6), .ref (q 7), .ref (q 8), .long isl, .int (nI br), .int st, .int so, .int (nI se)]))] (TY ca) [Value.ref (q 4), Value.int (nI pp), Value.int (nI d)]) (vp_Si (fun r => r = nI (stepN (xb isl) pp d))) 0 0 (fun _ => False) := by
  refine Met.ofW (cc := cX7_placeBehind) (maxL := 6) (ret := (some .int)) (by decide) rfl ?_
  intro p e s m args below meth c s₁ B hml hv
  obtain ⟨rfl, hP, hK⟩ := hv
  have hx := B.exec
  have hb := B.bytes
  have hr := B.returns
  have hts := atoms_spec (ws := (Cond.code yX7_placeBehind cX7_placeBehind 6 (some .int) :: gT)) B.pre
  have htl : ∀ w ∈ gT, w.before _ s = true := fun w h => hts w (List.mem_cons_of_mem _ h)
  have hown : s.vm.findClass RX7 = some m.cls := findClass_of_methodNamed B.named
  have hlocks := B.notSynchronized
  have hl := lv_entry ([Value.ref (q 4), Value.int (nI pp), Value.int (nI d)]) (n := 6) (Nat.le_of_ble_eq_true rfl)
  rw [lg_entry_eq]
  generalize (lg_sl ([Value.ref (q 4), Value.int (nI pp), Value.int (nI d)]) ++ List.replicate (6 - (lg_sl ([Value.ref (q 4), Value.int (nI pp), Value.int (nI d)])).length) Slot.unset).toArray = ls at hl ⊢
  have hl : lv_has ls 6 [(0, .ref (q 4)), (1, .int (nI pp)), (2, .int (nI d))] := hl
  refine lv_iload_n hx hb dX7_placeBehind_0 rfl (lv_at hl 1 rfl) ?_
  refine lv_bipush (v := nI 6) hx hb dX7_placeBehind_1 (by decide) ?_
  refine lv_idiv hx hb dX7_placeBehind_3 (by decide) ?_
  refine lv_ri (y := nI (pp / 6)) (pk_div (by omega) (by decide) (by decide)) ?_
  refine lv_iload_n hx hb dX7_placeBehind_4 rfl (lv_at hl 2 rfl) ?_
  refine lv_iconst (v := nI 3) hx hb dX7_placeBehind_5 (by decide) ?_
  refine lv_idiv hx hb dX7_placeBehind_6 (by decide) ?_
  refine lv_ri (y := nI (d / 3)) (pk_div (by omega) (by decide) (by decide)) ?_
  refine lv_iadd hx hb dX7_placeBehind_7 ?_
  refine lv_ri (y := nI ((pp / 6) + (d / 3))) (nI_add (pp / 6) (d / 3)) ?_
  refine lv_iconst (v := nI 1) hx hb dX7_placeBehind_8 (by decide) ?_
  refine lv_isub hx hb dX7_placeBehind_9 ?_
  refine lv_istore_n (lv' := [(3, .int ((nI ((pp / 6) + (d / 3))) - (nI 1))), (0, .ref (q 4)), (1, .int (nI pp)), (2, .int (nI d))]) hx hb dX7_placeBehind_10 rfl hl (by decide) rfl (fun ls hl => ?_)
  refine lv_iload_n hx hb dX7_placeBehind_11 rfl (lv_at hl 2 rfl) ?_
  refine lv_bipush (v := nI 6) hx hb dX7_placeBehind_12 (by decide) ?_
  refine lv_irem hx hb dX7_placeBehind_14 (by decide) ?_
  refine lv_ri (y := nI (pp % 6)) (pk_rem (by omega) (by decide) (by decide)) ?_
  refine lv_iload_n hx hb dX7_placeBehind_15 rfl (lv_at hl 3 rfl) ?_
  refine lv_iconst (v := nI 3) hx hb dX7_placeBehind_16 (by decide) ?_
  refine lv_irem hx hb dX7_placeBehind_17 (by decide) ?_
  refine lv_ri (y := nI (d % 3)) (pk_rem (by omega) (by decide) (by decide)) ?_
  refine lv_iadd hx hb dX7_placeBehind_18 ?_
  refine lv_ri (y := nI ((pp % 6) + (d % 3))) (nI_add (pp % 6) (d % 3)) ?_
  refine lv_iconst (v := nI 1) hx hb dX7_placeBehind_19 (by decide) ?_
  refine lv_isub hx hb dX7_placeBehind_20 ?_
  refine lv_istore (lv' := [(4, .int ((nI ((pp % 6) + (d % 3))) - (nI 1))), (3, .int ((nI ((pp / 6) + (d / 3))) - (nI 1))), (0, .ref (q 4)), (1, .int (nI pp)), (2, .int (nI d))]) hx hb dX7_placeBehind_21 hl (by decide) rfl (fun ls hl => ?_)
  refine lv_iload_n hx hb dX7_placeBehind_23 rfl (lv_at hl 1 rfl) ?_
  refine lv_if_lt (tgt := 45) hx hb dX7_placeBehind_24 (by decide) (fun c_1 => ?_) (fun c_1 => ?_)
  · rw [sub1_neg (by omega)] at c_1
    refine lv_iload_n hx hb dX7_placeBehind_45 rfl (lv_at hl 3 rfl) ?_
    exact W.iret (v := nI pp) hx hb hr (fun t ht hW => ⟨nI pp, rfl, by show _ = _; rw [stepN_off (by omega)], ht⟩) (fun q h => by cases h) dX7_placeBehind_46
  · rw [sub1_neg (by omega)] at c_1
    refine lv_iload_n hx hb dX7_placeBehind_27 rfl (lv_at hl 1 rfl) ?_
    refine lv_bipush (v := nI 6) hx hb dX7_placeBehind_28 (by decide) ?_
    refine lv_icmp_ge (tgt := 45) hx hb dX7_placeBehind_30 (by decide) (fun c_2 => ?_) (fun c_2 => ?_)
    · rw [sub1_ge (by omega) (by decide)] at c_2
      refine lv_iload_n hx hb dX7_placeBehind_45 rfl (lv_at hl 3 rfl) ?_
      exact W.iret (v := nI pp) hx hb hr (fun t ht hW => ⟨nI pp, rfl, by show _ = _; rw [stepN_off (by omega)], ht⟩) (fun q h => by cases h) dX7_placeBehind_46
    · rw [sub1_ge (by omega) (by decide)] at c_2
      refine lv_iload hx hb dX7_placeBehind_33 (lv_at hl 0 rfl) ?_
      refine lv_if_lt (tgt := 45) hx hb dX7_placeBehind_35 (by decide) (fun c_3 => ?_) (fun c_3 => ?_)
      · rw [sub1_neg (by omega)] at c_3
        refine lv_iload_n hx hb dX7_placeBehind_45 rfl (lv_at hl 3 rfl) ?_
        exact W.iret (v := nI pp) hx hb hr (fun t ht hW => ⟨nI pp, rfl, by show _ = _; rw [stepN_off (by omega)], ht⟩) (fun q h => by cases h) dX7_placeBehind_46
      · rw [sub1_neg (by omega)] at c_3
        refine lv_iload hx hb dX7_placeBehind_38 (lv_at hl 0 rfl) ?_
        refine lv_bipush (v := nI 6) hx hb dX7_placeBehind_40 (by decide) ?_
        refine lv_icmp_lt (tgt := 47) hx hb dX7_placeBehind_42 (by decide) (fun c_4 => ?_) (fun c_4 => ?_)
        · rw [sub1_lt (by omega) (by decide)] at c_4
          refine lv_bipush (v := nI 6) hx hb dX7_placeBehind_47 (by decide) ?_
          refine lv_iload_n hx hb dX7_placeBehind_49 rfl (lv_at hl 1 rfl) ?_
          refine lv_imul hx hb dX7_placeBehind_50 ?_
          refine lv_ri (y := nI (6 * (pp / 6 + d / 3 - 1))) (by rw [pk_sub (by omega), pk_mul]) ?_
          refine lv_iload hx hb dX7_placeBehind_51 (lv_at hl 0 rfl) ?_
          refine lv_iadd hx hb dX7_placeBehind_53 ?_
          refine lv_ri (y := nI (6 * (pp / 6 + d / 3 - 1) + (pp % 6 + d % 3 - 1))) (by rw [pk_sub (by omega), nI_add]) ?_
          refine lv_istore (lv' := [(5, .int (nI (6 * (pp / 6 + d / 3 - 1) + (pp % 6 + d % 3 - 1)))), (4, .int ((nI ((pp % 6) + (d % 3))) - (nI 1))), (3, .int ((nI ((pp / 6) + (d / 3))) - (nI 1))), (0, .ref (q 4)), (1, .int (nI pp)), (2, .int (nI d))]) hx hb dX7_placeBehind_54 hl (by decide) rfl (fun ls hl => ?_)
          refine lv_aload_n hx hb dX7_placeBehind_56 rfl (lv_at hl 3 rfl) ?_
          refine lv_iload hx hb dX7_placeBehind_57 (lv_at hl 0 rfl) ?_
          refine roV (As := [Value.int (nI (6 * (pp / 6 + d / 3 - 1) + (pp % 6 + d % 3 - 1)))]) (rest := []) (kX7_isIsland l dC dI ca (6 * (pp / 6 + d / 3 - 1) + (pp % 6 + d % 3 - 1)) q isl br st so se (by omega)) ⟨hx, hb, hml, hown, htl⟩ (cVg (C := RX7) 1 htl wd_388 wd_389 wd_390 wd_3 wd_391 rfl rfl (by decide +kernel) ⟨Nat.le_of_ble_eq_true rfl, Nat.le_of_ble_eq_true rfl⟩) (hP.sub [0] rfl) hK (va_recv hK hP (ci := 7) (q0 := 0) rfl rfl) rfl hl.1 rfl (Nat.le_of_ble_eq_true rfl) dX7_placeBehind_59 ⟨Nat.zero_le _, Nat.zero_le _⟩ (fun r hr9 => ?_)
          subst hr9
          refine lv_if_eq (tgt := 69) hx hb dX7_placeBehind_62 (by decide) (fun c_5 => ?_) (fun c_5 => ?_)
          · replace c_5 := bI_f c_5
            refine lv_iload hx hb dX7_placeBehind_69 (lv_at hl 0 rfl) ?_
            exact W.iret (v := nI (6 * (pp / 6 + d / 3 - 1) + (pp % 6 + d % 3 - 1))) hx hb hr (fun t ht hW => ⟨nI (6 * (pp / 6 + d / 3 - 1) + (pp % 6 + d % 3 - 1)), rfl, by show _ = _; rw [stepN_on (by omega) c_5], ht⟩) (fun q h => by cases h) dX7_placeBehind_71
          · replace c_5 := bI_t c_5
            refine lv_iload_n hx hb dX7_placeBehind_65 rfl (lv_at hl 4 rfl) ?_
            refine lv_goto (tgt := 71) hx hb dX7_placeBehind_66 (by decide) ?_
            exact W.iret (v := nI pp) hx hb hr (fun t ht hW => ⟨nI pp, rfl, by show _ = _; rw [stepN_isl c_5], ht⟩) (fun q h => by cases h) dX7_placeBehind_71
        · rw [sub1_lt (by omega) (by decide)] at c_4
          refine lv_iload_n hx hb dX7_placeBehind_45 rfl (lv_at hl 3 rfl) ?_
          exact W.iret (v := nI pp) hx hb hr (fun t ht hW => ⟨nI pp, rfl, by show _ = _; rw [stepN_off (by omega)], ht⟩) (fun q h => by cases h) dX7_placeBehind_46
set_option maxRecDepth 100000 in
theorem pt_0 : ∀ ho, ho < 36 → ∀ pp, pp < 36 → s_X1_turn (s_X8_nearer (nI (pp / 6)) (nI (ho / 6))) (s_X8_nearer (nI (pp % 6)) (nI (ho % 6))) = nI (pointN 0 ho pp) := by decide +kernel
set_option maxHeartbeats 4000000 in
set_option maxRecDepth 100000 in
theorem kX8_pointingHome_0 (l : Launch) (dC : Nat → ClassId) (dI : Nat → Nat → Nat) (ca : Nat → ClassId) (h : Nat) (ho : Nat) (pp : Nat) (hho : ho < 36) (hp : pp < 36) : Met l yX8_pointingHome (Cond.code yX8_pointingHome cX8_pointingHome 5 (some .int) :: gT) (rk 2) (ROp (dC, dI) [(h, .inr (1, []))] (TY ca) [Value.ref h, Value.int (nI ho), Value.int (nI pp)]) (vp_Si (fun r => r = nI (pointN 0 ho pp))) 0 0 (fun _ => False) := by
  refine Met.ofW (cc := cX8_pointingHome) (maxL := 5) (ret := (some .int)) (by decide) rfl ?_
  intro p e s m args below meth c s₁ B hml hv
  obtain ⟨rfl, hP, hK⟩ := hv
  have hx := B.exec
  have hb := B.bytes
  have hr := B.returns
  have hts := atoms_spec (ws := (Cond.code yX8_pointingHome cX8_pointingHome 5 (some .int) :: gT)) B.pre
  have htl : ∀ w ∈ gT, w.before _ s = true := fun w h => hts w (List.mem_cons_of_mem _ h)
  have hown : s.vm.findClass RX8 = some m.cls := findClass_of_methodNamed B.named
  have hlocks := B.notSynchronized
  have hl := lv_entry ([Value.ref h, Value.int (nI ho), Value.int (nI pp)]) (n := 5) (Nat.le_of_ble_eq_true rfl)
  rw [lg_entry_eq]
  generalize (lg_sl ([Value.ref h, Value.int (nI ho), Value.int (nI pp)]) ++ List.replicate (5 - (lg_sl ([Value.ref h, Value.int (nI ho), Value.int (nI pp)])).length) Slot.unset).toArray = ls at hl ⊢
  have hl : lv_has ls 5 [(0, .ref h), (1, .int (nI ho)), (2, .int (nI pp))] := hl
  refine lv_iload_n hx hb dX8_pointingHome_0 rfl (lv_at hl 2 rfl) ?_
  refine lv_bipush (v := nI 6) hx hb dX8_pointingHome_1 (by decide) ?_
  refine lv_idiv hx hb dX8_pointingHome_3 (by decide) ?_
  refine lv_ri (y := nI (pp / 6)) (pk_div (by omega) (by decide) (by decide)) ?_
  refine lv_iload_n hx hb dX8_pointingHome_4 rfl (lv_at hl 1 rfl) ?_
  refine lv_bipush (v := nI 6) hx hb dX8_pointingHome_5 (by decide) ?_
  refine lv_idiv hx hb dX8_pointingHome_7 (by decide) ?_
  refine lv_ri (y := nI (ho / 6)) (pk_div (by omega) (by decide) (by decide)) ?_
  refine roS (As := [Value.int (nI (pp / 6)), Value.int (nI (ho / 6))]) (rest := []) (kX8_nearer l dC dI ca (nI (pp / 6)) (nI (ho / 6)) ) ⟨hx, hb, hml, hown, htl⟩ (cSg 2 htl wd_360 wd_361 wd_1 wd_362 rfl rfl (by decide +kernel) ⟨Nat.le_of_ble_eq_true rfl, Nat.le_of_ble_eq_true rfl⟩) (hP.sub [] rfl) hK rfl hl.1 rfl (Nat.le_of_ble_eq_true rfl) dX8_pointingHome_8 ⟨Nat.zero_le _, Nat.zero_le _⟩ (fun r hr9 => ?_)
  subst hr9
  refine lv_istore_n (lv' := [(3, .int (s_X8_nearer (nI (pp / 6)) (nI (ho / 6)))), (0, .ref h), (1, .int (nI ho)), (2, .int (nI pp))]) hx hb dX8_pointingHome_11 rfl hl (by decide) rfl (fun ls hl => ?_)
  refine lv_iload_n hx hb dX8_pointingHome_12 rfl (lv_at hl 3 rfl) ?_
  refine lv_bipush (v := nI 6) hx hb dX8_pointingHome_13 (by decide) ?_
  refine lv_irem hx hb dX8_pointingHome_15 (by decide) ?_
  refine lv_ri (y := nI (pp % 6)) (pk_rem (by omega) (by decide) (by decide)) ?_
  refine lv_iload_n hx hb dX8_pointingHome_16 rfl (lv_at hl 2 rfl) ?_
  refine lv_bipush (v := nI 6) hx hb dX8_pointingHome_17 (by decide) ?_
  refine lv_irem hx hb dX8_pointingHome_19 (by decide) ?_
  refine lv_ri (y := nI (ho % 6)) (pk_rem (by omega) (by decide) (by decide)) ?_
  refine roS (As := [Value.int (nI (pp % 6)), Value.int (nI (ho % 6))]) (rest := []) (kX8_nearer l dC dI ca (nI (pp % 6)) (nI (ho % 6)) ) ⟨hx, hb, hml, hown, htl⟩ (cSg 2 htl wd_360 wd_361 wd_1 wd_362 rfl rfl (by decide +kernel) ⟨Nat.le_of_ble_eq_true rfl, Nat.le_of_ble_eq_true rfl⟩) (hP.sub [] rfl) hK rfl hl.1 rfl (Nat.le_of_ble_eq_true rfl) dX8_pointingHome_20 ⟨Nat.zero_le _, Nat.zero_le _⟩ (fun r hr9 => ?_)
  subst hr9
  refine lv_istore (lv' := [(4, .int (s_X8_nearer (nI (pp % 6)) (nI (ho % 6)))), (3, .int (s_X8_nearer (nI (pp / 6)) (nI (ho / 6)))), (0, .ref h), (1, .int (nI ho)), (2, .int (nI pp))]) hx hb dX8_pointingHome_23 hl (by decide) rfl (fun ls hl => ?_)
  refine lv_aload_n hx hb dX8_pointingHome_25 rfl (lv_at hl 2 rfl) ?_
  refine lv_iload_n hx hb dX8_pointingHome_26 rfl (lv_at hl 1 rfl) ?_
  refine lv_iload hx hb dX8_pointingHome_27 (lv_at hl 0 rfl) ?_
  refine roV (As := [Value.int (s_X8_nearer (nI (pp / 6)) (nI (ho / 6))), Value.int (s_X8_nearer (nI (pp % 6)) (nI (ho % 6)))]) (rest := []) (kX1_turn l dC dI ca h (s_X8_nearer (nI (pp / 6)) (nI (ho / 6))) (s_X8_nearer (nI (pp % 6)) (nI (ho % 6))) ) ⟨hx, hb, hml, hown, htl⟩ (cVg (C := RX1) 2 htl wd_363 wd_364 wd_365 wd_5 wd_379 rfl rfl (by decide +kernel) ⟨Nat.le_of_ble_eq_true rfl, Nat.le_of_ble_eq_true rfl⟩) (hP.sub [0] rfl) hK (va_recv hK hP (ci := 1) (q0 := 0) rfl rfl) rfl hl.1 rfl (Nat.le_of_ble_eq_true rfl) dX8_pointingHome_29 ⟨Nat.zero_le _, Nat.zero_le _⟩ (fun r hr9 => ?_)
  subst hr9
  exact W.iret (v := s_X1_turn (s_X8_nearer (nI (pp / 6)) (nI (ho / 6))) (s_X8_nearer (nI (pp % 6)) (nI (ho % 6)))) hx hb hr (fun t ht hW => ⟨s_X1_turn (s_X8_nearer (nI (pp / 6)) (nI (ho / 6))) (s_X8_nearer (nI (pp % 6)) (nI (ho % 6))), rfl, pt_0 ho hho pp hp, ht⟩) (fun q h => by cases h) dX8_pointingHome_32
set_option maxRecDepth 100000 in
theorem pt_1 : ∀ ho, ho < 36 → ∀ pp, pp < 36 → s_X3_turn (s_X8_nearer (nI (pp / 6)) (nI (ho / 6))) (s_X8_nearer (nI (pp % 6)) (nI (ho % 6))) = nI (pointN 1 ho pp) := by decide +kernel
set_option maxHeartbeats 4000000 in
set_option maxRecDepth 100000 in
theorem kX8_pointingHome_1 (l : Launch) (dC : Nat → ClassId) (dI : Nat → Nat → Nat) (ca : Nat → ClassId) (h : Nat) (ho : Nat) (pp : Nat) (hho : ho < 36) (hp : pp < 36) : Met l yX8_pointingHome (Cond.code yX8_pointingHome cX8_pointingHome 5 (some .int) :: gT) (rk 2) (ROp (dC, dI) [(h, .inr (3, []))] (TY ca) [Value.ref h, Value.int (nI ho), Value.int (nI pp)]) (vp_Si (fun r => r = nI (pointN 1 ho pp))) 0 0 (fun _ => False) := by
  refine Met.ofW (cc := cX8_pointingHome) (maxL := 5) (ret := (some .int)) (by decide) rfl ?_
  intro p e s m args below meth c s₁ B hml hv
  obtain ⟨rfl, hP, hK⟩ := hv
  have hx := B.exec
  have hb := B.bytes
  have hr := B.returns
  have hts := atoms_spec (ws := (Cond.code yX8_pointingHome cX8_pointingHome 5 (some .int) :: gT)) B.pre
  have htl : ∀ w ∈ gT, w.before _ s = true := fun w h => hts w (List.mem_cons_of_mem _ h)
  have hown : s.vm.findClass RX8 = some m.cls := findClass_of_methodNamed B.named
  have hlocks := B.notSynchronized
  have hl := lv_entry ([Value.ref h, Value.int (nI ho), Value.int (nI pp)]) (n := 5) (Nat.le_of_ble_eq_true rfl)
  rw [lg_entry_eq]
  generalize (lg_sl ([Value.ref h, Value.int (nI ho), Value.int (nI pp)]) ++ List.replicate (5 - (lg_sl ([Value.ref h, Value.int (nI ho), Value.int (nI pp)])).length) Slot.unset).toArray = ls at hl ⊢
  have hl : lv_has ls 5 [(0, .ref h), (1, .int (nI ho)), (2, .int (nI pp))] := hl
  refine lv_iload_n hx hb dX8_pointingHome_0 rfl (lv_at hl 2 rfl) ?_
  refine lv_bipush (v := nI 6) hx hb dX8_pointingHome_1 (by decide) ?_
  refine lv_idiv hx hb dX8_pointingHome_3 (by decide) ?_
  refine lv_ri (y := nI (pp / 6)) (pk_div (by omega) (by decide) (by decide)) ?_
  refine lv_iload_n hx hb dX8_pointingHome_4 rfl (lv_at hl 1 rfl) ?_
  refine lv_bipush (v := nI 6) hx hb dX8_pointingHome_5 (by decide) ?_
  refine lv_idiv hx hb dX8_pointingHome_7 (by decide) ?_
  refine lv_ri (y := nI (ho / 6)) (pk_div (by omega) (by decide) (by decide)) ?_
  refine roS (As := [Value.int (nI (pp / 6)), Value.int (nI (ho / 6))]) (rest := []) (kX8_nearer l dC dI ca (nI (pp / 6)) (nI (ho / 6)) ) ⟨hx, hb, hml, hown, htl⟩ (cSg 2 htl wd_360 wd_361 wd_1 wd_362 rfl rfl (by decide +kernel) ⟨Nat.le_of_ble_eq_true rfl, Nat.le_of_ble_eq_true rfl⟩) (hP.sub [] rfl) hK rfl hl.1 rfl (Nat.le_of_ble_eq_true rfl) dX8_pointingHome_8 ⟨Nat.zero_le _, Nat.zero_le _⟩ (fun r hr9 => ?_)
  subst hr9
  refine lv_istore_n (lv' := [(3, .int (s_X8_nearer (nI (pp / 6)) (nI (ho / 6)))), (0, .ref h), (1, .int (nI ho)), (2, .int (nI pp))]) hx hb dX8_pointingHome_11 rfl hl (by decide) rfl (fun ls hl => ?_)
  refine lv_iload_n hx hb dX8_pointingHome_12 rfl (lv_at hl 3 rfl) ?_
  refine lv_bipush (v := nI 6) hx hb dX8_pointingHome_13 (by decide) ?_
  refine lv_irem hx hb dX8_pointingHome_15 (by decide) ?_
  refine lv_ri (y := nI (pp % 6)) (pk_rem (by omega) (by decide) (by decide)) ?_
  refine lv_iload_n hx hb dX8_pointingHome_16 rfl (lv_at hl 2 rfl) ?_
  refine lv_bipush (v := nI 6) hx hb dX8_pointingHome_17 (by decide) ?_
  refine lv_irem hx hb dX8_pointingHome_19 (by decide) ?_
  refine lv_ri (y := nI (ho % 6)) (pk_rem (by omega) (by decide) (by decide)) ?_
  refine roS (As := [Value.int (nI (pp % 6)), Value.int (nI (ho % 6))]) (rest := []) (kX8_nearer l dC dI ca (nI (pp % 6)) (nI (ho % 6)) ) ⟨hx, hb, hml, hown, htl⟩ (cSg 2 htl wd_360 wd_361 wd_1 wd_362 rfl rfl (by decide +kernel) ⟨Nat.le_of_ble_eq_true rfl, Nat.le_of_ble_eq_true rfl⟩) (hP.sub [] rfl) hK rfl hl.1 rfl (Nat.le_of_ble_eq_true rfl) dX8_pointingHome_20 ⟨Nat.zero_le _, Nat.zero_le _⟩ (fun r hr9 => ?_)
  subst hr9
  refine lv_istore (lv' := [(4, .int (s_X8_nearer (nI (pp % 6)) (nI (ho % 6)))), (3, .int (s_X8_nearer (nI (pp / 6)) (nI (ho / 6)))), (0, .ref h), (1, .int (nI ho)), (2, .int (nI pp))]) hx hb dX8_pointingHome_23 hl (by decide) rfl (fun ls hl => ?_)
  refine lv_aload_n hx hb dX8_pointingHome_25 rfl (lv_at hl 2 rfl) ?_
  refine lv_iload_n hx hb dX8_pointingHome_26 rfl (lv_at hl 1 rfl) ?_
  refine lv_iload hx hb dX8_pointingHome_27 (lv_at hl 0 rfl) ?_
  refine roU (As := [Value.int (s_X8_nearer (nI (pp / 6)) (nI (ho / 6))), Value.int (s_X8_nearer (nI (pp % 6)) (nI (ho % 6)))]) (rest := []) (kX3_turn l dC dI ca h (s_X8_nearer (nI (pp / 6)) (nI (ho / 6))) (s_X8_nearer (nI (pp % 6)) (nI (ho % 6))) ) ⟨hx, hb, hml, hown, htl⟩ (cOg (C := RX3) (owner := RX1) (x := yX1_turn) 2 htl wd_363 wd_366 wd_364 wd_370 wd_371 wd_13 wd_372 wd_379 rfl rfl (by decide +kernel) ⟨Nat.le_of_ble_eq_true rfl, Nat.le_of_ble_eq_true rfl⟩) (hP.sub [0] rfl) hK (va_recv hK hP (ci := 3) (q0 := 0) rfl rfl) rfl hl.1 rfl (Nat.le_of_ble_eq_true rfl) dX8_pointingHome_29 ⟨Nat.zero_le _, Nat.zero_le _⟩ (fun r hr9 => ?_)
  subst hr9
  exact W.iret (v := s_X3_turn (s_X8_nearer (nI (pp / 6)) (nI (ho / 6))) (s_X8_nearer (nI (pp % 6)) (nI (ho % 6)))) hx hb hr (fun t ht hW => ⟨s_X3_turn (s_X8_nearer (nI (pp / 6)) (nI (ho / 6))) (s_X8_nearer (nI (pp % 6)) (nI (ho % 6))), rfl, pt_1 ho hho pp hp, ht⟩) (fun q h => by cases h) dX8_pointingHome_32
set_option maxRecDepth 100000 in
theorem pt_2 : ∀ ho, ho < 36 → ∀ pp, pp < 36 → s_X0_turn (s_X8_nearer (nI (pp / 6)) (nI (ho / 6))) (s_X8_nearer (nI (pp % 6)) (nI (ho % 6))) = nI (pointN 2 ho pp) := by decide +kernel
set_option maxHeartbeats 4000000 in
set_option maxRecDepth 100000 in
theorem kX8_pointingHome_2 (l : Launch) (dC : Nat → ClassId) (dI : Nat → Nat → Nat) (ca : Nat → ClassId) (h : Nat) (ho : Nat) (pp : Nat) (hho : ho < 36) (hp : pp < 36) : Met l yX8_pointingHome (Cond.code yX8_pointingHome cX8_pointingHome 5 (some .int) :: gT) (rk 2) (ROp (dC, dI) [(h, .inr (0, []))] (TY ca) [Value.ref h, Value.int (nI ho), Value.int (nI pp)]) (vp_Si (fun r => r = nI (pointN 2 ho pp))) 0 0 (fun _ => False) := by
  refine Met.ofW (cc := cX8_pointingHome) (maxL := 5) (ret := (some .int)) (by decide) rfl ?_
  intro p e s m args below meth c s₁ B hml hv
  obtain ⟨rfl, hP, hK⟩ := hv
  have hx := B.exec
  have hb := B.bytes
  have hr := B.returns
  have hts := atoms_spec (ws := (Cond.code yX8_pointingHome cX8_pointingHome 5 (some .int) :: gT)) B.pre
  have htl : ∀ w ∈ gT, w.before _ s = true := fun w h => hts w (List.mem_cons_of_mem _ h)
  have hown : s.vm.findClass RX8 = some m.cls := findClass_of_methodNamed B.named
  have hlocks := B.notSynchronized
  have hl := lv_entry ([Value.ref h, Value.int (nI ho), Value.int (nI pp)]) (n := 5) (Nat.le_of_ble_eq_true rfl)
  rw [lg_entry_eq]
  generalize (lg_sl ([Value.ref h, Value.int (nI ho), Value.int (nI pp)]) ++ List.replicate (5 - (lg_sl ([Value.ref h, Value.int (nI ho), Value.int (nI pp)])).length) Slot.unset).toArray = ls at hl ⊢
  have hl : lv_has ls 5 [(0, .ref h), (1, .int (nI ho)), (2, .int (nI pp))] := hl
  refine lv_iload_n hx hb dX8_pointingHome_0 rfl (lv_at hl 2 rfl) ?_
  refine lv_bipush (v := nI 6) hx hb dX8_pointingHome_1 (by decide) ?_
  refine lv_idiv hx hb dX8_pointingHome_3 (by decide) ?_
  refine lv_ri (y := nI (pp / 6)) (pk_div (by omega) (by decide) (by decide)) ?_
  refine lv_iload_n hx hb dX8_pointingHome_4 rfl (lv_at hl 1 rfl) ?_
  refine lv_bipush (v := nI 6) hx hb dX8_pointingHome_5 (by decide) ?_
  refine lv_idiv hx hb dX8_pointingHome_7 (by decide) ?_
  refine lv_ri (y := nI (ho / 6)) (pk_div (by omega) (by decide) (by decide)) ?_
  refine roS (As := [Value.int (nI (pp / 6)), Value.int (nI (ho / 6))]) (rest := []) (kX8_nearer l dC dI ca (nI (pp / 6)) (nI (ho / 6)) ) ⟨hx, hb, hml, hown, htl⟩ (cSg 2 htl wd_360 wd_361 wd_1 wd_362 rfl rfl (by decide +kernel) ⟨Nat.le_of_ble_eq_true rfl, Nat.le_of_ble_eq_true rfl⟩) (hP.sub [] rfl) hK rfl hl.1 rfl (Nat.le_of_ble_eq_true rfl) dX8_pointingHome_8 ⟨Nat.zero_le _, Nat.zero_le _⟩ (fun r hr9 => ?_)
  subst hr9
  refine lv_istore_n (lv' := [(3, .int (s_X8_nearer (nI (pp / 6)) (nI (ho / 6)))), (0, .ref h), (1, .int (nI ho)), (2, .int (nI pp))]) hx hb dX8_pointingHome_11 rfl hl (by decide) rfl (fun ls hl => ?_)
  refine lv_iload_n hx hb dX8_pointingHome_12 rfl (lv_at hl 3 rfl) ?_
  refine lv_bipush (v := nI 6) hx hb dX8_pointingHome_13 (by decide) ?_
  refine lv_irem hx hb dX8_pointingHome_15 (by decide) ?_
  refine lv_ri (y := nI (pp % 6)) (pk_rem (by omega) (by decide) (by decide)) ?_
  refine lv_iload_n hx hb dX8_pointingHome_16 rfl (lv_at hl 2 rfl) ?_
  refine lv_bipush (v := nI 6) hx hb dX8_pointingHome_17 (by decide) ?_
  refine lv_irem hx hb dX8_pointingHome_19 (by decide) ?_
  refine lv_ri (y := nI (ho % 6)) (pk_rem (by omega) (by decide) (by decide)) ?_
  refine roS (As := [Value.int (nI (pp % 6)), Value.int (nI (ho % 6))]) (rest := []) (kX8_nearer l dC dI ca (nI (pp % 6)) (nI (ho % 6)) ) ⟨hx, hb, hml, hown, htl⟩ (cSg 2 htl wd_360 wd_361 wd_1 wd_362 rfl rfl (by decide +kernel) ⟨Nat.le_of_ble_eq_true rfl, Nat.le_of_ble_eq_true rfl⟩) (hP.sub [] rfl) hK rfl hl.1 rfl (Nat.le_of_ble_eq_true rfl) dX8_pointingHome_20 ⟨Nat.zero_le _, Nat.zero_le _⟩ (fun r hr9 => ?_)
  subst hr9
  refine lv_istore (lv' := [(4, .int (s_X8_nearer (nI (pp % 6)) (nI (ho % 6)))), (3, .int (s_X8_nearer (nI (pp / 6)) (nI (ho / 6)))), (0, .ref h), (1, .int (nI ho)), (2, .int (nI pp))]) hx hb dX8_pointingHome_23 hl (by decide) rfl (fun ls hl => ?_)
  refine lv_aload_n hx hb dX8_pointingHome_25 rfl (lv_at hl 2 rfl) ?_
  refine lv_iload_n hx hb dX8_pointingHome_26 rfl (lv_at hl 1 rfl) ?_
  refine lv_iload hx hb dX8_pointingHome_27 (lv_at hl 0 rfl) ?_
  refine roU (As := [Value.int (s_X8_nearer (nI (pp / 6)) (nI (ho / 6))), Value.int (s_X8_nearer (nI (pp % 6)) (nI (ho % 6)))]) (rest := []) (kX0_turn l dC dI ca h (s_X8_nearer (nI (pp / 6)) (nI (ho / 6))) (s_X8_nearer (nI (pp % 6)) (nI (ho % 6))) ) ⟨hx, hb, hml, hown, htl⟩ (cOg (C := RX0) (owner := RX1) (x := yX1_turn) 2 htl wd_363 wd_366 wd_364 wd_367 wd_368 wd_14 wd_369 wd_379 rfl rfl (by decide +kernel) ⟨Nat.le_of_ble_eq_true rfl, Nat.le_of_ble_eq_true rfl⟩) (hP.sub [0] rfl) hK (va_recv hK hP (ci := 0) (q0 := 0) rfl rfl) rfl hl.1 rfl (Nat.le_of_ble_eq_true rfl) dX8_pointingHome_29 ⟨Nat.zero_le _, Nat.zero_le _⟩ (fun r hr9 => ?_)
  subst hr9
  exact W.iret (v := s_X0_turn (s_X8_nearer (nI (pp / 6)) (nI (ho / 6))) (s_X8_nearer (nI (pp % 6)) (nI (ho % 6)))) hx hb hr (fun t ht hW => ⟨s_X0_turn (s_X8_nearer (nI (pp / 6)) (nI (ho / 6))) (s_X8_nearer (nI (pp % 6)) (nI (ho % 6))), rfl, pt_2 ho hho pp hp, ht⟩) (fun q h => by cases h) dX8_pointingHome_32
set_option maxRecDepth 100000 in
theorem pt_3 : ∀ ho, ho < 36 → ∀ pp, pp < 36 → s_X6_turn (s_X8_nearer (nI (pp / 6)) (nI (ho / 6))) (s_X8_nearer (nI (pp % 6)) (nI (ho % 6))) = nI (pointN 3 ho pp) := by decide +kernel
set_option maxHeartbeats 4000000 in
set_option maxRecDepth 100000 in
theorem kX8_pointingHome_3 (l : Launch) (dC : Nat → ClassId) (dI : Nat → Nat → Nat) (ca : Nat → ClassId) (h : Nat) (ho : Nat) (pp : Nat) (hho : ho < 36) (hp : pp < 36) : Met l yX8_pointingHome (Cond.code yX8_pointingHome cX8_pointingHome 5 (some .int) :: gT) (rk 2) (ROp (dC, dI) [(h, .inr (6, []))] (TY ca) [Value.ref h, Value.int (nI ho), Value.int (nI pp)]) (vp_Si (fun r => r = nI (pointN 3 ho pp))) 0 0 (fun _ => False) := by
  refine Met.ofW (cc := cX8_pointingHome) (maxL := 5) (ret := (some .int)) (by decide) rfl ?_
  intro p e s m args below meth c s₁ B hml hv
  obtain ⟨rfl, hP, hK⟩ := hv
  have hx := B.exec
  have hb := B.bytes
  have hr := B.returns
  have hts := atoms_spec (ws := (Cond.code yX8_pointingHome cX8_pointingHome 5 (some .int) :: gT)) B.pre
  have htl : ∀ w ∈ gT, w.before _ s = true := fun w h => hts w (List.mem_cons_of_mem _ h)
  have hown : s.vm.findClass RX8 = some m.cls := findClass_of_methodNamed B.named
  have hlocks := B.notSynchronized
  have hl := lv_entry ([Value.ref h, Value.int (nI ho), Value.int (nI pp)]) (n := 5) (Nat.le_of_ble_eq_true rfl)
  rw [lg_entry_eq]
  generalize (lg_sl ([Value.ref h, Value.int (nI ho), Value.int (nI pp)]) ++ List.replicate (5 - (lg_sl ([Value.ref h, Value.int (nI ho), Value.int (nI pp)])).length) Slot.unset).toArray = ls at hl ⊢
  have hl : lv_has ls 5 [(0, .ref h), (1, .int (nI ho)), (2, .int (nI pp))] := hl
  refine lv_iload_n hx hb dX8_pointingHome_0 rfl (lv_at hl 2 rfl) ?_
  refine lv_bipush (v := nI 6) hx hb dX8_pointingHome_1 (by decide) ?_
  refine lv_idiv hx hb dX8_pointingHome_3 (by decide) ?_
  refine lv_ri (y := nI (pp / 6)) (pk_div (by omega) (by decide) (by decide)) ?_
  refine lv_iload_n hx hb dX8_pointingHome_4 rfl (lv_at hl 1 rfl) ?_
  refine lv_bipush (v := nI 6) hx hb dX8_pointingHome_5 (by decide) ?_
  refine lv_idiv hx hb dX8_pointingHome_7 (by decide) ?_
  refine lv_ri (y := nI (ho / 6)) (pk_div (by omega) (by decide) (by decide)) ?_
  refine roS (As := [Value.int (nI (pp / 6)), Value.int (nI (ho / 6))]) (rest := []) (kX8_nearer l dC dI ca (nI (pp / 6)) (nI (ho / 6)) ) ⟨hx, hb, hml, hown, htl⟩ (cSg 2 htl wd_360 wd_361 wd_1 wd_362 rfl rfl (by decide +kernel) ⟨Nat.le_of_ble_eq_true rfl, Nat.le_of_ble_eq_true rfl⟩) (hP.sub [] rfl) hK rfl hl.1 rfl (Nat.le_of_ble_eq_true rfl) dX8_pointingHome_8 ⟨Nat.zero_le _, Nat.zero_le _⟩ (fun r hr9 => ?_)
  subst hr9
  refine lv_istore_n (lv' := [(3, .int (s_X8_nearer (nI (pp / 6)) (nI (ho / 6)))), (0, .ref h), (1, .int (nI ho)), (2, .int (nI pp))]) hx hb dX8_pointingHome_11 rfl hl (by decide) rfl (fun ls hl => ?_)
  refine lv_iload_n hx hb dX8_pointingHome_12 rfl (lv_at hl 3 rfl) ?_
  refine lv_bipush (v := nI 6) hx hb dX8_pointingHome_13 (by decide) ?_
  refine lv_irem hx hb dX8_pointingHome_15 (by decide) ?_
  refine lv_ri (y := nI (pp % 6)) (pk_rem (by omega) (by decide) (by decide)) ?_
  refine lv_iload_n hx hb dX8_pointingHome_16 rfl (lv_at hl 2 rfl) ?_
  refine lv_bipush (v := nI 6) hx hb dX8_pointingHome_17 (by decide) ?_
  refine lv_irem hx hb dX8_pointingHome_19 (by decide) ?_
  refine lv_ri (y := nI (ho % 6)) (pk_rem (by omega) (by decide) (by decide)) ?_
  refine roS (As := [Value.int (nI (pp % 6)), Value.int (nI (ho % 6))]) (rest := []) (kX8_nearer l dC dI ca (nI (pp % 6)) (nI (ho % 6)) ) ⟨hx, hb, hml, hown, htl⟩ (cSg 2 htl wd_360 wd_361 wd_1 wd_362 rfl rfl (by decide +kernel) ⟨Nat.le_of_ble_eq_true rfl, Nat.le_of_ble_eq_true rfl⟩) (hP.sub [] rfl) hK rfl hl.1 rfl (Nat.le_of_ble_eq_true rfl) dX8_pointingHome_20 ⟨Nat.zero_le _, Nat.zero_le _⟩ (fun r hr9 => ?_)
  subst hr9
  refine lv_istore (lv' := [(4, .int (s_X8_nearer (nI (pp % 6)) (nI (ho % 6)))), (3, .int (s_X8_nearer (nI (pp / 6)) (nI (ho / 6)))), (0, .ref h), (1, .int (nI ho)), (2, .int (nI pp))]) hx hb dX8_pointingHome_23 hl (by decide) rfl (fun ls hl => ?_)
  refine lv_aload_n hx hb dX8_pointingHome_25 rfl (lv_at hl 2 rfl) ?_
  refine lv_iload_n hx hb dX8_pointingHome_26 rfl (lv_at hl 1 rfl) ?_
  refine lv_iload hx hb dX8_pointingHome_27 (lv_at hl 0 rfl) ?_
  refine roU (As := [Value.int (s_X8_nearer (nI (pp / 6)) (nI (ho / 6))), Value.int (s_X8_nearer (nI (pp % 6)) (nI (ho % 6)))]) (rest := []) (kX6_turn l dC dI ca h (s_X8_nearer (nI (pp / 6)) (nI (ho / 6))) (s_X8_nearer (nI (pp % 6)) (nI (ho % 6))) ) ⟨hx, hb, hml, hown, htl⟩ (cOg (C := RX6) (owner := RX1) (x := yX1_turn) 2 htl wd_363 wd_366 wd_364 wd_376 wd_377 wd_15 wd_378 wd_379 rfl rfl (by decide +kernel) ⟨Nat.le_of_ble_eq_true rfl, Nat.le_of_ble_eq_true rfl⟩) (hP.sub [0] rfl) hK (va_recv hK hP (ci := 6) (q0 := 0) rfl rfl) rfl hl.1 rfl (Nat.le_of_ble_eq_true rfl) dX8_pointingHome_29 ⟨Nat.zero_le _, Nat.zero_le _⟩ (fun r hr9 => ?_)
  subst hr9
  exact W.iret (v := s_X6_turn (s_X8_nearer (nI (pp / 6)) (nI (ho / 6))) (s_X8_nearer (nI (pp % 6)) (nI (ho % 6)))) hx hb hr (fun t ht hW => ⟨s_X6_turn (s_X8_nearer (nI (pp / 6)) (nI (ho / 6))) (s_X8_nearer (nI (pp % 6)) (nI (ho % 6))), rfl, pt_3 ho hho pp hp, ht⟩) (fun q h => by cases h) dX8_pointingHome_32
set_option maxRecDepth 100000 in
theorem pt_4 : ∀ ho, ho < 36 → ∀ pp, pp < 36 → s_X4_turn (s_X8_nearer (nI (pp / 6)) (nI (ho / 6))) (s_X8_nearer (nI (pp % 6)) (nI (ho % 6))) = nI (pointN 4 ho pp) := by decide +kernel
set_option maxHeartbeats 4000000 in
set_option maxRecDepth 100000 in
theorem kX8_pointingHome_4 (l : Launch) (dC : Nat → ClassId) (dI : Nat → Nat → Nat) (ca : Nat → ClassId) (h : Nat) (ho : Nat) (pp : Nat) (hho : ho < 36) (hp : pp < 36) : Met l yX8_pointingHome (Cond.code yX8_pointingHome cX8_pointingHome 5 (some .int) :: gT) (rk 2) (ROp (dC, dI) [(h, .inr (4, []))] (TY ca) [Value.ref h, Value.int (nI ho), Value.int (nI pp)]) (vp_Si (fun r => r = nI (pointN 4 ho pp))) 0 0 (fun _ => False) := by
  refine Met.ofW (cc := cX8_pointingHome) (maxL := 5) (ret := (some .int)) (by decide) rfl ?_
  intro p e s m args below meth c s₁ B hml hv
  obtain ⟨rfl, hP, hK⟩ := hv
  have hx := B.exec
  have hb := B.bytes
  have hr := B.returns
  have hts := atoms_spec (ws := (Cond.code yX8_pointingHome cX8_pointingHome 5 (some .int) :: gT)) B.pre
  have htl : ∀ w ∈ gT, w.before _ s = true := fun w h => hts w (List.mem_cons_of_mem _ h)
  have hown : s.vm.findClass RX8 = some m.cls := findClass_of_methodNamed B.named
  have hlocks := B.notSynchronized
  have hl := lv_entry ([Value.ref h, Value.int (nI ho), Value.int (nI pp)]) (n := 5) (Nat.le_of_ble_eq_true rfl)
  rw [lg_entry_eq]
  generalize (lg_sl ([Value.ref h, Value.int (nI ho), Value.int (nI pp)]) ++ List.replicate (5 - (lg_sl ([Value.ref h, Value.int (nI ho), Value.int (nI pp)])).length) Slot.unset).toArray = ls at hl ⊢
  have hl : lv_has ls 5 [(0, .ref h), (1, .int (nI ho)), (2, .int (nI pp))] := hl
  refine lv_iload_n hx hb dX8_pointingHome_0 rfl (lv_at hl 2 rfl) ?_
  refine lv_bipush (v := nI 6) hx hb dX8_pointingHome_1 (by decide) ?_
  refine lv_idiv hx hb dX8_pointingHome_3 (by decide) ?_
  refine lv_ri (y := nI (pp / 6)) (pk_div (by omega) (by decide) (by decide)) ?_
  refine lv_iload_n hx hb dX8_pointingHome_4 rfl (lv_at hl 1 rfl) ?_
  refine lv_bipush (v := nI 6) hx hb dX8_pointingHome_5 (by decide) ?_
  refine lv_idiv hx hb dX8_pointingHome_7 (by decide) ?_
  refine lv_ri (y := nI (ho / 6)) (pk_div (by omega) (by decide) (by decide)) ?_
  refine roS (As := [Value.int (nI (pp / 6)), Value.int (nI (ho / 6))]) (rest := []) (kX8_nearer l dC dI ca (nI (pp / 6)) (nI (ho / 6)) ) ⟨hx, hb, hml, hown, htl⟩ (cSg 2 htl wd_360 wd_361 wd_1 wd_362 rfl rfl (by decide +kernel) ⟨Nat.le_of_ble_eq_true rfl, Nat.le_of_ble_eq_true rfl⟩) (hP.sub [] rfl) hK rfl hl.1 rfl (Nat.le_of_ble_eq_true rfl) dX8_pointingHome_8 ⟨Nat.zero_le _, Nat.zero_le _⟩ (fun r hr9 => ?_)
  subst hr9
  refine lv_istore_n (lv' := [(3, .int (s_X8_nearer (nI (pp / 6)) (nI (ho / 6)))), (0, .ref h), (1, .int (nI ho)), (2, .int (nI pp))]) hx hb dX8_pointingHome_11 rfl hl (by decide) rfl (fun ls hl => ?_)
  refine lv_iload_n hx hb dX8_pointingHome_12 rfl (lv_at hl 3 rfl) ?_
  refine lv_bipush (v := nI 6) hx hb dX8_pointingHome_13 (by decide) ?_
  refine lv_irem hx hb dX8_pointingHome_15 (by decide) ?_
  refine lv_ri (y := nI (pp % 6)) (pk_rem (by omega) (by decide) (by decide)) ?_
  refine lv_iload_n hx hb dX8_pointingHome_16 rfl (lv_at hl 2 rfl) ?_
  refine lv_bipush (v := nI 6) hx hb dX8_pointingHome_17 (by decide) ?_
  refine lv_irem hx hb dX8_pointingHome_19 (by decide) ?_
  refine lv_ri (y := nI (ho % 6)) (pk_rem (by omega) (by decide) (by decide)) ?_
  refine roS (As := [Value.int (nI (pp % 6)), Value.int (nI (ho % 6))]) (rest := []) (kX8_nearer l dC dI ca (nI (pp % 6)) (nI (ho % 6)) ) ⟨hx, hb, hml, hown, htl⟩ (cSg 2 htl wd_360 wd_361 wd_1 wd_362 rfl rfl (by decide +kernel) ⟨Nat.le_of_ble_eq_true rfl, Nat.le_of_ble_eq_true rfl⟩) (hP.sub [] rfl) hK rfl hl.1 rfl (Nat.le_of_ble_eq_true rfl) dX8_pointingHome_20 ⟨Nat.zero_le _, Nat.zero_le _⟩ (fun r hr9 => ?_)
  subst hr9
  refine lv_istore (lv' := [(4, .int (s_X8_nearer (nI (pp % 6)) (nI (ho % 6)))), (3, .int (s_X8_nearer (nI (pp / 6)) (nI (ho / 6)))), (0, .ref h), (1, .int (nI ho)), (2, .int (nI pp))]) hx hb dX8_pointingHome_23 hl (by decide) rfl (fun ls hl => ?_)
  refine lv_aload_n hx hb dX8_pointingHome_25 rfl (lv_at hl 2 rfl) ?_
  refine lv_iload_n hx hb dX8_pointingHome_26 rfl (lv_at hl 1 rfl) ?_
  refine lv_iload hx hb dX8_pointingHome_27 (lv_at hl 0 rfl) ?_
  refine roU (As := [Value.int (s_X8_nearer (nI (pp / 6)) (nI (ho / 6))), Value.int (s_X8_nearer (nI (pp % 6)) (nI (ho % 6)))]) (rest := []) (kX4_turn l dC dI ca h (s_X8_nearer (nI (pp / 6)) (nI (ho / 6))) (s_X8_nearer (nI (pp % 6)) (nI (ho % 6))) ) ⟨hx, hb, hml, hown, htl⟩ (cOg (C := RX4) (owner := RX1) (x := yX1_turn) 2 htl wd_363 wd_366 wd_364 wd_373 wd_374 wd_16 wd_375 wd_379 rfl rfl (by decide +kernel) ⟨Nat.le_of_ble_eq_true rfl, Nat.le_of_ble_eq_true rfl⟩) (hP.sub [0] rfl) hK (va_recv hK hP (ci := 4) (q0 := 0) rfl rfl) rfl hl.1 rfl (Nat.le_of_ble_eq_true rfl) dX8_pointingHome_29 ⟨Nat.zero_le _, Nat.zero_le _⟩ (fun r hr9 => ?_)
  subst hr9
  exact W.iret (v := s_X4_turn (s_X8_nearer (nI (pp / 6)) (nI (ho / 6))) (s_X8_nearer (nI (pp % 6)) (nI (ho % 6)))) hx hb hr (fun t ht hW => ⟨s_X4_turn (s_X8_nearer (nI (pp / 6)) (nI (ho / 6))) (s_X8_nearer (nI (pp % 6)) (nI (ho % 6))), rfl, pt_4 ho hho pp hp, ht⟩) (fun q h => by cases h) dX8_pointingHome_32
theorem kX8_pointingHome (l : Launch) (dC : Nat → ClassId) (dI : Nat → Nat → Nat) (ca : Nat → ClassId) (h : Nat) (k : Nat) (ho : Nat) (pp : Nat) (hk : k < 5) (hho : ho < 36) (hp : pp < 36) : Met l yX8_pointingHome (Cond.code yX8_pointingHome cX8_pointingHome 5 (some .int) :: gT) (rk 2) (ROp (dC, dI) [(h, .inr (kc k, []))] (TY ca) [Value.ref h, Value.int (nI ho), Value.int (nI pp)]) (vp_Si (fun r => r = nI (pointN k ho pp))) 0 0 (fun _ => False) := by
  match k, hk with
  | 0, _ => exact kX8_pointingHome_0 l dC dI ca h ho pp hho hp
  | 1, _ => exact kX8_pointingHome_1 l dC dI ca h ho pp hho hp
  | 2, _ => exact kX8_pointingHome_2 l dC dI ca h ho pp hho hp
  | 3, _ => exact kX8_pointingHome_3 l dC dI ca h ho pp hho hp
  | 4, _ => exact kX8_pointingHome_4 l dC dI ca h ho pp hho hp
  | n + 5, hk => exact absurd hk (by omega)
set_option maxHeartbeats 4000000 in
set_option maxRecDepth 100000 in
theorem kX8_pointing (l : Launch) (dC : Nat → ClassId) (dI : Nat → Nat → Nat) (ca : Nat → ClassId) (i : Nat) (pp : Nat) (q : Nat → Nat) (qn : Nat → Nat) (kd : Nat → Nat) (nc : Nat) (sr : Int32) (ik : Int32) (isl : Int64) (br : Nat) (st : Int32) (so : Int32) (se : Nat) (hm : Nat → Nat) (hi : i < 4) (hp : pp < 36) (hkd : ∀ j, j < 4 → kd j < 5) (hhm : ∀ j, j < 4 → hm j < 36) : Met l yX8_pointing (Cond.code yX8_pointing cX8_pointing 3 (some .int) :: gT) (rk 3) (ROp (dC, dI) [(q 0, .inr (8, [.ref (q 1), .ref (q 3), .ref (q 4), .ref (q 9), .ref (q 14), .ref (q 15), .ref (q 16), .ref (q 17), .int (nI nc), .int sr, .int ik])), (q 3, .inl (ca 1, 4, .inr (.inr (.inr (.inr (fun zj => some (qn zj))))))), (q 4, .inr (7, [.ref (q 5), .ref (q 6), .ref (q 7), .ref (q 8), .long isl, .int (nI br), .int st, .int so, .int (nI se)])), (q 5, .inl (ca 2, 4, .inl (fun zj => nI (hm zj)))), (qn i, .inr (kc (kd i), []))] (TY ca) [Value.ref (q 0), Value.int (nI i), Value.int (nI pp)]) (vp_Si (fun r => r = nI (pointN (kd i) (hm i) pp))) 0 0 (fun _ => False) := by
  refine Met.ofW (cc := cX8_pointing) (maxL := 3) (ret := (some .int)) (by decide) rfl ?_
  intro p e s m args below meth c s₁ B hml hv
  obtain ⟨rfl, hP, hK⟩ := hv
  have hx := B.exec
  have hb := B.bytes
  have hr := B.returns
  have hts := atoms_spec (ws := (Cond.code yX8_pointing cX8_pointing 3 (some .int) :: gT)) B.pre
  have htl : ∀ w ∈ gT, w.before _ s = true := fun w h => hts w (List.mem_cons_of_mem _ h)
  have hown : s.vm.findClass RX8 = some m.cls := findClass_of_methodNamed B.named
  have hlocks := B.notSynchronized
  have hl := lv_entry ([Value.ref (q 0), Value.int (nI i), Value.int (nI pp)]) (n := 3) (Nat.le_of_ble_eq_true rfl)
  rw [lg_entry_eq]
  generalize (lg_sl ([Value.ref (q 0), Value.int (nI i), Value.int (nI pp)]) ++ List.replicate (3 - (lg_sl ([Value.ref (q 0), Value.int (nI i), Value.int (nI pp)])).length) Slot.unset).toArray = ls at hl ⊢
  have hl : lv_has ls 3 [(0, .ref (q 0)), (1, .int (nI i)), (2, .int (nI pp))] := hl
  refine lv_aload_n hx hb dX8_pointing_0 rfl (lv_at hl 0 rfl) ?_
  refine va_get (D := (dC, dI)) (ci := 8) (v := .ref (q 3)) (C := RX8) (T := TX8) (N := 11) hx hb htl iX8 hown hK hP 0 rfl rfl 1 (by decide) (htl _ wd_112) (fun _ h9 => h9) rfl dX8_pointing_1 ?_
  refine lv_iload_n hx hb dX8_pointing_4 rfl (lv_at hl 1 rfl) ?_
  refine va_aldq hx hb hK hP 1 1 rfl rfl (vp_in_nI (by omega) (by decide)) dX8_pointing_5 ?_
  refine lv_rv (y := .ref (qn i)) (congrArg (fun zj => va_rf (some (qn zj))) (nI_clamp (by omega))) ?_
  refine lv_aload_n hx hb dX8_pointing_6 rfl (lv_at hl 0 rfl) ?_
  refine va_get (D := (dC, dI)) (ci := 8) (v := .ref (q 4)) (C := RX8) (T := TX8) (N := 11) hx hb htl iX8 hown hK hP 0 rfl rfl 2 (by decide) (htl _ wd_113) (fun _ h9 => h9) rfl dX8_pointing_7 ?_
  refine va_get (D := (dC, dI)) (ci := 7) (v := .ref (q 5)) (C := RX7) (T := TX7) (N := 9) hx hb htl iX7 hown hK hP 2 rfl rfl 0 (by decide) (htl _ wd_53) (fun _ h9 => h9) rfl dX8_pointing_10 ?_
  refine lv_iload_n hx hb dX8_pointing_13 rfl (lv_at hl 1 rfl) ?_
  refine va_iald hx hb hK hP 3 2 rfl rfl (vp_in_nI (by omega) (by decide)) dX8_pointing_14 ?_
  refine lv_ri (y := nI (hm i)) (congrArg (fun zj => nI (hm zj)) (nI_clamp (by omega))) ?_
  refine lv_iload_n hx hb dX8_pointing_15 rfl (lv_at hl 2 rfl) ?_
  refine roS (As := [Value.ref (qn i), Value.int (nI (hm i)), Value.int (nI pp)]) (rest := []) (kX8_pointingHome l dC dI ca (qn i) (kd i) (hm i) pp (hkd i hi) (hhm i hi) hp) ⟨hx, hb, hml, hown, htl⟩ (cSg 3 htl wd_357 wd_358 wd_1 wd_359 rfl rfl (by decide +kernel) ⟨Nat.le_of_ble_eq_true rfl, Nat.le_of_ble_eq_true rfl⟩) (hP.sub [4] rfl) hK rfl hl.1 rfl (Nat.le_of_ble_eq_true rfl) dX8_pointing_16 ⟨Nat.zero_le _, Nat.zero_le _⟩ (fun r hr9 => ?_)
  subst hr9
  exact W.iret (v := nI (pointN (kd i) (hm i) pp)) hx hb hr (fun t ht hW => ⟨nI (pointN (kd i) (hm i) pp), rfl, rfl, ht⟩) (fun q h => by cases h) dX8_pointing_19
def downsN (f : Nat → Nat) : Nat → Nat → Nat → Nat
  | 0, _, d => d
  | n + 1, i, d => downsN f n (i + 1) (if f i = 4 then d + 1 else d)
set_option maxHeartbeats 4000000 in
set_option maxRecDepth 100000 in
theorem kX8_needlesDownAt (l : Launch) (dC : Nat → ClassId) (dI : Nat → Nat → Nat) (ca : Nat → ClassId) (pp : Nat) (q : Nat → Nat) (qn : Nat → Nat) (kd : Nat → Nat) (nc : Nat) (sr : Int32) (ik : Int32) (isl : Int64) (br : Nat) (st : Int32) (so : Int32) (se : Nat) (hm : Nat → Nat) (hp : pp < 36) (hnc : nc ≤ 4) (hkd : ∀ j, j < 4 → kd j < 5) (hhm : ∀ j, j < 4 → hm j < 36) : Met l yX8_needlesDownAt (Cond.code yX8_needlesDownAt cX8_needlesDownAt 4 (some .int) :: gT) (rk 4) (ROp (dC, dI) [(q 0, .inr (8, [.ref (q 1), .ref (q 3), .ref (q 4), .ref (q 9), .ref (q 14), .ref (q 15), .ref (q 16), .ref (q 17), .int (nI nc), .int sr, .int ik])), (q 3, .inl (ca 1, 4, .inr (.inr (.inr (.inr (fun zj => some (qn zj))))))), (q 4, .inr (7, [.ref (q 5), .ref (q 6), .ref (q 7), .ref (q 8), .long isl, .int (nI br), .int st, .int so, .int (nI se)])), (q 5, .inl (ca 2, 4, .inl (fun zj => nI (hm zj)))), (qn 0, .inr (kc (kd 0), [])), (qn 1, .inr (kc (kd 1), [])), (qn 2, .inr (kc (kd 2), [])), (qn 3, .inr (kc (kd 3), []))] (TY ca) [Value.ref (q 0), Value.int (nI pp)]) (vp_Si (fun r => r = nI (downsN (fun i => pointN (kd i) (hm i) pp) nc 0 0))) 0 0 (fun _ => False) := by
  refine Met.ofW (cc := cX8_needlesDownAt) (maxL := 4) (ret := (some .int)) (by decide) rfl ?_
  intro p e s m args below meth c s₁ B hml hv
  obtain ⟨rfl, hP, hK⟩ := hv
  have hx := B.exec
  have hb := B.bytes
  have hr := B.returns
  have hts := atoms_spec (ws := (Cond.code yX8_needlesDownAt cX8_needlesDownAt 4 (some .int) :: gT)) B.pre
  have htl : ∀ w ∈ gT, w.before _ s = true := fun w h => hts w (List.mem_cons_of_mem _ h)
  have hown : s.vm.findClass RX8 = some m.cls := findClass_of_methodNamed B.named
  have hlocks := B.notSynchronized
  have hl := lv_entry ([Value.ref (q 0), Value.int (nI pp)]) (n := 4) (Nat.le_of_ble_eq_true rfl)
  rw [lg_entry_eq]
  generalize (lg_sl ([Value.ref (q 0), Value.int (nI pp)]) ++ List.replicate (4 - (lg_sl ([Value.ref (q 0), Value.int (nI pp)])).length) Slot.unset).toArray = ls at hl ⊢
  have hl : lv_has ls 4 [(0, .ref (q 0)), (1, .int (nI pp))] := hl
  refine lv_iconst (v := nI 0) hx hb dX8_needlesDownAt_0 (by decide) ?_
  refine lv_istore_n (lv' := [(2, .int (nI 0)), (0, .ref (q 0)), (1, .int (nI pp))]) hx hb dX8_needlesDownAt_1 rfl hl (by decide) rfl (fun ls hl => ?_)
  refine lv_iconst (v := nI 0) hx hb dX8_needlesDownAt_2 (by decide) ?_
  refine lv_istore_n (lv' := [(3, .int (nI 0)), (2, .int (nI 0)), (0, .ref (q 0)), (1, .int (nI pp))]) hx hb dX8_needlesDownAt_3 rfl hl (by decide) rfl (fun ls hl => ?_)
  have lp4 : ∀ (n : Nat) (i : Nat) (d : Nat), (i + n = nc) → (downsN (fun i => pointN (kd i) (hm i) pp) n i d = downsN (fun i => pointN (kd i) (hm i) pp) nc 0 0) → ∀ (ls : Array Slot), lv_has ls 4 [(3, .int (nI i)), (2, .int (nI d)), (0, .ref (q 0)), (1, .int (nI pp))] → W p l e (headSpec (Cond.code yX8_needlesDownAt cX8_needlesDownAt 4 (some .int) :: gT) (rk 4)).room s m ([Value.ref (q 0), Value.int (nI pp)] : List Value).toArray below meth c s.heap [] 0 0 (MQ below (vp_Si (fun r => r = nI (downsN (fun i => pointN (kd i) (hm i) pp) nc 0 0))) ([Value.ref (q 0), Value.int (nI pp)] : List Value).toArray s 0 0 (fun _ => False)) (F0 m 4 ls []) := by
    clear hl
    intro n
    induction n with
    | zero =>
      intro i d hi hR ls hl
      refine lv_iload_n hx hb dX8_needlesDownAt_4 rfl (lv_at hl 0 rfl) ?_
      refine lv_aload_n hx hb dX8_needlesDownAt_5 rfl (lv_at hl 2 rfl) ?_
      refine va_get (D := (dC, dI)) (ci := 8) (v := .int (nI nc)) (C := RX8) (T := TX8) (N := 11) hx hb htl iX8 hown hK hP 0 rfl rfl 8 (by decide) (htl _ wd_119) (fun _ h9 => h9) rfl dX8_needlesDownAt_6 ?_
      refine lv_icmp_ge (tgt := 31) hx hb dX8_needlesDownAt_9 (by decide) (fun c_1 => ?_) (fun c_1 => ?_)
      · refine lv_iload_n hx hb dX8_needlesDownAt_31 rfl (lv_at hl 1 rfl) ?_
        exact W.iret (v := nI d) hx hb hr (fun t ht hW => ⟨nI d, rfl, by show _ = _; rw [← hR]; rfl, ht⟩) (fun q h => by cases h) dX8_needlesDownAt_32
      · exact absurd (nI_le (by omega) (by omega)) c_1
    | succ n ih4 =>
      intro i d hi hR ls hl
      refine lv_iload_n hx hb dX8_needlesDownAt_4 rfl (lv_at hl 0 rfl) ?_
      refine lv_aload_n hx hb dX8_needlesDownAt_5 rfl (lv_at hl 2 rfl) ?_
      refine va_get (D := (dC, dI)) (ci := 8) (v := .int (nI nc)) (C := RX8) (T := TX8) (N := 11) hx hb htl iX8 hown hK hP 0 rfl rfl 8 (by decide) (htl _ wd_119) (fun _ h9 => h9) rfl dX8_needlesDownAt_6 ?_
      refine lv_icmp_ge (tgt := 31) hx hb dX8_needlesDownAt_9 (by decide) (fun c_2 => ?_) (fun c_2 => ?_)
      · exact absurd c_2 (nI_ge (by omega) (by omega))
      · refine lv_aload_n hx hb dX8_needlesDownAt_12 rfl (lv_at hl 2 rfl) ?_
        refine lv_iload_n hx hb dX8_needlesDownAt_13 rfl (lv_at hl 0 rfl) ?_
        refine lv_iload_n hx hb dX8_needlesDownAt_14 rfl (lv_at hl 3 rfl) ?_
        refine roV (As := [Value.int (nI i), Value.int (nI pp)]) (rest := []) (kX8_pointing l dC dI ca i pp q qn kd nc sr ik isl br st so se hm (by omega) hp hkd hhm) ⟨hx, hb, hml, hown, htl⟩ (cVg (C := RX8) 2 htl wd_353 wd_355 wp_3 wd_1 wd_356 rfl rfl (by decide +kernel) ⟨Nat.le_of_ble_eq_true rfl, Nat.le_of_ble_eq_true rfl⟩) (va_P.app (hP.sub [0, 1, 2, 3] rfl) (nd4 hP i (by omega) 4 5 6 7 rfl rfl rfl rfl)) hK (va_recv hK hP (ci := 8) (q0 := 0) rfl rfl) rfl hl.1 rfl (Nat.le_of_ble_eq_true rfl) dX8_needlesDownAt_15 ⟨Nat.zero_le _, Nat.zero_le _⟩ (fun r hr9 => ?_)
        subst hr9
        refine lv_iconst (v := nI 4) hx hb dX8_needlesDownAt_18 (by decide) ?_
        refine lv_icmp_ne (tgt := 25) hx hb dX8_needlesDownAt_19 (by decide) (fun c_3 => ?_) (fun c_3 => ?_)
        · rw [nI_eq (Nat.lt_trans (pointN_lt _ _ _) (by decide)) (by decide)] at c_3
          refine lv_iinc (v := nI (i + 1)) (lv' := [(3, .int (nI (i + 1))), (2, .int (nI d)), (0, .ref (q 0)), (1, .int (nI pp))]) hx hb dX8_needlesDownAt_25 hl (k := 0) rfl (nI_add i 1) (by decide) rfl (fun ls hl => ?_)
          refine lv_goto (tgt := 4) hx hb dX8_needlesDownAt_28 (by decide) ?_
          exact ih4 (i + 1) d (by omega) (by simp only [downsN, c_3, ↓reduceIte] at hR; exact hR) ls (lv_sub hl [0, 1, 2, 3] rfl)
        · rw [nI_eq (Nat.lt_trans (pointN_lt _ _ _) (by decide)) (by decide)] at c_3
          refine lv_iinc (v := nI (d + 1)) (lv' := [(2, .int (nI (d + 1))), (3, .int (nI i)), (0, .ref (q 0)), (1, .int (nI pp))]) hx hb dX8_needlesDownAt_22 hl (k := 1) rfl (nI_add d 1) (by decide) rfl (fun ls hl => ?_)
          refine lv_iinc (v := nI (i + 1)) (lv' := [(3, .int (nI (i + 1))), (2, .int (nI (d + 1))), (0, .ref (q 0)), (1, .int (nI pp))]) hx hb dX8_needlesDownAt_25 hl (k := 1) rfl (nI_add i 1) (by decide) rfl (fun ls hl => ?_)
          refine lv_goto (tgt := 4) hx hb dX8_needlesDownAt_28 (by decide) ?_
          exact ih4 (i + 1) (d + 1) (by omega) (by simp only [downsN, c_3, ↓reduceIte] at hR; exact hR) ls (lv_sub hl [0, 1, 2, 3] rfl)
  exact lp4 nc 0 0 (by omega) rfl ls (lv_sub hl [0, 1, 2, 3] rfl)
end
section
/-- may a home be there, by what is seen -/
def chL (k num ho : Nat) (sn sp sd : Nat → Nat) : Nat → Nat → Bool
  | 0, _ => true
  | n + 1, j => if sn j = num ∧ ¬ pointN k ho (sp j) = sd j then false else chL k num ho sn sp sd n (j + 1)
def chN (k num se : Nat) (sn sp sd : Nat → Nat) (ho : Nat) : Bool := chL k num ho sn sp sd se 0
/-- those that may, as bits -/
def phL (f : Nat → Bool) : Nat → Nat → Int64 → Int64
  | 0, _, mm => mm
  | n + 1, j, mm => phL f n (j + 1) (if f j = true then mm ||| (1 <<< ((nI j).toInt64 &&& 63)) else mm)
def lpL (mk : Int64) : Nat → Nat → Int32
  | 0, _ => -1
  | n + 1, j => if mk >>> ((nI j).toInt64 &&& 63) &&& 1 = 1 then nI j else lpL mk n (j + 1)
def mbit (mk : Int64) (j : Nat) : Bool := decide (mk >>> ((nI j).toInt64 &&& 63) &&& 1 = 1)
def pcA (x : Int64) : Int64 := x - ((x.toUInt64 >>> ((nI 1).toInt64.toUInt64 &&& Int64.toUInt64 63)).toInt64 &&& 6148914691236517205)
def pcB (x : Int64) : Int64 := (x &&& 3689348814741910323) + ((x.toUInt64 >>> ((nI 2).toInt64.toUInt64 &&& Int64.toUInt64 63)).toInt64 &&& 3689348814741910323)
def pcC (x : Int64) : Int64 := (x + (x.toUInt64 >>> ((nI 4).toInt64.toUInt64 &&& Int64.toUInt64 63)).toInt64) &&& 1085102592571150095
def pcD (x : Int64) (k : Nat) : Int64 := x + (x.toUInt64 >>> ((nI k).toInt64.toUInt64 &&& Int64.toUInt64 63)).toInt64
def pcZ (x : Int64) : Int32 := x.toInt32 &&& nI 127
def popc (x : Int64) : Int32 := pcZ (pcD (pcD (pcD (pcC (pcB (pcA x))) 8) 16) 32)
def fillF (f : Nat → Int32) (v : Int32) (n : Nat) : Nat → Int32 := fun j => if j < n then v else f j
theorem fillF_up (f : Nat → Int32) (v : Int32) (i : Nat) : upd (fillF f v i) i v = fillF f v (i + 1) := by
  funext j
  unfold upd fillF
  by_cases h : j = i
  · rw [if_pos h, if_pos (by omega)]
  · rw [if_neg h]
    by_cases h2 : j < i
    · rw [if_pos h2, if_pos (by omega)]
    · rw [if_neg h2, if_neg (by omega)]
theorem fillF_0 (f : Nat → Int32) (v : Int32) : fillF f v 0 = f := by
  funext j
  unfold fillF
  rw [if_neg (by omega)]
/-- a needle followed: at which place he is, how many steps led on -/
def trailN (ib : Nat → Bool) (k ho : Nat) : Nat → Nat → Nat → Nat × Nat
  | 0, pl, st => (pl, st)
  | n + 1, pl, st => if stepN ib pl (pointN k ho pl) = pl then (pl, st) else trailN ib k ho n (stepN ib pl (pointN k ho pl)) (st + 1)
def homL (f : Nat → Bool) : Nat → Nat → Int32 → Int32
  | 0, _, b => b
  | n + 1, i, b => homL f n (i + 1) (if f i = true then b ||| (nI 1 <<< (nI i &&& 31)) else b)
/-- the most homes that one direction leaves -/
def lwL (f : Nat → Nat) (b : Nat → Bool) : Nat → Nat → (Nat → Nat) → Nat → Nat
  | 0, _, _, w => w
  | n + 1, j, lq, w => if b j = true then lwL f b n (j + 1) (va_up lq (f j) (lq (f j) + 1)) (if w < lq (f j) + 1 then lq (f j) + 1 else w) else lwL f b n (j + 1) lq w
def blL (g : Nat → Nat) : Nat → Nat → Int32 → Nat → Int32
  | 0, _, b, _ => b
  | n + 1, j, b, w => if g j < w then blL g n (j + 1) (nI j) (g j) else blL g n (j + 1) b w
set_option maxHeartbeats 4000000 in
set_option maxRecDepth 100000 in
theorem kX8_canBeHome (l : Launch) (dC : Nat → ClassId) (dI : Nat → Nat → Nat) (ca : Nat → ClassId) (i : Nat) (ho : Nat) (q : Nat → Nat) (qn : Nat → Nat) (kd : Nat → Nat) (nc : Nat) (sr : Int32) (ik : Int32) (isl : Int64) (br : Nat) (st : Int32) (so : Int32) (se : Nat) (sn : Nat → Nat) (sp : Nat → Nat) (sd : Nat → Nat) (hi : i < 4) (hho : ho < 36) (hse : se ≤ 6) (hsn : ∀ j, j < 6 → sn j < 4) (hsp : ∀ j, j < 6 → sp j < 36) (hsd : ∀ j, j < 6 → sd j < 9) (hkd : ∀ j, j < 4 → kd j < 5) : Met l yX8_canBeHome (Cond.code yX8_canBeHome cX8_canBeHome 4 (some .boolean) :: gT) (rk 3) (ROp (dC, dI) [(q 0, .inr (8, [.ref (q 1), .ref (q 3), .ref (q 4), .ref (q 9), .ref (q 14), .ref (q 15), .ref (q 16), .ref (q 17), .int (nI nc), .int sr, .int ik])), (q 3, .inl (ca 1, 4, .inr (.inr (.inr (.inr (fun zj => some (qn zj))))))), (q 4, .inr (7, [.ref (q 5), .ref (q 6), .ref (q 7), .ref (q 8), .long isl, .int (nI br), .int st, .int so, .int (nI se)])), (q 6, .inl (ca 3, 6, .inl (fun zj => nI (sn zj)))), (q 7, .inl (ca 4, 6, .inl (fun zj => nI (sp zj)))), (q 8, .inl (ca 5, 6, .inl (fun zj => nI (sd zj)))), (qn i, .inr (kc (kd i), []))] (TY ca) [Value.ref (q 0), Value.int (nI i), Value.int (nI ho)]) (vp_Si (fun r => r = bI (chN (kd i) i se sn sp sd ho))) 0 0 (fun _ => False) := by
  refine Met.ofW (cc := cX8_canBeHome) (maxL := 4) (ret := (some .boolean)) (by decide) rfl ?_
  intro p e s m args below meth c s₁ B hml hv
  obtain ⟨rfl, hP, hK⟩ := hv
  have hx := B.exec
  have hb := B.bytes
  have hr := B.returns
  have hts := atoms_spec (ws := (Cond.code yX8_canBeHome cX8_canBeHome 4 (some .boolean) :: gT)) B.pre
  have htl : ∀ w ∈ gT, w.before _ s = true := fun w h => hts w (List.mem_cons_of_mem _ h)
  have hown : s.vm.findClass RX8 = some m.cls := findClass_of_methodNamed B.named
  have hlocks := B.notSynchronized
  have hl := lv_entry ([Value.ref (q 0), Value.int (nI i), Value.int (nI ho)]) (n := 4) (Nat.le_of_ble_eq_true rfl)
  rw [lg_entry_eq]
  generalize (lg_sl ([Value.ref (q 0), Value.int (nI i), Value.int (nI ho)]) ++ List.replicate (4 - (lg_sl ([Value.ref (q 0), Value.int (nI i), Value.int (nI ho)])).length) Slot.unset).toArray = ls at hl ⊢
  have hl : lv_has ls 4 [(0, .ref (q 0)), (1, .int (nI i)), (2, .int (nI ho))] := hl
  refine lv_iconst (v := nI 0) hx hb dX8_canBeHome_0 (by decide) ?_
  refine lv_istore_n (lv' := [(3, .int (nI 0)), (0, .ref (q 0)), (1, .int (nI i)), (2, .int (nI ho))]) hx hb dX8_canBeHome_1 rfl hl (by decide) rfl (fun ls hl => ?_)
  have lp2 : ∀ (n : Nat) (j : Nat), (j + n = se) → (chL (kd i) i ho sn sp sd n j = chL (kd i) i ho sn sp sd se 0) → ∀ (ls : Array Slot), lv_has ls 4 [(3, .int (nI j)), (0, .ref (q 0)), (1, .int (nI i)), (2, .int (nI ho))] → W p l e (headSpec (Cond.code yX8_canBeHome cX8_canBeHome 4 (some .boolean) :: gT) (rk 3)).room s m ([Value.ref (q 0), Value.int (nI i), Value.int (nI ho)] : List Value).toArray below meth c s.heap [] 0 0 (MQ below (vp_Si (fun r => r = bI (chN (kd i) i se sn sp sd ho))) ([Value.ref (q 0), Value.int (nI i), Value.int (nI ho)] : List Value).toArray s 0 0 (fun _ => False)) (F0 m 2 ls []) := by
    clear hl
    intro n
    induction n with
    | zero =>
      intro j hj hR ls hl
      refine lv_iload_n hx hb dX8_canBeHome_2 rfl (lv_at hl 0 rfl) ?_
      refine lv_aload_n hx hb dX8_canBeHome_3 rfl (lv_at hl 1 rfl) ?_
      refine va_get (D := (dC, dI)) (ci := 8) (v := .ref (q 4)) (C := RX8) (T := TX8) (N := 11) hx hb htl iX8 hown hK hP 0 rfl rfl 2 (by decide) (htl _ wd_113) (fun _ h9 => h9) rfl dX8_canBeHome_4 ?_
      refine va_get (D := (dC, dI)) (ci := 7) (v := .int (nI se)) (C := RX7) (T := TX7) (N := 9) hx hb htl iX7 hown hK hP 2 rfl rfl 8 (by decide) (htl _ wd_69) (fun _ h9 => h9) rfl dX8_canBeHome_7 ?_
      refine lv_icmp_ge (tgt := 65) hx hb dX8_canBeHome_10 (by decide) (fun c_1 => ?_) (fun c_1 => ?_)
      · refine lv_iconst (v := nI 1) hx hb dX8_canBeHome_65 (by decide) ?_
        exact W.zret (v := nI 1) hx hb hr (by decide +kernel) (fun t ht hW => ⟨nI 1, rfl, by show _ = _; unfold chN; rw [← hR]; rfl, ht⟩) (fun q h => by cases h) dX8_canBeHome_66
      · exact absurd (nI_le (by omega) (by omega)) c_1
    | succ n ih2 =>
      intro j hj hR ls hl
      refine lv_iload_n hx hb dX8_canBeHome_2 rfl (lv_at hl 0 rfl) ?_
      refine lv_aload_n hx hb dX8_canBeHome_3 rfl (lv_at hl 1 rfl) ?_
      refine va_get (D := (dC, dI)) (ci := 8) (v := .ref (q 4)) (C := RX8) (T := TX8) (N := 11) hx hb htl iX8 hown hK hP 0 rfl rfl 2 (by decide) (htl _ wd_113) (fun _ h9 => h9) rfl dX8_canBeHome_4 ?_
      refine va_get (D := (dC, dI)) (ci := 7) (v := .int (nI se)) (C := RX7) (T := TX7) (N := 9) hx hb htl iX7 hown hK hP 2 rfl rfl 8 (by decide) (htl _ wd_69) (fun _ h9 => h9) rfl dX8_canBeHome_7 ?_
      refine lv_icmp_ge (tgt := 65) hx hb dX8_canBeHome_10 (by decide) (fun c_2 => ?_) (fun c_2 => ?_)
      · exact absurd c_2 (nI_ge (by omega) (by omega))
      · refine lv_aload_n hx hb dX8_canBeHome_13 rfl (lv_at hl 1 rfl) ?_
        refine va_get (D := (dC, dI)) (ci := 8) (v := .ref (q 4)) (C := RX8) (T := TX8) (N := 11) hx hb htl iX8 hown hK hP 0 rfl rfl 2 (by decide) (htl _ wd_113) (fun _ h9 => h9) rfl dX8_canBeHome_14 ?_
        refine va_get (D := (dC, dI)) (ci := 7) (v := .ref (q 6)) (C := RX7) (T := TX7) (N := 9) hx hb htl iX7 hown hK hP 2 rfl rfl 1 (by decide) (htl _ wd_55) (fun _ h9 => h9) rfl dX8_canBeHome_17 ?_
        refine lv_iload_n hx hb dX8_canBeHome_20 rfl (lv_at hl 0 rfl) ?_
        refine va_iald hx hb hK hP 3 3 rfl rfl (vp_in_nI (by omega) (by decide)) dX8_canBeHome_21 ?_
        refine lv_ri (y := nI (sn j)) (congrArg (fun zj => nI (sn zj)) (nI_clamp (by omega))) ?_
        refine lv_iload_n hx hb dX8_canBeHome_22 rfl (lv_at hl 2 rfl) ?_
        refine lv_icmp_ne (tgt := 59) hx hb dX8_canBeHome_23 (by decide) (fun c_3 => ?_) (fun c_3 => ?_)
        · rw [nI_eq (Nat.lt_trans (hsn j (by omega)) (by decide)) (by omega)] at c_3
          refine lv_iinc (v := nI (j + 1)) (lv' := [(3, .int (nI (j + 1))), (0, .ref (q 0)), (1, .int (nI i)), (2, .int (nI ho))]) hx hb dX8_canBeHome_59 hl (k := 0) rfl (nI_add j 1) (by decide) rfl (fun ls hl => ?_)
          refine lv_goto (tgt := 2) hx hb dX8_canBeHome_62 (by decide) ?_
          exact ih2 (j + 1) (by omega) (by simp only [chL, c_3, false_and, ↓reduceIte] at hR; exact hR) ls (lv_sub hl [0, 1, 2, 3] rfl)
        · rw [nI_eq (Nat.lt_trans (hsn j (by omega)) (by decide)) (by omega)] at c_3
          refine lv_aload_n hx hb dX8_canBeHome_26 rfl (lv_at hl 1 rfl) ?_
          refine va_get (D := (dC, dI)) (ci := 8) (v := .ref (q 3)) (C := RX8) (T := TX8) (N := 11) hx hb htl iX8 hown hK hP 0 rfl rfl 1 (by decide) (htl _ wd_112) (fun _ h9 => h9) rfl dX8_canBeHome_27 ?_
          refine lv_iload_n hx hb dX8_canBeHome_30 rfl (lv_at hl 2 rfl) ?_
          refine va_aldq hx hb hK hP 1 1 rfl rfl (vp_in_nI (by omega) (by decide)) dX8_canBeHome_31 ?_
          refine lv_rv (y := .ref (qn i)) (congrArg (fun zj => va_rf (some (qn zj))) (nI_clamp (by omega))) ?_
          refine lv_iload_n hx hb dX8_canBeHome_32 rfl (lv_at hl 3 rfl) ?_
          refine lv_aload_n hx hb dX8_canBeHome_33 rfl (lv_at hl 1 rfl) ?_
          refine va_get (D := (dC, dI)) (ci := 8) (v := .ref (q 4)) (C := RX8) (T := TX8) (N := 11) hx hb htl iX8 hown hK hP 0 rfl rfl 2 (by decide) (htl _ wd_113) (fun _ h9 => h9) rfl dX8_canBeHome_34 ?_
          refine va_get (D := (dC, dI)) (ci := 7) (v := .ref (q 7)) (C := RX7) (T := TX7) (N := 9) hx hb htl iX7 hown hK hP 2 rfl rfl 2 (by decide) (htl _ wd_57) (fun _ h9 => h9) rfl dX8_canBeHome_37 ?_
          refine lv_iload_n hx hb dX8_canBeHome_40 rfl (lv_at hl 0 rfl) ?_
          refine va_iald hx hb hK hP 4 4 rfl rfl (vp_in_nI (by omega) (by decide)) dX8_canBeHome_41 ?_
          refine lv_ri (y := nI (sp j)) (congrArg (fun zj => nI (sp zj)) (nI_clamp (by omega))) ?_
          refine roS (As := [Value.ref (qn i), Value.int (nI ho), Value.int (nI (sp j))]) (rest := []) (kX8_pointingHome l dC dI ca (qn i) (kd i) ho (sp j) (hkd i hi) hho (hsp j (by omega))) ⟨hx, hb, hml, hown, htl⟩ (cSg 3 htl wd_357 wd_358 wd_1 wd_359 rfl rfl (by decide +kernel) ⟨Nat.le_of_ble_eq_true rfl, Nat.le_of_ble_eq_true rfl⟩) (hP.sub [6] rfl) hK rfl hl.1 rfl (Nat.le_of_ble_eq_true rfl) dX8_canBeHome_42 ⟨Nat.zero_le _, Nat.zero_le _⟩ (fun r hr9 => ?_)
          subst hr9
          refine lv_aload_n hx hb dX8_canBeHome_45 rfl (lv_at hl 1 rfl) ?_
          refine va_get (D := (dC, dI)) (ci := 8) (v := .ref (q 4)) (C := RX8) (T := TX8) (N := 11) hx hb htl iX8 hown hK hP 0 rfl rfl 2 (by decide) (htl _ wd_113) (fun _ h9 => h9) rfl dX8_canBeHome_46 ?_
          refine va_get (D := (dC, dI)) (ci := 7) (v := .ref (q 8)) (C := RX7) (T := TX7) (N := 9) hx hb htl iX7 hown hK hP 2 rfl rfl 3 (by decide) (htl _ wd_59) (fun _ h9 => h9) rfl dX8_canBeHome_49 ?_
          refine lv_iload_n hx hb dX8_canBeHome_52 rfl (lv_at hl 0 rfl) ?_
          refine va_iald hx hb hK hP 5 5 rfl rfl (vp_in_nI (by omega) (by decide)) dX8_canBeHome_53 ?_
          refine lv_ri (y := nI (sd j)) (congrArg (fun zj => nI (sd zj)) (nI_clamp (by omega))) ?_
          refine lv_icmp_eq (tgt := 59) hx hb dX8_canBeHome_54 (by decide) (fun c_4 => ?_) (fun c_4 => ?_)
          · rw [nI_eq (Nat.lt_trans (pointN_lt _ _ _) (by decide)) (Nat.lt_trans (hsd j (by omega)) (by decide))] at c_4
            refine lv_iinc (v := nI (j + 1)) (lv' := [(3, .int (nI (j + 1))), (0, .ref (q 0)), (1, .int (nI i)), (2, .int (nI ho))]) hx hb dX8_canBeHome_59 hl (k := 0) rfl (nI_add j 1) (by decide) rfl (fun ls hl => ?_)
            refine lv_goto (tgt := 2) hx hb dX8_canBeHome_62 (by decide) ?_
            exact ih2 (j + 1) (by omega) (by simp only [chL, c_4, not_true_eq_false, and_false, ↓reduceIte] at hR; exact hR) ls (lv_sub hl [0, 1, 2, 3] rfl)
          · rw [nI_eq (Nat.lt_trans (pointN_lt _ _ _) (by decide)) (Nat.lt_trans (hsd j (by omega)) (by decide))] at c_4
            refine lv_iconst (v := nI 0) hx hb dX8_canBeHome_57 (by decide) ?_
            exact W.zret (v := nI 0) hx hb hr (by decide +kernel) (fun t ht hW => ⟨nI 0, rfl, by show _ = _; unfold chN; rw [← hR]; simp only [chL, c_3, c_4, not_false_eq_true, and_self, ↓reduceIte]; rfl, ht⟩) (fun q h => by cases h) dX8_canBeHome_58
  exact lp2 se 0 (by omega) rfl ls (lv_sub hl [0, 1, 2, 3] rfl)
set_option maxHeartbeats 4000000 in
set_option maxRecDepth 100000 in
theorem kX8_possibleHomes (l : Launch) (dC : Nat → ClassId) (dI : Nat → Nat → Nat) (ca : Nat → ClassId) (i : Nat) (q : Nat → Nat) (qn : Nat → Nat) (kd : Nat → Nat) (nc : Nat) (sr : Int32) (ik : Int32) (isl : Int64) (br : Nat) (st : Int32) (so : Int32) (se : Nat) (sn : Nat → Nat) (sp : Nat → Nat) (sd : Nat → Nat) (hi : i < 4) (hse : se ≤ 6) (hsn : ∀ j, j < 6 → sn j < 4) (hsp : ∀ j, j < 6 → sp j < 36) (hsd : ∀ j, j < 6 → sd j < 9) (hkd : ∀ j, j < 4 → kd j < 5) : Met l yX8_possibleHomes (Cond.code yX8_possibleHomes cX8_possibleHomes 5 (some .long) :: gT) (rk 4) (ROp (dC, dI) [(q 0, .inr (8, [.ref (q 1), .ref (q 3), .ref (q 4), .ref (q 9), .ref (q 14), .ref (q 15), .ref (q 16), .ref (q 17), .int (nI nc), .int sr, .int ik])), (q 3, .inl (ca 1, 4, .inr (.inr (.inr (.inr (fun zj => some (qn zj))))))), (q 4, .inr (7, [.ref (q 5), .ref (q 6), .ref (q 7), .ref (q 8), .long isl, .int (nI br), .int st, .int so, .int (nI se)])), (q 6, .inl (ca 3, 6, .inl (fun zj => nI (sn zj)))), (q 7, .inl (ca 4, 6, .inl (fun zj => nI (sp zj)))), (q 8, .inl (ca 5, 6, .inl (fun zj => nI (sd zj)))), (qn i, .inr (kc (kd i), []))] (TY ca) [Value.ref (q 0), Value.int (nI i)]) (vp_Sl (fun r => r = phL (chN (kd i) i se sn sp sd) 36 0 0)) 0 0 (fun _ => False) := by
  refine Met.ofW (cc := cX8_possibleHomes) (maxL := 5) (ret := (some .long)) (by decide) rfl ?_
  intro p e s m args below meth c s₁ B hml hv
  obtain ⟨rfl, hP, hK⟩ := hv
  have hx := B.exec
  have hb := B.bytes
  have hr := B.returns
  have hts := atoms_spec (ws := (Cond.code yX8_possibleHomes cX8_possibleHomes 5 (some .long) :: gT)) B.pre
  have htl : ∀ w ∈ gT, w.before _ s = true := fun w h => hts w (List.mem_cons_of_mem _ h)
  have hown : s.vm.findClass RX8 = some m.cls := findClass_of_methodNamed B.named
  have hlocks := B.notSynchronized
  have hl := lv_entry ([Value.ref (q 0), Value.int (nI i)]) (n := 5) (Nat.le_of_ble_eq_true rfl)
  rw [lg_entry_eq]
  generalize (lg_sl ([Value.ref (q 0), Value.int (nI i)]) ++ List.replicate (5 - (lg_sl ([Value.ref (q 0), Value.int (nI i)])).length) Slot.unset).toArray = ls at hl ⊢
  have hl : lv_has ls 5 [(0, .ref (q 0)), (1, .int (nI i))] := hl
  refine lv_lconst (v := 0) hx hb dX8_possibleHomes_0 (by decide) ?_
  refine lv_lstore_n (lv' := [(2, .long 0), (0, .ref (q 0)), (1, .int (nI i))]) hx hb dX8_possibleHomes_1 rfl hl (by decide) rfl (fun ls hl => ?_)
  refine lv_iconst (v := nI 0) hx hb dX8_possibleHomes_2 (by decide) ?_
  refine lv_istore (lv' := [(4, .int (nI 0)), (2, .long 0), (0, .ref (q 0)), (1, .int (nI i))]) hx hb dX8_possibleHomes_3 hl (by decide) rfl (fun ls hl => ?_)
  have lp5 : ∀ (n : Nat) (j : Nat) (mk : Int64), (j + n = 36) → (phL (chN (kd i) i se sn sp sd) n j mk = phL (chN (kd i) i se sn sp sd) 36 0 0) → ∀ (ls : Array Slot), lv_has ls 5 [(4, .int (nI j)), (2, .long mk), (0, .ref (q 0)), (1, .int (nI i))] → W p l e (headSpec (Cond.code yX8_possibleHomes cX8_possibleHomes 5 (some .long) :: gT) (rk 4)).room s m ([Value.ref (q 0), Value.int (nI i)] : List Value).toArray below meth c s.heap [] 0 0 (MQ below (vp_Sl (fun r => r = phL (chN (kd i) i se sn sp sd) 36 0 0)) ([Value.ref (q 0), Value.int (nI i)] : List Value).toArray s 0 0 (fun _ => False)) (F0 m 5 ls []) := by
    clear hl
    intro n
    induction n with
    | zero =>
      intro j mk hj hR ls hl
      refine lv_iload hx hb dX8_possibleHomes_5 (lv_at hl 0 rfl) ?_
      refine lv_bipush (v := nI 36) hx hb dX8_possibleHomes_7 (by decide) ?_
      refine lv_icmp_ge (tgt := 35) hx hb dX8_possibleHomes_9 (by decide) (fun c_1 => ?_) (fun c_1 => ?_)
      · refine lv_lload_n hx hb dX8_possibleHomes_35 rfl (lv_at hl 1 rfl) ?_
        exact W.lret (v := mk) hx hb hr (fun t ht hW => ⟨mk, rfl, by show _ = _; rw [← hR]; rfl, ht⟩) (fun q h => by cases h) dX8_possibleHomes_36
      · exact absurd (nI_le (by omega) (by omega)) c_1
    | succ n ih5 =>
      intro j mk hj hR ls hl
      refine lv_iload hx hb dX8_possibleHomes_5 (lv_at hl 0 rfl) ?_
      refine lv_bipush (v := nI 36) hx hb dX8_possibleHomes_7 (by decide) ?_
      refine lv_icmp_ge (tgt := 35) hx hb dX8_possibleHomes_9 (by decide) (fun c_2 => ?_) (fun c_2 => ?_)
      · exact absurd c_2 (nI_ge (by omega) (by omega))
      · refine lv_aload_n hx hb dX8_possibleHomes_12 rfl (lv_at hl 2 rfl) ?_
        refine lv_iload_n hx hb dX8_possibleHomes_13 rfl (lv_at hl 3 rfl) ?_
        refine lv_iload hx hb dX8_possibleHomes_14 (lv_at hl 0 rfl) ?_
        refine roV (As := [Value.int (nI i), Value.int (nI j)]) (rest := []) (kX8_canBeHome l dC dI ca i j q qn kd nc sr ik isl br st so se sn sp sd hi (by omega) hse hsn hsp hsd hkd) ⟨hx, hb, hml, hown, htl⟩ (cVg (C := RX8) 2 htl wd_403 wd_405 wp_7 wd_1 wd_406 rfl rfl (by decide +kernel) ⟨Nat.le_of_ble_eq_true rfl, Nat.le_of_ble_eq_true rfl⟩) (hP.sub [0, 1, 2, 3, 4, 5, 6] rfl) hK (va_recv hK hP (ci := 8) (q0 := 0) rfl rfl) rfl hl.1 rfl (Nat.le_of_ble_eq_true rfl) dX8_possibleHomes_16 ⟨Nat.zero_le _, Nat.zero_le _⟩ (fun r hr9 => ?_)
        subst hr9
        refine lv_if_eq (tgt := 29) hx hb dX8_possibleHomes_19 (by decide) (fun c_3 => ?_) (fun c_3 => ?_)
        · replace c_3 := bI_f c_3
          refine lv_iinc (v := nI (j + 1)) (lv' := [(4, .int (nI (j + 1))), (2, .long mk), (0, .ref (q 0)), (1, .int (nI i))]) hx hb dX8_possibleHomes_29 hl (k := 0) rfl (nI_add j 1) (by decide) rfl (fun ls hl => ?_)
          refine lv_goto (tgt := 5) hx hb dX8_possibleHomes_32 (by decide) ?_
          exact ih5 (j + 1) mk (by omega) (by rw [← hR]; simp only [phL, c_3, ↓reduceIte, Bool.false_eq_true]) ls (lv_sub hl [0, 1, 2, 3] rfl)
        · replace c_3 := bI_t c_3
          refine lv_lload_n hx hb dX8_possibleHomes_22 rfl (lv_at hl 1 rfl) ?_
          refine lv_lconst (v := 1) hx hb dX8_possibleHomes_23 (by decide) ?_
          refine lv_iload hx hb dX8_possibleHomes_24 (lv_at hl 0 rfl) ?_
          refine lv_lshl (v := 1 <<< ((nI j).toInt64 &&& 63)) hx hb dX8_possibleHomes_26 rfl ?_
          refine lv_lor hx hb dX8_possibleHomes_27 ?_
          refine lv_lstore_n (lv' := [(2, .long (mk ||| (1 <<< ((nI j).toInt64 &&& 63)))), (4, .int (nI j)), (0, .ref (q 0)), (1, .int (nI i))]) hx hb dX8_possibleHomes_28 rfl hl (by decide) rfl (fun ls hl => ?_)
          refine lv_iinc (v := nI (j + 1)) (lv' := [(4, .int (nI (j + 1))), (2, .long (mk ||| (1 <<< ((nI j).toInt64 &&& 63)))), (0, .ref (q 0)), (1, .int (nI i))]) hx hb dX8_possibleHomes_29 hl (k := 1) rfl (nI_add j 1) (by decide) rfl (fun ls hl => ?_)
          refine lv_goto (tgt := 5) hx hb dX8_possibleHomes_32 (by decide) ?_
          exact ih5 (j + 1) (mk ||| (1 <<< ((nI j).toInt64 &&& 63))) (by omega) (by rw [← hR]; simp only [phL, c_3, ↓reduceIte, Bool.false_eq_true]) ls (lv_sub hl [0, 1, 2, 3] rfl)
  exact lp5 36 0 0 (by omega) rfl ls (lv_sub hl [0, 1, 2, 3] rfl)
set_option maxHeartbeats 4000000 in
set_option maxRecDepth 100000 in
theorem kX8_leastPlace (l : Launch) (dC : Nat → ClassId) (dI : Nat → Nat → Nat) (ca : Nat → ClassId) (mk : Int64) : Met l yX8_leastPlace (Cond.code yX8_leastPlace cX8_leastPlace 3 (some .int) :: gT) (rk 1) (ROp (dC, dI) [] (TY ca) [Value.long mk]) (vp_Si (fun r => r = lpL mk 36 0)) 0 0 (fun _ => False) := by
  refine Met.ofW (cc := cX8_leastPlace) (maxL := 3) (ret := (some .int)) (by decide) rfl ?_
  intro p e s m args below meth c s₁ B hml hv
  obtain ⟨rfl, hP, hK⟩ := hv
  have hx := B.exec
  have hb := B.bytes
  have hr := B.returns
  have hts := atoms_spec (ws := (Cond.code yX8_leastPlace cX8_leastPlace 3 (some .int) :: gT)) B.pre
  have htl : ∀ w ∈ gT, w.before _ s = true := fun w h => hts w (List.mem_cons_of_mem _ h)
  have hown : s.vm.findClass RX8 = some m.cls := findClass_of_methodNamed B.named
  have hlocks := B.notSynchronized
  have hl := lv_entry ([Value.long mk]) (n := 3) (Nat.le_of_ble_eq_true rfl)
  rw [lg_entry_eq]
  generalize (lg_sl ([Value.long mk]) ++ List.replicate (3 - (lg_sl ([Value.long mk])).length) Slot.unset).toArray = ls at hl ⊢
  have hl : lv_has ls 3 [(0, .long mk)] := hl
  refine lv_iconst (v := nI 0) hx hb dX8_leastPlace_0 (by decide) ?_
  refine lv_istore_n (lv' := [(2, .int (nI 0)), (0, .long mk)]) hx hb dX8_leastPlace_1 rfl hl (by decide) rfl (fun ls hl => ?_)
  have lp2 : ∀ (n : Nat) (j : Nat), (j + n = 36) → (lpL mk n j = lpL mk 36 0) → ∀ (ls : Array Slot), lv_has ls 3 [(2, .int (nI j)), (0, .long mk)] → W p l e (headSpec (Cond.code yX8_leastPlace cX8_leastPlace 3 (some .int) :: gT) (rk 1)).room s m ([Value.long mk] : List Value).toArray below meth c s.heap [] 0 0 (MQ below (vp_Si (fun r => r = lpL mk 36 0)) ([Value.long mk] : List Value).toArray s 0 0 (fun _ => False)) (F0 m 2 ls []) := by
    clear hl
    intro n
    induction n with
    | zero =>
      intro j hj hR ls hl
      refine lv_iload_n hx hb dX8_leastPlace_2 rfl (lv_at hl 0 rfl) ?_
      refine lv_bipush (v := nI 36) hx hb dX8_leastPlace_3 (by decide) ?_
      refine lv_icmp_ge (tgt := 26) hx hb dX8_leastPlace_5 (by decide) (fun c_1 => ?_) (fun c_1 => ?_)
      · refine lv_iconst (v := (-1)) hx hb dX8_leastPlace_26 (by decide) ?_
        exact W.iret (v := (-1)) hx hb hr (fun t ht hW => ⟨(-1), rfl, by show _ = _; rw [← hR]; rfl, ht⟩) (fun q h => by cases h) dX8_leastPlace_27
      · exact absurd (nI_le (by omega) (by omega)) c_1
    | succ n ih2 =>
      intro j hj hR ls hl
      refine lv_iload_n hx hb dX8_leastPlace_2 rfl (lv_at hl 0 rfl) ?_
      refine lv_bipush (v := nI 36) hx hb dX8_leastPlace_3 (by decide) ?_
      refine lv_icmp_ge (tgt := 26) hx hb dX8_leastPlace_5 (by decide) (fun c_2 => ?_) (fun c_2 => ?_)
      · exact absurd c_2 (nI_ge (by omega) (by omega))
      · refine lv_lload_n hx hb dX8_leastPlace_8 rfl (lv_at hl 1 rfl) ?_
        refine lv_iload_n hx hb dX8_leastPlace_9 rfl (lv_at hl 0 rfl) ?_
        refine lv_lshr (v := mk >>> ((nI j).toInt64 &&& 63)) hx hb dX8_leastPlace_10 rfl ?_
        refine lv_lconst (v := 1) hx hb dX8_leastPlace_11 (by decide) ?_
        refine lv_land hx hb dX8_leastPlace_12 ?_
        refine lv_lconst (v := 1) hx hb dX8_leastPlace_13 (by decide) ?_
        refine W.lcmp hx hb dX8_leastPlace_14 ?_
        refine lv_if_ne (tgt := 20) hx hb dX8_leastPlace_15 (by decide) (fun c_3 => ?_) (fun c_3 => ?_)
        · rw [lgE] at c_3
          refine lv_iinc (v := nI (j + 1)) (lv' := [(2, .int (nI (j + 1))), (0, .long mk)]) hx hb dX8_leastPlace_20 hl (k := 0) rfl (nI_add j 1) (by decide) rfl (fun ls hl => ?_)
          refine lv_goto (tgt := 2) hx hb dX8_leastPlace_23 (by decide) ?_
          exact ih2 (j + 1) (by omega) (by rw [← hR]; simp only [lpL, c_3, ↓reduceIte]) ls (lv_sub hl [0, 1] rfl)
        · rw [lgE] at c_3
          refine lv_iload_n hx hb dX8_leastPlace_18 rfl (lv_at hl 0 rfl) ?_
          exact W.iret (v := nI j) hx hb hr (fun t ht hW => ⟨nI j, rfl, by show _ = _; rw [← hR]; simp only [lpL, c_3, ↓reduceIte], ht⟩) (fun q h => by cases h) dX8_leastPlace_19
  exact lp2 36 0 (by omega) rfl ls (lv_sub hl [0, 1] rfl)
def s_X8_seedBehind (x1 : Int32) : Int32 := (((1103515245 * x1.toInt64) + 12345) - ((1103515245 * x1.toInt64) + 12345) / 2147483648 * 2147483648).toInt32
set_option maxHeartbeats 4000000 in
set_option maxRecDepth 100000 in
theorem kX8_seedBehind (l : Launch) (dC : Nat → ClassId) (dI : Nat → Nat → Nat) (ca : Nat → ClassId) (x1 : Int32) : Met l yX8_seedBehind (Cond.code yX8_seedBehind cX8_seedBehind 1 (some .int) :: gT) (rk 1) (ROp (dC, dI) [] (TY ca) [Value.int x1]) (vp_Si (fun r => r = s_X8_seedBehind x1)) 0 0 (fun _ => False) := by
  refine Met.ofW (cc := cX8_seedBehind) (maxL := 1) (ret := (some .int)) (by decide) rfl ?_
  intro p e s m args below meth c s₁ B hml hv
  obtain ⟨rfl, hP, hK⟩ := hv
  have hx := B.exec
  have hb := B.bytes
  have hr := B.returns
  have hts := atoms_spec (ws := (Cond.code yX8_seedBehind cX8_seedBehind 1 (some .int) :: gT)) B.pre
  have htl : ∀ w ∈ gT, w.before _ s = true := fun w h => hts w (List.mem_cons_of_mem _ h)
  have hown : s.vm.findClass RX8 = some m.cls := findClass_of_methodNamed B.named
  have hlocks := B.notSynchronized
  have hl := lv_entry ([Value.int x1]) (n := 1) (Nat.le_of_ble_eq_true rfl)
  rw [lg_entry_eq]
  generalize (lg_sl ([Value.int x1]) ++ List.replicate (1 - (lg_sl ([Value.int x1])).length) Slot.unset).toArray = ls at hl ⊢
  have hl : lv_has ls 1 [(0, .int x1)] := hl
  refine lv_ldc2 (v := 1103515245) hx hb hown (htl _ wd_499) dX8_seedBehind_0 ?_
  refine lv_iload_n hx hb dX8_seedBehind_3 rfl (lv_at hl 0 rfl) ?_
  refine lv_i2l (v := x1.toInt64) hx hb dX8_seedBehind_4 rfl ?_
  refine lv_lmul hx hb dX8_seedBehind_5 ?_
  refine lv_ldc2 (v := 12345) hx hb hown (htl _ wd_500) dX8_seedBehind_6 ?_
  refine lv_ladd hx hb dX8_seedBehind_9 ?_
  refine lv_ldc2 (v := 2147483648) hx hb hown (htl _ wd_501) dX8_seedBehind_10 ?_
  refine lv_lrem hx hb dX8_seedBehind_13 (by decide) ?_
  refine lv_l2i (v := (((1103515245 * x1.toInt64) + 12345) - ((1103515245 * x1.toInt64) + 12345) / 2147483648 * 2147483648).toInt32) hx hb dX8_seedBehind_14 rfl ?_
  exact W.iret (v := (((1103515245 * x1.toInt64) + 12345) - ((1103515245 * x1.toInt64) + 12345) / 2147483648 * 2147483648).toInt32) hx hb hr (fun t ht hW => ⟨(((1103515245 * x1.toInt64) + 12345) - ((1103515245 * x1.toInt64) + 12345) / 2147483648 * 2147483648).toInt32, rfl, by show _ = _; unfold s_X8_seedBehind; rfl, ht⟩) (fun q h => by cases h) dX8_seedBehind_15
set_option maxHeartbeats 4000000 in
set_option maxRecDepth 100000 in
theorem kJ13_bitCount_95d88 (l : Launch) (dC : Nat → ClassId) (dI : Nat → Nat → Nat) (ca : Nat → ClassId) (mk : Int64) : Met l yJ13_bitCount_95d88 (Cond.code yJ13_bitCount_95d88 cJ13_bitCount_95d88 2 (some .int) :: gT) (rk 1) (ROp (dC, dI) [] (TY ca) [Value.long mk]) (vp_Si (fun r => r = popc mk)) 0 0 (fun _ => False) := by
  refine Met.ofW (cc := cJ13_bitCount_95d88) (maxL := 2) (ret := (some .int)) (by decide) rfl ?_
  intro p e s m args below meth c s₁ B hml hv
  obtain ⟨rfl, hP, hK⟩ := hv
  have hx := B.exec
  have hb := B.bytes
  have hr := B.returns
  have hts := atoms_spec (ws := (Cond.code yJ13_bitCount_95d88 cJ13_bitCount_95d88 2 (some .int) :: gT)) B.pre
  have htl : ∀ w ∈ gT, w.before _ s = true := fun w h => hts w (List.mem_cons_of_mem _ h)
  have hown : s.vm.findClass RJ13 = some m.cls := findClass_of_methodNamed B.named
  have hlocks := B.notSynchronized
  have hl := lv_entry ([Value.long mk]) (n := 2) (Nat.le_of_ble_eq_true rfl)
  rw [lg_entry_eq]
  generalize (lg_sl ([Value.long mk]) ++ List.replicate (2 - (lg_sl ([Value.long mk])).length) Slot.unset).toArray = ls at hl ⊢
  have hl : lv_has ls 2 [(0, .long mk)] := hl
  refine lv_lload_n hx hb dJ13_bitCount_95d88_0 rfl (lv_at hl 0 rfl) ?_
  refine lv_lload_n hx hb dJ13_bitCount_95d88_1 rfl (lv_at hl 0 rfl) ?_
  refine lv_iconst (v := nI 1) hx hb dJ13_bitCount_95d88_2 (by decide) ?_
  refine lv_lushr (v := (mk.toUInt64 >>> ((nI 1).toInt64.toUInt64 &&& Int64.toUInt64 63)).toInt64) hx hb dJ13_bitCount_95d88_3 rfl ?_
  refine lv_ldc2 (v := 6148914691236517205) hx hb hown (htl _ wd_410) dJ13_bitCount_95d88_4 ?_
  refine lv_land hx hb dJ13_bitCount_95d88_7 ?_
  refine lv_lsub hx hb dJ13_bitCount_95d88_8 ?_
  refine lv_rl (y := pcA mk) (rfl) ?_
  refine lv_lstore_n (lv' := [(0, .long (pcA mk))]) hx hb dJ13_bitCount_95d88_9 rfl hl (by decide) rfl (fun ls hl => ?_)
  refine lv_lload_n hx hb dJ13_bitCount_95d88_10 rfl (lv_at hl 0 rfl) ?_
  refine lv_ldc2 (v := 3689348814741910323) hx hb hown (htl _ wd_411) dJ13_bitCount_95d88_11 ?_
  refine lv_land hx hb dJ13_bitCount_95d88_14 ?_
  refine lv_lload_n hx hb dJ13_bitCount_95d88_15 rfl (lv_at hl 0 rfl) ?_
  refine lv_iconst (v := nI 2) hx hb dJ13_bitCount_95d88_16 (by decide) ?_
  refine lv_lushr (v := ((pcA mk).toUInt64 >>> ((nI 2).toInt64.toUInt64 &&& Int64.toUInt64 63)).toInt64) hx hb dJ13_bitCount_95d88_17 rfl ?_
  refine lv_ldc2 (v := 3689348814741910323) hx hb hown (htl _ wd_411) dJ13_bitCount_95d88_18 ?_
  refine lv_land hx hb dJ13_bitCount_95d88_21 ?_
  refine lv_ladd hx hb dJ13_bitCount_95d88_22 ?_
  refine lv_rl (y := pcB (pcA mk)) (rfl) ?_
  refine lv_lstore_n (lv' := [(0, .long (pcB (pcA mk)))]) hx hb dJ13_bitCount_95d88_23 rfl hl (by decide) rfl (fun ls hl => ?_)
  refine lv_lload_n hx hb dJ13_bitCount_95d88_24 rfl (lv_at hl 0 rfl) ?_
  refine lv_lload_n hx hb dJ13_bitCount_95d88_25 rfl (lv_at hl 0 rfl) ?_
  refine lv_iconst (v := nI 4) hx hb dJ13_bitCount_95d88_26 (by decide) ?_
  refine lv_lushr (v := ((pcB (pcA mk)).toUInt64 >>> ((nI 4).toInt64.toUInt64 &&& Int64.toUInt64 63)).toInt64) hx hb dJ13_bitCount_95d88_27 rfl ?_
  refine lv_ladd hx hb dJ13_bitCount_95d88_28 ?_
  refine lv_ldc2 (v := 1085102592571150095) hx hb hown (htl _ wd_412) dJ13_bitCount_95d88_29 ?_
  refine lv_land hx hb dJ13_bitCount_95d88_32 ?_
  refine lv_rl (y := pcC (pcB (pcA mk))) (rfl) ?_
  refine lv_lstore_n (lv' := [(0, .long (pcC (pcB (pcA mk))))]) hx hb dJ13_bitCount_95d88_33 rfl hl (by decide) rfl (fun ls hl => ?_)
  refine lv_lload_n hx hb dJ13_bitCount_95d88_34 rfl (lv_at hl 0 rfl) ?_
  refine lv_lload_n hx hb dJ13_bitCount_95d88_35 rfl (lv_at hl 0 rfl) ?_
  refine lv_bipush (v := nI 8) hx hb dJ13_bitCount_95d88_36 (by decide) ?_
  refine lv_lushr (v := ((pcC (pcB (pcA mk))).toUInt64 >>> ((nI 8).toInt64.toUInt64 &&& Int64.toUInt64 63)).toInt64) hx hb dJ13_bitCount_95d88_38 rfl ?_
  refine lv_ladd hx hb dJ13_bitCount_95d88_39 ?_
  refine lv_rl (y := pcD (pcC (pcB (pcA mk))) 8) (rfl) ?_
  refine lv_lstore_n (lv' := [(0, .long (pcD (pcC (pcB (pcA mk))) 8))]) hx hb dJ13_bitCount_95d88_40 rfl hl (by decide) rfl (fun ls hl => ?_)
  refine lv_lload_n hx hb dJ13_bitCount_95d88_41 rfl (lv_at hl 0 rfl) ?_
  refine lv_lload_n hx hb dJ13_bitCount_95d88_42 rfl (lv_at hl 0 rfl) ?_
  refine lv_bipush (v := nI 16) hx hb dJ13_bitCount_95d88_43 (by decide) ?_
  refine lv_lushr (v := ((pcD (pcC (pcB (pcA mk))) 8).toUInt64 >>> ((nI 16).toInt64.toUInt64 &&& Int64.toUInt64 63)).toInt64) hx hb dJ13_bitCount_95d88_45 rfl ?_
  refine lv_ladd hx hb dJ13_bitCount_95d88_46 ?_
  refine lv_rl (y := pcD (pcD (pcC (pcB (pcA mk))) 8) 16) (rfl) ?_
  refine lv_lstore_n (lv' := [(0, .long (pcD (pcD (pcC (pcB (pcA mk))) 8) 16))]) hx hb dJ13_bitCount_95d88_47 rfl hl (by decide) rfl (fun ls hl => ?_)
  refine lv_lload_n hx hb dJ13_bitCount_95d88_48 rfl (lv_at hl 0 rfl) ?_
  refine lv_lload_n hx hb dJ13_bitCount_95d88_49 rfl (lv_at hl 0 rfl) ?_
  refine lv_bipush (v := nI 32) hx hb dJ13_bitCount_95d88_50 (by decide) ?_
  refine lv_lushr (v := ((pcD (pcD (pcC (pcB (pcA mk))) 8) 16).toUInt64 >>> ((nI 32).toInt64.toUInt64 &&& Int64.toUInt64 63)).toInt64) hx hb dJ13_bitCount_95d88_52 rfl ?_
  refine lv_ladd hx hb dJ13_bitCount_95d88_53 ?_
  refine lv_rl (y := pcD (pcD (pcD (pcC (pcB (pcA mk))) 8) 16) 32) (rfl) ?_
  refine lv_lstore_n (lv' := [(0, .long (pcD (pcD (pcD (pcC (pcB (pcA mk))) 8) 16) 32))]) hx hb dJ13_bitCount_95d88_54 rfl hl (by decide) rfl (fun ls hl => ?_)
  refine lv_lload_n hx hb dJ13_bitCount_95d88_55 rfl (lv_at hl 0 rfl) ?_
  refine lv_l2i (v := (pcD (pcD (pcD (pcC (pcB (pcA mk))) 8) 16) 32).toInt32) hx hb dJ13_bitCount_95d88_56 rfl ?_
  refine lv_bipush (v := nI 127) hx hb dJ13_bitCount_95d88_57 (by decide) ?_
  refine lv_iand hx hb dJ13_bitCount_95d88_59 ?_
  exact W.iret (v := ((pcD (pcD (pcD (pcC (pcB (pcA mk))) 8) 16) 32).toInt32) &&& (nI 127)) hx hb hr (fun t ht hW => ⟨((pcD (pcD (pcD (pcC (pcB (pcA mk))) 8) 16) 32).toInt32) &&& (nI 127), rfl, rfl, ht⟩) (fun q h => by cases h) dJ13_bitCount_95d88_60
set_option maxHeartbeats 4000000 in
set_option maxRecDepth 100000 in
theorem kfill_sa (l : Launch) (dC : Nat → ClassId) (dI : Nat → Nat → Nat) (ca : Nat → ClassId) (sz : Nat) (v : Int32) (q : Nat → Nat) (sa : Nat → Int32) : Met l yJ7_fill_53178 (Cond.code yJ7_fill_53178 cJ7_fill_53178 4 none :: gT) (rk 1) (EFp (dC, dI) [(q 15, .inl (ca 10, 36, .inl (sa)))] (TY ca) sz [Value.ref (q 15), Value.int v]) (va_Qv (fun (_ : Unit) => True) (EFb (dC, dI) (fun (_ : Unit) => [(q 15, .inl (ca 10, 36, .inl (fun _ => v)))]) (TY ca) (va_A [(q 15, .inl (ca 10, 36, .inl (sa)))] sz)) (va_A [(q 15, .inl (ca 10, 36, .inl (sa)))] sz)) 0 0 (va_A [(q 15, .inl (ca 10, 36, .inl (sa)))] sz) := by
  refine Met.ofW (cc := cJ7_fill_53178) (maxL := 4) (ret := none) (by decide) rfl ?_
  intro p e s m args below meth c s₁ B hml hv
  obtain ⟨rfl, hsz, hP, hK, hD0⟩ := hv
  have hx := B.exec
  have hb := B.bytes
  have hr := B.returns
  have hts := atoms_spec (ws := (Cond.code yJ7_fill_53178 cJ7_fill_53178 4 none :: gT)) B.pre
  have htl : ∀ w ∈ gT, w.before _ s = true := fun w h => hts w (List.mem_cons_of_mem _ h)
  have hown : s.vm.findClass RJ7 = some m.cls := findClass_of_methodNamed B.named
  have hlocks := B.notSynchronized
  subst hsz
  have hD := hD0.self (sz := s.heap.size)
  generalize hAe : va_A [(q 15, .inl (ca 10, 36, .inl (sa)))] s.heap.size = A at hD ⊢
  have hA : ∀ q : Nat, s.heap.size ≤ q → A q := fun q h => by rw [← hAe]; exact Or.inr h
  have hS : va_S A s.heap s.heap [] := va_S.rf
  have hl := lv_entry ([Value.ref (q 15), Value.int v]) (n := 4) (Nat.le_of_ble_eq_true rfl)
  rw [lg_entry_eq]
  generalize (lg_sl ([Value.ref (q 15), Value.int v]) ++ List.replicate (4 - (lg_sl ([Value.ref (q 15), Value.int v])).length) Slot.unset).toArray = ls at hl ⊢
  have hl : lv_has ls 4 [(0, .ref (q 15)), (1, .int v)] := hl
  refine lv_iconst (v := nI 0) hx hb dJ7_fill_53178_0 (by decide) ?_
  refine lv_istore_n (lv' := [(2, .int (nI 0)), (0, .ref (q 15)), (1, .int v)]) hx hb dJ7_fill_53178_1 rfl hl (by decide) rfl (fun ls hl => ?_)
  refine lv_aload_n hx hb dJ7_fill_53178_2 rfl (lv_at hl 1 rfl) ?_
  refine va_alen (v := nI 36) hx hb hK hP 0 10 rfl rfl rfl dJ7_fill_53178_3 ?_
  refine lv_istore_n (lv' := [(3, .int (nI 36)), (2, .int (nI 0)), (0, .ref (q 15)), (1, .int v)]) hx hb dJ7_fill_53178_4 rfl hl (by decide) rfl (fun ls hl => ?_)
  have lp5 : ∀ (n : Nat) (i : Nat), (i + n = 36) → ∀ (H : Heap) (locs : List Loc), va_P (dC, dI) vwCl [(q 15, .inl (ca 10, 36, .inl (fillF sa v i)))] H → va_D A [(q 15, .inl (ca 10, 36, .inl (fillF sa v i)))] → va_S A s.heap H locs → ∀ (ls : Array Slot), lv_has ls 4 [(3, .int (nI 36)), (2, .int (nI i)), (0, .ref (q 15)), (1, .int v)] → W p l e (headSpec (Cond.code yJ7_fill_53178 cJ7_fill_53178 4 none :: gT) (rk 1)).room s m ([Value.ref (q 15), Value.int v] : List Value).toArray below meth c H locs 0 0 (MQ below (va_Qv (fun (_ : Unit) => True) (EFb (dC, dI) (fun (_ : Unit) => [(q 15, .inl (ca 10, 36, .inl (fun _ => v)))]) (TY ca) A) A) ([Value.ref (q 15), Value.int v] : List Value).toArray s 0 0 A) (F0 m 5 ls []) := by
    clear hS hP hD
    clear hl
    intro n
    induction n with
    | zero =>
      intro i hi H locs hP hD hS ls hl
      refine lv_iload_n hx hb dJ7_fill_53178_5 rfl (lv_at hl 1 rfl) ?_
      refine lv_iload_n hx hb dJ7_fill_53178_6 rfl (lv_at hl 0 rfl) ?_
      refine lv_icmp_ge (tgt := 20) hx hb dJ7_fill_53178_7 (by decide) (fun c_1 => ?_) (fun c_1 => ?_)
      · have hP9 := hP.sub (ws' := [(q 15, .inl (ca 10, 36, .inl (fillF sa v i)))]) [0] rfl
        have hD9 := hD.sub (ws' := [(q 15, .inl (ca 10, 36, .inl (fillF sa v i)))]) [0] (by decide) rfl
        have hP9 := va_P_fn hP9 0 (g := fun _ => v) rfl (fun j hj => by unfold fillF; rw [if_pos (by omega)])
        have hD9 := va_D.set (e := .inl (ca 10, 36, .inl (fun _ => v))) hD9 (p := 0) rfl
        exact W.vret hx hb hr (fun t ht hW => ⟨⟨(), rfl, trivial, by rw [ht]; exact hP9, va_K.moved hW.alike hK, hD9⟩, hS.F ht⟩) hS.2.2 dJ7_fill_53178_20
      · exact absurd (nI_le (by omega) (by omega)) c_1
    | succ n ih5 =>
      intro i hi H locs hP hD hS ls hl
      refine lv_iload_n hx hb dJ7_fill_53178_5 rfl (lv_at hl 1 rfl) ?_
      refine lv_iload_n hx hb dJ7_fill_53178_6 rfl (lv_at hl 0 rfl) ?_
      refine lv_icmp_ge (tgt := 20) hx hb dJ7_fill_53178_7 (by decide) (fun c_2 => ?_) (fun c_2 => ?_)
      · exact absurd c_2 (nI_ge (by omega) (by omega))
      · refine lv_aload_n hx hb dJ7_fill_53178_10 rfl (lv_at hl 2 rfl) ?_
        refine lv_iload_n hx hb dJ7_fill_53178_11 rfl (lv_at hl 1 rfl) ?_
        refine lv_iload_n hx hb dJ7_fill_53178_12 rfl (lv_at hl 3 rfl) ?_
        refine va_iast hx hb hK hP hD hS 0 10 rfl rfl (vp_in_nI (by omega) (by decide)) dJ7_fill_53178_13 (fun H locs hP hD hS => ?_)
        rw [nI_clamp (show i < 2 ^ 31 by omega)] at hP hD
        have hP : va_P (dC, dI) vwCl [(q 15, .inl (ca 10, 36, .inl (upd (fillF sa v i) i v)))] H := hP
        have hD : va_D A [(q 15, .inl (ca 10, 36, .inl (upd (fillF sa v i) i v)))] := hD
        refine lv_iinc (v := nI (i + 1)) (lv' := [(2, .int (nI (i + 1))), (3, .int (nI 36)), (0, .ref (q 15)), (1, .int v)]) hx hb dJ7_fill_53178_14 hl (k := 1) rfl (nI_add i 1) (by decide) rfl (fun ls hl => ?_)
        refine lv_goto (tgt := 5) hx hb dJ7_fill_53178_17 (by decide) ?_
        rw [fillF_up] at hP hD
        exact ih5 (i + 1) (by omega) _ _ (hP.sub [0] rfl) (hD.sub [0] (by decide) rfl) hS ls (lv_sub hl [1, 0, 2, 3] rfl)
  exact lp5 36 0 (by omega) _ _ (by rw [fillF_0]; exact hP) (by rw [fillF_0]; exact hD) hS ls (lv_sub hl [0, 1, 2, 3] rfl)
set_option maxHeartbeats 4000000 in
set_option maxRecDepth 100000 in
theorem kfill_lb (l : Launch) (dC : Nat → ClassId) (dI : Nat → Nat → Nat) (ca : Nat → ClassId) (sz : Nat) (v : Int32) (q : Nat → Nat) (lb : Nat → Int32) : Met l yJ7_fill_53178 (Cond.code yJ7_fill_53178 cJ7_fill_53178 4 none :: gT) (rk 1) (EFp (dC, dI) [(q 17, .inl (ca 12, 9, .inl (lb)))] (TY ca) sz [Value.ref (q 17), Value.int v]) (va_Qv (fun (_ : Unit) => True) (EFb (dC, dI) (fun (_ : Unit) => [(q 17, .inl (ca 12, 9, .inl (fun _ => v)))]) (TY ca) (va_A [(q 17, .inl (ca 12, 9, .inl (lb)))] sz)) (va_A [(q 17, .inl (ca 12, 9, .inl (lb)))] sz)) 0 0 (va_A [(q 17, .inl (ca 12, 9, .inl (lb)))] sz) := by
  refine Met.ofW (cc := cJ7_fill_53178) (maxL := 4) (ret := none) (by decide) rfl ?_
  intro p e s m args below meth c s₁ B hml hv
  obtain ⟨rfl, hsz, hP, hK, hD0⟩ := hv
  have hx := B.exec
  have hb := B.bytes
  have hr := B.returns
  have hts := atoms_spec (ws := (Cond.code yJ7_fill_53178 cJ7_fill_53178 4 none :: gT)) B.pre
  have htl : ∀ w ∈ gT, w.before _ s = true := fun w h => hts w (List.mem_cons_of_mem _ h)
  have hown : s.vm.findClass RJ7 = some m.cls := findClass_of_methodNamed B.named
  have hlocks := B.notSynchronized
  subst hsz
  have hD := hD0.self (sz := s.heap.size)
  generalize hAe : va_A [(q 17, .inl (ca 12, 9, .inl (lb)))] s.heap.size = A at hD ⊢
  have hA : ∀ q : Nat, s.heap.size ≤ q → A q := fun q h => by rw [← hAe]; exact Or.inr h
  have hS : va_S A s.heap s.heap [] := va_S.rf
  have hl := lv_entry ([Value.ref (q 17), Value.int v]) (n := 4) (Nat.le_of_ble_eq_true rfl)
  rw [lg_entry_eq]
  generalize (lg_sl ([Value.ref (q 17), Value.int v]) ++ List.replicate (4 - (lg_sl ([Value.ref (q 17), Value.int v])).length) Slot.unset).toArray = ls at hl ⊢
  have hl : lv_has ls 4 [(0, .ref (q 17)), (1, .int v)] := hl
  refine lv_iconst (v := nI 0) hx hb dJ7_fill_53178_0 (by decide) ?_
  refine lv_istore_n (lv' := [(2, .int (nI 0)), (0, .ref (q 17)), (1, .int v)]) hx hb dJ7_fill_53178_1 rfl hl (by decide) rfl (fun ls hl => ?_)
  refine lv_aload_n hx hb dJ7_fill_53178_2 rfl (lv_at hl 1 rfl) ?_
  refine va_alen (v := nI 9) hx hb hK hP 0 12 rfl rfl rfl dJ7_fill_53178_3 ?_
  refine lv_istore_n (lv' := [(3, .int (nI 9)), (2, .int (nI 0)), (0, .ref (q 17)), (1, .int v)]) hx hb dJ7_fill_53178_4 rfl hl (by decide) rfl (fun ls hl => ?_)
  have lp5 : ∀ (n : Nat) (i : Nat), (i + n = 9) → ∀ (H : Heap) (locs : List Loc), va_P (dC, dI) vwCl [(q 17, .inl (ca 12, 9, .inl (fillF lb v i)))] H → va_D A [(q 17, .inl (ca 12, 9, .inl (fillF lb v i)))] → va_S A s.heap H locs → ∀ (ls : Array Slot), lv_has ls 4 [(3, .int (nI 9)), (2, .int (nI i)), (0, .ref (q 17)), (1, .int v)] → W p l e (headSpec (Cond.code yJ7_fill_53178 cJ7_fill_53178 4 none :: gT) (rk 1)).room s m ([Value.ref (q 17), Value.int v] : List Value).toArray below meth c H locs 0 0 (MQ below (va_Qv (fun (_ : Unit) => True) (EFb (dC, dI) (fun (_ : Unit) => [(q 17, .inl (ca 12, 9, .inl (fun _ => v)))]) (TY ca) A) A) ([Value.ref (q 17), Value.int v] : List Value).toArray s 0 0 A) (F0 m 5 ls []) := by
    clear hS hP hD
    clear hl
    intro n
    induction n with
    | zero =>
      intro i hi H locs hP hD hS ls hl
      refine lv_iload_n hx hb dJ7_fill_53178_5 rfl (lv_at hl 1 rfl) ?_
      refine lv_iload_n hx hb dJ7_fill_53178_6 rfl (lv_at hl 0 rfl) ?_
      refine lv_icmp_ge (tgt := 20) hx hb dJ7_fill_53178_7 (by decide) (fun c_1 => ?_) (fun c_1 => ?_)
      · have hP9 := hP.sub (ws' := [(q 17, .inl (ca 12, 9, .inl (fillF lb v i)))]) [0] rfl
        have hD9 := hD.sub (ws' := [(q 17, .inl (ca 12, 9, .inl (fillF lb v i)))]) [0] (by decide) rfl
        have hP9 := va_P_fn hP9 0 (g := fun _ => v) rfl (fun j hj => by unfold fillF; rw [if_pos (by omega)])
        have hD9 := va_D.set (e := .inl (ca 12, 9, .inl (fun _ => v))) hD9 (p := 0) rfl
        exact W.vret hx hb hr (fun t ht hW => ⟨⟨(), rfl, trivial, by rw [ht]; exact hP9, va_K.moved hW.alike hK, hD9⟩, hS.F ht⟩) hS.2.2 dJ7_fill_53178_20
      · exact absurd (nI_le (by omega) (by omega)) c_1
    | succ n ih5 =>
      intro i hi H locs hP hD hS ls hl
      refine lv_iload_n hx hb dJ7_fill_53178_5 rfl (lv_at hl 1 rfl) ?_
      refine lv_iload_n hx hb dJ7_fill_53178_6 rfl (lv_at hl 0 rfl) ?_
      refine lv_icmp_ge (tgt := 20) hx hb dJ7_fill_53178_7 (by decide) (fun c_2 => ?_) (fun c_2 => ?_)
      · exact absurd c_2 (nI_ge (by omega) (by omega))
      · refine lv_aload_n hx hb dJ7_fill_53178_10 rfl (lv_at hl 2 rfl) ?_
        refine lv_iload_n hx hb dJ7_fill_53178_11 rfl (lv_at hl 1 rfl) ?_
        refine lv_iload_n hx hb dJ7_fill_53178_12 rfl (lv_at hl 3 rfl) ?_
        refine va_iast hx hb hK hP hD hS 0 12 rfl rfl (vp_in_nI (by omega) (by decide)) dJ7_fill_53178_13 (fun H locs hP hD hS => ?_)
        rw [nI_clamp (show i < 2 ^ 31 by omega)] at hP hD
        have hP : va_P (dC, dI) vwCl [(q 17, .inl (ca 12, 9, .inl (upd (fillF lb v i) i v)))] H := hP
        have hD : va_D A [(q 17, .inl (ca 12, 9, .inl (upd (fillF lb v i) i v)))] := hD
        refine lv_iinc (v := nI (i + 1)) (lv' := [(2, .int (nI (i + 1))), (3, .int (nI 9)), (0, .ref (q 17)), (1, .int v)]) hx hb dJ7_fill_53178_14 hl (k := 1) rfl (nI_add i 1) (by decide) rfl (fun ls hl => ?_)
        refine lv_goto (tgt := 5) hx hb dJ7_fill_53178_17 (by decide) ?_
        rw [fillF_up] at hP hD
        exact ih5 (i + 1) (by omega) _ _ (hP.sub [0] rfl) (hD.sub [0] (by decide) rfl) hS ls (lv_sub hl [1, 0, 2, 3] rfl)
  exact lp5 9 0 (by omega) _ _ (by rw [fillF_0]; exact hP) (by rw [fillF_0]; exact hD) hS ls (lv_sub hl [0, 1, 2, 3] rfl)
end
section
set_option maxHeartbeats 4000000 in
set_option maxRecDepth 100000 in
theorem kX8_trailOf (l : Launch) (dC : Nat → ClassId) (dI : Nat → Nat → Nat) (ca : Nat → ClassId) (sz : Nat) (i : Nat) (q : Nat → Nat) (qn : Nat → Nat) (kd : Nat → Nat) (nc : Nat) (sr : Int32) (ik : Int32) (isl : Int64) (br : Nat) (st : Int32) (so : Int32) (se : Nat) (hm : Nat → Nat) (ts : Int32) (tp : Int32) (hi : i < 4) (hbr : br < 36) (hkd : ∀ j, j < 4 → kd j < 5) (hhm : ∀ j, j < 4 → hm j < 36) : Met l yX8_trailOf (Cond.code yX8_trailOf cX8_trailOf 4 (some (.object "HomeNeedles$Trail")) :: gT) (rk 4) (EFp (dC, dI) [(q 0, .inr (8, [.ref (q 1), .ref (q 3), .ref (q 4), .ref (q 9), .ref (q 14), .ref (q 15), .ref (q 16), .ref (q 17), .int (nI nc), .int sr, .int ik])), (q 3, .inl (ca 1, 4, .inr (.inr (.inr (.inr (fun zj => some (qn zj))))))), (q 4, .inr (7, [.ref (q 5), .ref (q 6), .ref (q 7), .ref (q 8), .long isl, .int (nI br), .int st, .int so, .int (nI se)])), (q 5, .inl (ca 2, 4, .inl (fun zj => nI (hm zj)))), (qn 0, .inr (kc (kd 0), [])), (qn 1, .inr (kc (kd 1), [])), (qn 2, .inr (kc (kd 2), [])), (qn 3, .inr (kc (kd 3), [])), (q 14, .inr (5, [.int ts, .int tp]))] (TY ca) sz [Value.ref (q 0), Value.int (nI i)]) (va_Qr (fun (_ : Unit) => True) (fun u a t => a = q 14 ∧ EFb (dC, dI) (fun (_ : Unit) => [(q 0, .inr (8, [.ref (q 1), .ref (q 3), .ref (q 4), .ref (q 9), .ref (q 14), .ref (q 15), .ref (q 16), .ref (q 17), .int (nI nc), .int sr, .int ik])), (q 3, .inl (ca 1, 4, .inr (.inr (.inr (.inr (fun zj => some (qn zj))))))), (q 4, .inr (7, [.ref (q 5), .ref (q 6), .ref (q 7), .ref (q 8), .long isl, .int (nI br), .int st, .int so, .int (nI se)])), (q 5, .inl (ca 2, 4, .inl (fun zj => nI (hm zj)))), (qn 0, .inr (kc (kd 0), [])), (qn 1, .inr (kc (kd 1), [])), (qn 2, .inr (kc (kd 2), [])), (qn 3, .inr (kc (kd 3), [])), (q 14, .inr (5, [.int (nI ((trailN (xb isl) (kd i) (hm i) 40 br 0).2)), .int (nI ((trailN (xb isl) (kd i) (hm i) 40 br 0).1))]))]) (TY ca) (va_A [(q 0, .inr (8, [.ref (q 1), .ref (q 3), .ref (q 4), .ref (q 9), .ref (q 14), .ref (q 15), .ref (q 16), .ref (q 17), .int (nI nc), .int sr, .int ik])), (q 3, .inl (ca 1, 4, .inr (.inr (.inr (.inr (fun zj => some (qn zj))))))), (q 4, .inr (7, [.ref (q 5), .ref (q 6), .ref (q 7), .ref (q 8), .long isl, .int (nI br), .int st, .int so, .int (nI se)])), (q 5, .inl (ca 2, 4, .inl (fun zj => nI (hm zj)))), (qn 0, .inr (kc (kd 0), [])), (qn 1, .inr (kc (kd 1), [])), (qn 2, .inr (kc (kd 2), [])), (qn 3, .inr (kc (kd 3), [])), (q 14, .inr (5, [.int ts, .int tp]))] sz) u t) (va_A [(q 0, .inr (8, [.ref (q 1), .ref (q 3), .ref (q 4), .ref (q 9), .ref (q 14), .ref (q 15), .ref (q 16), .ref (q 17), .int (nI nc), .int sr, .int ik])), (q 3, .inl (ca 1, 4, .inr (.inr (.inr (.inr (fun zj => some (qn zj))))))), (q 4, .inr (7, [.ref (q 5), .ref (q 6), .ref (q 7), .ref (q 8), .long isl, .int (nI br), .int st, .int so, .int (nI se)])), (q 5, .inl (ca 2, 4, .inl (fun zj => nI (hm zj)))), (qn 0, .inr (kc (kd 0), [])), (qn 1, .inr (kc (kd 1), [])), (qn 2, .inr (kc (kd 2), [])), (qn 3, .inr (kc (kd 3), [])), (q 14, .inr (5, [.int ts, .int tp]))] sz)) 0 0 (va_A [(q 0, .inr (8, [.ref (q 1), .ref (q 3), .ref (q 4), .ref (q 9), .ref (q 14), .ref (q 15), .ref (q 16), .ref (q 17), .int (nI nc), .int sr, .int ik])), (q 3, .inl (ca 1, 4, .inr (.inr (.inr (.inr (fun zj => some (qn zj))))))), (q 4, .inr (7, [.ref (q 5), .ref (q 6), .ref (q 7), .ref (q 8), .long isl, .int (nI br), .int st, .int so, .int (nI se)])), (q 5, .inl (ca 2, 4, .inl (fun zj => nI (hm zj)))), (qn 0, .inr (kc (kd 0), [])), (qn 1, .inr (kc (kd 1), [])), (qn 2, .inr (kc (kd 2), [])), (qn 3, .inr (kc (kd 3), [])), (q 14, .inr (5, [.int ts, .int tp]))] sz) := by
  refine Met.ofW (cc := cX8_trailOf) (maxL := 4) (ret := (some (.object "HomeNeedles$Trail"))) (by decide) rfl ?_
  intro p e s m args below meth c s₁ B hml hv
  obtain ⟨rfl, hsz, hP, hK, hD0⟩ := hv
  have hx := B.exec
  have hb := B.bytes
  have hr := B.returns
  have hts := atoms_spec (ws := (Cond.code yX8_trailOf cX8_trailOf 4 (some (.object "HomeNeedles$Trail")) :: gT)) B.pre
  have htl : ∀ w ∈ gT, w.before _ s = true := fun w h => hts w (List.mem_cons_of_mem _ h)
  have hown : s.vm.findClass RX8 = some m.cls := findClass_of_methodNamed B.named
  have hlocks := B.notSynchronized
  subst hsz
  have hD := hD0.self (sz := s.heap.size)
  generalize hAe : va_A [(q 0, .inr (8, [.ref (q 1), .ref (q 3), .ref (q 4), .ref (q 9), .ref (q 14), .ref (q 15), .ref (q 16), .ref (q 17), .int (nI nc), .int sr, .int ik])), (q 3, .inl (ca 1, 4, .inr (.inr (.inr (.inr (fun zj => some (qn zj))))))), (q 4, .inr (7, [.ref (q 5), .ref (q 6), .ref (q 7), .ref (q 8), .long isl, .int (nI br), .int st, .int so, .int (nI se)])), (q 5, .inl (ca 2, 4, .inl (fun zj => nI (hm zj)))), (qn 0, .inr (kc (kd 0), [])), (qn 1, .inr (kc (kd 1), [])), (qn 2, .inr (kc (kd 2), [])), (qn 3, .inr (kc (kd 3), [])), (q 14, .inr (5, [.int ts, .int tp]))] s.heap.size = A at hD ⊢
  have hA : ∀ q : Nat, s.heap.size ≤ q → A q := fun q h => by rw [← hAe]; exact Or.inr h
  have hS : va_S A s.heap s.heap [] := va_S.rf
  have hl := lv_entry ([Value.ref (q 0), Value.int (nI i)]) (n := 4) (Nat.le_of_ble_eq_true rfl)
  rw [lg_entry_eq]
  generalize (lg_sl ([Value.ref (q 0), Value.int (nI i)]) ++ List.replicate (4 - (lg_sl ([Value.ref (q 0), Value.int (nI i)])).length) Slot.unset).toArray = ls at hl ⊢
  have hl : lv_has ls 4 [(0, .ref (q 0)), (1, .int (nI i))] := hl
  refine lv_aload_n hx hb dX8_trailOf_0 rfl (lv_at hl 0 rfl) ?_
  refine va_get (D := (dC, dI)) (ci := 8) (v := .ref (q 14)) (C := RX8) (T := TX8) (N := 11) hx hb htl iX8 hown hK hP 0 rfl rfl 4 (by decide) (htl _ wd_115) (fun _ h9 => h9) rfl dX8_trailOf_1 ?_
  refine lv_iconst (v := nI 0) hx hb dX8_trailOf_4 (by decide) ?_
  refine va_put (D := (dC, dI)) (ci := 5) (v := .int (nI 0)) (ty := .int) (C := RX5) (T := TX5) (N := 2) hx hb htl iX5 tyX5 tyX5_ok nmX5 hown hK hP hD hS 8 rfl rfl 0 (by decide) (htl _ wd_97) (fun _ h9 => h9) rfl (by decide +kernel) rfl rfl (Nat.le_of_ble_eq_true rfl) dX8_trailOf_5 (fun H locs hP hD hS => ?_)
  have hP : va_P (dC, dI) vwCl [(q 0, .inr (8, [.ref (q 1), .ref (q 3), .ref (q 4), .ref (q 9), .ref (q 14), .ref (q 15), .ref (q 16), .ref (q 17), .int (nI nc), .int sr, .int ik])), (q 3, .inl (ca 1, 4, .inr (.inr (.inr (.inr (fun zj => some (qn zj))))))), (q 4, .inr (7, [.ref (q 5), .ref (q 6), .ref (q 7), .ref (q 8), .long isl, .int (nI br), .int st, .int so, .int (nI se)])), (q 5, .inl (ca 2, 4, .inl (fun zj => nI (hm zj)))), (qn 0, .inr (kc (kd 0), [])), (qn 1, .inr (kc (kd 1), [])), (qn 2, .inr (kc (kd 2), [])), (qn 3, .inr (kc (kd 3), [])), (q 14, .inr (5, [.int (nI 0), .int tp]))] H := hP
  have hD : va_D A [(q 0, .inr (8, [.ref (q 1), .ref (q 3), .ref (q 4), .ref (q 9), .ref (q 14), .ref (q 15), .ref (q 16), .ref (q 17), .int (nI nc), .int sr, .int ik])), (q 3, .inl (ca 1, 4, .inr (.inr (.inr (.inr (fun zj => some (qn zj))))))), (q 4, .inr (7, [.ref (q 5), .ref (q 6), .ref (q 7), .ref (q 8), .long isl, .int (nI br), .int st, .int so, .int (nI se)])), (q 5, .inl (ca 2, 4, .inl (fun zj => nI (hm zj)))), (qn 0, .inr (kc (kd 0), [])), (qn 1, .inr (kc (kd 1), [])), (qn 2, .inr (kc (kd 2), [])), (qn 3, .inr (kc (kd 3), [])), (q 14, .inr (5, [.int (nI 0), .int tp]))] := hD
  refine lv_aload_n hx hb dX8_trailOf_8 rfl (lv_at hl 0 rfl) ?_
  refine va_get (D := (dC, dI)) (ci := 8) (v := .ref (q 14)) (C := RX8) (T := TX8) (N := 11) hx hb htl iX8 hown hK hP 0 rfl rfl 4 (by decide) (htl _ wd_115) (fun _ h9 => h9) rfl dX8_trailOf_9 ?_
  refine lv_aload_n hx hb dX8_trailOf_12 rfl (lv_at hl 0 rfl) ?_
  refine va_get (D := (dC, dI)) (ci := 8) (v := .ref (q 4)) (C := RX8) (T := TX8) (N := 11) hx hb htl iX8 hown hK hP 0 rfl rfl 2 (by decide) (htl _ wd_113) (fun _ h9 => h9) rfl dX8_trailOf_13 ?_
  refine va_get (D := (dC, dI)) (ci := 7) (v := .int (nI br)) (C := RX7) (T := TX7) (N := 9) hx hb htl iX7 hown hK hP 2 rfl rfl 5 (by decide) (htl _ wd_63) (fun _ h9 => h9) rfl dX8_trailOf_16 ?_
  refine va_put (D := (dC, dI)) (ci := 5) (v := .int (nI br)) (ty := .int) (C := RX5) (T := TX5) (N := 2) hx hb htl iX5 tyX5 tyX5_ok nmX5 hown hK hP hD hS 8 rfl rfl 1 (by decide) (htl _ wd_99) (fun _ h9 => h9) rfl (by decide +kernel) rfl rfl (Nat.le_of_ble_eq_true rfl) dX8_trailOf_19 (fun H locs hP hD hS => ?_)
  have hP : va_P (dC, dI) vwCl [(q 0, .inr (8, [.ref (q 1), .ref (q 3), .ref (q 4), .ref (q 9), .ref (q 14), .ref (q 15), .ref (q 16), .ref (q 17), .int (nI nc), .int sr, .int ik])), (q 3, .inl (ca 1, 4, .inr (.inr (.inr (.inr (fun zj => some (qn zj))))))), (q 4, .inr (7, [.ref (q 5), .ref (q 6), .ref (q 7), .ref (q 8), .long isl, .int (nI br), .int st, .int so, .int (nI se)])), (q 5, .inl (ca 2, 4, .inl (fun zj => nI (hm zj)))), (qn 0, .inr (kc (kd 0), [])), (qn 1, .inr (kc (kd 1), [])), (qn 2, .inr (kc (kd 2), [])), (qn 3, .inr (kc (kd 3), [])), (q 14, .inr (5, [.int (nI 0), .int (nI br)]))] H := hP
  have hD : va_D A [(q 0, .inr (8, [.ref (q 1), .ref (q 3), .ref (q 4), .ref (q 9), .ref (q 14), .ref (q 15), .ref (q 16), .ref (q 17), .int (nI nc), .int sr, .int ik])), (q 3, .inl (ca 1, 4, .inr (.inr (.inr (.inr (fun zj => some (qn zj))))))), (q 4, .inr (7, [.ref (q 5), .ref (q 6), .ref (q 7), .ref (q 8), .long isl, .int (nI br), .int st, .int so, .int (nI se)])), (q 5, .inl (ca 2, 4, .inl (fun zj => nI (hm zj)))), (qn 0, .inr (kc (kd 0), [])), (qn 1, .inr (kc (kd 1), [])), (qn 2, .inr (kc (kd 2), [])), (qn 3, .inr (kc (kd 3), [])), (q 14, .inr (5, [.int (nI 0), .int (nI br)]))] := hD
  refine lv_iconst (v := nI 0) hx hb dX8_trailOf_22 (by decide) ?_
  refine lv_istore_n (lv' := [(2, .int (nI 0)), (0, .ref (q 0)), (1, .int (nI i))]) hx hb dX8_trailOf_23 rfl hl (by decide) rfl (fun ls hl => ?_)
  have lp24 : ∀ (n : Nat) (made : Nat) (pP : Nat) (sS : Nat), (made + n = 40) → (pP < 36) → (trailN (xb isl) (kd i) (hm i) n pP sS = trailN (xb isl) (kd i) (hm i) 40 br 0) → ∀ (H : Heap) (locs : List Loc), va_P (dC, dI) vwCl [(q 0, .inr (8, [.ref (q 1), .ref (q 3), .ref (q 4), .ref (q 9), .ref (q 14), .ref (q 15), .ref (q 16), .ref (q 17), .int (nI nc), .int sr, .int ik])), (q 3, .inl (ca 1, 4, .inr (.inr (.inr (.inr (fun zj => some (qn zj))))))), (q 4, .inr (7, [.ref (q 5), .ref (q 6), .ref (q 7), .ref (q 8), .long isl, .int (nI br), .int st, .int so, .int (nI se)])), (q 5, .inl (ca 2, 4, .inl (fun zj => nI (hm zj)))), (qn 0, .inr (kc (kd 0), [])), (qn 1, .inr (kc (kd 1), [])), (qn 2, .inr (kc (kd 2), [])), (qn 3, .inr (kc (kd 3), [])), (q 14, .inr (5, [.int (nI sS), .int (nI pP)]))] H → va_D A [(q 0, .inr (8, [.ref (q 1), .ref (q 3), .ref (q 4), .ref (q 9), .ref (q 14), .ref (q 15), .ref (q 16), .ref (q 17), .int (nI nc), .int sr, .int ik])), (q 3, .inl (ca 1, 4, .inr (.inr (.inr (.inr (fun zj => some (qn zj))))))), (q 4, .inr (7, [.ref (q 5), .ref (q 6), .ref (q 7), .ref (q 8), .long isl, .int (nI br), .int st, .int so, .int (nI se)])), (q 5, .inl (ca 2, 4, .inl (fun zj => nI (hm zj)))), (qn 0, .inr (kc (kd 0), [])), (qn 1, .inr (kc (kd 1), [])), (qn 2, .inr (kc (kd 2), [])), (qn 3, .inr (kc (kd 3), [])), (q 14, .inr (5, [.int (nI sS), .int (nI pP)]))] → va_S A s.heap H locs → ∀ (ls : Array Slot), lv_has ls 4 [(2, .int (nI made)), (0, .ref (q 0)), (1, .int (nI i))] → W p l e (headSpec (Cond.code yX8_trailOf cX8_trailOf 4 (some (.object "HomeNeedles$Trail")) :: gT) (rk 4)).room s m ([Value.ref (q 0), Value.int (nI i)] : List Value).toArray below meth c H locs 0 0 (MQ below (va_Qr (fun (_ : Unit) => True) (fun u a t => a = q 14 ∧ EFb (dC, dI) (fun (_ : Unit) => [(q 0, .inr (8, [.ref (q 1), .ref (q 3), .ref (q 4), .ref (q 9), .ref (q 14), .ref (q 15), .ref (q 16), .ref (q 17), .int (nI nc), .int sr, .int ik])), (q 3, .inl (ca 1, 4, .inr (.inr (.inr (.inr (fun zj => some (qn zj))))))), (q 4, .inr (7, [.ref (q 5), .ref (q 6), .ref (q 7), .ref (q 8), .long isl, .int (nI br), .int st, .int so, .int (nI se)])), (q 5, .inl (ca 2, 4, .inl (fun zj => nI (hm zj)))), (qn 0, .inr (kc (kd 0), [])), (qn 1, .inr (kc (kd 1), [])), (qn 2, .inr (kc (kd 2), [])), (qn 3, .inr (kc (kd 3), [])), (q 14, .inr (5, [.int (nI ((trailN (xb isl) (kd i) (hm i) 40 br 0).2)), .int (nI ((trailN (xb isl) (kd i) (hm i) 40 br 0).1))]))]) (TY ca) A u t) A) ([Value.ref (q 0), Value.int (nI i)] : List Value).toArray s 0 0 A) (F0 m 24 ls []) := by
    clear hS hP hD
    clear hl
    intro n
    induction n with
    | zero =>
      intro made pP sS hmd hpP hR H locs hP hD hS ls hl
      refine lv_iload_n hx hb dX8_trailOf_24 rfl (lv_at hl 0 rfl) ?_
      refine lv_bipush (v := nI 40) hx hb dX8_trailOf_25 (by decide) ?_
      refine lv_icmp_ge (tgt := 98) hx hb dX8_trailOf_27 (by decide) (fun c_1 => ?_) (fun c_1 => ?_)
      · refine lv_aload_n hx hb dX8_trailOf_98 rfl (lv_at hl 1 rfl) ?_
        refine va_get (D := (dC, dI)) (ci := 8) (v := .ref (q 14)) (C := RX8) (T := TX8) (N := 11) hx hb htl iX8 hown hK hP 0 rfl rfl 4 (by decide) (htl _ wd_115) (fun _ h9 => h9) rfl dX8_trailOf_99 ?_
        have hP9 := hP.sub (ws' := [(q 0, .inr (8, [.ref (q 1), .ref (q 3), .ref (q 4), .ref (q 9), .ref (q 14), .ref (q 15), .ref (q 16), .ref (q 17), .int (nI nc), .int sr, .int ik])), (q 3, .inl (ca 1, 4, .inr (.inr (.inr (.inr (fun zj => some (qn zj))))))), (q 4, .inr (7, [.ref (q 5), .ref (q 6), .ref (q 7), .ref (q 8), .long isl, .int (nI br), .int st, .int so, .int (nI se)])), (q 5, .inl (ca 2, 4, .inl (fun zj => nI (hm zj)))), (qn 0, .inr (kc (kd 0), [])), (qn 1, .inr (kc (kd 1), [])), (qn 2, .inr (kc (kd 2), [])), (qn 3, .inr (kc (kd 3), [])), (q 14, .inr (5, [.int (nI sS), .int (nI pP)]))]) [0, 1, 2, 3, 4, 5, 6, 7, 8] rfl
        have hD9 := hD.sub (ws' := [(q 0, .inr (8, [.ref (q 1), .ref (q 3), .ref (q 4), .ref (q 9), .ref (q 14), .ref (q 15), .ref (q 16), .ref (q 17), .int (nI nc), .int sr, .int ik])), (q 3, .inl (ca 1, 4, .inr (.inr (.inr (.inr (fun zj => some (qn zj))))))), (q 4, .inr (7, [.ref (q 5), .ref (q 6), .ref (q 7), .ref (q 8), .long isl, .int (nI br), .int st, .int so, .int (nI se)])), (q 5, .inl (ca 2, 4, .inl (fun zj => nI (hm zj)))), (qn 0, .inr (kc (kd 0), [])), (qn 1, .inr (kc (kd 1), [])), (qn 2, .inr (kc (kd 2), [])), (qn 3, .inr (kc (kd 3), [])), (q 14, .inr (5, [.int (nI sS), .int (nI pP)]))]) [0, 1, 2, 3, 4, 5, 6, 7, 8] (by decide) rfl
        exact W.aret (v := .ref (q 14)) hx hb hr (Or.inl ⟨_, rfl⟩) (Or.inr ⟨_, rfl⟩) (fun t ht hW => ⟨⟨(), q 14, rfl, trivial, rfl, by rw [ht]; rw [← hR]; exact hP9, va_K.moved hW.alike hK, (by rw [← hR]; exact hD9)⟩, hS.F ht⟩) hS.2.2 dX8_trailOf_102
      · exact absurd (nI_le (by omega) (by omega)) c_1
    | succ n ih24 =>
      intro made pP sS hmd hpP hR H locs hP hD hS ls hl
      refine lv_iload_n hx hb dX8_trailOf_24 rfl (lv_at hl 0 rfl) ?_
      refine lv_bipush (v := nI 40) hx hb dX8_trailOf_25 (by decide) ?_
      refine lv_icmp_ge (tgt := 98) hx hb dX8_trailOf_27 (by decide) (fun c_2 => ?_) (fun c_2 => ?_)
      · exact absurd c_2 (nI_ge (by omega) (by omega))
      · refine lv_aload_n hx hb dX8_trailOf_30 rfl (lv_at hl 1 rfl) ?_
        refine va_get (D := (dC, dI)) (ci := 8) (v := .ref (q 4)) (C := RX8) (T := TX8) (N := 11) hx hb htl iX8 hown hK hP 0 rfl rfl 2 (by decide) (htl _ wd_113) (fun _ h9 => h9) rfl dX8_trailOf_31 ?_
        refine lv_aload_n hx hb dX8_trailOf_34 rfl (lv_at hl 1 rfl) ?_
        refine va_get (D := (dC, dI)) (ci := 8) (v := .ref (q 14)) (C := RX8) (T := TX8) (N := 11) hx hb htl iX8 hown hK hP 0 rfl rfl 4 (by decide) (htl _ wd_115) (fun _ h9 => h9) rfl dX8_trailOf_35 ?_
        refine va_get (D := (dC, dI)) (ci := 5) (v := .int (nI pP)) (C := RX5) (T := TX5) (N := 2) hx hb htl iX5 hown hK hP 8 rfl rfl 1 (by decide) (htl _ wd_99) (fun _ h9 => h9) rfl dX8_trailOf_38 ?_
        refine lv_aload_n hx hb dX8_trailOf_41 rfl (lv_at hl 1 rfl) ?_
        refine lv_iload_n hx hb dX8_trailOf_42 rfl (lv_at hl 2 rfl) ?_
        refine lv_aload_n hx hb dX8_trailOf_43 rfl (lv_at hl 1 rfl) ?_
        refine va_get (D := (dC, dI)) (ci := 8) (v := .ref (q 14)) (C := RX8) (T := TX8) (N := 11) hx hb htl iX8 hown hK hP 0 rfl rfl 4 (by decide) (htl _ wd_115) (fun _ h9 => h9) rfl dX8_trailOf_44 ?_
        refine va_get (D := (dC, dI)) (ci := 5) (v := .int (nI pP)) (C := RX5) (T := TX5) (N := 2) hx hb htl iX5 hown hK hP 8 rfl rfl 1 (by decide) (htl _ wd_99) (fun _ h9 => h9) rfl dX8_trailOf_47 ?_
        refine roV (As := [Value.int (nI i), Value.int (nI pP)]) (rest := [.int (nI pP), .ref (q 4)]) (kX8_pointing l dC dI ca i pP q qn kd nc sr ik isl br st so se hm hi hpP hkd hhm) ⟨hx, hb, hml, hown, htl⟩ (cVg (C := RX8) 2 htl wd_353 wd_355 wp_3 wd_1 wd_356 rfl rfl (by decide +kernel) ⟨Nat.le_of_ble_eq_true rfl, Nat.le_of_ble_eq_true rfl⟩) (va_P.app (hP.sub [0, 1, 2, 3] rfl) (nd4 hP i (by omega) 4 5 6 7 rfl rfl rfl rfl)) hK (va_recv hK hP (ci := 8) (q0 := 0) rfl rfl) rfl hl.1 rfl (Nat.le_of_ble_eq_true rfl) dX8_trailOf_50 ⟨Nat.zero_le _, Nat.zero_le _⟩ (fun r hr9 => ?_)
        subst hr9
        refine roV (As := [Value.int (nI pP), Value.int (nI (pointN (kd i) (hm i) pP))]) (rest := []) (kX7_placeBehind l dC dI ca pP (pointN (kd i) (hm i) pP) q isl br st so se hpP (pointN_lt _ _ _)) ⟨hx, hb, hml, hown, htl⟩ (cVg (C := RX7) 2 htl wd_384 wd_385 wd_386 wd_3 wd_387 rfl rfl (by decide +kernel) ⟨Nat.le_of_ble_eq_true rfl, Nat.le_of_ble_eq_true rfl⟩) (hP.sub [2] rfl) hK (va_recv hK hP (ci := 7) (q0 := 2) rfl rfl) rfl hl.1 rfl (Nat.le_of_ble_eq_true rfl) dX8_trailOf_53 ⟨Nat.zero_le _, Nat.zero_le _⟩ (fun r hr9 => ?_)
        subst hr9
        refine lv_istore_n (lv' := [(3, .int (nI (stepN (xb isl) pP (pointN (kd i) (hm i) pP)))), (2, .int (nI made)), (0, .ref (q 0)), (1, .int (nI i))]) hx hb dX8_trailOf_56 rfl hl (by decide) rfl (fun ls hl => ?_)
        refine lv_iload_n hx hb dX8_trailOf_57 rfl (lv_at hl 0 rfl) ?_
        refine lv_aload_n hx hb dX8_trailOf_58 rfl (lv_at hl 2 rfl) ?_
        refine va_get (D := (dC, dI)) (ci := 8) (v := .ref (q 14)) (C := RX8) (T := TX8) (N := 11) hx hb htl iX8 hown hK hP 0 rfl rfl 4 (by decide) (htl _ wd_115) (fun _ h9 => h9) rfl dX8_trailOf_59 ?_
        refine va_get (D := (dC, dI)) (ci := 5) (v := .int (nI pP)) (C := RX5) (T := TX5) (N := 2) hx hb htl iX5 hown hK hP 8 rfl rfl 1 (by decide) (htl _ wd_99) (fun _ h9 => h9) rfl dX8_trailOf_62 ?_
        refine lv_icmp_ne (tgt := 71) hx hb dX8_trailOf_65 (by decide) (fun c_3 => ?_) (fun c_3 => ?_)
        · rw [nI_eq (Nat.lt_trans (stepN_lt hpP) (by decide)) (by omega)] at c_3
          refine lv_aload_n hx hb dX8_trailOf_71 rfl (lv_at hl 2 rfl) ?_
          refine va_get (D := (dC, dI)) (ci := 8) (v := .ref (q 14)) (C := RX8) (T := TX8) (N := 11) hx hb htl iX8 hown hK hP 0 rfl rfl 4 (by decide) (htl _ wd_115) (fun _ h9 => h9) rfl dX8_trailOf_72 ?_
          refine lv_iload_n hx hb dX8_trailOf_75 rfl (lv_at hl 0 rfl) ?_
          refine va_put (D := (dC, dI)) (ci := 5) (v := .int (nI (stepN (xb isl) pP (pointN (kd i) (hm i) pP)))) (ty := .int) (C := RX5) (T := TX5) (N := 2) hx hb htl iX5 tyX5 tyX5_ok nmX5 hown hK hP hD hS 8 rfl rfl 1 (by decide) (htl _ wd_99) (fun _ h9 => h9) rfl (by decide +kernel) rfl rfl (Nat.le_of_ble_eq_true rfl) dX8_trailOf_76 (fun H locs hP hD hS => ?_)
          have hP : va_P (dC, dI) vwCl [(q 0, .inr (8, [.ref (q 1), .ref (q 3), .ref (q 4), .ref (q 9), .ref (q 14), .ref (q 15), .ref (q 16), .ref (q 17), .int (nI nc), .int sr, .int ik])), (q 3, .inl (ca 1, 4, .inr (.inr (.inr (.inr (fun zj => some (qn zj))))))), (q 4, .inr (7, [.ref (q 5), .ref (q 6), .ref (q 7), .ref (q 8), .long isl, .int (nI br), .int st, .int so, .int (nI se)])), (q 5, .inl (ca 2, 4, .inl (fun zj => nI (hm zj)))), (qn 0, .inr (kc (kd 0), [])), (qn 1, .inr (kc (kd 1), [])), (qn 2, .inr (kc (kd 2), [])), (qn 3, .inr (kc (kd 3), [])), (q 14, .inr (5, [.int (nI sS), .int (nI (stepN (xb isl) pP (pointN (kd i) (hm i) pP)))]))] H := hP
          have hD : va_D A [(q 0, .inr (8, [.ref (q 1), .ref (q 3), .ref (q 4), .ref (q 9), .ref (q 14), .ref (q 15), .ref (q 16), .ref (q 17), .int (nI nc), .int sr, .int ik])), (q 3, .inl (ca 1, 4, .inr (.inr (.inr (.inr (fun zj => some (qn zj))))))), (q 4, .inr (7, [.ref (q 5), .ref (q 6), .ref (q 7), .ref (q 8), .long isl, .int (nI br), .int st, .int so, .int (nI se)])), (q 5, .inl (ca 2, 4, .inl (fun zj => nI (hm zj)))), (qn 0, .inr (kc (kd 0), [])), (qn 1, .inr (kc (kd 1), [])), (qn 2, .inr (kc (kd 2), [])), (qn 3, .inr (kc (kd 3), [])), (q 14, .inr (5, [.int (nI sS), .int (nI (stepN (xb isl) pP (pointN (kd i) (hm i) pP)))]))] := hD
          refine lv_aload_n hx hb dX8_trailOf_79 rfl (lv_at hl 2 rfl) ?_
          refine va_get (D := (dC, dI)) (ci := 8) (v := .ref (q 14)) (C := RX8) (T := TX8) (N := 11) hx hb htl iX8 hown hK hP 0 rfl rfl 4 (by decide) (htl _ wd_115) (fun _ h9 => h9) rfl dX8_trailOf_80 ?_
          refine lv_dup hx hb dX8_trailOf_83 rfl ?_
          refine va_get (D := (dC, dI)) (ci := 5) (v := .int (nI sS)) (C := RX5) (T := TX5) (N := 2) hx hb htl iX5 hown hK hP 8 rfl rfl 0 (by decide) (htl _ wd_97) (fun _ h9 => h9) rfl dX8_trailOf_84 ?_
          refine lv_iconst (v := nI 1) hx hb dX8_trailOf_87 (by decide) ?_
          refine lv_iadd hx hb dX8_trailOf_88 ?_
          refine lv_ri (y := nI (sS + 1)) (nI_add sS 1) ?_
          refine va_put (D := (dC, dI)) (ci := 5) (v := .int (nI (sS + 1))) (ty := .int) (C := RX5) (T := TX5) (N := 2) hx hb htl iX5 tyX5 tyX5_ok nmX5 hown hK hP hD hS 8 rfl rfl 0 (by decide) (htl _ wd_97) (fun _ h9 => h9) rfl (by decide +kernel) rfl rfl (Nat.le_of_ble_eq_true rfl) dX8_trailOf_89 (fun H locs hP hD hS => ?_)
          have hP : va_P (dC, dI) vwCl [(q 0, .inr (8, [.ref (q 1), .ref (q 3), .ref (q 4), .ref (q 9), .ref (q 14), .ref (q 15), .ref (q 16), .ref (q 17), .int (nI nc), .int sr, .int ik])), (q 3, .inl (ca 1, 4, .inr (.inr (.inr (.inr (fun zj => some (qn zj))))))), (q 4, .inr (7, [.ref (q 5), .ref (q 6), .ref (q 7), .ref (q 8), .long isl, .int (nI br), .int st, .int so, .int (nI se)])), (q 5, .inl (ca 2, 4, .inl (fun zj => nI (hm zj)))), (qn 0, .inr (kc (kd 0), [])), (qn 1, .inr (kc (kd 1), [])), (qn 2, .inr (kc (kd 2), [])), (qn 3, .inr (kc (kd 3), [])), (q 14, .inr (5, [.int (nI (sS + 1)), .int (nI (stepN (xb isl) pP (pointN (kd i) (hm i) pP)))]))] H := hP
          have hD : va_D A [(q 0, .inr (8, [.ref (q 1), .ref (q 3), .ref (q 4), .ref (q 9), .ref (q 14), .ref (q 15), .ref (q 16), .ref (q 17), .int (nI nc), .int sr, .int ik])), (q 3, .inl (ca 1, 4, .inr (.inr (.inr (.inr (fun zj => some (qn zj))))))), (q 4, .inr (7, [.ref (q 5), .ref (q 6), .ref (q 7), .ref (q 8), .long isl, .int (nI br), .int st, .int so, .int (nI se)])), (q 5, .inl (ca 2, 4, .inl (fun zj => nI (hm zj)))), (qn 0, .inr (kc (kd 0), [])), (qn 1, .inr (kc (kd 1), [])), (qn 2, .inr (kc (kd 2), [])), (qn 3, .inr (kc (kd 3), [])), (q 14, .inr (5, [.int (nI (sS + 1)), .int (nI (stepN (xb isl) pP (pointN (kd i) (hm i) pP)))]))] := hD
          refine lv_iinc (v := nI (made + 1)) (lv' := [(2, .int (nI (made + 1))), (3, .int (nI (stepN (xb isl) pP (pointN (kd i) (hm i) pP)))), (0, .ref (q 0)), (1, .int (nI i))]) hx hb dX8_trailOf_92 hl (k := 1) rfl (nI_add made 1) (by decide) rfl (fun ls hl => ?_)
          refine lv_goto (tgt := 24) hx hb dX8_trailOf_95 (by decide) ?_
          exact ih24 (made + 1) (stepN (xb isl) pP (pointN (kd i) (hm i) pP)) (sS + 1) (by omega) (stepN_lt hpP) (by rw [← hR]; simp only [trailN, c_3, ↓reduceIte]) _ _ (hP.sub [0, 1, 2, 3, 4, 5, 6, 7, 8] rfl) (hD.sub [0, 1, 2, 3, 4, 5, 6, 7, 8] (by decide) rfl) hS ls (lv_sub hl [0, 2, 3] rfl)
        · rw [nI_eq (Nat.lt_trans (stepN_lt hpP) (by decide)) (by omega)] at c_3
          refine lv_goto (tgt := 98) hx hb dX8_trailOf_68 (by decide) ?_
          refine lv_aload_n hx hb dX8_trailOf_98 rfl (lv_at hl 2 rfl) ?_
          refine va_get (D := (dC, dI)) (ci := 8) (v := .ref (q 14)) (C := RX8) (T := TX8) (N := 11) hx hb htl iX8 hown hK hP 0 rfl rfl 4 (by decide) (htl _ wd_115) (fun _ h9 => h9) rfl dX8_trailOf_99 ?_
          have hP9 := hP.sub (ws' := [(q 0, .inr (8, [.ref (q 1), .ref (q 3), .ref (q 4), .ref (q 9), .ref (q 14), .ref (q 15), .ref (q 16), .ref (q 17), .int (nI nc), .int sr, .int ik])), (q 3, .inl (ca 1, 4, .inr (.inr (.inr (.inr (fun zj => some (qn zj))))))), (q 4, .inr (7, [.ref (q 5), .ref (q 6), .ref (q 7), .ref (q 8), .long isl, .int (nI br), .int st, .int so, .int (nI se)])), (q 5, .inl (ca 2, 4, .inl (fun zj => nI (hm zj)))), (qn 0, .inr (kc (kd 0), [])), (qn 1, .inr (kc (kd 1), [])), (qn 2, .inr (kc (kd 2), [])), (qn 3, .inr (kc (kd 3), [])), (q 14, .inr (5, [.int (nI sS), .int (nI pP)]))]) [0, 1, 2, 3, 4, 5, 6, 7, 8] rfl
          have hD9 := hD.sub (ws' := [(q 0, .inr (8, [.ref (q 1), .ref (q 3), .ref (q 4), .ref (q 9), .ref (q 14), .ref (q 15), .ref (q 16), .ref (q 17), .int (nI nc), .int sr, .int ik])), (q 3, .inl (ca 1, 4, .inr (.inr (.inr (.inr (fun zj => some (qn zj))))))), (q 4, .inr (7, [.ref (q 5), .ref (q 6), .ref (q 7), .ref (q 8), .long isl, .int (nI br), .int st, .int so, .int (nI se)])), (q 5, .inl (ca 2, 4, .inl (fun zj => nI (hm zj)))), (qn 0, .inr (kc (kd 0), [])), (qn 1, .inr (kc (kd 1), [])), (qn 2, .inr (kc (kd 2), [])), (qn 3, .inr (kc (kd 3), [])), (q 14, .inr (5, [.int (nI sS), .int (nI pP)]))]) [0, 1, 2, 3, 4, 5, 6, 7, 8] (by decide) rfl
          have hR9 : (pP, sS) = trailN (xb isl) (kd i) (hm i) 40 br 0 := by rw [← hR]; simp only [trailN, c_3, ↓reduceIte]
          exact W.aret (v := .ref (q 14)) hx hb hr (Or.inl ⟨_, rfl⟩) (Or.inr ⟨_, rfl⟩) (fun t ht hW => ⟨⟨(), q 14, rfl, trivial, rfl, by rw [ht]; rw [← hR9]; exact hP9, va_K.moved hW.alike hK, (by rw [← hR9]; exact hD9)⟩, hS.F ht⟩) hS.2.2 dX8_trailOf_102
  exact lp24 40 0 br 0 (by omega) hbr rfl _ _ hP hD hS ls (lv_sub hl [0, 1, 2] rfl)
theorem trailN_lt {ib : Nat → Bool} {k ho : Nat} : ∀ (n pl st : Nat), pl < 36 → (trailN ib k ho n pl st).1 < 36
  | 0, _, _, h => h
  | n + 1, pl, st, h => by
    unfold trailN
    split
    · exact h
    · exact trailN_lt n _ _ (stepN_lt h)
set_option maxHeartbeats 4000000 in
set_option maxRecDepth 100000 in
theorem kX8_homingBits (l : Launch) (dC : Nat → ClassId) (dI : Nat → Nat → Nat) (ca : Nat → ClassId) (sz : Nat) (q : Nat → Nat) (qn : Nat → Nat) (kd : Nat → Nat) (nc : Nat) (sr : Int32) (ik : Int32) (isl : Int64) (br : Nat) (st : Int32) (so : Int32) (se : Nat) (hm : Nat → Nat) (ts : Int32) (tp : Int32) (hnc : nc ≤ 4) (hbr : br < 36) (hkd : ∀ j, j < 4 → kd j < 5) (hhm : ∀ j, j < 4 → hm j < 36) : Met l yX8_homingBits (Cond.code yX8_homingBits cX8_homingBits 3 (some .int) :: gT) (rk 5) (EFp (dC, dI) [(q 0, .inr (8, [.ref (q 1), .ref (q 3), .ref (q 4), .ref (q 9), .ref (q 14), .ref (q 15), .ref (q 16), .ref (q 17), .int (nI nc), .int sr, .int ik])), (q 3, .inl (ca 1, 4, .inr (.inr (.inr (.inr (fun zj => some (qn zj))))))), (q 4, .inr (7, [.ref (q 5), .ref (q 6), .ref (q 7), .ref (q 8), .long isl, .int (nI br), .int st, .int so, .int (nI se)])), (q 5, .inl (ca 2, 4, .inl (fun zj => nI (hm zj)))), (qn 0, .inr (kc (kd 0), [])), (qn 1, .inr (kc (kd 1), [])), (qn 2, .inr (kc (kd 2), [])), (qn 3, .inr (kc (kd 3), [])), (q 14, .inr (5, [.int ts, .int tp]))] (TY ca) sz [Value.ref (q 0)]) (va_Qi (fun (r : Int32) (u : Int32 × Int32) => match u with | (ts2, tp2) => r = homL (fun i => decide ((trailN (xb isl) (kd i) (hm i) 40 br 0).1 = hm i)) nc 0 (nI 0)) (EFb (dC, dI) (fun (u : Int32 × Int32) => match u with | (ts2, tp2) => [(q 0, .inr (8, [.ref (q 1), .ref (q 3), .ref (q 4), .ref (q 9), .ref (q 14), .ref (q 15), .ref (q 16), .ref (q 17), .int (nI nc), .int sr, .int ik])), (q 3, .inl (ca 1, 4, .inr (.inr (.inr (.inr (fun zj => some (qn zj))))))), (q 4, .inr (7, [.ref (q 5), .ref (q 6), .ref (q 7), .ref (q 8), .long isl, .int (nI br), .int st, .int so, .int (nI se)])), (q 5, .inl (ca 2, 4, .inl (fun zj => nI (hm zj)))), (qn 0, .inr (kc (kd 0), [])), (qn 1, .inr (kc (kd 1), [])), (qn 2, .inr (kc (kd 2), [])), (qn 3, .inr (kc (kd 3), [])), (q 14, .inr (5, [.int ts2, .int tp2]))]) (TY ca) (va_A [(q 0, .inr (8, [.ref (q 1), .ref (q 3), .ref (q 4), .ref (q 9), .ref (q 14), .ref (q 15), .ref (q 16), .ref (q 17), .int (nI nc), .int sr, .int ik])), (q 3, .inl (ca 1, 4, .inr (.inr (.inr (.inr (fun zj => some (qn zj))))))), (q 4, .inr (7, [.ref (q 5), .ref (q 6), .ref (q 7), .ref (q 8), .long isl, .int (nI br), .int st, .int so, .int (nI se)])), (q 5, .inl (ca 2, 4, .inl (fun zj => nI (hm zj)))), (qn 0, .inr (kc (kd 0), [])), (qn 1, .inr (kc (kd 1), [])), (qn 2, .inr (kc (kd 2), [])), (qn 3, .inr (kc (kd 3), [])), (q 14, .inr (5, [.int ts, .int tp]))] sz)) (va_A [(q 0, .inr (8, [.ref (q 1), .ref (q 3), .ref (q 4), .ref (q 9), .ref (q 14), .ref (q 15), .ref (q 16), .ref (q 17), .int (nI nc), .int sr, .int ik])), (q 3, .inl (ca 1, 4, .inr (.inr (.inr (.inr (fun zj => some (qn zj))))))), (q 4, .inr (7, [.ref (q 5), .ref (q 6), .ref (q 7), .ref (q 8), .long isl, .int (nI br), .int st, .int so, .int (nI se)])), (q 5, .inl (ca 2, 4, .inl (fun zj => nI (hm zj)))), (qn 0, .inr (kc (kd 0), [])), (qn 1, .inr (kc (kd 1), [])), (qn 2, .inr (kc (kd 2), [])), (qn 3, .inr (kc (kd 3), [])), (q 14, .inr (5, [.int ts, .int tp]))] sz)) 0 0 (va_A [(q 0, .inr (8, [.ref (q 1), .ref (q 3), .ref (q 4), .ref (q 9), .ref (q 14), .ref (q 15), .ref (q 16), .ref (q 17), .int (nI nc), .int sr, .int ik])), (q 3, .inl (ca 1, 4, .inr (.inr (.inr (.inr (fun zj => some (qn zj))))))), (q 4, .inr (7, [.ref (q 5), .ref (q 6), .ref (q 7), .ref (q 8), .long isl, .int (nI br), .int st, .int so, .int (nI se)])), (q 5, .inl (ca 2, 4, .inl (fun zj => nI (hm zj)))), (qn 0, .inr (kc (kd 0), [])), (qn 1, .inr (kc (kd 1), [])), (qn 2, .inr (kc (kd 2), [])), (qn 3, .inr (kc (kd 3), [])), (q 14, .inr (5, [.int ts, .int tp]))] sz) := by
  refine Met.ofW (cc := cX8_homingBits) (maxL := 3) (ret := (some .int)) (by decide) rfl ?_
  intro p e s m args below meth c s₁ B hml hv
  obtain ⟨rfl, hsz, hP, hK, hD0⟩ := hv
  have hx := B.exec
  have hb := B.bytes
  have hr := B.returns
  have hts := atoms_spec (ws := (Cond.code yX8_homingBits cX8_homingBits 3 (some .int) :: gT)) B.pre
  have htl : ∀ w ∈ gT, w.before _ s = true := fun w h => hts w (List.mem_cons_of_mem _ h)
  have hown : s.vm.findClass RX8 = some m.cls := findClass_of_methodNamed B.named
  have hlocks := B.notSynchronized
  subst hsz
  have hD := hD0.self (sz := s.heap.size)
  generalize hAe : va_A [(q 0, .inr (8, [.ref (q 1), .ref (q 3), .ref (q 4), .ref (q 9), .ref (q 14), .ref (q 15), .ref (q 16), .ref (q 17), .int (nI nc), .int sr, .int ik])), (q 3, .inl (ca 1, 4, .inr (.inr (.inr (.inr (fun zj => some (qn zj))))))), (q 4, .inr (7, [.ref (q 5), .ref (q 6), .ref (q 7), .ref (q 8), .long isl, .int (nI br), .int st, .int so, .int (nI se)])), (q 5, .inl (ca 2, 4, .inl (fun zj => nI (hm zj)))), (qn 0, .inr (kc (kd 0), [])), (qn 1, .inr (kc (kd 1), [])), (qn 2, .inr (kc (kd 2), [])), (qn 3, .inr (kc (kd 3), [])), (q 14, .inr (5, [.int ts, .int tp]))] s.heap.size = A at hD ⊢
  have hA : ∀ q : Nat, s.heap.size ≤ q → A q := fun q h => by rw [← hAe]; exact Or.inr h
  have hS : va_S A s.heap s.heap [] := va_S.rf
  have hl := lv_entry ([Value.ref (q 0)]) (n := 3) (Nat.le_of_ble_eq_true rfl)
  rw [lg_entry_eq]
  generalize (lg_sl ([Value.ref (q 0)]) ++ List.replicate (3 - (lg_sl ([Value.ref (q 0)])).length) Slot.unset).toArray = ls at hl ⊢
  have hl : lv_has ls 3 [(0, .ref (q 0))] := hl
  refine lv_iconst (v := nI 0) hx hb dX8_homingBits_0 (by decide) ?_
  refine lv_istore_n (lv' := [(1, .int (nI 0)), (0, .ref (q 0))]) hx hb dX8_homingBits_1 rfl hl (by decide) rfl (fun ls hl => ?_)
  refine lv_iconst (v := nI 0) hx hb dX8_homingBits_2 (by decide) ?_
  refine lv_istore_n (lv' := [(2, .int (nI 0)), (1, .int (nI 0)), (0, .ref (q 0))]) hx hb dX8_homingBits_3 rfl hl (by decide) rfl (fun ls hl => ?_)
  have lp4 : ∀ (n : Nat) (i : Nat) (b : Int32) (ts1 : Int32) (tp1 : Int32), (i + n = nc) → (homL (fun i => decide ((trailN (xb isl) (kd i) (hm i) 40 br 0).1 = hm i)) n i b = homL (fun i => decide ((trailN (xb isl) (kd i) (hm i) 40 br 0).1 = hm i)) nc 0 (nI 0)) → ∀ (H : Heap) (locs : List Loc), va_P (dC, dI) vwCl [(q 0, .inr (8, [.ref (q 1), .ref (q 3), .ref (q 4), .ref (q 9), .ref (q 14), .ref (q 15), .ref (q 16), .ref (q 17), .int (nI nc), .int sr, .int ik])), (q 3, .inl (ca 1, 4, .inr (.inr (.inr (.inr (fun zj => some (qn zj))))))), (q 4, .inr (7, [.ref (q 5), .ref (q 6), .ref (q 7), .ref (q 8), .long isl, .int (nI br), .int st, .int so, .int (nI se)])), (q 5, .inl (ca 2, 4, .inl (fun zj => nI (hm zj)))), (qn 0, .inr (kc (kd 0), [])), (qn 1, .inr (kc (kd 1), [])), (qn 2, .inr (kc (kd 2), [])), (qn 3, .inr (kc (kd 3), [])), (q 14, .inr (5, [.int ts1, .int tp1]))] H → va_D A [(q 0, .inr (8, [.ref (q 1), .ref (q 3), .ref (q 4), .ref (q 9), .ref (q 14), .ref (q 15), .ref (q 16), .ref (q 17), .int (nI nc), .int sr, .int ik])), (q 3, .inl (ca 1, 4, .inr (.inr (.inr (.inr (fun zj => some (qn zj))))))), (q 4, .inr (7, [.ref (q 5), .ref (q 6), .ref (q 7), .ref (q 8), .long isl, .int (nI br), .int st, .int so, .int (nI se)])), (q 5, .inl (ca 2, 4, .inl (fun zj => nI (hm zj)))), (qn 0, .inr (kc (kd 0), [])), (qn 1, .inr (kc (kd 1), [])), (qn 2, .inr (kc (kd 2), [])), (qn 3, .inr (kc (kd 3), [])), (q 14, .inr (5, [.int ts1, .int tp1]))] → va_S A s.heap H locs → ∀ (ls : Array Slot), lv_has ls 3 [(2, .int (nI i)), (1, .int b), (0, .ref (q 0))] → W p l e (headSpec (Cond.code yX8_homingBits cX8_homingBits 3 (some .int) :: gT) (rk 5)).room s m ([Value.ref (q 0)] : List Value).toArray below meth c H locs 0 0 (MQ below (va_Qi (fun (r : Int32) (u : Int32 × Int32) => match u with | (ts2, tp2) => r = homL (fun i => decide ((trailN (xb isl) (kd i) (hm i) 40 br 0).1 = hm i)) nc 0 (nI 0)) (EFb (dC, dI) (fun (u : Int32 × Int32) => match u with | (ts2, tp2) => [(q 0, .inr (8, [.ref (q 1), .ref (q 3), .ref (q 4), .ref (q 9), .ref (q 14), .ref (q 15), .ref (q 16), .ref (q 17), .int (nI nc), .int sr, .int ik])), (q 3, .inl (ca 1, 4, .inr (.inr (.inr (.inr (fun zj => some (qn zj))))))), (q 4, .inr (7, [.ref (q 5), .ref (q 6), .ref (q 7), .ref (q 8), .long isl, .int (nI br), .int st, .int so, .int (nI se)])), (q 5, .inl (ca 2, 4, .inl (fun zj => nI (hm zj)))), (qn 0, .inr (kc (kd 0), [])), (qn 1, .inr (kc (kd 1), [])), (qn 2, .inr (kc (kd 2), [])), (qn 3, .inr (kc (kd 3), [])), (q 14, .inr (5, [.int ts2, .int tp2]))]) (TY ca) A) A) ([Value.ref (q 0)] : List Value).toArray s 0 0 A) (F0 m 4 ls []) := by
    clear hS hP hD
    clear hl
    intro n
    induction n with
    | zero =>
      intro i b ts1 tp1 hi hR H locs hP hD hS ls hl
      refine lv_iload_n hx hb dX8_homingBits_4 rfl (lv_at hl 0 rfl) ?_
      refine lv_aload_n hx hb dX8_homingBits_5 rfl (lv_at hl 2 rfl) ?_
      refine va_get (D := (dC, dI)) (ci := 8) (v := .int (nI nc)) (C := RX8) (T := TX8) (N := 11) hx hb htl iX8 hown hK hP 0 rfl rfl 8 (by decide) (htl _ wd_119) (fun _ h9 => h9) rfl dX8_homingBits_6 ?_
      refine lv_icmp_ge (tgt := 44) hx hb dX8_homingBits_9 (by decide) (fun c_1 => ?_) (fun c_1 => ?_)
      · refine lv_iload_n hx hb dX8_homingBits_44 rfl (lv_at hl 1 rfl) ?_
        have hP9 := hP.sub (ws' := [(q 0, .inr (8, [.ref (q 1), .ref (q 3), .ref (q 4), .ref (q 9), .ref (q 14), .ref (q 15), .ref (q 16), .ref (q 17), .int (nI nc), .int sr, .int ik])), (q 3, .inl (ca 1, 4, .inr (.inr (.inr (.inr (fun zj => some (qn zj))))))), (q 4, .inr (7, [.ref (q 5), .ref (q 6), .ref (q 7), .ref (q 8), .long isl, .int (nI br), .int st, .int so, .int (nI se)])), (q 5, .inl (ca 2, 4, .inl (fun zj => nI (hm zj)))), (qn 0, .inr (kc (kd 0), [])), (qn 1, .inr (kc (kd 1), [])), (qn 2, .inr (kc (kd 2), [])), (qn 3, .inr (kc (kd 3), [])), (q 14, .inr (5, [.int ts1, .int tp1]))]) [0, 1, 2, 3, 4, 5, 6, 7, 8] rfl
        have hD9 := hD.sub (ws' := [(q 0, .inr (8, [.ref (q 1), .ref (q 3), .ref (q 4), .ref (q 9), .ref (q 14), .ref (q 15), .ref (q 16), .ref (q 17), .int (nI nc), .int sr, .int ik])), (q 3, .inl (ca 1, 4, .inr (.inr (.inr (.inr (fun zj => some (qn zj))))))), (q 4, .inr (7, [.ref (q 5), .ref (q 6), .ref (q 7), .ref (q 8), .long isl, .int (nI br), .int st, .int so, .int (nI se)])), (q 5, .inl (ca 2, 4, .inl (fun zj => nI (hm zj)))), (qn 0, .inr (kc (kd 0), [])), (qn 1, .inr (kc (kd 1), [])), (qn 2, .inr (kc (kd 2), [])), (qn 3, .inr (kc (kd 3), [])), (q 14, .inr (5, [.int ts1, .int tp1]))]) [0, 1, 2, 3, 4, 5, 6, 7, 8] (by decide) rfl
        exact W.iret (v := b) hx hb hr (fun t ht hW => ⟨⟨b, (ts1, tp1), rfl, hR, by rw [ht]; exact hP9, va_K.moved hW.alike hK, hD9⟩, hS.F ht⟩) hS.2.2 dX8_homingBits_45
      · exact absurd (nI_le (by omega) (by omega)) c_1
    | succ n ih4 =>
      intro i b ts1 tp1 hi hR H locs hP hD hS ls hl
      refine lv_iload_n hx hb dX8_homingBits_4 rfl (lv_at hl 0 rfl) ?_
      refine lv_aload_n hx hb dX8_homingBits_5 rfl (lv_at hl 2 rfl) ?_
      refine va_get (D := (dC, dI)) (ci := 8) (v := .int (nI nc)) (C := RX8) (T := TX8) (N := 11) hx hb htl iX8 hown hK hP 0 rfl rfl 8 (by decide) (htl _ wd_119) (fun _ h9 => h9) rfl dX8_homingBits_6 ?_
      refine lv_icmp_ge (tgt := 44) hx hb dX8_homingBits_9 (by decide) (fun c_2 => ?_) (fun c_2 => ?_)
      · exact absurd c_2 (nI_ge (by omega) (by omega))
      · refine lv_aload_n hx hb dX8_homingBits_12 rfl (lv_at hl 2 rfl) ?_
        refine lv_iload_n hx hb dX8_homingBits_13 rfl (lv_at hl 0 rfl) ?_
        refine efVr (As := [Value.int (nI i)]) (rest := []) (wr := []) (kX8_trailOf l dC dI ca _ i q qn kd nc sr ik isl br st so se hm ts1 tp1 (by omega) hbr hkd hhm) ⟨hx, hb, hml, hown, htl⟩ (cVg (C := RX8) 1 htl wd_380 wd_382 wp_4 wd_1 wd_383 rfl rfl (by decide +kernel) ⟨Nat.le_of_ble_eq_true rfl, Nat.le_of_ble_eq_true rfl⟩) hP hD hS hA hK [0, 1, 2, 3, 4, 5, 6, 7, 8] [] rfl rfl (by decide) (by decide) (by decide) (va_recv hK hP (ci := 8) (q0 := 0) rfl rfl) rfl hl.1 rfl (Nat.le_of_ble_eq_true rfl) dX8_homingBits_14 ⟨Nat.zero_le _, Nat.zero_le _⟩ (fun u H locs hw_14 hP hD hS => ?_)
        have hP : va_P (dC, dI) vwCl [(q 0, .inr (8, [.ref (q 1), .ref (q 3), .ref (q 4), .ref (q 9), .ref (q 14), .ref (q 15), .ref (q 16), .ref (q 17), .int (nI nc), .int sr, .int ik])), (q 3, .inl (ca 1, 4, .inr (.inr (.inr (.inr (fun zj => some (qn zj))))))), (q 4, .inr (7, [.ref (q 5), .ref (q 6), .ref (q 7), .ref (q 8), .long isl, .int (nI br), .int st, .int so, .int (nI se)])), (q 5, .inl (ca 2, 4, .inl (fun zj => nI (hm zj)))), (qn 0, .inr (kc (kd 0), [])), (qn 1, .inr (kc (kd 1), [])), (qn 2, .inr (kc (kd 2), [])), (qn 3, .inr (kc (kd 3), [])), (q 14, .inr (5, [.int (nI ((trailN (xb isl) (kd i) (hm i) 40 br 0).2)), .int (nI ((trailN (xb isl) (kd i) (hm i) 40 br 0).1))]))] H := hP
        have hD : va_D A [(q 0, .inr (8, [.ref (q 1), .ref (q 3), .ref (q 4), .ref (q 9), .ref (q 14), .ref (q 15), .ref (q 16), .ref (q 17), .int (nI nc), .int sr, .int ik])), (q 3, .inl (ca 1, 4, .inr (.inr (.inr (.inr (fun zj => some (qn zj))))))), (q 4, .inr (7, [.ref (q 5), .ref (q 6), .ref (q 7), .ref (q 8), .long isl, .int (nI br), .int st, .int so, .int (nI se)])), (q 5, .inl (ca 2, 4, .inl (fun zj => nI (hm zj)))), (qn 0, .inr (kc (kd 0), [])), (qn 1, .inr (kc (kd 1), [])), (qn 2, .inr (kc (kd 2), [])), (qn 3, .inr (kc (kd 3), [])), (q 14, .inr (5, [.int (nI ((trailN (xb isl) (kd i) (hm i) 40 br 0).2)), .int (nI ((trailN (xb isl) (kd i) (hm i) 40 br 0).1))]))] := hD
        refine va_get (D := (dC, dI)) (ci := 5) (v := .int (nI ((trailN (xb isl) (kd i) (hm i) 40 br 0).1))) (C := RX5) (T := TX5) (N := 2) hx hb htl iX5 hown hK hP 8 rfl rfl 1 (by decide) (htl _ wd_99) (fun _ h9 => h9) rfl dX8_homingBits_17 ?_
        refine lv_aload_n hx hb dX8_homingBits_20 rfl (lv_at hl 2 rfl) ?_
        refine va_get (D := (dC, dI)) (ci := 8) (v := .ref (q 4)) (C := RX8) (T := TX8) (N := 11) hx hb htl iX8 hown hK hP 0 rfl rfl 2 (by decide) (htl _ wd_113) (fun _ h9 => h9) rfl dX8_homingBits_21 ?_
        refine va_get (D := (dC, dI)) (ci := 7) (v := .ref (q 5)) (C := RX7) (T := TX7) (N := 9) hx hb htl iX7 hown hK hP 2 rfl rfl 0 (by decide) (htl _ wd_53) (fun _ h9 => h9) rfl dX8_homingBits_24 ?_
        refine lv_iload_n hx hb dX8_homingBits_27 rfl (lv_at hl 0 rfl) ?_
        refine va_iald hx hb hK hP 3 2 rfl rfl (vp_in_nI (by omega) (by decide)) dX8_homingBits_28 ?_
        refine lv_ri (y := nI (hm i)) (congrArg (fun zj => nI (hm zj)) (nI_clamp (by omega))) ?_
        refine lv_icmp_ne (tgt := 38) hx hb dX8_homingBits_29 (by decide) (fun c_4 => ?_) (fun c_4 => ?_)
        · rw [nI_eq (Nat.lt_trans (trailN_lt _ _ _ hbr) (by decide)) (Nat.lt_trans (hhm i (by omega)) (by decide))] at c_4
          refine lv_iinc (v := nI (i + 1)) (lv' := [(2, .int (nI (i + 1))), (1, .int b), (0, .ref (q 0))]) hx hb dX8_homingBits_38 hl (k := 0) rfl (nI_add i 1) (by decide) rfl (fun ls hl => ?_)
          refine lv_goto (tgt := 4) hx hb dX8_homingBits_41 (by decide) ?_
          exact ih4 (i + 1) b (nI (trailN (xb isl) (kd i) (hm i) 40 br 0).2) (nI (trailN (xb isl) (kd i) (hm i) 40 br 0).1) (by omega) (by rw [← hR]; simp only [homL, c_4, decide_true, decide_false, ↓reduceIte, Bool.false_eq_true]) _ _ (hP.sub [0, 1, 2, 3, 4, 5, 6, 7, 8] rfl) (hD.sub [0, 1, 2, 3, 4, 5, 6, 7, 8] (by decide) rfl) hS ls (lv_sub hl [0, 1, 2] rfl)
        · rw [nI_eq (Nat.lt_trans (trailN_lt _ _ _ hbr) (by decide)) (Nat.lt_trans (hhm i (by omega)) (by decide))] at c_4
          refine lv_iload_n hx hb dX8_homingBits_32 rfl (lv_at hl 1 rfl) ?_
          refine lv_iconst (v := nI 1) hx hb dX8_homingBits_33 (by decide) ?_
          refine lv_iload_n hx hb dX8_homingBits_34 rfl (lv_at hl 0 rfl) ?_
          refine lv_ishl hx hb dX8_homingBits_35 ?_
          refine lv_ior hx hb dX8_homingBits_36 ?_
          refine lv_istore_n (lv' := [(1, .int (b ||| ((nI 1) <<< (nI i &&& 31)))), (2, .int (nI i)), (0, .ref (q 0))]) hx hb dX8_homingBits_37 rfl hl (by decide) rfl (fun ls hl => ?_)
          refine lv_iinc (v := nI (i + 1)) (lv' := [(2, .int (nI (i + 1))), (1, .int (b ||| ((nI 1) <<< (nI i &&& 31)))), (0, .ref (q 0))]) hx hb dX8_homingBits_38 hl (k := 1) rfl (nI_add i 1) (by decide) rfl (fun ls hl => ?_)
          refine lv_goto (tgt := 4) hx hb dX8_homingBits_41 (by decide) ?_
          exact ih4 (i + 1) (b ||| (nI 1 <<< (nI i &&& 31))) (nI (trailN (xb isl) (kd i) (hm i) 40 br 0).2) (nI (trailN (xb isl) (kd i) (hm i) 40 br 0).1) (by omega) (by rw [← hR]; simp only [homL, c_4, decide_true, decide_false, ↓reduceIte, Bool.false_eq_true]) _ _ (hP.sub [0, 1, 2, 3, 4, 5, 6, 7, 8] rfl) (hD.sub [0, 1, 2, 3, 4, 5, 6, 7, 8] (by decide) rfl) hS ls (lv_sub hl [0, 1, 2] rfl)
  exact lp4 nc 0 (nI 0) ts tp (by omega) rfl _ _ hP hD hS ls (lv_sub hl [0, 1, 2] rfl)
set_option maxHeartbeats 4000000 in
set_option maxRecDepth 100000 in
theorem kX8_leftAtWorst (l : Launch) (dC : Nat → ClassId) (dI : Nat → Nat → Nat) (ca : Nat → ClassId) (sz : Nat) (i : Nat) (mk : Int64) (pp : Nat) (q : Nat → Nat) (qn : Nat → Nat) (kd : Nat → Nat) (nc : Nat) (sr : Int32) (ik : Int32) (lq0 : Nat → Nat) (hi : i < 4) (hk : kd i < 5) (hp : pp < 36) : Met l yX8_leftAtWorst (Cond.code yX8_leftAtWorst cX8_leftAtWorst 8 (some .int) :: gT) (rk 3) (EFp (dC, dI) [(q 0, .inr (8, [.ref (q 1), .ref (q 3), .ref (q 4), .ref (q 9), .ref (q 14), .ref (q 15), .ref (q 16), .ref (q 17), .int (nI nc), .int sr, .int ik])), (q 17, .inl (ca 12, 9, .inl (fun zj => nI (lq0 zj)))), (qn 0, .inr (kc (kd 0), [])), (qn 1, .inr (kc (kd 1), [])), (qn 2, .inr (kc (kd 2), [])), (qn 3, .inr (kc (kd 3), []))] (TY ca) sz [Value.ref (q 0), Value.ref (qn i), Value.long mk, Value.int (nI pp)]) (va_Qi (fun (r : Int32) (u : Nat → Nat) => match u with | (lq1) => r = nI (lwL (fun ho => pointN (kd i) ho pp) (mbit mk) 36 0 (fun _ => 0) 0)) (EFb (dC, dI) (fun (u : Nat → Nat) => match u with | (lq1) => [(q 0, .inr (8, [.ref (q 1), .ref (q 3), .ref (q 4), .ref (q 9), .ref (q 14), .ref (q 15), .ref (q 16), .ref (q 17), .int (nI nc), .int sr, .int ik])), (q 17, .inl (ca 12, 9, .inl (fun zj => nI (lq1 zj)))), (qn 0, .inr (kc (kd 0), [])), (qn 1, .inr (kc (kd 1), [])), (qn 2, .inr (kc (kd 2), [])), (qn 3, .inr (kc (kd 3), []))]) (TY ca) (va_A [(q 0, .inr (8, [.ref (q 1), .ref (q 3), .ref (q 4), .ref (q 9), .ref (q 14), .ref (q 15), .ref (q 16), .ref (q 17), .int (nI nc), .int sr, .int ik])), (q 17, .inl (ca 12, 9, .inl (fun zj => nI (lq0 zj)))), (qn 0, .inr (kc (kd 0), [])), (qn 1, .inr (kc (kd 1), [])), (qn 2, .inr (kc (kd 2), [])), (qn 3, .inr (kc (kd 3), []))] sz)) (va_A [(q 0, .inr (8, [.ref (q 1), .ref (q 3), .ref (q 4), .ref (q 9), .ref (q 14), .ref (q 15), .ref (q 16), .ref (q 17), .int (nI nc), .int sr, .int ik])), (q 17, .inl (ca 12, 9, .inl (fun zj => nI (lq0 zj)))), (qn 0, .inr (kc (kd 0), [])), (qn 1, .inr (kc (kd 1), [])), (qn 2, .inr (kc (kd 2), [])), (qn 3, .inr (kc (kd 3), []))] sz)) 0 0 (va_A [(q 0, .inr (8, [.ref (q 1), .ref (q 3), .ref (q 4), .ref (q 9), .ref (q 14), .ref (q 15), .ref (q 16), .ref (q 17), .int (nI nc), .int sr, .int ik])), (q 17, .inl (ca 12, 9, .inl (fun zj => nI (lq0 zj)))), (qn 0, .inr (kc (kd 0), [])), (qn 1, .inr (kc (kd 1), [])), (qn 2, .inr (kc (kd 2), [])), (qn 3, .inr (kc (kd 3), []))] sz) := by
  refine Met.ofW (cc := cX8_leftAtWorst) (maxL := 8) (ret := (some .int)) (by decide) rfl ?_
  intro p e s m args below meth c s₁ B hml hv
  obtain ⟨rfl, hsz, hP, hK, hD0⟩ := hv
  have hx := B.exec
  have hb := B.bytes
  have hr := B.returns
  have hts := atoms_spec (ws := (Cond.code yX8_leftAtWorst cX8_leftAtWorst 8 (some .int) :: gT)) B.pre
  have htl : ∀ w ∈ gT, w.before _ s = true := fun w h => hts w (List.mem_cons_of_mem _ h)
  have hown : s.vm.findClass RX8 = some m.cls := findClass_of_methodNamed B.named
  have hlocks := B.notSynchronized
  subst hsz
  have hD := hD0.self (sz := s.heap.size)
  generalize hAe : va_A [(q 0, .inr (8, [.ref (q 1), .ref (q 3), .ref (q 4), .ref (q 9), .ref (q 14), .ref (q 15), .ref (q 16), .ref (q 17), .int (nI nc), .int sr, .int ik])), (q 17, .inl (ca 12, 9, .inl (fun zj => nI (lq0 zj)))), (qn 0, .inr (kc (kd 0), [])), (qn 1, .inr (kc (kd 1), [])), (qn 2, .inr (kc (kd 2), [])), (qn 3, .inr (kc (kd 3), []))] s.heap.size = A at hD ⊢
  have hA : ∀ q : Nat, s.heap.size ≤ q → A q := fun q h => by rw [← hAe]; exact Or.inr h
  have hS : va_S A s.heap s.heap [] := va_S.rf
  have hl := lv_entry ([Value.ref (q 0), Value.ref (qn i), Value.long mk, Value.int (nI pp)]) (n := 8) (Nat.le_of_ble_eq_true rfl)
  rw [lg_entry_eq]
  generalize (lg_sl ([Value.ref (q 0), Value.ref (qn i), Value.long mk, Value.int (nI pp)]) ++ List.replicate (8 - (lg_sl ([Value.ref (q 0), Value.ref (qn i), Value.long mk, Value.int (nI pp)])).length) Slot.unset).toArray = ls at hl ⊢
  have hl : lv_has ls 8 [(0, .ref (q 0)), (1, .ref (qn i)), (2, .long mk), (4, .int (nI pp))] := hl
  refine lv_aload_n hx hb dX8_leftAtWorst_0 rfl (lv_at hl 0 rfl) ?_
  refine va_get (D := (dC, dI)) (ci := 8) (v := .ref (q 17)) (C := RX8) (T := TX8) (N := 11) hx hb htl iX8 hown hK hP 0 rfl rfl 7 (by decide) (htl _ wd_118) (fun _ h9 => h9) rfl dX8_leftAtWorst_1 ?_
  refine lv_iconst (v := nI 0) hx hb dX8_leftAtWorst_4 (by decide) ?_
  refine efSv (As := [Value.ref (q 17), Value.int (nI 0)]) (rest := []) (wr := [(q 0, .inr (8, [.ref (q 1), .ref (q 3), .ref (q 4), .ref (q 9), .ref (q 14), .ref (q 15), .ref (q 16), .ref (q 17), .int (nI nc), .int sr, .int ik])), (qn 0, .inr (kc (kd 0), [])), (qn 1, .inr (kc (kd 1), [])), (qn 2, .inr (kc (kd 2), [])), (qn 3, .inr (kc (kd 3), []))]) (kfill_lb l dC dI ca _ (nI 0) q (fun zj => nI (lq0 zj)) ) ⟨hx, hb, hml, hown, htl⟩ (cSg 2 htl wd_396 wd_397 wd_17 wd_398 rfl rfl (by decide +kernel) ⟨Nat.le_of_ble_eq_true rfl, Nat.le_of_ble_eq_true rfl⟩) hP hD hS hA hK [1] [0, 2, 3, 4, 5] rfl rfl (by decide) (by decide) (by decide) rfl hl.1 rfl (Nat.le_of_ble_eq_true rfl) dX8_leftAtWorst_5 ⟨Nat.zero_le _, Nat.zero_le _⟩ (fun u H locs hw_5 hP hD hS => ?_)
  have hP : va_P (dC, dI) vwCl [(q 0, .inr (8, [.ref (q 1), .ref (q 3), .ref (q 4), .ref (q 9), .ref (q 14), .ref (q 15), .ref (q 16), .ref (q 17), .int (nI nc), .int sr, .int ik])), (qn 0, .inr (kc (kd 0), [])), (qn 1, .inr (kc (kd 1), [])), (qn 2, .inr (kc (kd 2), [])), (qn 3, .inr (kc (kd 3), [])), (q 17, .inl (ca 12, 9, .inl (fun _ => (nI 0))))] H := hP
  have hD : va_D A [(q 0, .inr (8, [.ref (q 1), .ref (q 3), .ref (q 4), .ref (q 9), .ref (q 14), .ref (q 15), .ref (q 16), .ref (q 17), .int (nI nc), .int sr, .int ik])), (qn 0, .inr (kc (kd 0), [])), (qn 1, .inr (kc (kd 1), [])), (qn 2, .inr (kc (kd 2), [])), (qn 3, .inr (kc (kd 3), [])), (q 17, .inl (ca 12, 9, .inl (fun _ => (nI 0))))] := hD
  refine lv_iconst (v := nI 0) hx hb dX8_leftAtWorst_8 (by decide) ?_
  refine lv_istore (lv' := [(5, .int (nI 0)), (0, .ref (q 0)), (1, .ref (qn i)), (2, .long mk), (4, .int (nI pp))]) hx hb dX8_leftAtWorst_9 hl (by decide) rfl (fun ls hl => ?_)
  refine lv_iconst (v := nI 0) hx hb dX8_leftAtWorst_11 (by decide) ?_
  refine lv_istore (lv' := [(6, .int (nI 0)), (5, .int (nI 0)), (0, .ref (q 0)), (1, .ref (qn i)), (2, .long mk), (4, .int (nI pp))]) hx hb dX8_leftAtWorst_12 hl (by decide) rfl (fun ls hl => ?_)
  have lp14 : ∀ (n : Nat) (j : Nat) (lq : Nat → Nat) (w : Nat), (j + n = 36) → (∀ x, x < 9 → lq x ≤ j) → (w ≤ j) → (lwL (fun ho => pointN (kd i) ho pp) (mbit mk) n j lq w = lwL (fun ho => pointN (kd i) ho pp) (mbit mk) 36 0 (fun _ => 0) 0) → ∀ (H : Heap) (locs : List Loc), va_P (dC, dI) vwCl [(q 0, .inr (8, [.ref (q 1), .ref (q 3), .ref (q 4), .ref (q 9), .ref (q 14), .ref (q 15), .ref (q 16), .ref (q 17), .int (nI nc), .int sr, .int ik])), (qn 0, .inr (kc (kd 0), [])), (qn 1, .inr (kc (kd 1), [])), (qn 2, .inr (kc (kd 2), [])), (qn 3, .inr (kc (kd 3), [])), (q 17, .inl (ca 12, 9, .inl (fun zj => nI (lq zj))))] H → va_D A [(q 0, .inr (8, [.ref (q 1), .ref (q 3), .ref (q 4), .ref (q 9), .ref (q 14), .ref (q 15), .ref (q 16), .ref (q 17), .int (nI nc), .int sr, .int ik])), (qn 0, .inr (kc (kd 0), [])), (qn 1, .inr (kc (kd 1), [])), (qn 2, .inr (kc (kd 2), [])), (qn 3, .inr (kc (kd 3), [])), (q 17, .inl (ca 12, 9, .inl (fun zj => nI (lq zj))))] → va_S A s.heap H locs → ∀ (ls : Array Slot), lv_has ls 8 [(6, .int (nI j)), (5, .int (nI w)), (0, .ref (q 0)), (1, .ref (qn i)), (2, .long mk), (4, .int (nI pp))] → W p l e (headSpec (Cond.code yX8_leftAtWorst cX8_leftAtWorst 8 (some .int) :: gT) (rk 3)).room s m ([Value.ref (q 0), Value.ref (qn i), Value.long mk, Value.int (nI pp)] : List Value).toArray below meth c H locs 0 0 (MQ below (va_Qi (fun (r : Int32) (u : Nat → Nat) => match u with | (lq1) => r = nI (lwL (fun ho => pointN (kd i) ho pp) (mbit mk) 36 0 (fun _ => 0) 0)) (EFb (dC, dI) (fun (u : Nat → Nat) => match u with | (lq1) => [(q 0, .inr (8, [.ref (q 1), .ref (q 3), .ref (q 4), .ref (q 9), .ref (q 14), .ref (q 15), .ref (q 16), .ref (q 17), .int (nI nc), .int sr, .int ik])), (q 17, .inl (ca 12, 9, .inl (fun zj => nI (lq1 zj)))), (qn 0, .inr (kc (kd 0), [])), (qn 1, .inr (kc (kd 1), [])), (qn 2, .inr (kc (kd 2), [])), (qn 3, .inr (kc (kd 3), []))]) (TY ca) A) A) ([Value.ref (q 0), Value.ref (qn i), Value.long mk, Value.int (nI pp)] : List Value).toArray s 0 0 A) (F0 m 14 ls []) := by
    clear hS hP hD
    clear hl
    intro n
    induction n with
    | zero =>
      intro j lq w hj hlq hw9 hR H locs hP hD hS ls hl
      refine lv_iload hx hb dX8_leftAtWorst_14 (lv_at hl 0 rfl) ?_
      refine lv_bipush (v := nI 36) hx hb dX8_leftAtWorst_16 (by decide) ?_
      refine lv_icmp_ge (tgt := 73) hx hb dX8_leftAtWorst_18 (by decide) (fun c_2 => ?_) (fun c_2 => ?_)
      · refine lv_iload hx hb dX8_leftAtWorst_73 (lv_at hl 1 rfl) ?_
        have hP9 := hP.sub (ws' := [(q 0, .inr (8, [.ref (q 1), .ref (q 3), .ref (q 4), .ref (q 9), .ref (q 14), .ref (q 15), .ref (q 16), .ref (q 17), .int (nI nc), .int sr, .int ik])), (q 17, .inl (ca 12, 9, .inl (fun zj => nI (lq zj)))), (qn 0, .inr (kc (kd 0), [])), (qn 1, .inr (kc (kd 1), [])), (qn 2, .inr (kc (kd 2), [])), (qn 3, .inr (kc (kd 3), []))]) [0, 5, 1, 2, 3, 4] rfl
        have hD9 := hD.sub (ws' := [(q 0, .inr (8, [.ref (q 1), .ref (q 3), .ref (q 4), .ref (q 9), .ref (q 14), .ref (q 15), .ref (q 16), .ref (q 17), .int (nI nc), .int sr, .int ik])), (q 17, .inl (ca 12, 9, .inl (fun zj => nI (lq zj)))), (qn 0, .inr (kc (kd 0), [])), (qn 1, .inr (kc (kd 1), [])), (qn 2, .inr (kc (kd 2), [])), (qn 3, .inr (kc (kd 3), []))]) [0, 5, 1, 2, 3, 4] (by decide) rfl
        exact W.iret (v := nI w) hx hb hr (fun t ht hW => ⟨⟨nI w, lq, rfl, by show _ = _; rw [← hR]; rfl, by rw [ht]; exact hP9, va_K.moved hW.alike hK, hD9⟩, hS.F ht⟩) hS.2.2 dX8_leftAtWorst_75
      · exact absurd (nI_le (by omega) (by omega)) c_2
    | succ n ih14 =>
      intro j lq w hj hlq hw9 hR H locs hP hD hS ls hl
      refine lv_iload hx hb dX8_leftAtWorst_14 (lv_at hl 0 rfl) ?_
      refine lv_bipush (v := nI 36) hx hb dX8_leftAtWorst_16 (by decide) ?_
      refine lv_icmp_ge (tgt := 73) hx hb dX8_leftAtWorst_18 (by decide) (fun c_3 => ?_) (fun c_3 => ?_)
      · exact absurd c_3 (nI_ge (by omega) (by omega))
      · refine lv_lload_n hx hb dX8_leftAtWorst_21 rfl (lv_at hl 4 rfl) ?_
        refine lv_iload hx hb dX8_leftAtWorst_22 (lv_at hl 0 rfl) ?_
        refine lv_lshr (v := mk >>> ((nI j).toInt64 &&& 63)) hx hb dX8_leftAtWorst_24 rfl ?_
        refine lv_lconst (v := 1) hx hb dX8_leftAtWorst_25 (by decide) ?_
        refine lv_land hx hb dX8_leftAtWorst_26 ?_
        refine lv_lconst (v := 1) hx hb dX8_leftAtWorst_27 (by decide) ?_
        refine W.lcmp hx hb dX8_leftAtWorst_28 ?_
        refine lv_if_ne (tgt := 67) hx hb dX8_leftAtWorst_29 (by decide) (fun c_4 => ?_) (fun c_4 => ?_)
        · rw [lgE] at c_4
          refine lv_iinc (v := nI (j + 1)) (lv' := [(6, .int (nI (j + 1))), (5, .int (nI w)), (0, .ref (q 0)), (1, .ref (qn i)), (2, .long mk), (4, .int (nI pp))]) hx hb dX8_leftAtWorst_67 hl (k := 0) rfl (nI_add j 1) (by decide) rfl (fun ls hl => ?_)
          refine lv_goto (tgt := 14) hx hb dX8_leftAtWorst_70 (by decide) ?_
          exact ih14 (j + 1) lq w (by omega) (fun x hx => Nat.le_succ_of_le (hlq x hx)) (by omega) (by rw [← hR]; simp only [lwL, mbit, c_4, decide_false, ↓reduceIte, Bool.false_eq_true]) _ _ (hP.sub [0, 1, 2, 3, 4, 5] rfl) (hD.sub [0, 1, 2, 3, 4, 5] (by decide) rfl) hS ls (lv_sub hl [0, 1, 2, 3, 4, 5] rfl)
        · rw [lgE] at c_4
          refine lv_aload_n hx hb dX8_leftAtWorst_32 rfl (lv_at hl 3 rfl) ?_
          refine lv_iload hx hb dX8_leftAtWorst_33 (lv_at hl 0 rfl) ?_
          refine lv_iload hx hb dX8_leftAtWorst_35 (lv_at hl 5 rfl) ?_
          refine roS (As := [Value.ref (qn i), Value.int (nI j), Value.int (nI pp)]) (rest := []) (kX8_pointingHome l dC dI ca (qn i) (kd i) j pp hk (by omega) hp) ⟨hx, hb, hml, hown, htl⟩ (cSg 3 htl wd_357 wd_358 wd_1 wd_359 rfl rfl (by decide +kernel) ⟨Nat.le_of_ble_eq_true rfl, Nat.le_of_ble_eq_true rfl⟩) (va_P.app (hP.sub [] rfl) (nd4 hP i (by omega) 1 2 3 4 rfl rfl rfl rfl)) hK rfl hl.1 rfl (Nat.le_of_ble_eq_true rfl) dX8_leftAtWorst_37 ⟨Nat.zero_le _, Nat.zero_le _⟩ (fun r hr9 => ?_)
          subst hr9
          refine lv_istore (lv' := [(7, .int (nI (pointN (kd i) j pp))), (6, .int (nI j)), (5, .int (nI w)), (0, .ref (q 0)), (1, .ref (qn i)), (2, .long mk), (4, .int (nI pp))]) hx hb dX8_leftAtWorst_40 hl (by decide) rfl (fun ls hl => ?_)
          refine lv_aload_n hx hb dX8_leftAtWorst_42 rfl (lv_at hl 3 rfl) ?_
          refine va_get (D := (dC, dI)) (ci := 8) (v := .ref (q 17)) (C := RX8) (T := TX8) (N := 11) hx hb htl iX8 hown hK hP 0 rfl rfl 7 (by decide) (htl _ wd_118) (fun _ h9 => h9) rfl dX8_leftAtWorst_43 ?_
          refine lv_iload hx hb dX8_leftAtWorst_46 (lv_at hl 0 rfl) ?_
          refine lv_dup2_11 hx hb dX8_leftAtWorst_48 rfl rfl ?_
          have hpt := pointN_lt (kd i) j pp
          have hlt := hlq _ hpt
          refine va_iald hx hb hK hP 5 12 rfl rfl (vp_in_nI (pointN_lt _ _ _) (by decide)) dX8_leftAtWorst_49 ?_
          refine lv_ri (y := nI (lq (pointN (kd i) j pp))) (congrArg (fun zj => nI (lq zj)) (nI_clamp (by omega))) ?_
          refine lv_iconst (v := nI 1) hx hb dX8_leftAtWorst_50 (by decide) ?_
          refine lv_iadd hx hb dX8_leftAtWorst_51 ?_
          refine lv_ri (y := nI ((lq (pointN (kd i) j pp)) + 1)) (nI_add (lq (pointN (kd i) j pp)) 1) ?_
          refine va_iast hx hb hK hP hD hS 5 12 rfl rfl (vp_in_nI (pointN_lt _ _ _) (by decide)) dX8_leftAtWorst_52 (fun H locs hP hD hS => ?_)
          rw [nI_clamp (show pointN (kd i) j pp < 2 ^ 31 by omega)] at hP hD
          rw [show (upd (fun zj => nI (lq zj)) (pointN (kd i) j pp) (nI ((lq (pointN (kd i) j pp)) + 1))) = (fun zj => nI (va_up lq (pointN (kd i) j pp) ((lq (pointN (kd i) j pp)) + 1) zj)) from upd_nI _ _ _] at hP hD
          have hP : va_P (dC, dI) vwCl [(q 0, .inr (8, [.ref (q 1), .ref (q 3), .ref (q 4), .ref (q 9), .ref (q 14), .ref (q 15), .ref (q 16), .ref (q 17), .int (nI nc), .int sr, .int ik])), (qn 0, .inr (kc (kd 0), [])), (qn 1, .inr (kc (kd 1), [])), (qn 2, .inr (kc (kd 2), [])), (qn 3, .inr (kc (kd 3), [])), (q 17, .inl (ca 12, 9, .inl (fun zj => nI (va_up lq (pointN (kd i) j pp) ((lq (pointN (kd i) j pp)) + 1) zj))))] H := hP
          have hD : va_D A [(q 0, .inr (8, [.ref (q 1), .ref (q 3), .ref (q 4), .ref (q 9), .ref (q 14), .ref (q 15), .ref (q 16), .ref (q 17), .int (nI nc), .int sr, .int ik])), (qn 0, .inr (kc (kd 0), [])), (qn 1, .inr (kc (kd 1), [])), (qn 2, .inr (kc (kd 2), [])), (qn 3, .inr (kc (kd 3), [])), (q 17, .inl (ca 12, 9, .inl (fun zj => nI (va_up lq (pointN (kd i) j pp) ((lq (pointN (kd i) j pp)) + 1) zj))))] := hD
          refine lv_iload hx hb dX8_leftAtWorst_53 (lv_at hl 2 rfl) ?_
          refine lv_aload_n hx hb dX8_leftAtWorst_55 rfl (lv_at hl 3 rfl) ?_
          refine va_get (D := (dC, dI)) (ci := 8) (v := .ref (q 17)) (C := RX8) (T := TX8) (N := 11) hx hb htl iX8 hown hK hP 0 rfl rfl 7 (by decide) (htl _ wd_118) (fun _ h9 => h9) rfl dX8_leftAtWorst_56 ?_
          refine lv_iload hx hb dX8_leftAtWorst_59 (lv_at hl 0 rfl) ?_
          refine va_iald hx hb hK hP 5 12 rfl rfl (vp_in_nI (pointN_lt _ _ _) (by decide)) dX8_leftAtWorst_61 ?_
          refine lv_ri (y := nI (va_up lq (pointN (kd i) j pp) ((lq (pointN (kd i) j pp)) + 1) (pointN (kd i) j pp))) (congrArg (fun zj => nI (va_up lq (pointN (kd i) j pp) ((lq (pointN (kd i) j pp)) + 1) zj)) (nI_clamp (by omega))) ?_
          refine lv_ri (y := nI (lq (pointN (kd i) j pp) + 1)) (by unfold va_up; rw [if_pos rfl]) ?_
          refine va_mmax hx hb (by rw [hml]; exact hl.1.symm) hown (htl _ wd_424) (htl _ wd_207) (htl _ wd_9) (htl _ wd_208) (Nat.le_of_ble_eq_true rfl) (Nat.le_of_ble_eq_true rfl) (Nat.zero_le _) (Nat.zero_le _) dX8_leftAtWorst_62 ?_
          refine lv_ri (y := nI (if w < lq (pointN (kd i) j pp) + 1 then lq (pointN (kd i) j pp) + 1 else w)) (nI_max (by omega) (by omega)) ?_
          refine lv_istore (lv' := [(5, .int (nI (if w < lq (pointN (kd i) j pp) + 1 then lq (pointN (kd i) j pp) + 1 else w))), (7, .int (nI (pointN (kd i) j pp))), (6, .int (nI j)), (0, .ref (q 0)), (1, .ref (qn i)), (2, .long mk), (4, .int (nI pp))]) hx hb dX8_leftAtWorst_65 hl (by decide) rfl (fun ls hl => ?_)
          refine lv_iinc (v := nI (j + 1)) (lv' := [(6, .int (nI (j + 1))), (5, .int (nI (if w < lq (pointN (kd i) j pp) + 1 then lq (pointN (kd i) j pp) + 1 else w))), (7, .int (nI (pointN (kd i) j pp))), (0, .ref (q 0)), (1, .ref (qn i)), (2, .long mk), (4, .int (nI pp))]) hx hb dX8_leftAtWorst_67 hl (k := 2) rfl (nI_add j 1) (by decide) rfl (fun ls hl => ?_)
          refine lv_goto (tgt := 14) hx hb dX8_leftAtWorst_70 (by decide) ?_
          have hlq9 : ∀ x, x < 9 → va_up lq (pointN (kd i) j pp) (lq (pointN (kd i) j pp) + 1) x ≤ j + 1 := by
            intro x hx
            unfold va_up
            have h1 := hlq _ (pointN_lt (kd i) j pp)
            have h2 := hlq x hx
            split <;> omega
          exact ih14 (j + 1) (va_up lq (pointN (kd i) j pp) (lq (pointN (kd i) j pp) + 1)) (if w < lq (pointN (kd i) j pp) + 1 then lq (pointN (kd i) j pp) + 1 else w) (by omega) hlq9 (by have := hlq (pointN (kd i) j pp) (pointN_lt _ _ _); split <;> omega) (by rw [← hR]; simp only [lwL, mbit, c_4, decide_true, ↓reduceIte]) _ _ (hP.sub [0, 1, 2, 3, 4, 5] rfl) (hD.sub [0, 1, 2, 3, 4, 5] (by decide) rfl) hS ls (lv_sub hl [0, 1, 3, 4, 5, 6] rfl)
  exact lp14 36 0 (fun _ => 0) 0 (by omega) (fun _ _ => Nat.le_refl 0) (Nat.le_refl 0) rfl _ _ hP hD hS ls (lv_sub hl [0, 1, 2, 3, 4, 5] rfl)
end
section
def lookI (k : Nat) (mk : Int64) : Int32 := if mk = 0 then -1 else blL (fun pp => lwL (fun ho => pointN k ho pp) (mbit mk) 36 0 (fun _ => 0) 0) 36 0 (-1) 37
theorem lwL_le {f : Nat → Nat} {b : Nat → Bool} : ∀ (n j : Nat) (lq : Nat → Nat) (w : Nat), (∀ x, lq x ≤ j) → w ≤ j → lwL f b n j lq w ≤ j + n
  | 0, _, _, _, _, h => h
  | n + 1, j, lq, w, h1, h2 => by
    unfold lwL
    split
    · have h3 := h1 (f j)
      have h := lwL_le (f := f) (b := b) n (j + 1) (va_up lq (f j) (lq (f j) + 1)) (if w < lq (f j) + 1 then lq (f j) + 1 else w) (fun x => by unfold va_up; have := h1 x; split <;> omega) (by split <;> omega)
      omega
    · have h := lwL_le (f := f) (b := b) n (j + 1) lq w (fun x => by have := h1 x; omega) (by omega)
      omega
set_option maxHeartbeats 4000000 in
set_option maxRecDepth 100000 in
theorem kX8_bestLook (l : Launch) (dC : Nat → ClassId) (dI : Nat → Nat → Nat) (ca : Nat → ClassId) (sz : Nat) (i : Nat) (mk : Int64) (q : Nat → Nat) (qn : Nat → Nat) (kd : Nat → Nat) (nc : Nat) (sr : Int32) (ik : Int32) (lq0 : Nat → Nat) (hi : i < 4) (hkd : ∀ j, j < 4 → kd j < 5) : Met l yX8_bestLook (Cond.code yX8_bestLook cX8_bestLook 8 (some .int) :: gT) (rk 4) (EFp (dC, dI) [(q 0, .inr (8, [.ref (q 1), .ref (q 3), .ref (q 4), .ref (q 9), .ref (q 14), .ref (q 15), .ref (q 16), .ref (q 17), .int (nI nc), .int sr, .int ik])), (q 3, .inl (ca 1, 4, .inr (.inr (.inr (.inr (fun zj => some (qn zj))))))), (q 17, .inl (ca 12, 9, .inl (fun zj => nI (lq0 zj)))), (qn 0, .inr (kc (kd 0), [])), (qn 1, .inr (kc (kd 1), [])), (qn 2, .inr (kc (kd 2), [])), (qn 3, .inr (kc (kd 3), []))] (TY ca) sz [Value.ref (q 0), Value.int (nI i), Value.long mk]) (va_Qi (fun (r : Int32) (u : (Nat → Nat)) => match u with | (lq1) => r = lookI (kd i) mk) (EFb (dC, dI) (fun (u : (Nat → Nat)) => match u with | (lq1) => [(q 0, .inr (8, [.ref (q 1), .ref (q 3), .ref (q 4), .ref (q 9), .ref (q 14), .ref (q 15), .ref (q 16), .ref (q 17), .int (nI nc), .int sr, .int ik])), (q 3, .inl (ca 1, 4, .inr (.inr (.inr (.inr (fun zj => some (qn zj))))))), (q 17, .inl (ca 12, 9, .inl (fun zj => nI (lq1 zj)))), (qn 0, .inr (kc (kd 0), [])), (qn 1, .inr (kc (kd 1), [])), (qn 2, .inr (kc (kd 2), [])), (qn 3, .inr (kc (kd 3), []))]) (TY ca) (va_A [(q 0, .inr (8, [.ref (q 1), .ref (q 3), .ref (q 4), .ref (q 9), .ref (q 14), .ref (q 15), .ref (q 16), .ref (q 17), .int (nI nc), .int sr, .int ik])), (q 3, .inl (ca 1, 4, .inr (.inr (.inr (.inr (fun zj => some (qn zj))))))), (q 17, .inl (ca 12, 9, .inl (fun zj => nI (lq0 zj)))), (qn 0, .inr (kc (kd 0), [])), (qn 1, .inr (kc (kd 1), [])), (qn 2, .inr (kc (kd 2), [])), (qn 3, .inr (kc (kd 3), []))] sz)) (va_A [(q 0, .inr (8, [.ref (q 1), .ref (q 3), .ref (q 4), .ref (q 9), .ref (q 14), .ref (q 15), .ref (q 16), .ref (q 17), .int (nI nc), .int sr, .int ik])), (q 3, .inl (ca 1, 4, .inr (.inr (.inr (.inr (fun zj => some (qn zj))))))), (q 17, .inl (ca 12, 9, .inl (fun zj => nI (lq0 zj)))), (qn 0, .inr (kc (kd 0), [])), (qn 1, .inr (kc (kd 1), [])), (qn 2, .inr (kc (kd 2), [])), (qn 3, .inr (kc (kd 3), []))] sz)) 0 0 (va_A [(q 0, .inr (8, [.ref (q 1), .ref (q 3), .ref (q 4), .ref (q 9), .ref (q 14), .ref (q 15), .ref (q 16), .ref (q 17), .int (nI nc), .int sr, .int ik])), (q 3, .inl (ca 1, 4, .inr (.inr (.inr (.inr (fun zj => some (qn zj))))))), (q 17, .inl (ca 12, 9, .inl (fun zj => nI (lq0 zj)))), (qn 0, .inr (kc (kd 0), [])), (qn 1, .inr (kc (kd 1), [])), (qn 2, .inr (kc (kd 2), [])), (qn 3, .inr (kc (kd 3), []))] sz) := by
  refine Met.ofW (cc := cX8_bestLook) (maxL := 8) (ret := (some .int)) (by decide) rfl ?_
  intro p e s m args below meth c s₁ B hml hv
  obtain ⟨rfl, hsz, hP, hK, hD0⟩ := hv
  have hx := B.exec
  have hb := B.bytes
  have hr := B.returns
  have hts := atoms_spec (ws := (Cond.code yX8_bestLook cX8_bestLook 8 (some .int) :: gT)) B.pre
  have htl : ∀ w ∈ gT, w.before _ s = true := fun w h => hts w (List.mem_cons_of_mem _ h)
  have hown : s.vm.findClass RX8 = some m.cls := findClass_of_methodNamed B.named
  have hlocks := B.notSynchronized
  subst hsz
  have hD := hD0.self (sz := s.heap.size)
  generalize hAe : va_A [(q 0, .inr (8, [.ref (q 1), .ref (q 3), .ref (q 4), .ref (q 9), .ref (q 14), .ref (q 15), .ref (q 16), .ref (q 17), .int (nI nc), .int sr, .int ik])), (q 3, .inl (ca 1, 4, .inr (.inr (.inr (.inr (fun zj => some (qn zj))))))), (q 17, .inl (ca 12, 9, .inl (fun zj => nI (lq0 zj)))), (qn 0, .inr (kc (kd 0), [])), (qn 1, .inr (kc (kd 1), [])), (qn 2, .inr (kc (kd 2), [])), (qn 3, .inr (kc (kd 3), []))] s.heap.size = A at hD ⊢
  have hA : ∀ q : Nat, s.heap.size ≤ q → A q := fun q h => by rw [← hAe]; exact Or.inr h
  have hS : va_S A s.heap s.heap [] := va_S.rf
  have hl := lv_entry ([Value.ref (q 0), Value.int (nI i), Value.long mk]) (n := 8) (Nat.le_of_ble_eq_true rfl)
  rw [lg_entry_eq]
  generalize (lg_sl ([Value.ref (q 0), Value.int (nI i), Value.long mk]) ++ List.replicate (8 - (lg_sl ([Value.ref (q 0), Value.int (nI i), Value.long mk])).length) Slot.unset).toArray = ls at hl ⊢
  have hl : lv_has ls 8 [(0, .ref (q 0)), (1, .int (nI i)), (2, .long mk)] := hl
  refine lv_lload_n hx hb dX8_bestLook_0 rfl (lv_at hl 2 rfl) ?_
  refine lv_lconst (v := 0) hx hb dX8_bestLook_1 (by decide) ?_
  refine W.lcmp hx hb dX8_bestLook_2 ?_
  refine lv_if_ne (tgt := 8) hx hb dX8_bestLook_3 (by decide) (fun c_1 => ?_) (fun c_1 => ?_)
  · rw [lgE] at c_1
    refine lv_iconst (v := (-1)) hx hb dX8_bestLook_8 (by decide) ?_
    refine lv_istore (lv' := [(4, .int (-1)), (0, .ref (q 0)), (1, .int (nI i)), (2, .long mk)]) hx hb dX8_bestLook_9 hl (by decide) rfl (fun ls hl => ?_)
    refine lv_bipush (v := nI 37) hx hb dX8_bestLook_11 (by decide) ?_
    refine lv_istore (lv' := [(5, .int (nI 37)), (4, .int (-1)), (0, .ref (q 0)), (1, .int (nI i)), (2, .long mk)]) hx hb dX8_bestLook_13 hl (by decide) rfl (fun ls hl => ?_)
    refine lv_iconst (v := nI 0) hx hb dX8_bestLook_15 (by decide) ?_
    refine lv_istore (lv' := [(6, .int (nI 0)), (5, .int (nI 37)), (4, .int (-1)), (0, .ref (q 0)), (1, .int (nI i)), (2, .long mk)]) hx hb dX8_bestLook_16 hl (by decide) rfl (fun ls hl => ?_)
    have lp18 : ∀ (n : Nat) (j : Nat) (b : Int32) (w : Nat) (lq : Nat → Nat), (j + n = 36) → (w ≤ 37) → (blL (fun pp => lwL (fun ho => pointN (kd i) ho pp) (mbit mk) 36 0 (fun _ => 0) 0) n j b w = blL (fun pp => lwL (fun ho => pointN (kd i) ho pp) (mbit mk) 36 0 (fun _ => 0) 0) 36 0 (-1) 37) → ∀ (H : Heap) (locs : List Loc), va_P (dC, dI) vwCl [(q 0, .inr (8, [.ref (q 1), .ref (q 3), .ref (q 4), .ref (q 9), .ref (q 14), .ref (q 15), .ref (q 16), .ref (q 17), .int (nI nc), .int sr, .int ik])), (q 3, .inl (ca 1, 4, .inr (.inr (.inr (.inr (fun zj => some (qn zj))))))), (q 17, .inl (ca 12, 9, .inl (fun zj => nI (lq zj)))), (qn 0, .inr (kc (kd 0), [])), (qn 1, .inr (kc (kd 1), [])), (qn 2, .inr (kc (kd 2), [])), (qn 3, .inr (kc (kd 3), []))] H → va_D A [(q 0, .inr (8, [.ref (q 1), .ref (q 3), .ref (q 4), .ref (q 9), .ref (q 14), .ref (q 15), .ref (q 16), .ref (q 17), .int (nI nc), .int sr, .int ik])), (q 3, .inl (ca 1, 4, .inr (.inr (.inr (.inr (fun zj => some (qn zj))))))), (q 17, .inl (ca 12, 9, .inl (fun zj => nI (lq zj)))), (qn 0, .inr (kc (kd 0), [])), (qn 1, .inr (kc (kd 1), [])), (qn 2, .inr (kc (kd 2), [])), (qn 3, .inr (kc (kd 3), []))] → va_S A s.heap H locs → ∀ (ls : Array Slot), lv_has ls 8 [(6, .int (nI j)), (5, .int (nI w)), (4, .int b), (0, .ref (q 0)), (1, .int (nI i)), (2, .long mk)] → W p l e (headSpec (Cond.code yX8_bestLook cX8_bestLook 8 (some .int) :: gT) (rk 4)).room s m ([Value.ref (q 0), Value.int (nI i), Value.long mk] : List Value).toArray below meth c H locs 0 0 (MQ below (va_Qi (fun (r : Int32) (u : (Nat → Nat)) => match u with | (lq1) => r = lookI (kd i) mk) (EFb (dC, dI) (fun (u : (Nat → Nat)) => match u with | (lq1) => [(q 0, .inr (8, [.ref (q 1), .ref (q 3), .ref (q 4), .ref (q 9), .ref (q 14), .ref (q 15), .ref (q 16), .ref (q 17), .int (nI nc), .int sr, .int ik])), (q 3, .inl (ca 1, 4, .inr (.inr (.inr (.inr (fun zj => some (qn zj))))))), (q 17, .inl (ca 12, 9, .inl (fun zj => nI (lq1 zj)))), (qn 0, .inr (kc (kd 0), [])), (qn 1, .inr (kc (kd 1), [])), (qn 2, .inr (kc (kd 2), [])), (qn 3, .inr (kc (kd 3), []))]) (TY ca) A) A) ([Value.ref (q 0), Value.int (nI i), Value.long mk] : List Value).toArray s 0 0 A) (F0 m 18 ls []) := by
      clear hS hP hD
      clear hl
      intro n
      induction n with
      | zero =>
        intro j b w lq hj hw9 hR H locs hP hD hS ls hl
        refine lv_iload hx hb dX8_bestLook_18 (lv_at hl 0 rfl) ?_
        refine lv_bipush (v := nI 36) hx hb dX8_bestLook_20 (by decide) ?_
        refine lv_icmp_ge (tgt := 61) hx hb dX8_bestLook_22 (by decide) (fun c_2 => ?_) (fun c_2 => ?_)
        · refine lv_iload hx hb dX8_bestLook_61 (lv_at hl 2 rfl) ?_
          have hP9 := hP.sub (ws' := [(q 0, .inr (8, [.ref (q 1), .ref (q 3), .ref (q 4), .ref (q 9), .ref (q 14), .ref (q 15), .ref (q 16), .ref (q 17), .int (nI nc), .int sr, .int ik])), (q 3, .inl (ca 1, 4, .inr (.inr (.inr (.inr (fun zj => some (qn zj))))))), (q 17, .inl (ca 12, 9, .inl (fun zj => nI (lq zj)))), (qn 0, .inr (kc (kd 0), [])), (qn 1, .inr (kc (kd 1), [])), (qn 2, .inr (kc (kd 2), [])), (qn 3, .inr (kc (kd 3), []))]) [0, 1, 2, 3, 4, 5, 6] rfl
          have hD9 := hD.sub (ws' := [(q 0, .inr (8, [.ref (q 1), .ref (q 3), .ref (q 4), .ref (q 9), .ref (q 14), .ref (q 15), .ref (q 16), .ref (q 17), .int (nI nc), .int sr, .int ik])), (q 3, .inl (ca 1, 4, .inr (.inr (.inr (.inr (fun zj => some (qn zj))))))), (q 17, .inl (ca 12, 9, .inl (fun zj => nI (lq zj)))), (qn 0, .inr (kc (kd 0), [])), (qn 1, .inr (kc (kd 1), [])), (qn 2, .inr (kc (kd 2), [])), (qn 3, .inr (kc (kd 3), []))]) [0, 1, 2, 3, 4, 5, 6] (by decide) rfl
          exact W.iret (v := b) hx hb hr (fun t ht hW => ⟨⟨b, lq, rfl, by show _ = _; unfold lookI; rw [if_neg c_1, ← hR]; rfl, by rw [ht]; exact hP9, va_K.moved hW.alike hK, hD9⟩, hS.F ht⟩) hS.2.2 dX8_bestLook_63
        · exact absurd (nI_le (by omega) (by omega)) c_2
      | succ n ih18 =>
        intro j b w lq hj hw9 hR H locs hP hD hS ls hl
        refine lv_iload hx hb dX8_bestLook_18 (lv_at hl 0 rfl) ?_
        refine lv_bipush (v := nI 36) hx hb dX8_bestLook_20 (by decide) ?_
        refine lv_icmp_ge (tgt := 61) hx hb dX8_bestLook_22 (by decide) (fun c_3 => ?_) (fun c_3 => ?_)
        · exact absurd c_3 (nI_ge (by omega) (by omega))
        · refine lv_aload_n hx hb dX8_bestLook_25 rfl (lv_at hl 3 rfl) ?_
          refine lv_aload_n hx hb dX8_bestLook_26 rfl (lv_at hl 3 rfl) ?_
          refine va_get (D := (dC, dI)) (ci := 8) (v := .ref (q 3)) (C := RX8) (T := TX8) (N := 11) hx hb htl iX8 hown hK hP 0 rfl rfl 1 (by decide) (htl _ wd_112) (fun _ h9 => h9) rfl dX8_bestLook_27 ?_
          refine lv_iload_n hx hb dX8_bestLook_30 rfl (lv_at hl 4 rfl) ?_
          refine va_aldq hx hb hK hP 1 1 rfl rfl (vp_in_nI (by omega) (by decide)) dX8_bestLook_31 ?_
          refine lv_rv (y := .ref (qn i)) (congrArg (fun zj => va_rf (some (qn zj))) (nI_clamp (by omega))) ?_
          refine lv_lload_n hx hb dX8_bestLook_32 rfl (lv_at hl 5 rfl) ?_
          refine lv_iload hx hb dX8_bestLook_33 (lv_at hl 0 rfl) ?_
          refine efV (As := [Value.ref (qn i), Value.long mk, Value.int (nI j)]) (rest := []) (wr := [(q 3, .inl (ca 1, 4, .inr (.inr (.inr (.inr (fun zj => some (qn zj)))))))]) (kX8_leftAtWorst l dC dI ca _ i mk j q qn kd nc sr ik lq hi (hkd i hi) (by omega)) ⟨hx, hb, hml, hown, htl⟩ (cVg (C := RX8) 3 htl wd_420 wd_422 wp_9 wd_1 wd_423 rfl rfl (by decide +kernel) ⟨Nat.le_of_ble_eq_true rfl, Nat.le_of_ble_eq_true rfl⟩) hP hD hS hA hK [0, 2, 3, 4, 5, 6] [1] rfl rfl (by decide) (by decide) (by decide) (va_recv hK hP (ci := 8) (q0 := 0) rfl rfl) rfl hl.1 rfl (Nat.le_of_ble_eq_true rfl) dX8_bestLook_35 ⟨Nat.zero_le _, Nat.zero_le _⟩ (fun r_5 u H locs hw_35 hP hD hS => ?_)
          obtain ⟨lq1_4, rfl⟩ : ∃ z, z = u := ⟨_, rfl⟩
          have hP : va_P (dC, dI) vwCl [(q 3, .inl (ca 1, 4, .inr (.inr (.inr (.inr (fun zj => some (qn zj))))))), (q 0, .inr (8, [.ref (q 1), .ref (q 3), .ref (q 4), .ref (q 9), .ref (q 14), .ref (q 15), .ref (q 16), .ref (q 17), .int (nI nc), .int sr, .int ik])), (q 17, .inl (ca 12, 9, .inl (fun zj => nI (lq1_4 zj)))), (qn 0, .inr (kc (kd 0), [])), (qn 1, .inr (kc (kd 1), [])), (qn 2, .inr (kc (kd 2), [])), (qn 3, .inr (kc (kd 3), []))] H := hP
          have hD : va_D A [(q 3, .inl (ca 1, 4, .inr (.inr (.inr (.inr (fun zj => some (qn zj))))))), (q 0, .inr (8, [.ref (q 1), .ref (q 3), .ref (q 4), .ref (q 9), .ref (q 14), .ref (q 15), .ref (q 16), .ref (q 17), .int (nI nc), .int sr, .int ik])), (q 17, .inl (ca 12, 9, .inl (fun zj => nI (lq1_4 zj)))), (qn 0, .inr (kc (kd 0), [])), (qn 1, .inr (kc (kd 1), [])), (qn 2, .inr (kc (kd 2), [])), (qn 3, .inr (kc (kd 3), []))] := hD
          have hw_35 : r_5 = nI (lwL (fun ho => pointN (kd i) ho j) (mbit mk) 36 0 (fun _ => 0) 0) := hw_35
          subst hw_35
          refine lv_istore (lv' := [(7, .int (nI (lwL (fun ho => pointN (kd i) ho j) (mbit mk) 36 0 (fun _ => 0) 0))), (6, .int (nI j)), (5, .int (nI w)), (4, .int b), (0, .ref (q 0)), (1, .int (nI i)), (2, .long mk)]) hx hb dX8_bestLook_38 hl (by decide) rfl (fun ls hl => ?_)
          have hwj := lwL_le (f := fun ho => pointN (kd i) ho j) (b := mbit mk) 36 0 (fun _ => 0) 0 (fun _ => Nat.le_refl 0) (Nat.le_refl 0)
          refine lv_iload hx hb dX8_bestLook_40 (lv_at hl 0 rfl) ?_
          refine lv_iload hx hb dX8_bestLook_42 (lv_at hl 2 rfl) ?_
          refine lv_icmp_ge (tgt := 55) hx hb dX8_bestLook_44 (by decide) (fun c_6 => ?_) (fun c_6 => ?_)
          · rw [nI_leI (by omega) (by omega)] at c_6
            refine lv_iinc (v := nI (j + 1)) (lv' := [(6, .int (nI (j + 1))), (7, .int (nI (lwL (fun ho => pointN (kd i) ho j) (mbit mk) 36 0 (fun _ => 0) 0))), (5, .int (nI w)), (4, .int b), (0, .ref (q 0)), (1, .int (nI i)), (2, .long mk)]) hx hb dX8_bestLook_55 hl (k := 1) rfl (nI_add j 1) (by decide) rfl (fun ls hl => ?_)
            refine lv_goto (tgt := 18) hx hb dX8_bestLook_58 (by decide) ?_
            exact ih18 (j + 1) b w lq1_4 (by omega) hw9 (by rw [← hR]; simp only [blL]; rw [if_neg (by omega)]) _ _ (hP.sub [1, 0, 2, 3, 4, 5, 6] rfl) (hD.sub [1, 0, 2, 3, 4, 5, 6] (by decide) rfl) hS ls (lv_sub hl [0, 2, 3, 4, 5, 6] rfl)
          · rw [nI_leI (by omega) (by omega)] at c_6
            refine lv_iload hx hb dX8_bestLook_47 (lv_at hl 0 rfl) ?_
            refine lv_istore (lv' := [(5, .int (nI (lwL (fun ho => pointN (kd i) ho j) (mbit mk) 36 0 (fun _ => 0) 0))), (7, .int (nI (lwL (fun ho => pointN (kd i) ho j) (mbit mk) 36 0 (fun _ => 0) 0))), (6, .int (nI j)), (4, .int b), (0, .ref (q 0)), (1, .int (nI i)), (2, .long mk)]) hx hb dX8_bestLook_49 hl (by decide) rfl (fun ls hl => ?_)
            refine lv_iload hx hb dX8_bestLook_51 (lv_at hl 2 rfl) ?_
            refine lv_istore (lv' := [(4, .int (nI j)), (5, .int (nI (lwL (fun ho => pointN (kd i) ho j) (mbit mk) 36 0 (fun _ => 0) 0))), (7, .int (nI (lwL (fun ho => pointN (kd i) ho j) (mbit mk) 36 0 (fun _ => 0) 0))), (6, .int (nI j)), (0, .ref (q 0)), (1, .int (nI i)), (2, .long mk)]) hx hb dX8_bestLook_53 hl (by decide) rfl (fun ls hl => ?_)
            refine lv_iinc (v := nI (j + 1)) (lv' := [(6, .int (nI (j + 1))), (4, .int (nI j)), (5, .int (nI (lwL (fun ho => pointN (kd i) ho j) (mbit mk) 36 0 (fun _ => 0) 0))), (7, .int (nI (lwL (fun ho => pointN (kd i) ho j) (mbit mk) 36 0 (fun _ => 0) 0))), (0, .ref (q 0)), (1, .int (nI i)), (2, .long mk)]) hx hb dX8_bestLook_55 hl (k := 3) rfl (nI_add j 1) (by decide) rfl (fun ls hl => ?_)
            refine lv_goto (tgt := 18) hx hb dX8_bestLook_58 (by decide) ?_
            exact ih18 (j + 1) (nI j) ((fun pp => lwL (fun ho => pointN (kd i) ho pp) (mbit mk) 36 0 (fun _ => 0) 0) j) lq1_4 (by omega) (Nat.le_trans hwj (Nat.le_of_ble_eq_true rfl)) (by rw [← hR]; simp only [blL]; rw [if_pos (by omega)]) _ _ (hP.sub [1, 0, 2, 3, 4, 5, 6] rfl) (hD.sub [1, 0, 2, 3, 4, 5, 6] (by decide) rfl) hS ls (lv_sub hl [0, 2, 1, 4, 5, 6] rfl)
    exact lp18 36 0 (-1) 37 lq0 (by omega) (Nat.le_refl 37) rfl _ _ hP hD hS ls (lv_sub hl [0, 1, 2, 3, 4, 5] rfl)
  · rw [lgE] at c_1
    refine lv_iconst (v := (-1)) hx hb dX8_bestLook_6 (by decide) ?_
    have hP9 := hP.sub (ws' := [(q 0, .inr (8, [.ref (q 1), .ref (q 3), .ref (q 4), .ref (q 9), .ref (q 14), .ref (q 15), .ref (q 16), .ref (q 17), .int (nI nc), .int sr, .int ik])), (q 3, .inl (ca 1, 4, .inr (.inr (.inr (.inr (fun zj => some (qn zj))))))), (q 17, .inl (ca 12, 9, .inl (fun zj => nI (lq0 zj)))), (qn 0, .inr (kc (kd 0), [])), (qn 1, .inr (kc (kd 1), [])), (qn 2, .inr (kc (kd 2), [])), (qn 3, .inr (kc (kd 3), []))]) [0, 1, 2, 3, 4, 5, 6] rfl
    have hD9 := hD.sub (ws' := [(q 0, .inr (8, [.ref (q 1), .ref (q 3), .ref (q 4), .ref (q 9), .ref (q 14), .ref (q 15), .ref (q 16), .ref (q 17), .int (nI nc), .int sr, .int ik])), (q 3, .inl (ca 1, 4, .inr (.inr (.inr (.inr (fun zj => some (qn zj))))))), (q 17, .inl (ca 12, 9, .inl (fun zj => nI (lq0 zj)))), (qn 0, .inr (kc (kd 0), [])), (qn 1, .inr (kc (kd 1), [])), (qn 2, .inr (kc (kd 2), [])), (qn 3, .inr (kc (kd 3), []))]) [0, 1, 2, 3, 4, 5, 6] (by decide) rfl
    exact W.iret (v := (-1)) hx hb hr (fun t ht hW => ⟨⟨(-1), lq0, rfl, by show _ = _; unfold lookI; rw [if_pos c_1], by rw [ht]; exact hP9, va_K.moved hW.alike hK, hD9⟩, hS.F ht⟩) hS.2.2 dX8_bestLook_7
/-- the search outward: over the nine directions of a place, over the places that wait -/
def bfI (ib : Nat → Bool) (pl : Nat) : Nat → Nat → (Nat → Int32) → (Nat → Nat) → Nat → (Nat → Int32) × (Nat → Nat) × Nat
  | 0, _, sa, wq, en => (sa, wq, en)
  | n + 1, d, sa, wq, en => if sa (stepN ib pl d) = -1 ∧ en < 36 then bfI ib pl n (d + 1) (upd sa (stepN ib pl d) (sa pl + nI 1)) (va_up wq en (stepN ib pl d)) (en + 1) else bfI ib pl n (d + 1) sa wq en
def bfO (ib : Nat → Bool) : Nat → Nat → (Nat → Int32) → (Nat → Nat) → Nat → Nat → Int32
  | 0, _, sa, _, _ => sa
  | n + 1, i, sa, wq, en => if i < en then bfO ib n (i + 1) (bfI ib (wq i) 9 0 sa wq en).1 (bfI ib (wq i) 9 0 sa wq en).2.1 (bfI ib (wq i) 9 0 sa wq en).2.2 else sa
set_option maxHeartbeats 4000000 in
set_option maxRecDepth 100000 in
theorem kX8_fewestSteps (l : Launch) (dC : Nat → ClassId) (dI : Nat → Nat → Nat) (ca : Nat → ClassId) (sz : Nat) (ho : Nat) (q : Nat → Nat) (nc : Nat) (sr : Int32) (ik : Int32) (isl : Int64) (br : Nat) (st : Int32) (so : Int32) (se : Nat) (sa : Nat → Int32) (wq0 : Nat → Nat) (hho : ho < 36) (hbr : br < 36) : Met l yX8_fewestSteps (Cond.code yX8_fewestSteps cX8_fewestSteps 7 (some .int) :: gT) (rk 3) (EFp (dC, dI) [(q 0, .inr (8, [.ref (q 1), .ref (q 3), .ref (q 4), .ref (q 9), .ref (q 14), .ref (q 15), .ref (q 16), .ref (q 17), .int (nI nc), .int sr, .int ik])), (q 4, .inr (7, [.ref (q 5), .ref (q 6), .ref (q 7), .ref (q 8), .long isl, .int (nI br), .int st, .int so, .int (nI se)])), (q 15, .inl (ca 10, 36, .inl (sa))), (q 16, .inl (ca 11, 36, .inl (fun zj => nI (wq0 zj))))] (TY ca) sz [Value.ref (q 0), Value.int (nI ho)]) (va_Qi (fun (r : Int32) (u : (Nat → Int32) × (Nat → Nat)) => match u with | (sa1, wq1) => r = bfO (xb isl) 36 0 (upd (fun _ => (-1)) br (nI 0)) (va_up wq0 0 br) 1 ho) (EFb (dC, dI) (fun (u : (Nat → Int32) × (Nat → Nat)) => match u with | (sa1, wq1) => [(q 0, .inr (8, [.ref (q 1), .ref (q 3), .ref (q 4), .ref (q 9), .ref (q 14), .ref (q 15), .ref (q 16), .ref (q 17), .int (nI nc), .int sr, .int ik])), (q 4, .inr (7, [.ref (q 5), .ref (q 6), .ref (q 7), .ref (q 8), .long isl, .int (nI br), .int st, .int so, .int (nI se)])), (q 15, .inl (ca 10, 36, .inl (sa1))), (q 16, .inl (ca 11, 36, .inl (fun zj => nI (wq1 zj))))]) (TY ca) (va_A [(q 0, .inr (8, [.ref (q 1), .ref (q 3), .ref (q 4), .ref (q 9), .ref (q 14), .ref (q 15), .ref (q 16), .ref (q 17), .int (nI nc), .int sr, .int ik])), (q 4, .inr (7, [.ref (q 5), .ref (q 6), .ref (q 7), .ref (q 8), .long isl, .int (nI br), .int st, .int so, .int (nI se)])), (q 15, .inl (ca 10, 36, .inl (sa))), (q 16, .inl (ca 11, 36, .inl (fun zj => nI (wq0 zj))))] sz)) (va_A [(q 0, .inr (8, [.ref (q 1), .ref (q 3), .ref (q 4), .ref (q 9), .ref (q 14), .ref (q 15), .ref (q 16), .ref (q 17), .int (nI nc), .int sr, .int ik])), (q 4, .inr (7, [.ref (q 5), .ref (q 6), .ref (q 7), .ref (q 8), .long isl, .int (nI br), .int st, .int so, .int (nI se)])), (q 15, .inl (ca 10, 36, .inl (sa))), (q 16, .inl (ca 11, 36, .inl (fun zj => nI (wq0 zj))))] sz)) 0 0 (va_A [(q 0, .inr (8, [.ref (q 1), .ref (q 3), .ref (q 4), .ref (q 9), .ref (q 14), .ref (q 15), .ref (q 16), .ref (q 17), .int (nI nc), .int sr, .int ik])), (q 4, .inr (7, [.ref (q 5), .ref (q 6), .ref (q 7), .ref (q 8), .long isl, .int (nI br), .int st, .int so, .int (nI se)])), (q 15, .inl (ca 10, 36, .inl (sa))), (q 16, .inl (ca 11, 36, .inl (fun zj => nI (wq0 zj))))] sz) := by
  refine Met.ofW (cc := cX8_fewestSteps) (maxL := 7) (ret := (some .int)) (by decide) rfl ?_
  intro p e s m args below meth c s₁ B hml hv
  obtain ⟨rfl, hsz, hP, hK, hD0⟩ := hv
  have hx := B.exec
  have hb := B.bytes
  have hr := B.returns
  have hts := atoms_spec (ws := (Cond.code yX8_fewestSteps cX8_fewestSteps 7 (some .int) :: gT)) B.pre
  have htl : ∀ w ∈ gT, w.before _ s = true := fun w h => hts w (List.mem_cons_of_mem _ h)
  have hown : s.vm.findClass RX8 = some m.cls := findClass_of_methodNamed B.named
  have hlocks := B.notSynchronized
  subst hsz
  have hD := hD0.self (sz := s.heap.size)
  generalize hAe : va_A [(q 0, .inr (8, [.ref (q 1), .ref (q 3), .ref (q 4), .ref (q 9), .ref (q 14), .ref (q 15), .ref (q 16), .ref (q 17), .int (nI nc), .int sr, .int ik])), (q 4, .inr (7, [.ref (q 5), .ref (q 6), .ref (q 7), .ref (q 8), .long isl, .int (nI br), .int st, .int so, .int (nI se)])), (q 15, .inl (ca 10, 36, .inl (sa))), (q 16, .inl (ca 11, 36, .inl (fun zj => nI (wq0 zj))))] s.heap.size = A at hD ⊢
  have hA : ∀ q : Nat, s.heap.size ≤ q → A q := fun q h => by rw [← hAe]; exact Or.inr h
  have hS : va_S A s.heap s.heap [] := va_S.rf
  have hl := lv_entry ([Value.ref (q 0), Value.int (nI ho)]) (n := 7) (Nat.le_of_ble_eq_true rfl)
  rw [lg_entry_eq]
  generalize (lg_sl ([Value.ref (q 0), Value.int (nI ho)]) ++ List.replicate (7 - (lg_sl ([Value.ref (q 0), Value.int (nI ho)])).length) Slot.unset).toArray = ls at hl ⊢
  have hl : lv_has ls 7 [(0, .ref (q 0)), (1, .int (nI ho))] := hl
  refine lv_aload_n hx hb dX8_fewestSteps_0 rfl (lv_at hl 0 rfl) ?_
  refine va_get (D := (dC, dI)) (ci := 8) (v := .ref (q 15)) (C := RX8) (T := TX8) (N := 11) hx hb htl iX8 hown hK hP 0 rfl rfl 5 (by decide) (htl _ wd_116) (fun _ h9 => h9) rfl dX8_fewestSteps_1 ?_
  refine lv_iconst (v := (-1)) hx hb dX8_fewestSteps_4 (by decide) ?_
  refine efSv (As := [Value.ref (q 15), Value.int (-1)]) (rest := []) (wr := [(q 0, .inr (8, [.ref (q 1), .ref (q 3), .ref (q 4), .ref (q 9), .ref (q 14), .ref (q 15), .ref (q 16), .ref (q 17), .int (nI nc), .int sr, .int ik])), (q 4, .inr (7, [.ref (q 5), .ref (q 6), .ref (q 7), .ref (q 8), .long isl, .int (nI br), .int st, .int so, .int (nI se)])), (q 16, .inl (ca 11, 36, .inl (fun zj => nI (wq0 zj))))]) (kfill_sa l dC dI ca _ (-1) q sa ) ⟨hx, hb, hml, hown, htl⟩ (cSg 2 htl wd_396 wd_397 wd_17 wd_398 rfl rfl (by decide +kernel) ⟨Nat.le_of_ble_eq_true rfl, Nat.le_of_ble_eq_true rfl⟩) hP hD hS hA hK [2] [0, 1, 3] rfl rfl (by decide) (by decide) (by decide) rfl hl.1 rfl (Nat.le_of_ble_eq_true rfl) dX8_fewestSteps_5 ⟨Nat.zero_le _, Nat.zero_le _⟩ (fun u H locs hw_5 hP hD hS => ?_)
  have hP : va_P (dC, dI) vwCl [(q 0, .inr (8, [.ref (q 1), .ref (q 3), .ref (q 4), .ref (q 9), .ref (q 14), .ref (q 15), .ref (q 16), .ref (q 17), .int (nI nc), .int sr, .int ik])), (q 4, .inr (7, [.ref (q 5), .ref (q 6), .ref (q 7), .ref (q 8), .long isl, .int (nI br), .int st, .int so, .int (nI se)])), (q 16, .inl (ca 11, 36, .inl (fun zj => nI (wq0 zj)))), (q 15, .inl (ca 10, 36, .inl (fun _ => (-1))))] H := hP
  have hD : va_D A [(q 0, .inr (8, [.ref (q 1), .ref (q 3), .ref (q 4), .ref (q 9), .ref (q 14), .ref (q 15), .ref (q 16), .ref (q 17), .int (nI nc), .int sr, .int ik])), (q 4, .inr (7, [.ref (q 5), .ref (q 6), .ref (q 7), .ref (q 8), .long isl, .int (nI br), .int st, .int so, .int (nI se)])), (q 16, .inl (ca 11, 36, .inl (fun zj => nI (wq0 zj)))), (q 15, .inl (ca 10, 36, .inl (fun _ => (-1))))] := hD
  refine lv_aload_n hx hb dX8_fewestSteps_8 rfl (lv_at hl 0 rfl) ?_
  refine va_get (D := (dC, dI)) (ci := 8) (v := .ref (q 15)) (C := RX8) (T := TX8) (N := 11) hx hb htl iX8 hown hK hP 0 rfl rfl 5 (by decide) (htl _ wd_116) (fun _ h9 => h9) rfl dX8_fewestSteps_9 ?_
  refine lv_aload_n hx hb dX8_fewestSteps_12 rfl (lv_at hl 0 rfl) ?_
  refine va_get (D := (dC, dI)) (ci := 8) (v := .ref (q 4)) (C := RX8) (T := TX8) (N := 11) hx hb htl iX8 hown hK hP 0 rfl rfl 2 (by decide) (htl _ wd_113) (fun _ h9 => h9) rfl dX8_fewestSteps_13 ?_
  refine va_get (D := (dC, dI)) (ci := 7) (v := .int (nI br)) (C := RX7) (T := TX7) (N := 9) hx hb htl iX7 hown hK hP 1 rfl rfl 5 (by decide) (htl _ wd_63) (fun _ h9 => h9) rfl dX8_fewestSteps_16 ?_
  refine lv_iconst (v := nI 0) hx hb dX8_fewestSteps_19 (by decide) ?_
  refine va_iast hx hb hK hP hD hS 3 10 rfl rfl (vp_in_nI (by omega) (by decide)) dX8_fewestSteps_20 (fun H locs hP hD hS => ?_)
  rw [nI_clamp (show br < 2 ^ 31 by omega)] at hP hD
  have hP : va_P (dC, dI) vwCl [(q 0, .inr (8, [.ref (q 1), .ref (q 3), .ref (q 4), .ref (q 9), .ref (q 14), .ref (q 15), .ref (q 16), .ref (q 17), .int (nI nc), .int sr, .int ik])), (q 4, .inr (7, [.ref (q 5), .ref (q 6), .ref (q 7), .ref (q 8), .long isl, .int (nI br), .int st, .int so, .int (nI se)])), (q 16, .inl (ca 11, 36, .inl (fun zj => nI (wq0 zj)))), (q 15, .inl (ca 10, 36, .inl (upd (fun _ => (-1)) br (nI 0))))] H := hP
  have hD : va_D A [(q 0, .inr (8, [.ref (q 1), .ref (q 3), .ref (q 4), .ref (q 9), .ref (q 14), .ref (q 15), .ref (q 16), .ref (q 17), .int (nI nc), .int sr, .int ik])), (q 4, .inr (7, [.ref (q 5), .ref (q 6), .ref (q 7), .ref (q 8), .long isl, .int (nI br), .int st, .int so, .int (nI se)])), (q 16, .inl (ca 11, 36, .inl (fun zj => nI (wq0 zj)))), (q 15, .inl (ca 10, 36, .inl (upd (fun _ => (-1)) br (nI 0))))] := hD
  refine lv_aload_n hx hb dX8_fewestSteps_21 rfl (lv_at hl 0 rfl) ?_
  refine va_get (D := (dC, dI)) (ci := 8) (v := .ref (q 16)) (C := RX8) (T := TX8) (N := 11) hx hb htl iX8 hown hK hP 0 rfl rfl 6 (by decide) (htl _ wd_117) (fun _ h9 => h9) rfl dX8_fewestSteps_22 ?_
  refine lv_iconst (v := nI 0) hx hb dX8_fewestSteps_25 (by decide) ?_
  refine lv_aload_n hx hb dX8_fewestSteps_26 rfl (lv_at hl 0 rfl) ?_
  refine va_get (D := (dC, dI)) (ci := 8) (v := .ref (q 4)) (C := RX8) (T := TX8) (N := 11) hx hb htl iX8 hown hK hP 0 rfl rfl 2 (by decide) (htl _ wd_113) (fun _ h9 => h9) rfl dX8_fewestSteps_27 ?_
  refine va_get (D := (dC, dI)) (ci := 7) (v := .int (nI br)) (C := RX7) (T := TX7) (N := 9) hx hb htl iX7 hown hK hP 1 rfl rfl 5 (by decide) (htl _ wd_63) (fun _ h9 => h9) rfl dX8_fewestSteps_30 ?_
  refine va_iast hx hb hK hP hD hS 2 11 rfl rfl (vp_in_nI (by omega) (by decide)) dX8_fewestSteps_33 (fun H locs hP hD hS => ?_)
  rw [nI_clamp (show 0 < 2 ^ 31 by omega)] at hP hD
  rw [show (upd (fun zj => nI (wq0 zj)) 0 (nI br)) = (fun zj => nI (va_up wq0 0 br zj)) from upd_nI _ _ _] at hP hD
  have hP : va_P (dC, dI) vwCl [(q 0, .inr (8, [.ref (q 1), .ref (q 3), .ref (q 4), .ref (q 9), .ref (q 14), .ref (q 15), .ref (q 16), .ref (q 17), .int (nI nc), .int sr, .int ik])), (q 4, .inr (7, [.ref (q 5), .ref (q 6), .ref (q 7), .ref (q 8), .long isl, .int (nI br), .int st, .int so, .int (nI se)])), (q 16, .inl (ca 11, 36, .inl (fun zj => nI (va_up wq0 0 br zj)))), (q 15, .inl (ca 10, 36, .inl (upd (fun _ => (-1)) br (nI 0))))] H := hP
  have hD : va_D A [(q 0, .inr (8, [.ref (q 1), .ref (q 3), .ref (q 4), .ref (q 9), .ref (q 14), .ref (q 15), .ref (q 16), .ref (q 17), .int (nI nc), .int sr, .int ik])), (q 4, .inr (7, [.ref (q 5), .ref (q 6), .ref (q 7), .ref (q 8), .long isl, .int (nI br), .int st, .int so, .int (nI se)])), (q 16, .inl (ca 11, 36, .inl (fun zj => nI (va_up wq0 0 br zj)))), (q 15, .inl (ca 10, 36, .inl (upd (fun _ => (-1)) br (nI 0))))] := hD
  refine lv_iconst (v := nI 1) hx hb dX8_fewestSteps_34 (by decide) ?_
  refine lv_istore_n (lv' := [(2, .int (nI 1)), (0, .ref (q 0)), (1, .int (nI ho))]) hx hb dX8_fewestSteps_35 rfl hl (by decide) rfl (fun ls hl => ?_)
  refine lv_iconst (v := nI 0) hx hb dX8_fewestSteps_36 (by decide) ?_
  refine lv_istore_n (lv' := [(3, .int (nI 0)), (2, .int (nI 1)), (0, .ref (q 0)), (1, .int (nI ho))]) hx hb dX8_fewestSteps_37 rfl hl (by decide) rfl (fun ls hl => ?_)
  have lp38 : ∀ (n : Nat) (ii : Nat) (en : Nat) (sA : Nat → Int32) (wQ : Nat → Nat), (ii + n = 36) → (en ≤ 36) → (∀ x, x < en → wQ x < 36) → (bfO (xb isl) n ii sA wQ en = bfO (xb isl) 36 0 (upd (fun _ => (-1)) br (nI 0)) (va_up wq0 0 br) 1) → ∀ (H : Heap) (locs : List Loc), va_P (dC, dI) vwCl [(q 0, .inr (8, [.ref (q 1), .ref (q 3), .ref (q 4), .ref (q 9), .ref (q 14), .ref (q 15), .ref (q 16), .ref (q 17), .int (nI nc), .int sr, .int ik])), (q 4, .inr (7, [.ref (q 5), .ref (q 6), .ref (q 7), .ref (q 8), .long isl, .int (nI br), .int st, .int so, .int (nI se)])), (q 16, .inl (ca 11, 36, .inl (fun zj => nI (wQ zj)))), (q 15, .inl (ca 10, 36, .inl (sA)))] H → va_D A [(q 0, .inr (8, [.ref (q 1), .ref (q 3), .ref (q 4), .ref (q 9), .ref (q 14), .ref (q 15), .ref (q 16), .ref (q 17), .int (nI nc), .int sr, .int ik])), (q 4, .inr (7, [.ref (q 5), .ref (q 6), .ref (q 7), .ref (q 8), .long isl, .int (nI br), .int st, .int so, .int (nI se)])), (q 16, .inl (ca 11, 36, .inl (fun zj => nI (wQ zj)))), (q 15, .inl (ca 10, 36, .inl (sA)))] → va_S A s.heap H locs → ∀ (ls : Array Slot), lv_has ls 7 [(3, .int (nI ii)), (2, .int (nI en)), (0, .ref (q 0)), (1, .int (nI ho))] → W p l e (headSpec (Cond.code yX8_fewestSteps cX8_fewestSteps 7 (some .int) :: gT) (rk 3)).room s m ([Value.ref (q 0), Value.int (nI ho)] : List Value).toArray below meth c H locs 0 0 (MQ below (va_Qi (fun (r : Int32) (u : (Nat → Int32) × (Nat → Nat)) => match u with | (sa1, wq1) => r = bfO (xb isl) 36 0 (upd (fun _ => (-1)) br (nI 0)) (va_up wq0 0 br) 1 ho) (EFb (dC, dI) (fun (u : (Nat → Int32) × (Nat → Nat)) => match u with | (sa1, wq1) => [(q 0, .inr (8, [.ref (q 1), .ref (q 3), .ref (q 4), .ref (q 9), .ref (q 14), .ref (q 15), .ref (q 16), .ref (q 17), .int (nI nc), .int sr, .int ik])), (q 4, .inr (7, [.ref (q 5), .ref (q 6), .ref (q 7), .ref (q 8), .long isl, .int (nI br), .int st, .int so, .int (nI se)])), (q 15, .inl (ca 10, 36, .inl (sa1))), (q 16, .inl (ca 11, 36, .inl (fun zj => nI (wq1 zj))))]) (TY ca) A) A) ([Value.ref (q 0), Value.int (nI ho)] : List Value).toArray s 0 0 A) (F0 m 38 ls []) := by
    clear hS hP hD
    clear hl
    intro n
    induction n with
    | zero =>
      intro ii en sA wQ hii hen hwq hR H locs hP hD hS ls hl
      refine lv_iload_n hx hb dX8_fewestSteps_38 rfl (lv_at hl 0 rfl) ?_
      refine lv_iload_n hx hb dX8_fewestSteps_39 rfl (lv_at hl 1 rfl) ?_
      refine lv_icmp_ge (tgt := 136) hx hb dX8_fewestSteps_40 (by decide) (fun c_2 => ?_) (fun c_2 => ?_)
      · rw [nI_leI (by omega) (by omega)] at c_2
        refine lv_aload_n hx hb dX8_fewestSteps_136 rfl (lv_at hl 2 rfl) ?_
        refine va_get (D := (dC, dI)) (ci := 8) (v := .ref (q 15)) (C := RX8) (T := TX8) (N := 11) hx hb htl iX8 hown hK hP 0 rfl rfl 5 (by decide) (htl _ wd_116) (fun _ h9 => h9) rfl dX8_fewestSteps_137 ?_
        refine lv_iload_n hx hb dX8_fewestSteps_140 rfl (lv_at hl 3 rfl) ?_
        refine va_iald hx hb hK hP 3 10 rfl rfl (vp_in_nI (by omega) (by decide)) dX8_fewestSteps_141 ?_
        refine lv_ri (y := sA ho) (congrArg (sA) (nI_clamp (by omega))) ?_
        have hP9 := hP.sub (ws' := [(q 0, .inr (8, [.ref (q 1), .ref (q 3), .ref (q 4), .ref (q 9), .ref (q 14), .ref (q 15), .ref (q 16), .ref (q 17), .int (nI nc), .int sr, .int ik])), (q 4, .inr (7, [.ref (q 5), .ref (q 6), .ref (q 7), .ref (q 8), .long isl, .int (nI br), .int st, .int so, .int (nI se)])), (q 15, .inl (ca 10, 36, .inl (sA))), (q 16, .inl (ca 11, 36, .inl (fun zj => nI (wQ zj))))]) [0, 1, 3, 2] rfl
        have hD9 := hD.sub (ws' := [(q 0, .inr (8, [.ref (q 1), .ref (q 3), .ref (q 4), .ref (q 9), .ref (q 14), .ref (q 15), .ref (q 16), .ref (q 17), .int (nI nc), .int sr, .int ik])), (q 4, .inr (7, [.ref (q 5), .ref (q 6), .ref (q 7), .ref (q 8), .long isl, .int (nI br), .int st, .int so, .int (nI se)])), (q 15, .inl (ca 10, 36, .inl (sA))), (q 16, .inl (ca 11, 36, .inl (fun zj => nI (wQ zj))))]) [0, 1, 3, 2] (by decide) rfl
        exact W.iret (v := sA ho) hx hb hr (fun t ht hW => ⟨⟨sA ho, (sA, wQ), rfl, by show _ = _; rw [← hR]; first | rfl | (simp only [bfO]; rw [if_neg (by omega)]), by rw [ht]; exact hP9, va_K.moved hW.alike hK, hD9⟩, hS.F ht⟩) hS.2.2 dX8_fewestSteps_142
      · rw [nI_leI (by omega) (by omega)] at c_2
        refine lv_iload_n hx hb dX8_fewestSteps_43 rfl (lv_at hl 0 rfl) ?_
        refine lv_bipush (v := nI 36) hx hb dX8_fewestSteps_44 (by decide) ?_
        refine lv_icmp_ge (tgt := 136) hx hb dX8_fewestSteps_46 (by decide) (fun c_3 => ?_) (fun c_3 => ?_)
        · refine lv_aload_n hx hb dX8_fewestSteps_136 rfl (lv_at hl 2 rfl) ?_
          refine va_get (D := (dC, dI)) (ci := 8) (v := .ref (q 15)) (C := RX8) (T := TX8) (N := 11) hx hb htl iX8 hown hK hP 0 rfl rfl 5 (by decide) (htl _ wd_116) (fun _ h9 => h9) rfl dX8_fewestSteps_137 ?_
          refine lv_iload_n hx hb dX8_fewestSteps_140 rfl (lv_at hl 3 rfl) ?_
          refine va_iald hx hb hK hP 3 10 rfl rfl (vp_in_nI (by omega) (by decide)) dX8_fewestSteps_141 ?_
          refine lv_ri (y := sA ho) (congrArg (sA) (nI_clamp (by omega))) ?_
          have hP9 := hP.sub (ws' := [(q 0, .inr (8, [.ref (q 1), .ref (q 3), .ref (q 4), .ref (q 9), .ref (q 14), .ref (q 15), .ref (q 16), .ref (q 17), .int (nI nc), .int sr, .int ik])), (q 4, .inr (7, [.ref (q 5), .ref (q 6), .ref (q 7), .ref (q 8), .long isl, .int (nI br), .int st, .int so, .int (nI se)])), (q 15, .inl (ca 10, 36, .inl (sA))), (q 16, .inl (ca 11, 36, .inl (fun zj => nI (wQ zj))))]) [0, 1, 3, 2] rfl
          have hD9 := hD.sub (ws' := [(q 0, .inr (8, [.ref (q 1), .ref (q 3), .ref (q 4), .ref (q 9), .ref (q 14), .ref (q 15), .ref (q 16), .ref (q 17), .int (nI nc), .int sr, .int ik])), (q 4, .inr (7, [.ref (q 5), .ref (q 6), .ref (q 7), .ref (q 8), .long isl, .int (nI br), .int st, .int so, .int (nI se)])), (q 15, .inl (ca 10, 36, .inl (sA))), (q 16, .inl (ca 11, 36, .inl (fun zj => nI (wQ zj))))]) [0, 1, 3, 2] (by decide) rfl
          exact W.iret (v := sA ho) hx hb hr (fun t ht hW => ⟨⟨sA ho, (sA, wQ), rfl, by show _ = _; rw [← hR]; rfl, by rw [ht]; exact hP9, va_K.moved hW.alike hK, hD9⟩, hS.F ht⟩) hS.2.2 dX8_fewestSteps_142
        · exact absurd (nI_le (by omega) (by omega)) c_3
    | succ n ih38 =>
      intro ii en sA wQ hii hen hwq hR H locs hP hD hS ls hl
      refine lv_iload_n hx hb dX8_fewestSteps_38 rfl (lv_at hl 0 rfl) ?_
      refine lv_iload_n hx hb dX8_fewestSteps_39 rfl (lv_at hl 1 rfl) ?_
      refine lv_icmp_ge (tgt := 136) hx hb dX8_fewestSteps_40 (by decide) (fun c_4 => ?_) (fun c_4 => ?_)
      · rw [nI_leI (by omega) (by omega)] at c_4
        refine lv_aload_n hx hb dX8_fewestSteps_136 rfl (lv_at hl 2 rfl) ?_
        refine va_get (D := (dC, dI)) (ci := 8) (v := .ref (q 15)) (C := RX8) (T := TX8) (N := 11) hx hb htl iX8 hown hK hP 0 rfl rfl 5 (by decide) (htl _ wd_116) (fun _ h9 => h9) rfl dX8_fewestSteps_137 ?_
        refine lv_iload_n hx hb dX8_fewestSteps_140 rfl (lv_at hl 3 rfl) ?_
        refine va_iald hx hb hK hP 3 10 rfl rfl (vp_in_nI (by omega) (by decide)) dX8_fewestSteps_141 ?_
        refine lv_ri (y := sA ho) (congrArg (sA) (nI_clamp (by omega))) ?_
        have hP9 := hP.sub (ws' := [(q 0, .inr (8, [.ref (q 1), .ref (q 3), .ref (q 4), .ref (q 9), .ref (q 14), .ref (q 15), .ref (q 16), .ref (q 17), .int (nI nc), .int sr, .int ik])), (q 4, .inr (7, [.ref (q 5), .ref (q 6), .ref (q 7), .ref (q 8), .long isl, .int (nI br), .int st, .int so, .int (nI se)])), (q 15, .inl (ca 10, 36, .inl (sA))), (q 16, .inl (ca 11, 36, .inl (fun zj => nI (wQ zj))))]) [0, 1, 3, 2] rfl
        have hD9 := hD.sub (ws' := [(q 0, .inr (8, [.ref (q 1), .ref (q 3), .ref (q 4), .ref (q 9), .ref (q 14), .ref (q 15), .ref (q 16), .ref (q 17), .int (nI nc), .int sr, .int ik])), (q 4, .inr (7, [.ref (q 5), .ref (q 6), .ref (q 7), .ref (q 8), .long isl, .int (nI br), .int st, .int so, .int (nI se)])), (q 15, .inl (ca 10, 36, .inl (sA))), (q 16, .inl (ca 11, 36, .inl (fun zj => nI (wQ zj))))]) [0, 1, 3, 2] (by decide) rfl
        exact W.iret (v := sA ho) hx hb hr (fun t ht hW => ⟨⟨sA ho, (sA, wQ), rfl, by show _ = _; rw [← hR]; first | rfl | (simp only [bfO]; rw [if_neg (by omega)]), by rw [ht]; exact hP9, va_K.moved hW.alike hK, hD9⟩, hS.F ht⟩) hS.2.2 dX8_fewestSteps_142
      · rw [nI_leI (by omega) (by omega)] at c_4
        refine lv_iload_n hx hb dX8_fewestSteps_43 rfl (lv_at hl 0 rfl) ?_
        refine lv_bipush (v := nI 36) hx hb dX8_fewestSteps_44 (by decide) ?_
        refine lv_icmp_ge (tgt := 136) hx hb dX8_fewestSteps_46 (by decide) (fun c_5 => ?_) (fun c_5 => ?_)
        · exact absurd c_5 (nI_ge (by omega) (by omega))
        · refine lv_aload_n hx hb dX8_fewestSteps_49 rfl (lv_at hl 2 rfl) ?_
          refine va_get (D := (dC, dI)) (ci := 8) (v := .ref (q 16)) (C := RX8) (T := TX8) (N := 11) hx hb htl iX8 hown hK hP 0 rfl rfl 6 (by decide) (htl _ wd_117) (fun _ h9 => h9) rfl dX8_fewestSteps_50 ?_
          refine lv_iload_n hx hb dX8_fewestSteps_53 rfl (lv_at hl 0 rfl) ?_
          refine va_iald hx hb hK hP 2 11 rfl rfl (vp_in_nI (by omega) (by decide)) dX8_fewestSteps_54 ?_
          refine lv_ri (y := nI (wQ ii)) (congrArg (fun zj => nI (wQ zj)) (nI_clamp (by omega))) ?_
          refine lv_istore (lv' := [(4, .int (nI (wQ ii))), (3, .int (nI ii)), (2, .int (nI en)), (0, .ref (q 0)), (1, .int (nI ho))]) hx hb dX8_fewestSteps_55 hl (by decide) rfl (fun ls hl => ?_)
          have hpl : wQ ii < 36 := hwq ii (by omega)
          refine lv_iconst (v := nI 0) hx hb dX8_fewestSteps_57 (by decide) ?_
          refine lv_istore (lv' := [(5, .int (nI 0)), (4, .int (nI (wQ ii))), (3, .int (nI ii)), (2, .int (nI en)), (0, .ref (q 0)), (1, .int (nI ho))]) hx hb dX8_fewestSteps_58 hl (by decide) rfl (fun ls hl => ?_)
          have lp60 : ∀ (nd : Nat) (d : Nat) (en2 : Nat) (sA2 : Nat → Int32) (wQ2 : Nat → Nat), (d + nd = 9) → (en2 ≤ 36) → (∀ x, x < en2 → wQ2 x < 36) → (bfI (xb isl) (wQ ii) nd d sA2 wQ2 en2 = bfI (xb isl) (wQ ii) 9 0 sA wQ en) → ∀ (H : Heap) (locs : List Loc), va_P (dC, dI) vwCl [(q 0, .inr (8, [.ref (q 1), .ref (q 3), .ref (q 4), .ref (q 9), .ref (q 14), .ref (q 15), .ref (q 16), .ref (q 17), .int (nI nc), .int sr, .int ik])), (q 4, .inr (7, [.ref (q 5), .ref (q 6), .ref (q 7), .ref (q 8), .long isl, .int (nI br), .int st, .int so, .int (nI se)])), (q 16, .inl (ca 11, 36, .inl (fun zj => nI (wQ2 zj)))), (q 15, .inl (ca 10, 36, .inl (sA2)))] H → va_D A [(q 0, .inr (8, [.ref (q 1), .ref (q 3), .ref (q 4), .ref (q 9), .ref (q 14), .ref (q 15), .ref (q 16), .ref (q 17), .int (nI nc), .int sr, .int ik])), (q 4, .inr (7, [.ref (q 5), .ref (q 6), .ref (q 7), .ref (q 8), .long isl, .int (nI br), .int st, .int so, .int (nI se)])), (q 16, .inl (ca 11, 36, .inl (fun zj => nI (wQ2 zj)))), (q 15, .inl (ca 10, 36, .inl (sA2)))] → va_S A s.heap H locs → ∀ (ls : Array Slot), lv_has ls 7 [(5, .int (nI d)), (4, .int (nI (wQ ii))), (3, .int (nI ii)), (2, .int (nI en2)), (0, .ref (q 0)), (1, .int (nI ho))] → W p l e (headSpec (Cond.code yX8_fewestSteps cX8_fewestSteps 7 (some .int) :: gT) (rk 3)).room s m ([Value.ref (q 0), Value.int (nI ho)] : List Value).toArray below meth c H locs 0 0 (MQ below (va_Qi (fun (r : Int32) (u : (Nat → Int32) × (Nat → Nat)) => match u with | (sa1, wq1) => r = bfO (xb isl) 36 0 (upd (fun _ => (-1)) br (nI 0)) (va_up wq0 0 br) 1 ho) (EFb (dC, dI) (fun (u : (Nat → Int32) × (Nat → Nat)) => match u with | (sa1, wq1) => [(q 0, .inr (8, [.ref (q 1), .ref (q 3), .ref (q 4), .ref (q 9), .ref (q 14), .ref (q 15), .ref (q 16), .ref (q 17), .int (nI nc), .int sr, .int ik])), (q 4, .inr (7, [.ref (q 5), .ref (q 6), .ref (q 7), .ref (q 8), .long isl, .int (nI br), .int st, .int so, .int (nI se)])), (q 15, .inl (ca 10, 36, .inl (sa1))), (q 16, .inl (ca 11, 36, .inl (fun zj => nI (wq1 zj))))]) (TY ca) A) A) ([Value.ref (q 0), Value.int (nI ho)] : List Value).toArray s 0 0 A) (F0 m 60 ls []) := by
            clear hS hP hD
            clear hl
            intro nd
            induction nd with
            | zero =>
              intro d en2 sA2 wQ2 hd hen2 hwq2 hR2 H locs hP hD hS ls hl
              refine lv_iload hx hb dX8_fewestSteps_60 (lv_at hl 0 rfl) ?_
              refine lv_bipush (v := nI 9) hx hb dX8_fewestSteps_62 (by decide) ?_
              refine lv_icmp_ge (tgt := 130) hx hb dX8_fewestSteps_64 (by decide) (fun c_6 => ?_) (fun c_6 => ?_)
              · refine lv_iinc (v := nI (ii + 1)) (lv' := [(3, .int (nI (ii + 1))), (5, .int (nI d)), (4, .int (nI (wQ ii))), (2, .int (nI en2)), (0, .ref (q 0)), (1, .int (nI ho))]) hx hb dX8_fewestSteps_130 hl (k := 2) rfl (nI_add ii 1) (by decide) rfl (fun ls hl => ?_)
                refine lv_goto (tgt := 38) hx hb dX8_fewestSteps_133 (by decide) ?_
                exact ih38 (ii + 1) en2 sA2 wQ2 (by omega) hen2 hwq2 (by rw [← hR]; simp only [bfO]; rw [if_pos (by omega), ← hR2]; rfl) _ _ (hP.sub [0, 1, 2, 3] rfl) (hD.sub [0, 1, 2, 3] (by decide) rfl) hS ls (lv_sub hl [0, 3, 4, 5] rfl)
              · exact absurd (nI_le (by omega) (by omega)) c_6
            | succ nd ih60 =>
              intro d en2 sA2 wQ2 hd hen2 hwq2 hR2 H locs hP hD hS ls hl
              refine lv_iload hx hb dX8_fewestSteps_60 (lv_at hl 0 rfl) ?_
              refine lv_bipush (v := nI 9) hx hb dX8_fewestSteps_62 (by decide) ?_
              refine lv_icmp_ge (tgt := 130) hx hb dX8_fewestSteps_64 (by decide) (fun c_7 => ?_) (fun c_7 => ?_)
              · exact absurd c_7 (nI_ge (by omega) (by omega))
              · refine lv_aload_n hx hb dX8_fewestSteps_67 rfl (lv_at hl 4 rfl) ?_
                refine va_get (D := (dC, dI)) (ci := 8) (v := .ref (q 4)) (C := RX8) (T := TX8) (N := 11) hx hb htl iX8 hown hK hP 0 rfl rfl 2 (by decide) (htl _ wd_113) (fun _ h9 => h9) rfl dX8_fewestSteps_68 ?_
                refine lv_iload hx hb dX8_fewestSteps_71 (lv_at hl 1 rfl) ?_
                refine lv_iload hx hb dX8_fewestSteps_73 (lv_at hl 0 rfl) ?_
                refine roV (As := [Value.int (nI (wQ ii)), Value.int (nI d)]) (rest := []) (kX7_placeBehind l dC dI ca (wQ ii) d q isl br st so se hpl (by omega)) ⟨hx, hb, hml, hown, htl⟩ (cVg (C := RX7) 2 htl wd_384 wd_385 wd_386 wd_3 wd_387 rfl rfl (by decide +kernel) ⟨Nat.le_of_ble_eq_true rfl, Nat.le_of_ble_eq_true rfl⟩) (hP.sub [1] rfl) hK (va_recv hK hP (ci := 7) (q0 := 1) rfl rfl) rfl hl.1 rfl (Nat.le_of_ble_eq_true rfl) dX8_fewestSteps_75 ⟨Nat.zero_le _, Nat.zero_le _⟩ (fun r hr9 => ?_)
                subst hr9
                refine lv_istore (lv' := [(6, .int (nI (stepN (xb isl) (wQ ii) d))), (5, .int (nI d)), (4, .int (nI (wQ ii))), (3, .int (nI ii)), (2, .int (nI en2)), (0, .ref (q 0)), (1, .int (nI ho))]) hx hb dX8_fewestSteps_78 hl (by decide) rfl (fun ls hl => ?_)
                have hnx : stepN (xb isl) (wQ ii) d < 36 := stepN_lt hpl
                refine lv_aload_n hx hb dX8_fewestSteps_80 rfl (lv_at hl 5 rfl) ?_
                refine va_get (D := (dC, dI)) (ci := 8) (v := .ref (q 15)) (C := RX8) (T := TX8) (N := 11) hx hb htl iX8 hown hK hP 0 rfl rfl 5 (by decide) (htl _ wd_116) (fun _ h9 => h9) rfl dX8_fewestSteps_81 ?_
                refine lv_iload hx hb dX8_fewestSteps_84 (lv_at hl 0 rfl) ?_
                refine va_iald hx hb hK hP 3 10 rfl rfl (vp_in_nI (by omega) (by decide)) dX8_fewestSteps_86 ?_
                refine lv_ri (y := sA2 (stepN (xb isl) (wQ ii) d)) (congrArg (sA2) (nI_clamp (by omega))) ?_
                refine lv_iconst (v := (-1)) hx hb dX8_fewestSteps_87 (by decide) ?_
                refine lv_icmp_ne (tgt := 124) hx hb dX8_fewestSteps_88 (by decide) (fun c_8 => ?_) (fun c_8 => ?_)
                · refine lv_iinc (v := nI (d + 1)) (lv' := [(5, .int (nI (d + 1))), (6, .int (nI (stepN (xb isl) (wQ ii) d))), (4, .int (nI (wQ ii))), (3, .int (nI ii)), (2, .int (nI en2)), (0, .ref (q 0)), (1, .int (nI ho))]) hx hb dX8_fewestSteps_124 hl (k := 1) rfl (nI_add d 1) (by decide) rfl (fun ls hl => ?_)
                  refine lv_goto (tgt := 60) hx hb dX8_fewestSteps_127 (by decide) ?_
                  exact ih60 (d + 1) en2 sA2 wQ2 (by omega) hen2 hwq2 (by rw [← hR2]; simp only [bfI]; rw [if_neg (fun h => c_8 h.1)]) _ _ (hP.sub [0, 1, 2, 3] rfl) (hD.sub [0, 1, 2, 3] (by decide) rfl) hS ls (lv_sub hl [0, 2, 3, 4, 5, 6] rfl)
                · refine lv_iload_n hx hb dX8_fewestSteps_91 rfl (lv_at hl 4 rfl) ?_
                  refine lv_bipush (v := nI 36) hx hb dX8_fewestSteps_92 (by decide) ?_
                  refine lv_icmp_ge (tgt := 124) hx hb dX8_fewestSteps_94 (by decide) (fun c_9 => ?_) (fun c_9 => ?_)
                  · rw [nI_leI (by omega) (by omega)] at c_9
                    refine lv_iinc (v := nI (d + 1)) (lv' := [(5, .int (nI (d + 1))), (6, .int (nI (stepN (xb isl) (wQ ii) d))), (4, .int (nI (wQ ii))), (3, .int (nI ii)), (2, .int (nI en2)), (0, .ref (q 0)), (1, .int (nI ho))]) hx hb dX8_fewestSteps_124 hl (k := 1) rfl (nI_add d 1) (by decide) rfl (fun ls hl => ?_)
                    refine lv_goto (tgt := 60) hx hb dX8_fewestSteps_127 (by decide) ?_
                    exact ih60 (d + 1) en2 sA2 wQ2 (by omega) hen2 hwq2 (by rw [← hR2]; simp only [bfI]; rw [if_neg (by omega)]) _ _ (hP.sub [0, 1, 2, 3] rfl) (hD.sub [0, 1, 2, 3] (by decide) rfl) hS ls (lv_sub hl [0, 2, 3, 4, 5, 6] rfl)
                  · rw [nI_leI (by omega) (by omega)] at c_9
                    refine lv_aload_n hx hb dX8_fewestSteps_97 rfl (lv_at hl 5 rfl) ?_
                    refine va_get (D := (dC, dI)) (ci := 8) (v := .ref (q 15)) (C := RX8) (T := TX8) (N := 11) hx hb htl iX8 hown hK hP 0 rfl rfl 5 (by decide) (htl _ wd_116) (fun _ h9 => h9) rfl dX8_fewestSteps_98 ?_
                    refine lv_iload hx hb dX8_fewestSteps_101 (lv_at hl 0 rfl) ?_
                    refine lv_aload_n hx hb dX8_fewestSteps_103 rfl (lv_at hl 5 rfl) ?_
                    refine va_get (D := (dC, dI)) (ci := 8) (v := .ref (q 15)) (C := RX8) (T := TX8) (N := 11) hx hb htl iX8 hown hK hP 0 rfl rfl 5 (by decide) (htl _ wd_116) (fun _ h9 => h9) rfl dX8_fewestSteps_104 ?_
                    refine lv_iload hx hb dX8_fewestSteps_107 (lv_at hl 2 rfl) ?_
                    refine va_iald hx hb hK hP 3 10 rfl rfl (vp_in_nI (by omega) (by decide)) dX8_fewestSteps_109 ?_
                    refine lv_ri (y := sA2 (wQ ii)) (congrArg (sA2) (nI_clamp (by omega))) ?_
                    refine lv_iconst (v := nI 1) hx hb dX8_fewestSteps_110 (by decide) ?_
                    refine lv_iadd hx hb dX8_fewestSteps_111 ?_
                    refine va_iast hx hb hK hP hD hS 3 10 rfl rfl (vp_in_nI (by omega) (by decide)) dX8_fewestSteps_112 (fun H locs hP hD hS => ?_)
                    rw [nI_clamp (show stepN (xb isl) (wQ ii) d < 2 ^ 31 by omega)] at hP hD
                    have hP : va_P (dC, dI) vwCl [(q 0, .inr (8, [.ref (q 1), .ref (q 3), .ref (q 4), .ref (q 9), .ref (q 14), .ref (q 15), .ref (q 16), .ref (q 17), .int (nI nc), .int sr, .int ik])), (q 4, .inr (7, [.ref (q 5), .ref (q 6), .ref (q 7), .ref (q 8), .long isl, .int (nI br), .int st, .int so, .int (nI se)])), (q 16, .inl (ca 11, 36, .inl (fun zj => nI (wQ2 zj)))), (q 15, .inl (ca 10, 36, .inl (upd (sA2) (stepN (xb isl) (wQ ii) d) ((sA2 (wQ ii)) + (nI 1)))))] H := hP
                    have hD : va_D A [(q 0, .inr (8, [.ref (q 1), .ref (q 3), .ref (q 4), .ref (q 9), .ref (q 14), .ref (q 15), .ref (q 16), .ref (q 17), .int (nI nc), .int sr, .int ik])), (q 4, .inr (7, [.ref (q 5), .ref (q 6), .ref (q 7), .ref (q 8), .long isl, .int (nI br), .int st, .int so, .int (nI se)])), (q 16, .inl (ca 11, 36, .inl (fun zj => nI (wQ2 zj)))), (q 15, .inl (ca 10, 36, .inl (upd (sA2) (stepN (xb isl) (wQ ii) d) ((sA2 (wQ ii)) + (nI 1)))))] := hD
                    refine lv_aload_n hx hb dX8_fewestSteps_113 rfl (lv_at hl 5 rfl) ?_
                    refine va_get (D := (dC, dI)) (ci := 8) (v := .ref (q 16)) (C := RX8) (T := TX8) (N := 11) hx hb htl iX8 hown hK hP 0 rfl rfl 6 (by decide) (htl _ wd_117) (fun _ h9 => h9) rfl dX8_fewestSteps_114 ?_
                    refine lv_iload_n hx hb dX8_fewestSteps_117 rfl (lv_at hl 4 rfl) ?_
                    refine lv_iload hx hb dX8_fewestSteps_118 (lv_at hl 0 rfl) ?_
                    refine va_iast hx hb hK hP hD hS 2 11 rfl rfl (vp_in_nI (by omega) (by decide)) dX8_fewestSteps_120 (fun H locs hP hD hS => ?_)
                    rw [nI_clamp (show en2 < 2 ^ 31 by omega)] at hP hD
                    rw [show (upd (fun zj => nI (wQ2 zj)) en2 (nI (stepN (xb isl) (wQ ii) d))) = (fun zj => nI (va_up wQ2 en2 (stepN (xb isl) (wQ ii) d) zj)) from upd_nI _ _ _] at hP hD
                    have hP : va_P (dC, dI) vwCl [(q 0, .inr (8, [.ref (q 1), .ref (q 3), .ref (q 4), .ref (q 9), .ref (q 14), .ref (q 15), .ref (q 16), .ref (q 17), .int (nI nc), .int sr, .int ik])), (q 4, .inr (7, [.ref (q 5), .ref (q 6), .ref (q 7), .ref (q 8), .long isl, .int (nI br), .int st, .int so, .int (nI se)])), (q 16, .inl (ca 11, 36, .inl (fun zj => nI (va_up wQ2 en2 (stepN (xb isl) (wQ ii) d) zj)))), (q 15, .inl (ca 10, 36, .inl (upd (sA2) (stepN (xb isl) (wQ ii) d) ((sA2 (wQ ii)) + (nI 1)))))] H := hP
                    have hD : va_D A [(q 0, .inr (8, [.ref (q 1), .ref (q 3), .ref (q 4), .ref (q 9), .ref (q 14), .ref (q 15), .ref (q 16), .ref (q 17), .int (nI nc), .int sr, .int ik])), (q 4, .inr (7, [.ref (q 5), .ref (q 6), .ref (q 7), .ref (q 8), .long isl, .int (nI br), .int st, .int so, .int (nI se)])), (q 16, .inl (ca 11, 36, .inl (fun zj => nI (va_up wQ2 en2 (stepN (xb isl) (wQ ii) d) zj)))), (q 15, .inl (ca 10, 36, .inl (upd (sA2) (stepN (xb isl) (wQ ii) d) ((sA2 (wQ ii)) + (nI 1)))))] := hD
                    refine lv_iinc (v := nI (en2 + 1)) (lv' := [(2, .int (nI (en2 + 1))), (6, .int (nI (stepN (xb isl) (wQ ii) d))), (5, .int (nI d)), (4, .int (nI (wQ ii))), (3, .int (nI ii)), (0, .ref (q 0)), (1, .int (nI ho))]) hx hb dX8_fewestSteps_121 hl (k := 4) rfl (nI_add en2 1) (by decide) rfl (fun ls hl => ?_)
                    refine lv_iinc (v := nI (d + 1)) (lv' := [(5, .int (nI (d + 1))), (2, .int (nI (en2 + 1))), (6, .int (nI (stepN (xb isl) (wQ ii) d))), (4, .int (nI (wQ ii))), (3, .int (nI ii)), (0, .ref (q 0)), (1, .int (nI ho))]) hx hb dX8_fewestSteps_124 hl (k := 2) rfl (nI_add d 1) (by decide) rfl (fun ls hl => ?_)
                    refine lv_goto (tgt := 60) hx hb dX8_fewestSteps_127 (by decide) ?_
                    have hwq9 : ∀ x, x < en2 + 1 → va_up wQ2 en2 (stepN (xb isl) (wQ ii) d) x < 36 := by
                      intro x hx
                      unfold va_up
                      by_cases h : x = en2
                      · rw [if_pos h]; exact hnx
                      · rw [if_neg h]; exact hwq2 x (by omega)
                    exact ih60 (d + 1) (en2 + 1) (upd sA2 (stepN (xb isl) (wQ ii) d) (sA2 (wQ ii) + nI 1)) (va_up wQ2 en2 (stepN (xb isl) (wQ ii) d)) (by omega) (by omega) hwq9 (by rw [← hR2]; simp only [bfI]; rw [if_pos ⟨c_8, by omega⟩]) _ _ (hP.sub [0, 1, 2, 3] rfl) (hD.sub [0, 1, 2, 3] (by decide) rfl) hS ls (lv_sub hl [0, 3, 4, 1, 5, 6] rfl)
          exact lp60 9 0 en sA wQ (by omega) hen hwq rfl _ _ hP hD hS ls (lv_sub hl [0, 1, 2, 3, 4, 5] rfl)
  exact lp38 36 0 1 (upd (fun _ => (-1)) br (nI 0)) (va_up wq0 0 br) (by omega) (by omega) (by intro x hx; rw [show x = 0 by omega]; unfold va_up; rw [if_pos rfl]; exact hbr) rfl _ _ hP hD hS ls (lv_sub hl [0, 1, 2, 3] rfl)
set_option maxHeartbeats 4000000 in
set_option maxRecDepth 100000 in
theorem kX7_move (l : Launch) (dC : Nat → ClassId) (dI : Nat → Nat → Nat) (ca : Nat → ClassId) (sz : Nat) (d : Nat) (q : Nat → Nat) (isl : Int64) (br : Nat) (st : Int32) (so : Int32) (se : Nat) (hd : d < 9) (hbr : br < 36) : Met l yX7_move (Cond.code yX7_move cX7_move 3 (some .int) :: gT) (rk 3) (EFp (dC, dI) [(q 4, .inr (7, [.ref (q 5), .ref (q 6), .ref (q 7), .ref (q 8), .long isl, .int (nI br), .int st, .int so, .int (nI se)]))] (TY ca) sz [Value.ref (q 4), Value.int (nI d)]) (va_Qi (fun (r : Int32) (_ : Unit) => r = nI (stepN (xb isl) br d)) (EFb (dC, dI) (fun (_ : Unit) => [(q 4, .inr (7, [.ref (q 5), .ref (q 6), .ref (q 7), .ref (q 8), .long isl, .int (nI (stepN (xb isl) br d)), .int (st + nI 1), .int (if stepN (xb isl) br d = br then so else so + nI 1), .int (nI se)]))]) (TY ca) (va_A [(q 4, .inr (7, [.ref (q 5), .ref (q 6), .ref (q 7), .ref (q 8), .long isl, .int (nI br), .int st, .int so, .int (nI se)]))] sz)) (va_A [(q 4, .inr (7, [.ref (q 5), .ref (q 6), .ref (q 7), .ref (q 8), .long isl, .int (nI br), .int st, .int so, .int (nI se)]))] sz)) 0 0 (va_A [(q 4, .inr (7, [.ref (q 5), .ref (q 6), .ref (q 7), .ref (q 8), .long isl, .int (nI br), .int st, .int so, .int (nI se)]))] sz) := by
  refine Met.ofW (cc := cX7_move) (maxL := 3) (ret := (some .int)) (by decide) rfl ?_
  intro p e s m args below meth c s₁ B hml hv
  obtain ⟨rfl, hsz, hP, hK, hD0⟩ := hv
  have hx := B.exec
  have hb := B.bytes
  have hr := B.returns
  have hts := atoms_spec (ws := (Cond.code yX7_move cX7_move 3 (some .int) :: gT)) B.pre
  have htl : ∀ w ∈ gT, w.before _ s = true := fun w h => hts w (List.mem_cons_of_mem _ h)
  have hown : s.vm.findClass RX7 = some m.cls := findClass_of_methodNamed B.named
  have hlocks := B.notSynchronized
  subst hsz
  have hD := hD0.self (sz := s.heap.size)
  generalize hAe : va_A [(q 4, .inr (7, [.ref (q 5), .ref (q 6), .ref (q 7), .ref (q 8), .long isl, .int (nI br), .int st, .int so, .int (nI se)]))] s.heap.size = A at hD ⊢
  have hA : ∀ q : Nat, s.heap.size ≤ q → A q := fun q h => by rw [← hAe]; exact Or.inr h
  have hS : va_S A s.heap s.heap [] := va_S.rf
  have hl := lv_entry ([Value.ref (q 4), Value.int (nI d)]) (n := 3) (Nat.le_of_ble_eq_true rfl)
  rw [lg_entry_eq]
  generalize (lg_sl ([Value.ref (q 4), Value.int (nI d)]) ++ List.replicate (3 - (lg_sl ([Value.ref (q 4), Value.int (nI d)])).length) Slot.unset).toArray = ls at hl ⊢
  have hl : lv_has ls 3 [(0, .ref (q 4)), (1, .int (nI d))] := hl
  refine lv_aload_n hx hb dX7_move_0 rfl (lv_at hl 0 rfl) ?_
  refine lv_aload_n hx hb dX7_move_1 rfl (lv_at hl 0 rfl) ?_
  refine va_get (D := (dC, dI)) (ci := 7) (v := .int (nI br)) (C := RX7) (T := TX7) (N := 9) hx hb htl iX7 hown hK hP 0 rfl rfl 5 (by decide) (htl _ wd_62) (fun _ h9 => h9) rfl dX7_move_2 ?_
  refine lv_iload_n hx hb dX7_move_5 rfl (lv_at hl 1 rfl) ?_
  refine roV (As := [Value.int (nI br), Value.int (nI d)]) (rest := []) (kX7_placeBehind l dC dI ca br d q isl br st so se hbr hd) ⟨hx, hb, hml, hown, htl⟩ (cVg (C := RX7) 2 htl wd_467 wd_385 wd_386 wd_3 wd_387 rfl rfl (by decide +kernel) ⟨Nat.le_of_ble_eq_true rfl, Nat.le_of_ble_eq_true rfl⟩) (hP.sub [0] rfl) hK (va_recv hK hP (ci := 7) (q0 := 0) rfl rfl) rfl hl.1 rfl (Nat.le_of_ble_eq_true rfl) dX7_move_6 ⟨Nat.zero_le _, Nat.zero_le _⟩ (fun r hr9 => ?_)
  subst hr9
  refine lv_istore_n (lv' := [(2, .int (nI (stepN (xb isl) br d))), (0, .ref (q 4)), (1, .int (nI d))]) hx hb dX7_move_9 rfl hl (by decide) rfl (fun ls hl => ?_)
  refine lv_aload_n hx hb dX7_move_10 rfl (lv_at hl 1 rfl) ?_
  refine lv_dup hx hb dX7_move_11 rfl ?_
  refine va_get (D := (dC, dI)) (ci := 7) (v := .int st) (C := RX7) (T := TX7) (N := 9) hx hb htl iX7 hown hK hP 0 rfl rfl 6 (by decide) (htl _ wd_64) (fun _ h9 => h9) rfl dX7_move_12 ?_
  refine lv_iconst (v := nI 1) hx hb dX7_move_15 (by decide) ?_
  refine lv_iadd hx hb dX7_move_16 ?_
  refine va_put (D := (dC, dI)) (ci := 7) (v := .int (st + (nI 1))) (ty := .int) (C := RX7) (T := TX7) (N := 9) hx hb htl iX7 tyX7 tyX7_ok nmX7 hown hK hP hD hS 0 rfl rfl 6 (by decide) (htl _ wd_64) (fun _ h9 => h9) rfl (by decide +kernel) rfl rfl (Nat.le_of_ble_eq_true rfl) dX7_move_17 (fun H locs hP hD hS => ?_)
  have hP : va_P (dC, dI) vwCl [(q 4, .inr (7, [.ref (q 5), .ref (q 6), .ref (q 7), .ref (q 8), .long isl, .int (nI br), .int (st + (nI 1)), .int so, .int (nI se)]))] H := hP
  have hD : va_D A [(q 4, .inr (7, [.ref (q 5), .ref (q 6), .ref (q 7), .ref (q 8), .long isl, .int (nI br), .int (st + (nI 1)), .int so, .int (nI se)]))] := hD
  refine lv_iload_n hx hb dX7_move_20 rfl (lv_at hl 0 rfl) ?_
  refine lv_aload_n hx hb dX7_move_21 rfl (lv_at hl 1 rfl) ?_
  refine va_get (D := (dC, dI)) (ci := 7) (v := .int (nI br)) (C := RX7) (T := TX7) (N := 9) hx hb htl iX7 hown hK hP 0 rfl rfl 5 (by decide) (htl _ wd_62) (fun _ h9 => h9) rfl dX7_move_22 ?_
  refine lv_icmp_eq (tgt := 38) hx hb dX7_move_25 (by decide) (fun c_1 => ?_) (fun c_1 => ?_)
  · rw [nI_eq (Nat.lt_trans (stepN_lt hbr) (by decide)) (by omega)] at c_1
    refine lv_aload_n hx hb dX7_move_38 rfl (lv_at hl 1 rfl) ?_
    refine lv_iload_n hx hb dX7_move_39 rfl (lv_at hl 0 rfl) ?_
    refine va_put (D := (dC, dI)) (ci := 7) (v := .int (nI (stepN (xb isl) br d))) (ty := .int) (C := RX7) (T := TX7) (N := 9) hx hb htl iX7 tyX7 tyX7_ok nmX7 hown hK hP hD hS 0 rfl rfl 5 (by decide) (htl _ wd_62) (fun _ h9 => h9) rfl (by decide +kernel) rfl rfl (Nat.le_of_ble_eq_true rfl) dX7_move_40 (fun H locs hP hD hS => ?_)
    have hP : va_P (dC, dI) vwCl [(q 4, .inr (7, [.ref (q 5), .ref (q 6), .ref (q 7), .ref (q 8), .long isl, .int (nI (stepN (xb isl) br d)), .int (st + (nI 1)), .int so, .int (nI se)]))] H := hP
    have hD : va_D A [(q 4, .inr (7, [.ref (q 5), .ref (q 6), .ref (q 7), .ref (q 8), .long isl, .int (nI (stepN (xb isl) br d)), .int (st + (nI 1)), .int so, .int (nI se)]))] := hD
    refine lv_aload_n hx hb dX7_move_43 rfl (lv_at hl 1 rfl) ?_
    refine va_get (D := (dC, dI)) (ci := 7) (v := .int (nI (stepN (xb isl) br d))) (C := RX7) (T := TX7) (N := 9) hx hb htl iX7 hown hK hP 0 rfl rfl 5 (by decide) (htl _ wd_62) (fun _ h9 => h9) rfl dX7_move_44 ?_
    have hP9 := hP.sub (ws' := [(q 4, .inr (7, [.ref (q 5), .ref (q 6), .ref (q 7), .ref (q 8), .long isl, .int (nI (stepN (xb isl) br d)), .int (st + (nI 1)), .int so, .int (nI se)]))]) [0] rfl
    have hD9 := hD.sub (ws' := [(q 4, .inr (7, [.ref (q 5), .ref (q 6), .ref (q 7), .ref (q 8), .long isl, .int (nI (stepN (xb isl) br d)), .int (st + (nI 1)), .int so, .int (nI se)]))]) [0] (by decide) rfl
    exact W.iret (v := nI (stepN (xb isl) br d)) hx hb hr (fun t ht hW => ⟨⟨nI (stepN (xb isl) br d), (), rfl, by rfl, by rw [ht]; rw [if_pos c_1]; exact hP9, va_K.moved hW.alike hK, (by rw [if_pos c_1]; exact hD9)⟩, hS.F ht⟩) hS.2.2 dX7_move_47
  · rw [nI_eq (Nat.lt_trans (stepN_lt hbr) (by decide)) (by omega)] at c_1
    refine lv_aload_n hx hb dX7_move_28 rfl (lv_at hl 1 rfl) ?_
    refine lv_dup hx hb dX7_move_29 rfl ?_
    refine va_get (D := (dC, dI)) (ci := 7) (v := .int so) (C := RX7) (T := TX7) (N := 9) hx hb htl iX7 hown hK hP 0 rfl rfl 7 (by decide) (htl _ wd_66) (fun _ h9 => h9) rfl dX7_move_30 ?_
    refine lv_iconst (v := nI 1) hx hb dX7_move_33 (by decide) ?_
    refine lv_iadd hx hb dX7_move_34 ?_
    refine va_put (D := (dC, dI)) (ci := 7) (v := .int (so + (nI 1))) (ty := .int) (C := RX7) (T := TX7) (N := 9) hx hb htl iX7 tyX7 tyX7_ok nmX7 hown hK hP hD hS 0 rfl rfl 7 (by decide) (htl _ wd_66) (fun _ h9 => h9) rfl (by decide +kernel) rfl rfl (Nat.le_of_ble_eq_true rfl) dX7_move_35 (fun H locs hP hD hS => ?_)
    have hP : va_P (dC, dI) vwCl [(q 4, .inr (7, [.ref (q 5), .ref (q 6), .ref (q 7), .ref (q 8), .long isl, .int (nI br), .int (st + (nI 1)), .int (so + (nI 1)), .int (nI se)]))] H := hP
    have hD : va_D A [(q 4, .inr (7, [.ref (q 5), .ref (q 6), .ref (q 7), .ref (q 8), .long isl, .int (nI br), .int (st + (nI 1)), .int (so + (nI 1)), .int (nI se)]))] := hD
    refine lv_aload_n hx hb dX7_move_38 rfl (lv_at hl 1 rfl) ?_
    refine lv_iload_n hx hb dX7_move_39 rfl (lv_at hl 0 rfl) ?_
    refine va_put (D := (dC, dI)) (ci := 7) (v := .int (nI (stepN (xb isl) br d))) (ty := .int) (C := RX7) (T := TX7) (N := 9) hx hb htl iX7 tyX7 tyX7_ok nmX7 hown hK hP hD hS 0 rfl rfl 5 (by decide) (htl _ wd_62) (fun _ h9 => h9) rfl (by decide +kernel) rfl rfl (Nat.le_of_ble_eq_true rfl) dX7_move_40 (fun H locs hP hD hS => ?_)
    have hP : va_P (dC, dI) vwCl [(q 4, .inr (7, [.ref (q 5), .ref (q 6), .ref (q 7), .ref (q 8), .long isl, .int (nI (stepN (xb isl) br d)), .int (st + (nI 1)), .int (so + (nI 1)), .int (nI se)]))] H := hP
    have hD : va_D A [(q 4, .inr (7, [.ref (q 5), .ref (q 6), .ref (q 7), .ref (q 8), .long isl, .int (nI (stepN (xb isl) br d)), .int (st + (nI 1)), .int (so + (nI 1)), .int (nI se)]))] := hD
    refine lv_aload_n hx hb dX7_move_43 rfl (lv_at hl 1 rfl) ?_
    refine va_get (D := (dC, dI)) (ci := 7) (v := .int (nI (stepN (xb isl) br d))) (C := RX7) (T := TX7) (N := 9) hx hb htl iX7 hown hK hP 0 rfl rfl 5 (by decide) (htl _ wd_62) (fun _ h9 => h9) rfl dX7_move_44 ?_
    have hP9 := hP.sub (ws' := [(q 4, .inr (7, [.ref (q 5), .ref (q 6), .ref (q 7), .ref (q 8), .long isl, .int (nI (stepN (xb isl) br d)), .int (st + (nI 1)), .int (so + (nI 1)), .int (nI se)]))]) [0] rfl
    have hD9 := hD.sub (ws' := [(q 4, .inr (7, [.ref (q 5), .ref (q 6), .ref (q 7), .ref (q 8), .long isl, .int (nI (stepN (xb isl) br d)), .int (st + (nI 1)), .int (so + (nI 1)), .int (nI se)]))]) [0] (by decide) rfl
    exact W.iret (v := nI (stepN (xb isl) br d)) hx hb hr (fun t ht hW => ⟨⟨nI (stepN (xb isl) br d), (), rfl, by rfl, by rw [ht]; rw [if_neg c_1]; exact hP9, va_K.moved hW.alike hK, (by rw [if_neg c_1]; exact hD9)⟩, hS.F ht⟩) hS.2.2 dX7_move_47
set_option maxHeartbeats 4000000 in
set_option maxRecDepth 100000 in
theorem kX7_addSeen (l : Launch) (dC : Nat → ClassId) (dI : Nat → Nat → Nat) (ca : Nat → ClassId) (sz : Nat) (i : Nat) (pp : Nat) (d : Nat) (q : Nat → Nat) (isl : Int64) (br : Nat) (st : Int32) (so : Int32) (se : Nat) (sn : Nat → Nat) (sp : Nat → Nat) (sd : Nat → Nat) (hse : se < 6) : Met l yX7_addSeen (Cond.code yX7_addSeen cX7_addSeen 4 none :: gT) (rk 1) (EFp (dC, dI) [(q 4, .inr (7, [.ref (q 5), .ref (q 6), .ref (q 7), .ref (q 8), .long isl, .int (nI br), .int st, .int so, .int (nI se)])), (q 6, .inl (ca 3, 6, .inl (fun zj => nI (sn zj)))), (q 7, .inl (ca 4, 6, .inl (fun zj => nI (sp zj)))), (q 8, .inl (ca 5, 6, .inl (fun zj => nI (sd zj))))] (TY ca) sz [Value.ref (q 4), Value.int (nI i), Value.int (nI pp), Value.int (nI d)]) (va_Qv (fun (_ : Unit) => True) (EFb (dC, dI) (fun (_ : Unit) => [(q 4, .inr (7, [.ref (q 5), .ref (q 6), .ref (q 7), .ref (q 8), .long isl, .int (nI br), .int st, .int so, .int (nI (se + 1))])), (q 6, .inl (ca 3, 6, .inl (fun zj => nI (va_up sn se i zj)))), (q 7, .inl (ca 4, 6, .inl (fun zj => nI (va_up sp se pp zj)))), (q 8, .inl (ca 5, 6, .inl (fun zj => nI (va_up sd se d zj))))]) (TY ca) (va_A [(q 4, .inr (7, [.ref (q 5), .ref (q 6), .ref (q 7), .ref (q 8), .long isl, .int (nI br), .int st, .int so, .int (nI se)])), (q 6, .inl (ca 3, 6, .inl (fun zj => nI (sn zj)))), (q 7, .inl (ca 4, 6, .inl (fun zj => nI (sp zj)))), (q 8, .inl (ca 5, 6, .inl (fun zj => nI (sd zj))))] sz)) (va_A [(q 4, .inr (7, [.ref (q 5), .ref (q 6), .ref (q 7), .ref (q 8), .long isl, .int (nI br), .int st, .int so, .int (nI se)])), (q 6, .inl (ca 3, 6, .inl (fun zj => nI (sn zj)))), (q 7, .inl (ca 4, 6, .inl (fun zj => nI (sp zj)))), (q 8, .inl (ca 5, 6, .inl (fun zj => nI (sd zj))))] sz)) 0 0 (va_A [(q 4, .inr (7, [.ref (q 5), .ref (q 6), .ref (q 7), .ref (q 8), .long isl, .int (nI br), .int st, .int so, .int (nI se)])), (q 6, .inl (ca 3, 6, .inl (fun zj => nI (sn zj)))), (q 7, .inl (ca 4, 6, .inl (fun zj => nI (sp zj)))), (q 8, .inl (ca 5, 6, .inl (fun zj => nI (sd zj))))] sz) := by
  refine Met.ofW (cc := cX7_addSeen) (maxL := 4) (ret := none) (by decide) rfl ?_
  intro p e s m args below meth c s₁ B hml hv
  obtain ⟨rfl, hsz, hP, hK, hD0⟩ := hv
  have hx := B.exec
  have hb := B.bytes
  have hr := B.returns
  have hts := atoms_spec (ws := (Cond.code yX7_addSeen cX7_addSeen 4 none :: gT)) B.pre
  have htl : ∀ w ∈ gT, w.before _ s = true := fun w h => hts w (List.mem_cons_of_mem _ h)
  have hown : s.vm.findClass RX7 = some m.cls := findClass_of_methodNamed B.named
  have hlocks := B.notSynchronized
  subst hsz
  have hD := hD0.self (sz := s.heap.size)
  generalize hAe : va_A [(q 4, .inr (7, [.ref (q 5), .ref (q 6), .ref (q 7), .ref (q 8), .long isl, .int (nI br), .int st, .int so, .int (nI se)])), (q 6, .inl (ca 3, 6, .inl (fun zj => nI (sn zj)))), (q 7, .inl (ca 4, 6, .inl (fun zj => nI (sp zj)))), (q 8, .inl (ca 5, 6, .inl (fun zj => nI (sd zj))))] s.heap.size = A at hD ⊢
  have hA : ∀ q : Nat, s.heap.size ≤ q → A q := fun q h => by rw [← hAe]; exact Or.inr h
  have hS : va_S A s.heap s.heap [] := va_S.rf
  have hl := lv_entry ([Value.ref (q 4), Value.int (nI i), Value.int (nI pp), Value.int (nI d)]) (n := 4) (Nat.le_of_ble_eq_true rfl)
  rw [lg_entry_eq]
  generalize (lg_sl ([Value.ref (q 4), Value.int (nI i), Value.int (nI pp), Value.int (nI d)]) ++ List.replicate (4 - (lg_sl ([Value.ref (q 4), Value.int (nI i), Value.int (nI pp), Value.int (nI d)])).length) Slot.unset).toArray = ls at hl ⊢
  have hl : lv_has ls 4 [(0, .ref (q 4)), (1, .int (nI i)), (2, .int (nI pp)), (3, .int (nI d))] := hl
  refine lv_aload_n hx hb dX7_addSeen_0 rfl (lv_at hl 0 rfl) ?_
  refine va_get (D := (dC, dI)) (ci := 7) (v := .int (nI se)) (C := RX7) (T := TX7) (N := 9) hx hb htl iX7 hown hK hP 0 rfl rfl 8 (by decide) (htl _ wd_68) (fun _ h9 => h9) rfl dX7_addSeen_1 ?_
  refine lv_bipush (v := nI 6) hx hb dX7_addSeen_4 (by decide) ?_
  refine lv_icmp_ge (tgt := 49) hx hb dX7_addSeen_6 (by decide) (fun c_1 => ?_) (fun c_1 => ?_)
  · exact absurd c_1 (nI_ge (by omega) (by decide))
  · refine lv_aload_n hx hb dX7_addSeen_9 rfl (lv_at hl 0 rfl) ?_
    refine va_get (D := (dC, dI)) (ci := 7) (v := .ref (q 6)) (C := RX7) (T := TX7) (N := 9) hx hb htl iX7 hown hK hP 0 rfl rfl 1 (by decide) (htl _ wd_54) (fun _ h9 => h9) rfl dX7_addSeen_10 ?_
    refine lv_aload_n hx hb dX7_addSeen_13 rfl (lv_at hl 0 rfl) ?_
    refine va_get (D := (dC, dI)) (ci := 7) (v := .int (nI se)) (C := RX7) (T := TX7) (N := 9) hx hb htl iX7 hown hK hP 0 rfl rfl 8 (by decide) (htl _ wd_68) (fun _ h9 => h9) rfl dX7_addSeen_14 ?_
    refine lv_iload_n hx hb dX7_addSeen_17 rfl (lv_at hl 1 rfl) ?_
    refine va_iast hx hb hK hP hD hS 1 3 rfl rfl (vp_in_nI (by omega) (by decide)) dX7_addSeen_18 (fun H locs hP hD hS => ?_)
    rw [nI_clamp (show se < 2 ^ 31 by omega)] at hP hD
    rw [show (upd (fun zj => nI (sn zj)) se (nI i)) = (fun zj => nI (va_up sn se i zj)) from upd_nI _ _ _] at hP hD
    have hP : va_P (dC, dI) vwCl [(q 4, .inr (7, [.ref (q 5), .ref (q 6), .ref (q 7), .ref (q 8), .long isl, .int (nI br), .int st, .int so, .int (nI se)])), (q 6, .inl (ca 3, 6, .inl (fun zj => nI (va_up sn se i zj)))), (q 7, .inl (ca 4, 6, .inl (fun zj => nI (sp zj)))), (q 8, .inl (ca 5, 6, .inl (fun zj => nI (sd zj))))] H := hP
    have hD : va_D A [(q 4, .inr (7, [.ref (q 5), .ref (q 6), .ref (q 7), .ref (q 8), .long isl, .int (nI br), .int st, .int so, .int (nI se)])), (q 6, .inl (ca 3, 6, .inl (fun zj => nI (va_up sn se i zj)))), (q 7, .inl (ca 4, 6, .inl (fun zj => nI (sp zj)))), (q 8, .inl (ca 5, 6, .inl (fun zj => nI (sd zj))))] := hD
    refine lv_aload_n hx hb dX7_addSeen_19 rfl (lv_at hl 0 rfl) ?_
    refine va_get (D := (dC, dI)) (ci := 7) (v := .ref (q 7)) (C := RX7) (T := TX7) (N := 9) hx hb htl iX7 hown hK hP 0 rfl rfl 2 (by decide) (htl _ wd_56) (fun _ h9 => h9) rfl dX7_addSeen_20 ?_
    refine lv_aload_n hx hb dX7_addSeen_23 rfl (lv_at hl 0 rfl) ?_
    refine va_get (D := (dC, dI)) (ci := 7) (v := .int (nI se)) (C := RX7) (T := TX7) (N := 9) hx hb htl iX7 hown hK hP 0 rfl rfl 8 (by decide) (htl _ wd_68) (fun _ h9 => h9) rfl dX7_addSeen_24 ?_
    refine lv_iload_n hx hb dX7_addSeen_27 rfl (lv_at hl 2 rfl) ?_
    refine va_iast hx hb hK hP hD hS 2 4 rfl rfl (vp_in_nI (by omega) (by decide)) dX7_addSeen_28 (fun H locs hP hD hS => ?_)
    rw [nI_clamp (show se < 2 ^ 31 by omega)] at hP hD
    rw [show (upd (fun zj => nI (sp zj)) se (nI pp)) = (fun zj => nI (va_up sp se pp zj)) from upd_nI _ _ _] at hP hD
    have hP : va_P (dC, dI) vwCl [(q 4, .inr (7, [.ref (q 5), .ref (q 6), .ref (q 7), .ref (q 8), .long isl, .int (nI br), .int st, .int so, .int (nI se)])), (q 6, .inl (ca 3, 6, .inl (fun zj => nI (va_up sn se i zj)))), (q 7, .inl (ca 4, 6, .inl (fun zj => nI (va_up sp se pp zj)))), (q 8, .inl (ca 5, 6, .inl (fun zj => nI (sd zj))))] H := hP
    have hD : va_D A [(q 4, .inr (7, [.ref (q 5), .ref (q 6), .ref (q 7), .ref (q 8), .long isl, .int (nI br), .int st, .int so, .int (nI se)])), (q 6, .inl (ca 3, 6, .inl (fun zj => nI (va_up sn se i zj)))), (q 7, .inl (ca 4, 6, .inl (fun zj => nI (va_up sp se pp zj)))), (q 8, .inl (ca 5, 6, .inl (fun zj => nI (sd zj))))] := hD
    refine lv_aload_n hx hb dX7_addSeen_29 rfl (lv_at hl 0 rfl) ?_
    refine va_get (D := (dC, dI)) (ci := 7) (v := .ref (q 8)) (C := RX7) (T := TX7) (N := 9) hx hb htl iX7 hown hK hP 0 rfl rfl 3 (by decide) (htl _ wd_58) (fun _ h9 => h9) rfl dX7_addSeen_30 ?_
    refine lv_aload_n hx hb dX7_addSeen_33 rfl (lv_at hl 0 rfl) ?_
    refine va_get (D := (dC, dI)) (ci := 7) (v := .int (nI se)) (C := RX7) (T := TX7) (N := 9) hx hb htl iX7 hown hK hP 0 rfl rfl 8 (by decide) (htl _ wd_68) (fun _ h9 => h9) rfl dX7_addSeen_34 ?_
    refine lv_iload_n hx hb dX7_addSeen_37 rfl (lv_at hl 3 rfl) ?_
    refine va_iast hx hb hK hP hD hS 3 5 rfl rfl (vp_in_nI (by omega) (by decide)) dX7_addSeen_38 (fun H locs hP hD hS => ?_)
    rw [nI_clamp (show se < 2 ^ 31 by omega)] at hP hD
    rw [show (upd (fun zj => nI (sd zj)) se (nI d)) = (fun zj => nI (va_up sd se d zj)) from upd_nI _ _ _] at hP hD
    have hP : va_P (dC, dI) vwCl [(q 4, .inr (7, [.ref (q 5), .ref (q 6), .ref (q 7), .ref (q 8), .long isl, .int (nI br), .int st, .int so, .int (nI se)])), (q 6, .inl (ca 3, 6, .inl (fun zj => nI (va_up sn se i zj)))), (q 7, .inl (ca 4, 6, .inl (fun zj => nI (va_up sp se pp zj)))), (q 8, .inl (ca 5, 6, .inl (fun zj => nI (va_up sd se d zj))))] H := hP
    have hD : va_D A [(q 4, .inr (7, [.ref (q 5), .ref (q 6), .ref (q 7), .ref (q 8), .long isl, .int (nI br), .int st, .int so, .int (nI se)])), (q 6, .inl (ca 3, 6, .inl (fun zj => nI (va_up sn se i zj)))), (q 7, .inl (ca 4, 6, .inl (fun zj => nI (va_up sp se pp zj)))), (q 8, .inl (ca 5, 6, .inl (fun zj => nI (va_up sd se d zj))))] := hD
    refine lv_aload_n hx hb dX7_addSeen_39 rfl (lv_at hl 0 rfl) ?_
    refine lv_dup hx hb dX7_addSeen_40 rfl ?_
    refine va_get (D := (dC, dI)) (ci := 7) (v := .int (nI se)) (C := RX7) (T := TX7) (N := 9) hx hb htl iX7 hown hK hP 0 rfl rfl 8 (by decide) (htl _ wd_68) (fun _ h9 => h9) rfl dX7_addSeen_41 ?_
    refine lv_iconst (v := nI 1) hx hb dX7_addSeen_44 (by decide) ?_
    refine lv_iadd hx hb dX7_addSeen_45 ?_
    refine lv_ri (y := nI (se + 1)) (nI_add se 1) ?_
    refine va_put (D := (dC, dI)) (ci := 7) (v := .int (nI (se + 1))) (ty := .int) (C := RX7) (T := TX7) (N := 9) hx hb htl iX7 tyX7 tyX7_ok nmX7 hown hK hP hD hS 0 rfl rfl 8 (by decide) (htl _ wd_68) (fun _ h9 => h9) rfl (by decide +kernel) rfl rfl (Nat.le_of_ble_eq_true rfl) dX7_addSeen_46 (fun H locs hP hD hS => ?_)
    have hP : va_P (dC, dI) vwCl [(q 4, .inr (7, [.ref (q 5), .ref (q 6), .ref (q 7), .ref (q 8), .long isl, .int (nI br), .int st, .int so, .int (nI (se + 1))])), (q 6, .inl (ca 3, 6, .inl (fun zj => nI (va_up sn se i zj)))), (q 7, .inl (ca 4, 6, .inl (fun zj => nI (va_up sp se pp zj)))), (q 8, .inl (ca 5, 6, .inl (fun zj => nI (va_up sd se d zj))))] H := hP
    have hD : va_D A [(q 4, .inr (7, [.ref (q 5), .ref (q 6), .ref (q 7), .ref (q 8), .long isl, .int (nI br), .int st, .int so, .int (nI (se + 1))])), (q 6, .inl (ca 3, 6, .inl (fun zj => nI (va_up sn se i zj)))), (q 7, .inl (ca 4, 6, .inl (fun zj => nI (va_up sp se pp zj)))), (q 8, .inl (ca 5, 6, .inl (fun zj => nI (va_up sd se d zj))))] := hD
    have hP9 := hP.sub (ws' := [(q 4, .inr (7, [.ref (q 5), .ref (q 6), .ref (q 7), .ref (q 8), .long isl, .int (nI br), .int st, .int so, .int (nI (se + 1))])), (q 6, .inl (ca 3, 6, .inl (fun zj => nI (va_up sn se i zj)))), (q 7, .inl (ca 4, 6, .inl (fun zj => nI (va_up sp se pp zj)))), (q 8, .inl (ca 5, 6, .inl (fun zj => nI (va_up sd se d zj))))]) [0, 1, 2, 3] rfl
    have hD9 := hD.sub (ws' := [(q 4, .inr (7, [.ref (q 5), .ref (q 6), .ref (q 7), .ref (q 8), .long isl, .int (nI br), .int st, .int so, .int (nI (se + 1))])), (q 6, .inl (ca 3, 6, .inl (fun zj => nI (va_up sn se i zj)))), (q 7, .inl (ca 4, 6, .inl (fun zj => nI (va_up sp se pp zj)))), (q 8, .inl (ca 5, 6, .inl (fun zj => nI (va_up sd se d zj))))]) [0, 1, 2, 3] (by decide) rfl
    exact W.vret hx hb hr (fun t ht hW => ⟨⟨(), rfl, trivial, by rw [ht]; exact hP9, va_K.moved hW.alike hK, hD9⟩, hS.F ht⟩) hS.2.2 dX7_addSeen_49
def setI (isl : Int64) (j : Nat) (x : Int32) : Int64 := if x = 0 then isl &&& ((1 <<< ((nI j).toInt64 &&& 63)) ^^^ (-1)) else isl ||| (1 <<< ((nI j).toInt64 &&& 63))
set_option maxHeartbeats 4000000 in
set_option maxRecDepth 100000 in
theorem kX7_setIsland (l : Launch) (dC : Nat → ClassId) (dI : Nat → Nat → Nat) (ca : Nat → ClassId) (sz : Nat) (j : Nat) (x2 : Int32) (q : Nat → Nat) (isl : Int64) (br : Nat) (st : Int32) (so : Int32) (se : Nat) : Met l yX7_setIsland (Cond.code yX7_setIsland cX7_setIsland 5 none :: gT) (rk 1) (EFp (dC, dI) [(q 4, .inr (7, [.ref (q 5), .ref (q 6), .ref (q 7), .ref (q 8), .long isl, .int (nI br), .int st, .int so, .int (nI se)]))] (TY ca) sz [Value.ref (q 4), Value.int (nI j), Value.int x2]) (va_Qv (fun (_ : Unit) => True) (EFb (dC, dI) (fun (_ : Unit) => [(q 4, .inr (7, [.ref (q 5), .ref (q 6), .ref (q 7), .ref (q 8), .long (setI isl j x2), .int (nI br), .int st, .int so, .int (nI se)]))]) (TY ca) (va_A [(q 4, .inr (7, [.ref (q 5), .ref (q 6), .ref (q 7), .ref (q 8), .long isl, .int (nI br), .int st, .int so, .int (nI se)]))] sz)) (va_A [(q 4, .inr (7, [.ref (q 5), .ref (q 6), .ref (q 7), .ref (q 8), .long isl, .int (nI br), .int st, .int so, .int (nI se)]))] sz)) 0 0 (va_A [(q 4, .inr (7, [.ref (q 5), .ref (q 6), .ref (q 7), .ref (q 8), .long isl, .int (nI br), .int st, .int so, .int (nI se)]))] sz) := by
  refine Met.ofW (cc := cX7_setIsland) (maxL := 5) (ret := none) (by decide) rfl ?_
  intro p e s m args below meth c s₁ B hml hv
  obtain ⟨rfl, hsz, hP, hK, hD0⟩ := hv
  have hx := B.exec
  have hb := B.bytes
  have hr := B.returns
  have hts := atoms_spec (ws := (Cond.code yX7_setIsland cX7_setIsland 5 none :: gT)) B.pre
  have htl : ∀ w ∈ gT, w.before _ s = true := fun w h => hts w (List.mem_cons_of_mem _ h)
  have hown : s.vm.findClass RX7 = some m.cls := findClass_of_methodNamed B.named
  have hlocks := B.notSynchronized
  subst hsz
  have hD := hD0.self (sz := s.heap.size)
  generalize hAe : va_A [(q 4, .inr (7, [.ref (q 5), .ref (q 6), .ref (q 7), .ref (q 8), .long isl, .int (nI br), .int st, .int so, .int (nI se)]))] s.heap.size = A at hD ⊢
  have hA : ∀ q : Nat, s.heap.size ≤ q → A q := fun q h => by rw [← hAe]; exact Or.inr h
  have hS : va_S A s.heap s.heap [] := va_S.rf
  have hl := lv_entry ([Value.ref (q 4), Value.int (nI j), Value.int x2]) (n := 5) (Nat.le_of_ble_eq_true rfl)
  rw [lg_entry_eq]
  generalize (lg_sl ([Value.ref (q 4), Value.int (nI j), Value.int x2]) ++ List.replicate (5 - (lg_sl ([Value.ref (q 4), Value.int (nI j), Value.int x2])).length) Slot.unset).toArray = ls at hl ⊢
  have hl : lv_has ls 5 [(0, .ref (q 4)), (1, .int (nI j)), (2, .int x2)] := hl
  refine lv_lconst (v := 1) hx hb dX7_setIsland_0 (by decide) ?_
  refine lv_iload_n hx hb dX7_setIsland_1 rfl (lv_at hl 1 rfl) ?_
  refine lv_lshl (v := 1 <<< ((nI j).toInt64 &&& 63)) hx hb dX7_setIsland_2 rfl ?_
  refine lv_lstore_n (lv' := [(3, .long (1 <<< ((nI j).toInt64 &&& 63))), (0, .ref (q 4)), (1, .int (nI j)), (2, .int x2)]) hx hb dX7_setIsland_3 rfl hl (by decide) rfl (fun ls hl => ?_)
  refine lv_aload_n hx hb dX7_setIsland_4 rfl (lv_at hl 1 rfl) ?_
  refine lv_iload_n hx hb dX7_setIsland_5 rfl (lv_at hl 3 rfl) ?_
  refine lv_if_eq (tgt := 18) hx hb dX7_setIsland_6 (by decide) (fun c_1 => ?_) (fun c_1 => ?_)
  · refine lv_aload_n hx hb dX7_setIsland_18 rfl (lv_at hl 1 rfl) ?_
    refine va_get (D := (dC, dI)) (ci := 7) (v := .long isl) (C := RX7) (T := TX7) (N := 9) hx hb htl iX7 hown hK hP 0 rfl rfl 4 (by decide) (htl _ wd_60) (fun _ h9 => h9) rfl dX7_setIsland_19 ?_
    refine lv_lload_n hx hb dX7_setIsland_22 rfl (lv_at hl 0 rfl) ?_
    refine lv_ldc2 (v := (-1)) hx hb hown (htl _ wd_327) dX7_setIsland_23 ?_
    refine lv_lxor hx hb dX7_setIsland_26 ?_
    refine lv_land hx hb dX7_setIsland_27 ?_
    refine va_put (D := (dC, dI)) (ci := 7) (v := .long (isl &&& ((1 <<< ((nI j).toInt64 &&& 63)) ^^^ (-1)))) (ty := .long) (C := RX7) (T := TX7) (N := 9) hx hb htl iX7 tyX7 tyX7_ok nmX7 hown hK hP hD hS 0 rfl rfl 4 (by decide) (htl _ wd_60) (fun _ h9 => h9) rfl (by decide +kernel) rfl rfl (Nat.le_of_ble_eq_true rfl) dX7_setIsland_28 (fun H locs hP hD hS => ?_)
    have hP : va_P (dC, dI) vwCl [(q 4, .inr (7, [.ref (q 5), .ref (q 6), .ref (q 7), .ref (q 8), .long (isl &&& ((1 <<< ((nI j).toInt64 &&& 63)) ^^^ (-1))), .int (nI br), .int st, .int so, .int (nI se)]))] H := hP
    have hD : va_D A [(q 4, .inr (7, [.ref (q 5), .ref (q 6), .ref (q 7), .ref (q 8), .long (isl &&& ((1 <<< ((nI j).toInt64 &&& 63)) ^^^ (-1))), .int (nI br), .int st, .int so, .int (nI se)]))] := hD
    have hP9 := hP.sub (ws' := [(q 4, .inr (7, [.ref (q 5), .ref (q 6), .ref (q 7), .ref (q 8), .long (isl &&& ((1 <<< ((nI j).toInt64 &&& 63)) ^^^ (-1))), .int (nI br), .int st, .int so, .int (nI se)]))]) [0] rfl
    have hD9 := hD.sub (ws' := [(q 4, .inr (7, [.ref (q 5), .ref (q 6), .ref (q 7), .ref (q 8), .long (isl &&& ((1 <<< ((nI j).toInt64 &&& 63)) ^^^ (-1))), .int (nI br), .int st, .int so, .int (nI se)]))]) [0] (by decide) rfl
    exact W.vret hx hb hr (fun t ht hW => ⟨⟨(), rfl, trivial, by rw [ht]; unfold setI; rw [if_pos c_1]; exact hP9, va_K.moved hW.alike hK, (by unfold setI; rw [if_pos c_1]; exact hD9)⟩, hS.F ht⟩) hS.2.2 dX7_setIsland_31
  · refine lv_aload_n hx hb dX7_setIsland_9 rfl (lv_at hl 1 rfl) ?_
    refine va_get (D := (dC, dI)) (ci := 7) (v := .long isl) (C := RX7) (T := TX7) (N := 9) hx hb htl iX7 hown hK hP 0 rfl rfl 4 (by decide) (htl _ wd_60) (fun _ h9 => h9) rfl dX7_setIsland_10 ?_
    refine lv_lload_n hx hb dX7_setIsland_13 rfl (lv_at hl 0 rfl) ?_
    refine lv_lor hx hb dX7_setIsland_14 ?_
    refine lv_goto (tgt := 28) hx hb dX7_setIsland_15 (by decide) ?_
    refine va_put (D := (dC, dI)) (ci := 7) (v := .long (isl ||| (1 <<< ((nI j).toInt64 &&& 63)))) (ty := .long) (C := RX7) (T := TX7) (N := 9) hx hb htl iX7 tyX7 tyX7_ok nmX7 hown hK hP hD hS 0 rfl rfl 4 (by decide) (htl _ wd_60) (fun _ h9 => h9) rfl (by decide +kernel) rfl rfl (Nat.le_of_ble_eq_true rfl) dX7_setIsland_28 (fun H locs hP hD hS => ?_)
    have hP : va_P (dC, dI) vwCl [(q 4, .inr (7, [.ref (q 5), .ref (q 6), .ref (q 7), .ref (q 8), .long (isl ||| (1 <<< ((nI j).toInt64 &&& 63))), .int (nI br), .int st, .int so, .int (nI se)]))] H := hP
    have hD : va_D A [(q 4, .inr (7, [.ref (q 5), .ref (q 6), .ref (q 7), .ref (q 8), .long (isl ||| (1 <<< ((nI j).toInt64 &&& 63))), .int (nI br), .int st, .int so, .int (nI se)]))] := hD
    have hP9 := hP.sub (ws' := [(q 4, .inr (7, [.ref (q 5), .ref (q 6), .ref (q 7), .ref (q 8), .long (isl ||| (1 <<< ((nI j).toInt64 &&& 63))), .int (nI br), .int st, .int so, .int (nI se)]))]) [0] rfl
    have hD9 := hD.sub (ws' := [(q 4, .inr (7, [.ref (q 5), .ref (q 6), .ref (q 7), .ref (q 8), .long (isl ||| (1 <<< ((nI j).toInt64 &&& 63))), .int (nI br), .int st, .int so, .int (nI se)]))]) [0] (by decide) rfl
    exact W.vret hx hb hr (fun t ht hW => ⟨⟨(), rfl, trivial, by rw [ht]; unfold setI; rw [if_neg c_1]; exact hP9, va_K.moved hW.alike hK, (by unfold setI; rw [if_neg c_1]; exact hD9)⟩, hS.F ht⟩) hS.2.2 dX7_setIsland_31
set_option maxHeartbeats 4000000 in
set_option maxRecDepth 100000 in
theorem kX7_clear (l : Launch) (dC : Nat → ClassId) (dI : Nat → Nat → Nat) (ca : Nat → ClassId) (sz : Nat) (q : Nat → Nat) (isl : Int64) (br : Nat) (st : Int32) (so : Int32) (se : Nat) : Met l yX7_clear (Cond.code yX7_clear cX7_clear 1 none :: gT) (rk 1) (EFp (dC, dI) [(q 4, .inr (7, [.ref (q 5), .ref (q 6), .ref (q 7), .ref (q 8), .long isl, .int (nI br), .int st, .int so, .int (nI se)]))] (TY ca) sz [Value.ref (q 4)]) (va_Qv (fun (_ : Unit) => True) (EFb (dC, dI) (fun (_ : Unit) => [(q 4, .inr (7, [.ref (q 5), .ref (q 6), .ref (q 7), .ref (q 8), .long 0, .int (nI 0), .int (nI 0), .int (nI 0), .int (nI 0)]))]) (TY ca) (va_A [(q 4, .inr (7, [.ref (q 5), .ref (q 6), .ref (q 7), .ref (q 8), .long isl, .int (nI br), .int st, .int so, .int (nI se)]))] sz)) (va_A [(q 4, .inr (7, [.ref (q 5), .ref (q 6), .ref (q 7), .ref (q 8), .long isl, .int (nI br), .int st, .int so, .int (nI se)]))] sz)) 0 0 (va_A [(q 4, .inr (7, [.ref (q 5), .ref (q 6), .ref (q 7), .ref (q 8), .long isl, .int (nI br), .int st, .int so, .int (nI se)]))] sz) := by
  refine Met.ofW (cc := cX7_clear) (maxL := 1) (ret := none) (by decide) rfl ?_
  intro p e s m args below meth c s₁ B hml hv
  obtain ⟨rfl, hsz, hP, hK, hD0⟩ := hv
  have hx := B.exec
  have hb := B.bytes
  have hr := B.returns
  have hts := atoms_spec (ws := (Cond.code yX7_clear cX7_clear 1 none :: gT)) B.pre
  have htl : ∀ w ∈ gT, w.before _ s = true := fun w h => hts w (List.mem_cons_of_mem _ h)
  have hown : s.vm.findClass RX7 = some m.cls := findClass_of_methodNamed B.named
  have hlocks := B.notSynchronized
  subst hsz
  have hD := hD0.self (sz := s.heap.size)
  generalize hAe : va_A [(q 4, .inr (7, [.ref (q 5), .ref (q 6), .ref (q 7), .ref (q 8), .long isl, .int (nI br), .int st, .int so, .int (nI se)]))] s.heap.size = A at hD ⊢
  have hA : ∀ q : Nat, s.heap.size ≤ q → A q := fun q h => by rw [← hAe]; exact Or.inr h
  have hS : va_S A s.heap s.heap [] := va_S.rf
  have hl := lv_entry ([Value.ref (q 4)]) (n := 1) (Nat.le_of_ble_eq_true rfl)
  rw [lg_entry_eq]
  generalize (lg_sl ([Value.ref (q 4)]) ++ List.replicate (1 - (lg_sl ([Value.ref (q 4)])).length) Slot.unset).toArray = ls at hl ⊢
  have hl : lv_has ls 1 [(0, .ref (q 4))] := hl
  refine lv_aload_n hx hb dX7_clear_0 rfl (lv_at hl 0 rfl) ?_
  refine lv_lconst (v := 0) hx hb dX7_clear_1 (by decide) ?_
  refine va_put (D := (dC, dI)) (ci := 7) (v := .long 0) (ty := .long) (C := RX7) (T := TX7) (N := 9) hx hb htl iX7 tyX7 tyX7_ok nmX7 hown hK hP hD hS 0 rfl rfl 4 (by decide) (htl _ wd_60) (fun _ h9 => h9) rfl (by decide +kernel) rfl rfl (Nat.le_of_ble_eq_true rfl) dX7_clear_2 (fun H locs hP hD hS => ?_)
  have hP : va_P (dC, dI) vwCl [(q 4, .inr (7, [.ref (q 5), .ref (q 6), .ref (q 7), .ref (q 8), .long 0, .int (nI br), .int st, .int so, .int (nI se)]))] H := hP
  have hD : va_D A [(q 4, .inr (7, [.ref (q 5), .ref (q 6), .ref (q 7), .ref (q 8), .long 0, .int (nI br), .int st, .int so, .int (nI se)]))] := hD
  refine lv_aload_n hx hb dX7_clear_5 rfl (lv_at hl 0 rfl) ?_
  refine lv_iconst (v := nI 0) hx hb dX7_clear_6 (by decide) ?_
  refine va_put (D := (dC, dI)) (ci := 7) (v := .int (nI 0)) (ty := .int) (C := RX7) (T := TX7) (N := 9) hx hb htl iX7 tyX7 tyX7_ok nmX7 hown hK hP hD hS 0 rfl rfl 5 (by decide) (htl _ wd_62) (fun _ h9 => h9) rfl (by decide +kernel) rfl rfl (Nat.le_of_ble_eq_true rfl) dX7_clear_7 (fun H locs hP hD hS => ?_)
  have hP : va_P (dC, dI) vwCl [(q 4, .inr (7, [.ref (q 5), .ref (q 6), .ref (q 7), .ref (q 8), .long 0, .int (nI 0), .int st, .int so, .int (nI se)]))] H := hP
  have hD : va_D A [(q 4, .inr (7, [.ref (q 5), .ref (q 6), .ref (q 7), .ref (q 8), .long 0, .int (nI 0), .int st, .int so, .int (nI se)]))] := hD
  refine lv_aload_n hx hb dX7_clear_10 rfl (lv_at hl 0 rfl) ?_
  refine lv_iconst (v := nI 0) hx hb dX7_clear_11 (by decide) ?_
  refine va_put (D := (dC, dI)) (ci := 7) (v := .int (nI 0)) (ty := .int) (C := RX7) (T := TX7) (N := 9) hx hb htl iX7 tyX7 tyX7_ok nmX7 hown hK hP hD hS 0 rfl rfl 6 (by decide) (htl _ wd_64) (fun _ h9 => h9) rfl (by decide +kernel) rfl rfl (Nat.le_of_ble_eq_true rfl) dX7_clear_12 (fun H locs hP hD hS => ?_)
  have hP : va_P (dC, dI) vwCl [(q 4, .inr (7, [.ref (q 5), .ref (q 6), .ref (q 7), .ref (q 8), .long 0, .int (nI 0), .int (nI 0), .int so, .int (nI se)]))] H := hP
  have hD : va_D A [(q 4, .inr (7, [.ref (q 5), .ref (q 6), .ref (q 7), .ref (q 8), .long 0, .int (nI 0), .int (nI 0), .int so, .int (nI se)]))] := hD
  refine lv_aload_n hx hb dX7_clear_15 rfl (lv_at hl 0 rfl) ?_
  refine lv_iconst (v := nI 0) hx hb dX7_clear_16 (by decide) ?_
  refine va_put (D := (dC, dI)) (ci := 7) (v := .int (nI 0)) (ty := .int) (C := RX7) (T := TX7) (N := 9) hx hb htl iX7 tyX7 tyX7_ok nmX7 hown hK hP hD hS 0 rfl rfl 7 (by decide) (htl _ wd_66) (fun _ h9 => h9) rfl (by decide +kernel) rfl rfl (Nat.le_of_ble_eq_true rfl) dX7_clear_17 (fun H locs hP hD hS => ?_)
  have hP : va_P (dC, dI) vwCl [(q 4, .inr (7, [.ref (q 5), .ref (q 6), .ref (q 7), .ref (q 8), .long 0, .int (nI 0), .int (nI 0), .int (nI 0), .int (nI se)]))] H := hP
  have hD : va_D A [(q 4, .inr (7, [.ref (q 5), .ref (q 6), .ref (q 7), .ref (q 8), .long 0, .int (nI 0), .int (nI 0), .int (nI 0), .int (nI se)]))] := hD
  refine lv_aload_n hx hb dX7_clear_20 rfl (lv_at hl 0 rfl) ?_
  refine lv_iconst (v := nI 0) hx hb dX7_clear_21 (by decide) ?_
  refine va_put (D := (dC, dI)) (ci := 7) (v := .int (nI 0)) (ty := .int) (C := RX7) (T := TX7) (N := 9) hx hb htl iX7 tyX7 tyX7_ok nmX7 hown hK hP hD hS 0 rfl rfl 8 (by decide) (htl _ wd_68) (fun _ h9 => h9) rfl (by decide +kernel) rfl rfl (Nat.le_of_ble_eq_true rfl) dX7_clear_22 (fun H locs hP hD hS => ?_)
  have hP : va_P (dC, dI) vwCl [(q 4, .inr (7, [.ref (q 5), .ref (q 6), .ref (q 7), .ref (q 8), .long 0, .int (nI 0), .int (nI 0), .int (nI 0), .int (nI 0)]))] H := hP
  have hD : va_D A [(q 4, .inr (7, [.ref (q 5), .ref (q 6), .ref (q 7), .ref (q 8), .long 0, .int (nI 0), .int (nI 0), .int (nI 0), .int (nI 0)]))] := hD
  have hP9 := hP.sub (ws' := [(q 4, .inr (7, [.ref (q 5), .ref (q 6), .ref (q 7), .ref (q 8), .long 0, .int (nI 0), .int (nI 0), .int (nI 0), .int (nI 0)]))]) [0] rfl
  have hD9 := hD.sub (ws' := [(q 4, .inr (7, [.ref (q 5), .ref (q 6), .ref (q 7), .ref (q 8), .long 0, .int (nI 0), .int (nI 0), .int (nI 0), .int (nI 0)]))]) [0] (by decide) rfl
  exact W.vret hx hb hr (fun t ht hW => ⟨⟨(), rfl, trivial, by rw [ht]; exact hP9, va_K.moved hW.alike hK, hD9⟩, hS.F ht⟩) hS.2.2 dX7_clear_25
set_option maxHeartbeats 4000000 in
set_option maxRecDepth 100000 in
theorem kcopy_keep (l : Launch) (dC : Nat → ClassId) (dI : Nat → Nat → Nat) (ca : Nat → ClassId) (sz : Nat) (q : Nat → Nat) (isl : Int64) (br : Nat) (st : Int32) (so : Int32) (se : Nat) (hm : Nat → Nat) (sn : Nat → Nat) (sp : Nat → Nat) (sd : Nat → Nat) (kisl : Int64) (kbr : Nat) (kst : Int32) (kso : Int32) (kse : Nat) (khm : Nat → Nat) (ksn : Nat → Nat) (ksp : Nat → Nat) (ksd : Nat → Nat) : Met l yX7_copyFrom (Cond.code yX7_copyFrom cX7_copyFrom 2 none :: gT) (rk 2) (EFp (dC, dI) [(q 9, .inr (7, [.ref (q 10), .ref (q 11), .ref (q 12), .ref (q 13), .long kisl, .int (nI kbr), .int kst, .int kso, .int (nI kse)])), (q 10, .inl (ca 6, 4, .inl (fun zj => nI (khm zj)))), (q 11, .inl (ca 7, 6, .inl (fun zj => nI (ksn zj)))), (q 12, .inl (ca 8, 6, .inl (fun zj => nI (ksp zj)))), (q 13, .inl (ca 9, 6, .inl (fun zj => nI (ksd zj)))), (q 4, .inr (7, [.ref (q 5), .ref (q 6), .ref (q 7), .ref (q 8), .long isl, .int (nI br), .int st, .int so, .int (nI se)])), (q 5, .inl (ca 2, 4, .inl (fun zj => nI (hm zj)))), (q 6, .inl (ca 3, 6, .inl (fun zj => nI (sn zj)))), (q 7, .inl (ca 4, 6, .inl (fun zj => nI (sp zj)))), (q 8, .inl (ca 5, 6, .inl (fun zj => nI (sd zj))))] (TY ca) sz [Value.ref (q 9), Value.ref (q 4)]) (va_Qv (fun (_ : Unit) => True) (EFb (dC, dI) (fun (_ : Unit) => [(q 9, .inr (7, [.ref (q 10), .ref (q 11), .ref (q 12), .ref (q 13), .long isl, .int (nI br), .int st, .int so, .int (nI se)])), (q 10, .inl (ca 6, 4, .inl (fun zj => nI (hm zj)))), (q 11, .inl (ca 7, 6, .inl (fun zj => nI (sn zj)))), (q 12, .inl (ca 8, 6, .inl (fun zj => nI (sp zj)))), (q 13, .inl (ca 9, 6, .inl (fun zj => nI (sd zj)))), (q 4, .inr (7, [.ref (q 5), .ref (q 6), .ref (q 7), .ref (q 8), .long isl, .int (nI br), .int st, .int so, .int (nI se)])), (q 5, .inl (ca 2, 4, .inl (fun zj => nI (hm zj)))), (q 6, .inl (ca 3, 6, .inl (fun zj => nI (sn zj)))), (q 7, .inl (ca 4, 6, .inl (fun zj => nI (sp zj)))), (q 8, .inl (ca 5, 6, .inl (fun zj => nI (sd zj))))]) (TY ca) (va_A [(q 9, .inr (7, [.ref (q 10), .ref (q 11), .ref (q 12), .ref (q 13), .long kisl, .int (nI kbr), .int kst, .int kso, .int (nI kse)])), (q 10, .inl (ca 6, 4, .inl (fun zj => nI (khm zj)))), (q 11, .inl (ca 7, 6, .inl (fun zj => nI (ksn zj)))), (q 12, .inl (ca 8, 6, .inl (fun zj => nI (ksp zj)))), (q 13, .inl (ca 9, 6, .inl (fun zj => nI (ksd zj)))), (q 4, .inr (7, [.ref (q 5), .ref (q 6), .ref (q 7), .ref (q 8), .long isl, .int (nI br), .int st, .int so, .int (nI se)])), (q 5, .inl (ca 2, 4, .inl (fun zj => nI (hm zj)))), (q 6, .inl (ca 3, 6, .inl (fun zj => nI (sn zj)))), (q 7, .inl (ca 4, 6, .inl (fun zj => nI (sp zj)))), (q 8, .inl (ca 5, 6, .inl (fun zj => nI (sd zj))))] sz)) (va_A [(q 9, .inr (7, [.ref (q 10), .ref (q 11), .ref (q 12), .ref (q 13), .long kisl, .int (nI kbr), .int kst, .int kso, .int (nI kse)])), (q 10, .inl (ca 6, 4, .inl (fun zj => nI (khm zj)))), (q 11, .inl (ca 7, 6, .inl (fun zj => nI (ksn zj)))), (q 12, .inl (ca 8, 6, .inl (fun zj => nI (ksp zj)))), (q 13, .inl (ca 9, 6, .inl (fun zj => nI (ksd zj)))), (q 4, .inr (7, [.ref (q 5), .ref (q 6), .ref (q 7), .ref (q 8), .long isl, .int (nI br), .int st, .int so, .int (nI se)])), (q 5, .inl (ca 2, 4, .inl (fun zj => nI (hm zj)))), (q 6, .inl (ca 3, 6, .inl (fun zj => nI (sn zj)))), (q 7, .inl (ca 4, 6, .inl (fun zj => nI (sp zj)))), (q 8, .inl (ca 5, 6, .inl (fun zj => nI (sd zj))))] sz)) 0 0 (va_A [(q 9, .inr (7, [.ref (q 10), .ref (q 11), .ref (q 12), .ref (q 13), .long kisl, .int (nI kbr), .int kst, .int kso, .int (nI kse)])), (q 10, .inl (ca 6, 4, .inl (fun zj => nI (khm zj)))), (q 11, .inl (ca 7, 6, .inl (fun zj => nI (ksn zj)))), (q 12, .inl (ca 8, 6, .inl (fun zj => nI (ksp zj)))), (q 13, .inl (ca 9, 6, .inl (fun zj => nI (ksd zj)))), (q 4, .inr (7, [.ref (q 5), .ref (q 6), .ref (q 7), .ref (q 8), .long isl, .int (nI br), .int st, .int so, .int (nI se)])), (q 5, .inl (ca 2, 4, .inl (fun zj => nI (hm zj)))), (q 6, .inl (ca 3, 6, .inl (fun zj => nI (sn zj)))), (q 7, .inl (ca 4, 6, .inl (fun zj => nI (sp zj)))), (q 8, .inl (ca 5, 6, .inl (fun zj => nI (sd zj))))] sz) := by
  refine Met.ofW (cc := cX7_copyFrom) (maxL := 2) (ret := none) (by decide) rfl ?_
  intro p e s m args below meth c s₁ B hml hv
  obtain ⟨rfl, hsz, hP, hK, hD0⟩ := hv
  have hx := B.exec
  have hb := B.bytes
  have hr := B.returns
  have hts := atoms_spec (ws := (Cond.code yX7_copyFrom cX7_copyFrom 2 none :: gT)) B.pre
  have htl : ∀ w ∈ gT, w.before _ s = true := fun w h => hts w (List.mem_cons_of_mem _ h)
  have hown : s.vm.findClass RX7 = some m.cls := findClass_of_methodNamed B.named
  have hlocks := B.notSynchronized
  subst hsz
  have hD := hD0.self (sz := s.heap.size)
  generalize hAe : va_A [(q 9, .inr (7, [.ref (q 10), .ref (q 11), .ref (q 12), .ref (q 13), .long kisl, .int (nI kbr), .int kst, .int kso, .int (nI kse)])), (q 10, .inl (ca 6, 4, .inl (fun zj => nI (khm zj)))), (q 11, .inl (ca 7, 6, .inl (fun zj => nI (ksn zj)))), (q 12, .inl (ca 8, 6, .inl (fun zj => nI (ksp zj)))), (q 13, .inl (ca 9, 6, .inl (fun zj => nI (ksd zj)))), (q 4, .inr (7, [.ref (q 5), .ref (q 6), .ref (q 7), .ref (q 8), .long isl, .int (nI br), .int st, .int so, .int (nI se)])), (q 5, .inl (ca 2, 4, .inl (fun zj => nI (hm zj)))), (q 6, .inl (ca 3, 6, .inl (fun zj => nI (sn zj)))), (q 7, .inl (ca 4, 6, .inl (fun zj => nI (sp zj)))), (q 8, .inl (ca 5, 6, .inl (fun zj => nI (sd zj))))] s.heap.size = A at hD ⊢
  have hA : ∀ q : Nat, s.heap.size ≤ q → A q := fun q h => by rw [← hAe]; exact Or.inr h
  have hS : va_S A s.heap s.heap [] := va_S.rf
  have hl := lv_entry ([Value.ref (q 9), Value.ref (q 4)]) (n := 2) (Nat.le_of_ble_eq_true rfl)
  rw [lg_entry_eq]
  generalize (lg_sl ([Value.ref (q 9), Value.ref (q 4)]) ++ List.replicate (2 - (lg_sl ([Value.ref (q 9), Value.ref (q 4)])).length) Slot.unset).toArray = ls at hl ⊢
  have hl : lv_has ls 2 [(0, .ref (q 9)), (1, .ref (q 4))] := hl
  refine lv_aload_n hx hb dX7_copyFrom_0 rfl (lv_at hl 1 rfl) ?_
  refine va_get (D := (dC, dI)) (ci := 7) (v := .ref (q 5)) (C := RX7) (T := TX7) (N := 9) hx hb htl iX7 hown hK hP 5 rfl rfl 0 (by decide) (htl _ wd_52) (fun _ h9 => h9) rfl dX7_copyFrom_1 ?_
  refine lv_iconst (v := nI 0) hx hb dX7_copyFrom_4 (by decide) ?_
  refine lv_aload_n hx hb dX7_copyFrom_5 rfl (lv_at hl 0 rfl) ?_
  refine va_get (D := (dC, dI)) (ci := 7) (v := .ref (q 10)) (C := RX7) (T := TX7) (N := 9) hx hb htl iX7 hown hK hP 0 rfl rfl 0 (by decide) (htl _ wd_52) (fun _ h9 => h9) rfl dX7_copyFrom_6 ?_
  refine lv_iconst (v := nI 0) hx hb dX7_copyFrom_9 (by decide) ?_
  refine lv_iconst (v := nI 4) hx hb dX7_copyFrom_10 (by decide) ?_
  refine va_copyi hx hb (by rw [hml]; exact hl.1.symm) hown (htl _ wd_515) (htl _ wd_517) (htl _ wd_516) (htl _ wd_19) hK hP hD hS 6 1 2 6 rfl rfl rfl rfl rfl (by decide) (by decide) (by decide) (by decide) (by decide) (fun _ _ => rfl) (Nat.le_of_ble_eq_true rfl) (Nat.le_of_ble_eq_true rfl) dX7_copyFrom_11 (fun H locs hP hD hS => ?_)
  have hP := va_P_fn hP 1 (g := fun zj => nI (hm zj)) rfl (fun j hj => by show va_cpy _ _ 0 0 4 j = _; rw [pk_cpy_in (by omega) (by omega)]; simp)
  have hD := va_D.set (e := .inl (ca 6, 4, .inl (fun zj => nI (hm zj)))) hD (p := 1) rfl
  have hP : va_P (dC, dI) vwCl [(q 9, .inr (7, [.ref (q 10), .ref (q 11), .ref (q 12), .ref (q 13), .long kisl, .int (nI kbr), .int kst, .int kso, .int (nI kse)])), (q 10, .inl (ca 6, 4, .inl (fun zj => nI (hm zj)))), (q 11, .inl (ca 7, 6, .inl (fun zj => nI (ksn zj)))), (q 12, .inl (ca 8, 6, .inl (fun zj => nI (ksp zj)))), (q 13, .inl (ca 9, 6, .inl (fun zj => nI (ksd zj)))), (q 4, .inr (7, [.ref (q 5), .ref (q 6), .ref (q 7), .ref (q 8), .long isl, .int (nI br), .int st, .int so, .int (nI se)])), (q 5, .inl (ca 2, 4, .inl (fun zj => nI (hm zj)))), (q 6, .inl (ca 3, 6, .inl (fun zj => nI (sn zj)))), (q 7, .inl (ca 4, 6, .inl (fun zj => nI (sp zj)))), (q 8, .inl (ca 5, 6, .inl (fun zj => nI (sd zj))))] H := hP
  have hD : va_D A [(q 9, .inr (7, [.ref (q 10), .ref (q 11), .ref (q 12), .ref (q 13), .long kisl, .int (nI kbr), .int kst, .int kso, .int (nI kse)])), (q 10, .inl (ca 6, 4, .inl (fun zj => nI (hm zj)))), (q 11, .inl (ca 7, 6, .inl (fun zj => nI (ksn zj)))), (q 12, .inl (ca 8, 6, .inl (fun zj => nI (ksp zj)))), (q 13, .inl (ca 9, 6, .inl (fun zj => nI (ksd zj)))), (q 4, .inr (7, [.ref (q 5), .ref (q 6), .ref (q 7), .ref (q 8), .long isl, .int (nI br), .int st, .int so, .int (nI se)])), (q 5, .inl (ca 2, 4, .inl (fun zj => nI (hm zj)))), (q 6, .inl (ca 3, 6, .inl (fun zj => nI (sn zj)))), (q 7, .inl (ca 4, 6, .inl (fun zj => nI (sp zj)))), (q 8, .inl (ca 5, 6, .inl (fun zj => nI (sd zj))))] := hD
  refine lv_aload_n hx hb dX7_copyFrom_14 rfl (lv_at hl 1 rfl) ?_
  refine va_get (D := (dC, dI)) (ci := 7) (v := .ref (q 6)) (C := RX7) (T := TX7) (N := 9) hx hb htl iX7 hown hK hP 5 rfl rfl 1 (by decide) (htl _ wd_54) (fun _ h9 => h9) rfl dX7_copyFrom_15 ?_
  refine lv_iconst (v := nI 0) hx hb dX7_copyFrom_18 (by decide) ?_
  refine lv_aload_n hx hb dX7_copyFrom_19 rfl (lv_at hl 0 rfl) ?_
  refine va_get (D := (dC, dI)) (ci := 7) (v := .ref (q 11)) (C := RX7) (T := TX7) (N := 9) hx hb htl iX7 hown hK hP 0 rfl rfl 1 (by decide) (htl _ wd_54) (fun _ h9 => h9) rfl dX7_copyFrom_20 ?_
  refine lv_iconst (v := nI 0) hx hb dX7_copyFrom_23 (by decide) ?_
  refine lv_bipush (v := nI 6) hx hb dX7_copyFrom_24 (by decide) ?_
  refine va_copyi hx hb (by rw [hml]; exact hl.1.symm) hown (htl _ wd_515) (htl _ wd_517) (htl _ wd_516) (htl _ wd_19) hK hP hD hS 7 2 3 7 rfl rfl rfl rfl rfl (by decide) (by decide) (by decide) (by decide) (by decide) (fun _ _ => rfl) (Nat.le_of_ble_eq_true rfl) (Nat.le_of_ble_eq_true rfl) dX7_copyFrom_26 (fun H locs hP hD hS => ?_)
  have hP := va_P_fn hP 2 (g := fun zj => nI (sn zj)) rfl (fun j hj => by show va_cpy _ _ 0 0 6 j = _; rw [pk_cpy_in (by omega) (by omega)]; simp)
  have hD := va_D.set (e := .inl (ca 7, 6, .inl (fun zj => nI (sn zj)))) hD (p := 2) rfl
  have hP : va_P (dC, dI) vwCl [(q 9, .inr (7, [.ref (q 10), .ref (q 11), .ref (q 12), .ref (q 13), .long kisl, .int (nI kbr), .int kst, .int kso, .int (nI kse)])), (q 10, .inl (ca 6, 4, .inl (fun zj => nI (hm zj)))), (q 11, .inl (ca 7, 6, .inl (fun zj => nI (sn zj)))), (q 12, .inl (ca 8, 6, .inl (fun zj => nI (ksp zj)))), (q 13, .inl (ca 9, 6, .inl (fun zj => nI (ksd zj)))), (q 4, .inr (7, [.ref (q 5), .ref (q 6), .ref (q 7), .ref (q 8), .long isl, .int (nI br), .int st, .int so, .int (nI se)])), (q 5, .inl (ca 2, 4, .inl (fun zj => nI (hm zj)))), (q 6, .inl (ca 3, 6, .inl (fun zj => nI (sn zj)))), (q 7, .inl (ca 4, 6, .inl (fun zj => nI (sp zj)))), (q 8, .inl (ca 5, 6, .inl (fun zj => nI (sd zj))))] H := hP
  have hD : va_D A [(q 9, .inr (7, [.ref (q 10), .ref (q 11), .ref (q 12), .ref (q 13), .long kisl, .int (nI kbr), .int kst, .int kso, .int (nI kse)])), (q 10, .inl (ca 6, 4, .inl (fun zj => nI (hm zj)))), (q 11, .inl (ca 7, 6, .inl (fun zj => nI (sn zj)))), (q 12, .inl (ca 8, 6, .inl (fun zj => nI (ksp zj)))), (q 13, .inl (ca 9, 6, .inl (fun zj => nI (ksd zj)))), (q 4, .inr (7, [.ref (q 5), .ref (q 6), .ref (q 7), .ref (q 8), .long isl, .int (nI br), .int st, .int so, .int (nI se)])), (q 5, .inl (ca 2, 4, .inl (fun zj => nI (hm zj)))), (q 6, .inl (ca 3, 6, .inl (fun zj => nI (sn zj)))), (q 7, .inl (ca 4, 6, .inl (fun zj => nI (sp zj)))), (q 8, .inl (ca 5, 6, .inl (fun zj => nI (sd zj))))] := hD
  refine lv_aload_n hx hb dX7_copyFrom_29 rfl (lv_at hl 1 rfl) ?_
  refine va_get (D := (dC, dI)) (ci := 7) (v := .ref (q 7)) (C := RX7) (T := TX7) (N := 9) hx hb htl iX7 hown hK hP 5 rfl rfl 2 (by decide) (htl _ wd_56) (fun _ h9 => h9) rfl dX7_copyFrom_30 ?_
  refine lv_iconst (v := nI 0) hx hb dX7_copyFrom_33 (by decide) ?_
  refine lv_aload_n hx hb dX7_copyFrom_34 rfl (lv_at hl 0 rfl) ?_
  refine va_get (D := (dC, dI)) (ci := 7) (v := .ref (q 12)) (C := RX7) (T := TX7) (N := 9) hx hb htl iX7 hown hK hP 0 rfl rfl 2 (by decide) (htl _ wd_56) (fun _ h9 => h9) rfl dX7_copyFrom_35 ?_
  refine lv_iconst (v := nI 0) hx hb dX7_copyFrom_38 (by decide) ?_
  refine lv_bipush (v := nI 6) hx hb dX7_copyFrom_39 (by decide) ?_
  refine va_copyi hx hb (by rw [hml]; exact hl.1.symm) hown (htl _ wd_515) (htl _ wd_517) (htl _ wd_516) (htl _ wd_19) hK hP hD hS 8 3 4 8 rfl rfl rfl rfl rfl (by decide) (by decide) (by decide) (by decide) (by decide) (fun _ _ => rfl) (Nat.le_of_ble_eq_true rfl) (Nat.le_of_ble_eq_true rfl) dX7_copyFrom_41 (fun H locs hP hD hS => ?_)
  have hP := va_P_fn hP 3 (g := fun zj => nI (sp zj)) rfl (fun j hj => by show va_cpy _ _ 0 0 6 j = _; rw [pk_cpy_in (by omega) (by omega)]; simp)
  have hD := va_D.set (e := .inl (ca 8, 6, .inl (fun zj => nI (sp zj)))) hD (p := 3) rfl
  have hP : va_P (dC, dI) vwCl [(q 9, .inr (7, [.ref (q 10), .ref (q 11), .ref (q 12), .ref (q 13), .long kisl, .int (nI kbr), .int kst, .int kso, .int (nI kse)])), (q 10, .inl (ca 6, 4, .inl (fun zj => nI (hm zj)))), (q 11, .inl (ca 7, 6, .inl (fun zj => nI (sn zj)))), (q 12, .inl (ca 8, 6, .inl (fun zj => nI (sp zj)))), (q 13, .inl (ca 9, 6, .inl (fun zj => nI (ksd zj)))), (q 4, .inr (7, [.ref (q 5), .ref (q 6), .ref (q 7), .ref (q 8), .long isl, .int (nI br), .int st, .int so, .int (nI se)])), (q 5, .inl (ca 2, 4, .inl (fun zj => nI (hm zj)))), (q 6, .inl (ca 3, 6, .inl (fun zj => nI (sn zj)))), (q 7, .inl (ca 4, 6, .inl (fun zj => nI (sp zj)))), (q 8, .inl (ca 5, 6, .inl (fun zj => nI (sd zj))))] H := hP
  have hD : va_D A [(q 9, .inr (7, [.ref (q 10), .ref (q 11), .ref (q 12), .ref (q 13), .long kisl, .int (nI kbr), .int kst, .int kso, .int (nI kse)])), (q 10, .inl (ca 6, 4, .inl (fun zj => nI (hm zj)))), (q 11, .inl (ca 7, 6, .inl (fun zj => nI (sn zj)))), (q 12, .inl (ca 8, 6, .inl (fun zj => nI (sp zj)))), (q 13, .inl (ca 9, 6, .inl (fun zj => nI (ksd zj)))), (q 4, .inr (7, [.ref (q 5), .ref (q 6), .ref (q 7), .ref (q 8), .long isl, .int (nI br), .int st, .int so, .int (nI se)])), (q 5, .inl (ca 2, 4, .inl (fun zj => nI (hm zj)))), (q 6, .inl (ca 3, 6, .inl (fun zj => nI (sn zj)))), (q 7, .inl (ca 4, 6, .inl (fun zj => nI (sp zj)))), (q 8, .inl (ca 5, 6, .inl (fun zj => nI (sd zj))))] := hD
  refine lv_aload_n hx hb dX7_copyFrom_44 rfl (lv_at hl 1 rfl) ?_
  refine va_get (D := (dC, dI)) (ci := 7) (v := .ref (q 8)) (C := RX7) (T := TX7) (N := 9) hx hb htl iX7 hown hK hP 5 rfl rfl 3 (by decide) (htl _ wd_58) (fun _ h9 => h9) rfl dX7_copyFrom_45 ?_
  refine lv_iconst (v := nI 0) hx hb dX7_copyFrom_48 (by decide) ?_
  refine lv_aload_n hx hb dX7_copyFrom_49 rfl (lv_at hl 0 rfl) ?_
  refine va_get (D := (dC, dI)) (ci := 7) (v := .ref (q 13)) (C := RX7) (T := TX7) (N := 9) hx hb htl iX7 hown hK hP 0 rfl rfl 3 (by decide) (htl _ wd_58) (fun _ h9 => h9) rfl dX7_copyFrom_50 ?_
  refine lv_iconst (v := nI 0) hx hb dX7_copyFrom_53 (by decide) ?_
  refine lv_bipush (v := nI 6) hx hb dX7_copyFrom_54 (by decide) ?_
  refine va_copyi hx hb (by rw [hml]; exact hl.1.symm) hown (htl _ wd_515) (htl _ wd_517) (htl _ wd_516) (htl _ wd_19) hK hP hD hS 9 4 5 9 rfl rfl rfl rfl rfl (by decide) (by decide) (by decide) (by decide) (by decide) (fun _ _ => rfl) (Nat.le_of_ble_eq_true rfl) (Nat.le_of_ble_eq_true rfl) dX7_copyFrom_56 (fun H locs hP hD hS => ?_)
  have hP := va_P_fn hP 4 (g := fun zj => nI (sd zj)) rfl (fun j hj => by show va_cpy _ _ 0 0 6 j = _; rw [pk_cpy_in (by omega) (by omega)]; simp)
  have hD := va_D.set (e := .inl (ca 9, 6, .inl (fun zj => nI (sd zj)))) hD (p := 4) rfl
  have hP : va_P (dC, dI) vwCl [(q 9, .inr (7, [.ref (q 10), .ref (q 11), .ref (q 12), .ref (q 13), .long kisl, .int (nI kbr), .int kst, .int kso, .int (nI kse)])), (q 10, .inl (ca 6, 4, .inl (fun zj => nI (hm zj)))), (q 11, .inl (ca 7, 6, .inl (fun zj => nI (sn zj)))), (q 12, .inl (ca 8, 6, .inl (fun zj => nI (sp zj)))), (q 13, .inl (ca 9, 6, .inl (fun zj => nI (sd zj)))), (q 4, .inr (7, [.ref (q 5), .ref (q 6), .ref (q 7), .ref (q 8), .long isl, .int (nI br), .int st, .int so, .int (nI se)])), (q 5, .inl (ca 2, 4, .inl (fun zj => nI (hm zj)))), (q 6, .inl (ca 3, 6, .inl (fun zj => nI (sn zj)))), (q 7, .inl (ca 4, 6, .inl (fun zj => nI (sp zj)))), (q 8, .inl (ca 5, 6, .inl (fun zj => nI (sd zj))))] H := hP
  have hD : va_D A [(q 9, .inr (7, [.ref (q 10), .ref (q 11), .ref (q 12), .ref (q 13), .long kisl, .int (nI kbr), .int kst, .int kso, .int (nI kse)])), (q 10, .inl (ca 6, 4, .inl (fun zj => nI (hm zj)))), (q 11, .inl (ca 7, 6, .inl (fun zj => nI (sn zj)))), (q 12, .inl (ca 8, 6, .inl (fun zj => nI (sp zj)))), (q 13, .inl (ca 9, 6, .inl (fun zj => nI (sd zj)))), (q 4, .inr (7, [.ref (q 5), .ref (q 6), .ref (q 7), .ref (q 8), .long isl, .int (nI br), .int st, .int so, .int (nI se)])), (q 5, .inl (ca 2, 4, .inl (fun zj => nI (hm zj)))), (q 6, .inl (ca 3, 6, .inl (fun zj => nI (sn zj)))), (q 7, .inl (ca 4, 6, .inl (fun zj => nI (sp zj)))), (q 8, .inl (ca 5, 6, .inl (fun zj => nI (sd zj))))] := hD
  refine lv_aload_n hx hb dX7_copyFrom_59 rfl (lv_at hl 0 rfl) ?_
  refine lv_aload_n hx hb dX7_copyFrom_60 rfl (lv_at hl 1 rfl) ?_
  refine va_get (D := (dC, dI)) (ci := 7) (v := .long isl) (C := RX7) (T := TX7) (N := 9) hx hb htl iX7 hown hK hP 5 rfl rfl 4 (by decide) (htl _ wd_60) (fun _ h9 => h9) rfl dX7_copyFrom_61 ?_
  refine va_put (D := (dC, dI)) (ci := 7) (v := .long isl) (ty := .long) (C := RX7) (T := TX7) (N := 9) hx hb htl iX7 tyX7 tyX7_ok nmX7 hown hK hP hD hS 0 rfl rfl 4 (by decide) (htl _ wd_60) (fun _ h9 => h9) rfl (by decide +kernel) rfl rfl (Nat.le_of_ble_eq_true rfl) dX7_copyFrom_64 (fun H locs hP hD hS => ?_)
  have hP : va_P (dC, dI) vwCl [(q 9, .inr (7, [.ref (q 10), .ref (q 11), .ref (q 12), .ref (q 13), .long isl, .int (nI kbr), .int kst, .int kso, .int (nI kse)])), (q 10, .inl (ca 6, 4, .inl (fun zj => nI (hm zj)))), (q 11, .inl (ca 7, 6, .inl (fun zj => nI (sn zj)))), (q 12, .inl (ca 8, 6, .inl (fun zj => nI (sp zj)))), (q 13, .inl (ca 9, 6, .inl (fun zj => nI (sd zj)))), (q 4, .inr (7, [.ref (q 5), .ref (q 6), .ref (q 7), .ref (q 8), .long isl, .int (nI br), .int st, .int so, .int (nI se)])), (q 5, .inl (ca 2, 4, .inl (fun zj => nI (hm zj)))), (q 6, .inl (ca 3, 6, .inl (fun zj => nI (sn zj)))), (q 7, .inl (ca 4, 6, .inl (fun zj => nI (sp zj)))), (q 8, .inl (ca 5, 6, .inl (fun zj => nI (sd zj))))] H := hP
  have hD : va_D A [(q 9, .inr (7, [.ref (q 10), .ref (q 11), .ref (q 12), .ref (q 13), .long isl, .int (nI kbr), .int kst, .int kso, .int (nI kse)])), (q 10, .inl (ca 6, 4, .inl (fun zj => nI (hm zj)))), (q 11, .inl (ca 7, 6, .inl (fun zj => nI (sn zj)))), (q 12, .inl (ca 8, 6, .inl (fun zj => nI (sp zj)))), (q 13, .inl (ca 9, 6, .inl (fun zj => nI (sd zj)))), (q 4, .inr (7, [.ref (q 5), .ref (q 6), .ref (q 7), .ref (q 8), .long isl, .int (nI br), .int st, .int so, .int (nI se)])), (q 5, .inl (ca 2, 4, .inl (fun zj => nI (hm zj)))), (q 6, .inl (ca 3, 6, .inl (fun zj => nI (sn zj)))), (q 7, .inl (ca 4, 6, .inl (fun zj => nI (sp zj)))), (q 8, .inl (ca 5, 6, .inl (fun zj => nI (sd zj))))] := hD
  refine lv_aload_n hx hb dX7_copyFrom_67 rfl (lv_at hl 0 rfl) ?_
  refine lv_aload_n hx hb dX7_copyFrom_68 rfl (lv_at hl 1 rfl) ?_
  refine va_get (D := (dC, dI)) (ci := 7) (v := .int (nI br)) (C := RX7) (T := TX7) (N := 9) hx hb htl iX7 hown hK hP 5 rfl rfl 5 (by decide) (htl _ wd_62) (fun _ h9 => h9) rfl dX7_copyFrom_69 ?_
  refine va_put (D := (dC, dI)) (ci := 7) (v := .int (nI br)) (ty := .int) (C := RX7) (T := TX7) (N := 9) hx hb htl iX7 tyX7 tyX7_ok nmX7 hown hK hP hD hS 0 rfl rfl 5 (by decide) (htl _ wd_62) (fun _ h9 => h9) rfl (by decide +kernel) rfl rfl (Nat.le_of_ble_eq_true rfl) dX7_copyFrom_72 (fun H locs hP hD hS => ?_)
  have hP : va_P (dC, dI) vwCl [(q 9, .inr (7, [.ref (q 10), .ref (q 11), .ref (q 12), .ref (q 13), .long isl, .int (nI br), .int kst, .int kso, .int (nI kse)])), (q 10, .inl (ca 6, 4, .inl (fun zj => nI (hm zj)))), (q 11, .inl (ca 7, 6, .inl (fun zj => nI (sn zj)))), (q 12, .inl (ca 8, 6, .inl (fun zj => nI (sp zj)))), (q 13, .inl (ca 9, 6, .inl (fun zj => nI (sd zj)))), (q 4, .inr (7, [.ref (q 5), .ref (q 6), .ref (q 7), .ref (q 8), .long isl, .int (nI br), .int st, .int so, .int (nI se)])), (q 5, .inl (ca 2, 4, .inl (fun zj => nI (hm zj)))), (q 6, .inl (ca 3, 6, .inl (fun zj => nI (sn zj)))), (q 7, .inl (ca 4, 6, .inl (fun zj => nI (sp zj)))), (q 8, .inl (ca 5, 6, .inl (fun zj => nI (sd zj))))] H := hP
  have hD : va_D A [(q 9, .inr (7, [.ref (q 10), .ref (q 11), .ref (q 12), .ref (q 13), .long isl, .int (nI br), .int kst, .int kso, .int (nI kse)])), (q 10, .inl (ca 6, 4, .inl (fun zj => nI (hm zj)))), (q 11, .inl (ca 7, 6, .inl (fun zj => nI (sn zj)))), (q 12, .inl (ca 8, 6, .inl (fun zj => nI (sp zj)))), (q 13, .inl (ca 9, 6, .inl (fun zj => nI (sd zj)))), (q 4, .inr (7, [.ref (q 5), .ref (q 6), .ref (q 7), .ref (q 8), .long isl, .int (nI br), .int st, .int so, .int (nI se)])), (q 5, .inl (ca 2, 4, .inl (fun zj => nI (hm zj)))), (q 6, .inl (ca 3, 6, .inl (fun zj => nI (sn zj)))), (q 7, .inl (ca 4, 6, .inl (fun zj => nI (sp zj)))), (q 8, .inl (ca 5, 6, .inl (fun zj => nI (sd zj))))] := hD
  refine lv_aload_n hx hb dX7_copyFrom_75 rfl (lv_at hl 0 rfl) ?_
  refine lv_aload_n hx hb dX7_copyFrom_76 rfl (lv_at hl 1 rfl) ?_
  refine va_get (D := (dC, dI)) (ci := 7) (v := .int st) (C := RX7) (T := TX7) (N := 9) hx hb htl iX7 hown hK hP 5 rfl rfl 6 (by decide) (htl _ wd_64) (fun _ h9 => h9) rfl dX7_copyFrom_77 ?_
  refine va_put (D := (dC, dI)) (ci := 7) (v := .int st) (ty := .int) (C := RX7) (T := TX7) (N := 9) hx hb htl iX7 tyX7 tyX7_ok nmX7 hown hK hP hD hS 0 rfl rfl 6 (by decide) (htl _ wd_64) (fun _ h9 => h9) rfl (by decide +kernel) rfl rfl (Nat.le_of_ble_eq_true rfl) dX7_copyFrom_80 (fun H locs hP hD hS => ?_)
  have hP : va_P (dC, dI) vwCl [(q 9, .inr (7, [.ref (q 10), .ref (q 11), .ref (q 12), .ref (q 13), .long isl, .int (nI br), .int st, .int kso, .int (nI kse)])), (q 10, .inl (ca 6, 4, .inl (fun zj => nI (hm zj)))), (q 11, .inl (ca 7, 6, .inl (fun zj => nI (sn zj)))), (q 12, .inl (ca 8, 6, .inl (fun zj => nI (sp zj)))), (q 13, .inl (ca 9, 6, .inl (fun zj => nI (sd zj)))), (q 4, .inr (7, [.ref (q 5), .ref (q 6), .ref (q 7), .ref (q 8), .long isl, .int (nI br), .int st, .int so, .int (nI se)])), (q 5, .inl (ca 2, 4, .inl (fun zj => nI (hm zj)))), (q 6, .inl (ca 3, 6, .inl (fun zj => nI (sn zj)))), (q 7, .inl (ca 4, 6, .inl (fun zj => nI (sp zj)))), (q 8, .inl (ca 5, 6, .inl (fun zj => nI (sd zj))))] H := hP
  have hD : va_D A [(q 9, .inr (7, [.ref (q 10), .ref (q 11), .ref (q 12), .ref (q 13), .long isl, .int (nI br), .int st, .int kso, .int (nI kse)])), (q 10, .inl (ca 6, 4, .inl (fun zj => nI (hm zj)))), (q 11, .inl (ca 7, 6, .inl (fun zj => nI (sn zj)))), (q 12, .inl (ca 8, 6, .inl (fun zj => nI (sp zj)))), (q 13, .inl (ca 9, 6, .inl (fun zj => nI (sd zj)))), (q 4, .inr (7, [.ref (q 5), .ref (q 6), .ref (q 7), .ref (q 8), .long isl, .int (nI br), .int st, .int so, .int (nI se)])), (q 5, .inl (ca 2, 4, .inl (fun zj => nI (hm zj)))), (q 6, .inl (ca 3, 6, .inl (fun zj => nI (sn zj)))), (q 7, .inl (ca 4, 6, .inl (fun zj => nI (sp zj)))), (q 8, .inl (ca 5, 6, .inl (fun zj => nI (sd zj))))] := hD
  refine lv_aload_n hx hb dX7_copyFrom_83 rfl (lv_at hl 0 rfl) ?_
  refine lv_aload_n hx hb dX7_copyFrom_84 rfl (lv_at hl 1 rfl) ?_
  refine va_get (D := (dC, dI)) (ci := 7) (v := .int so) (C := RX7) (T := TX7) (N := 9) hx hb htl iX7 hown hK hP 5 rfl rfl 7 (by decide) (htl _ wd_66) (fun _ h9 => h9) rfl dX7_copyFrom_85 ?_
  refine va_put (D := (dC, dI)) (ci := 7) (v := .int so) (ty := .int) (C := RX7) (T := TX7) (N := 9) hx hb htl iX7 tyX7 tyX7_ok nmX7 hown hK hP hD hS 0 rfl rfl 7 (by decide) (htl _ wd_66) (fun _ h9 => h9) rfl (by decide +kernel) rfl rfl (Nat.le_of_ble_eq_true rfl) dX7_copyFrom_88 (fun H locs hP hD hS => ?_)
  have hP : va_P (dC, dI) vwCl [(q 9, .inr (7, [.ref (q 10), .ref (q 11), .ref (q 12), .ref (q 13), .long isl, .int (nI br), .int st, .int so, .int (nI kse)])), (q 10, .inl (ca 6, 4, .inl (fun zj => nI (hm zj)))), (q 11, .inl (ca 7, 6, .inl (fun zj => nI (sn zj)))), (q 12, .inl (ca 8, 6, .inl (fun zj => nI (sp zj)))), (q 13, .inl (ca 9, 6, .inl (fun zj => nI (sd zj)))), (q 4, .inr (7, [.ref (q 5), .ref (q 6), .ref (q 7), .ref (q 8), .long isl, .int (nI br), .int st, .int so, .int (nI se)])), (q 5, .inl (ca 2, 4, .inl (fun zj => nI (hm zj)))), (q 6, .inl (ca 3, 6, .inl (fun zj => nI (sn zj)))), (q 7, .inl (ca 4, 6, .inl (fun zj => nI (sp zj)))), (q 8, .inl (ca 5, 6, .inl (fun zj => nI (sd zj))))] H := hP
  have hD : va_D A [(q 9, .inr (7, [.ref (q 10), .ref (q 11), .ref (q 12), .ref (q 13), .long isl, .int (nI br), .int st, .int so, .int (nI kse)])), (q 10, .inl (ca 6, 4, .inl (fun zj => nI (hm zj)))), (q 11, .inl (ca 7, 6, .inl (fun zj => nI (sn zj)))), (q 12, .inl (ca 8, 6, .inl (fun zj => nI (sp zj)))), (q 13, .inl (ca 9, 6, .inl (fun zj => nI (sd zj)))), (q 4, .inr (7, [.ref (q 5), .ref (q 6), .ref (q 7), .ref (q 8), .long isl, .int (nI br), .int st, .int so, .int (nI se)])), (q 5, .inl (ca 2, 4, .inl (fun zj => nI (hm zj)))), (q 6, .inl (ca 3, 6, .inl (fun zj => nI (sn zj)))), (q 7, .inl (ca 4, 6, .inl (fun zj => nI (sp zj)))), (q 8, .inl (ca 5, 6, .inl (fun zj => nI (sd zj))))] := hD
  refine lv_aload_n hx hb dX7_copyFrom_91 rfl (lv_at hl 0 rfl) ?_
  refine lv_aload_n hx hb dX7_copyFrom_92 rfl (lv_at hl 1 rfl) ?_
  refine va_get (D := (dC, dI)) (ci := 7) (v := .int (nI se)) (C := RX7) (T := TX7) (N := 9) hx hb htl iX7 hown hK hP 5 rfl rfl 8 (by decide) (htl _ wd_68) (fun _ h9 => h9) rfl dX7_copyFrom_93 ?_
  refine va_put (D := (dC, dI)) (ci := 7) (v := .int (nI se)) (ty := .int) (C := RX7) (T := TX7) (N := 9) hx hb htl iX7 tyX7 tyX7_ok nmX7 hown hK hP hD hS 0 rfl rfl 8 (by decide) (htl _ wd_68) (fun _ h9 => h9) rfl (by decide +kernel) rfl rfl (Nat.le_of_ble_eq_true rfl) dX7_copyFrom_96 (fun H locs hP hD hS => ?_)
  have hP : va_P (dC, dI) vwCl [(q 9, .inr (7, [.ref (q 10), .ref (q 11), .ref (q 12), .ref (q 13), .long isl, .int (nI br), .int st, .int so, .int (nI se)])), (q 10, .inl (ca 6, 4, .inl (fun zj => nI (hm zj)))), (q 11, .inl (ca 7, 6, .inl (fun zj => nI (sn zj)))), (q 12, .inl (ca 8, 6, .inl (fun zj => nI (sp zj)))), (q 13, .inl (ca 9, 6, .inl (fun zj => nI (sd zj)))), (q 4, .inr (7, [.ref (q 5), .ref (q 6), .ref (q 7), .ref (q 8), .long isl, .int (nI br), .int st, .int so, .int (nI se)])), (q 5, .inl (ca 2, 4, .inl (fun zj => nI (hm zj)))), (q 6, .inl (ca 3, 6, .inl (fun zj => nI (sn zj)))), (q 7, .inl (ca 4, 6, .inl (fun zj => nI (sp zj)))), (q 8, .inl (ca 5, 6, .inl (fun zj => nI (sd zj))))] H := hP
  have hD : va_D A [(q 9, .inr (7, [.ref (q 10), .ref (q 11), .ref (q 12), .ref (q 13), .long isl, .int (nI br), .int st, .int so, .int (nI se)])), (q 10, .inl (ca 6, 4, .inl (fun zj => nI (hm zj)))), (q 11, .inl (ca 7, 6, .inl (fun zj => nI (sn zj)))), (q 12, .inl (ca 8, 6, .inl (fun zj => nI (sp zj)))), (q 13, .inl (ca 9, 6, .inl (fun zj => nI (sd zj)))), (q 4, .inr (7, [.ref (q 5), .ref (q 6), .ref (q 7), .ref (q 8), .long isl, .int (nI br), .int st, .int so, .int (nI se)])), (q 5, .inl (ca 2, 4, .inl (fun zj => nI (hm zj)))), (q 6, .inl (ca 3, 6, .inl (fun zj => nI (sn zj)))), (q 7, .inl (ca 4, 6, .inl (fun zj => nI (sp zj)))), (q 8, .inl (ca 5, 6, .inl (fun zj => nI (sd zj))))] := hD
  have hP9 := hP.sub (ws' := [(q 9, .inr (7, [.ref (q 10), .ref (q 11), .ref (q 12), .ref (q 13), .long isl, .int (nI br), .int st, .int so, .int (nI se)])), (q 10, .inl (ca 6, 4, .inl (fun zj => nI (hm zj)))), (q 11, .inl (ca 7, 6, .inl (fun zj => nI (sn zj)))), (q 12, .inl (ca 8, 6, .inl (fun zj => nI (sp zj)))), (q 13, .inl (ca 9, 6, .inl (fun zj => nI (sd zj)))), (q 4, .inr (7, [.ref (q 5), .ref (q 6), .ref (q 7), .ref (q 8), .long isl, .int (nI br), .int st, .int so, .int (nI se)])), (q 5, .inl (ca 2, 4, .inl (fun zj => nI (hm zj)))), (q 6, .inl (ca 3, 6, .inl (fun zj => nI (sn zj)))), (q 7, .inl (ca 4, 6, .inl (fun zj => nI (sp zj)))), (q 8, .inl (ca 5, 6, .inl (fun zj => nI (sd zj))))]) [0, 1, 2, 3, 4, 5, 6, 7, 8, 9] rfl
  have hD9 := hD.sub (ws' := [(q 9, .inr (7, [.ref (q 10), .ref (q 11), .ref (q 12), .ref (q 13), .long isl, .int (nI br), .int st, .int so, .int (nI se)])), (q 10, .inl (ca 6, 4, .inl (fun zj => nI (hm zj)))), (q 11, .inl (ca 7, 6, .inl (fun zj => nI (sn zj)))), (q 12, .inl (ca 8, 6, .inl (fun zj => nI (sp zj)))), (q 13, .inl (ca 9, 6, .inl (fun zj => nI (sd zj)))), (q 4, .inr (7, [.ref (q 5), .ref (q 6), .ref (q 7), .ref (q 8), .long isl, .int (nI br), .int st, .int so, .int (nI se)])), (q 5, .inl (ca 2, 4, .inl (fun zj => nI (hm zj)))), (q 6, .inl (ca 3, 6, .inl (fun zj => nI (sn zj)))), (q 7, .inl (ca 4, 6, .inl (fun zj => nI (sp zj)))), (q 8, .inl (ca 5, 6, .inl (fun zj => nI (sd zj))))]) [0, 1, 2, 3, 4, 5, 6, 7, 8, 9] (by decide) rfl
  exact W.vret hx hb hr (fun t ht hW => ⟨⟨(), rfl, trivial, by rw [ht]; exact hP9, va_K.moved hW.alike hK, hD9⟩, hS.F ht⟩) hS.2.2 dX7_copyFrom_99
set_option maxHeartbeats 4000000 in
set_option maxRecDepth 100000 in
theorem kcopy_back (l : Launch) (dC : Nat → ClassId) (dI : Nat → Nat → Nat) (ca : Nat → ClassId) (sz : Nat) (q : Nat → Nat) (isl : Int64) (br : Nat) (st : Int32) (so : Int32) (se : Nat) (hm : Nat → Nat) (sn : Nat → Nat) (sp : Nat → Nat) (sd : Nat → Nat) (kisl : Int64) (kbr : Nat) (kst : Int32) (kso : Int32) (kse : Nat) (khm : Nat → Nat) (ksn : Nat → Nat) (ksp : Nat → Nat) (ksd : Nat → Nat) : Met l yX7_copyFrom (Cond.code yX7_copyFrom cX7_copyFrom 2 none :: gT) (rk 2) (EFp (dC, dI) [(q 9, .inr (7, [.ref (q 10), .ref (q 11), .ref (q 12), .ref (q 13), .long kisl, .int (nI kbr), .int kst, .int kso, .int (nI kse)])), (q 10, .inl (ca 6, 4, .inl (fun zj => nI (khm zj)))), (q 11, .inl (ca 7, 6, .inl (fun zj => nI (ksn zj)))), (q 12, .inl (ca 8, 6, .inl (fun zj => nI (ksp zj)))), (q 13, .inl (ca 9, 6, .inl (fun zj => nI (ksd zj)))), (q 4, .inr (7, [.ref (q 5), .ref (q 6), .ref (q 7), .ref (q 8), .long isl, .int (nI br), .int st, .int so, .int (nI se)])), (q 5, .inl (ca 2, 4, .inl (fun zj => nI (hm zj)))), (q 6, .inl (ca 3, 6, .inl (fun zj => nI (sn zj)))), (q 7, .inl (ca 4, 6, .inl (fun zj => nI (sp zj)))), (q 8, .inl (ca 5, 6, .inl (fun zj => nI (sd zj))))] (TY ca) sz [Value.ref (q 4), Value.ref (q 9)]) (va_Qv (fun (_ : Unit) => True) (EFb (dC, dI) (fun (_ : Unit) => [(q 9, .inr (7, [.ref (q 10), .ref (q 11), .ref (q 12), .ref (q 13), .long kisl, .int (nI kbr), .int kst, .int kso, .int (nI kse)])), (q 10, .inl (ca 6, 4, .inl (fun zj => nI (khm zj)))), (q 11, .inl (ca 7, 6, .inl (fun zj => nI (ksn zj)))), (q 12, .inl (ca 8, 6, .inl (fun zj => nI (ksp zj)))), (q 13, .inl (ca 9, 6, .inl (fun zj => nI (ksd zj)))), (q 4, .inr (7, [.ref (q 5), .ref (q 6), .ref (q 7), .ref (q 8), .long kisl, .int (nI kbr), .int kst, .int kso, .int (nI kse)])), (q 5, .inl (ca 2, 4, .inl (fun zj => nI (khm zj)))), (q 6, .inl (ca 3, 6, .inl (fun zj => nI (ksn zj)))), (q 7, .inl (ca 4, 6, .inl (fun zj => nI (ksp zj)))), (q 8, .inl (ca 5, 6, .inl (fun zj => nI (ksd zj))))]) (TY ca) (va_A [(q 9, .inr (7, [.ref (q 10), .ref (q 11), .ref (q 12), .ref (q 13), .long kisl, .int (nI kbr), .int kst, .int kso, .int (nI kse)])), (q 10, .inl (ca 6, 4, .inl (fun zj => nI (khm zj)))), (q 11, .inl (ca 7, 6, .inl (fun zj => nI (ksn zj)))), (q 12, .inl (ca 8, 6, .inl (fun zj => nI (ksp zj)))), (q 13, .inl (ca 9, 6, .inl (fun zj => nI (ksd zj)))), (q 4, .inr (7, [.ref (q 5), .ref (q 6), .ref (q 7), .ref (q 8), .long isl, .int (nI br), .int st, .int so, .int (nI se)])), (q 5, .inl (ca 2, 4, .inl (fun zj => nI (hm zj)))), (q 6, .inl (ca 3, 6, .inl (fun zj => nI (sn zj)))), (q 7, .inl (ca 4, 6, .inl (fun zj => nI (sp zj)))), (q 8, .inl (ca 5, 6, .inl (fun zj => nI (sd zj))))] sz)) (va_A [(q 9, .inr (7, [.ref (q 10), .ref (q 11), .ref (q 12), .ref (q 13), .long kisl, .int (nI kbr), .int kst, .int kso, .int (nI kse)])), (q 10, .inl (ca 6, 4, .inl (fun zj => nI (khm zj)))), (q 11, .inl (ca 7, 6, .inl (fun zj => nI (ksn zj)))), (q 12, .inl (ca 8, 6, .inl (fun zj => nI (ksp zj)))), (q 13, .inl (ca 9, 6, .inl (fun zj => nI (ksd zj)))), (q 4, .inr (7, [.ref (q 5), .ref (q 6), .ref (q 7), .ref (q 8), .long isl, .int (nI br), .int st, .int so, .int (nI se)])), (q 5, .inl (ca 2, 4, .inl (fun zj => nI (hm zj)))), (q 6, .inl (ca 3, 6, .inl (fun zj => nI (sn zj)))), (q 7, .inl (ca 4, 6, .inl (fun zj => nI (sp zj)))), (q 8, .inl (ca 5, 6, .inl (fun zj => nI (sd zj))))] sz)) 0 0 (va_A [(q 9, .inr (7, [.ref (q 10), .ref (q 11), .ref (q 12), .ref (q 13), .long kisl, .int (nI kbr), .int kst, .int kso, .int (nI kse)])), (q 10, .inl (ca 6, 4, .inl (fun zj => nI (khm zj)))), (q 11, .inl (ca 7, 6, .inl (fun zj => nI (ksn zj)))), (q 12, .inl (ca 8, 6, .inl (fun zj => nI (ksp zj)))), (q 13, .inl (ca 9, 6, .inl (fun zj => nI (ksd zj)))), (q 4, .inr (7, [.ref (q 5), .ref (q 6), .ref (q 7), .ref (q 8), .long isl, .int (nI br), .int st, .int so, .int (nI se)])), (q 5, .inl (ca 2, 4, .inl (fun zj => nI (hm zj)))), (q 6, .inl (ca 3, 6, .inl (fun zj => nI (sn zj)))), (q 7, .inl (ca 4, 6, .inl (fun zj => nI (sp zj)))), (q 8, .inl (ca 5, 6, .inl (fun zj => nI (sd zj))))] sz) := by
  refine Met.ofW (cc := cX7_copyFrom) (maxL := 2) (ret := none) (by decide) rfl ?_
  intro p e s m args below meth c s₁ B hml hv
  obtain ⟨rfl, hsz, hP, hK, hD0⟩ := hv
  have hx := B.exec
  have hb := B.bytes
  have hr := B.returns
  have hts := atoms_spec (ws := (Cond.code yX7_copyFrom cX7_copyFrom 2 none :: gT)) B.pre
  have htl : ∀ w ∈ gT, w.before _ s = true := fun w h => hts w (List.mem_cons_of_mem _ h)
  have hown : s.vm.findClass RX7 = some m.cls := findClass_of_methodNamed B.named
  have hlocks := B.notSynchronized
  subst hsz
  have hD := hD0.self (sz := s.heap.size)
  generalize hAe : va_A [(q 9, .inr (7, [.ref (q 10), .ref (q 11), .ref (q 12), .ref (q 13), .long kisl, .int (nI kbr), .int kst, .int kso, .int (nI kse)])), (q 10, .inl (ca 6, 4, .inl (fun zj => nI (khm zj)))), (q 11, .inl (ca 7, 6, .inl (fun zj => nI (ksn zj)))), (q 12, .inl (ca 8, 6, .inl (fun zj => nI (ksp zj)))), (q 13, .inl (ca 9, 6, .inl (fun zj => nI (ksd zj)))), (q 4, .inr (7, [.ref (q 5), .ref (q 6), .ref (q 7), .ref (q 8), .long isl, .int (nI br), .int st, .int so, .int (nI se)])), (q 5, .inl (ca 2, 4, .inl (fun zj => nI (hm zj)))), (q 6, .inl (ca 3, 6, .inl (fun zj => nI (sn zj)))), (q 7, .inl (ca 4, 6, .inl (fun zj => nI (sp zj)))), (q 8, .inl (ca 5, 6, .inl (fun zj => nI (sd zj))))] s.heap.size = A at hD ⊢
  have hA : ∀ q : Nat, s.heap.size ≤ q → A q := fun q h => by rw [← hAe]; exact Or.inr h
  have hS : va_S A s.heap s.heap [] := va_S.rf
  have hl := lv_entry ([Value.ref (q 4), Value.ref (q 9)]) (n := 2) (Nat.le_of_ble_eq_true rfl)
  rw [lg_entry_eq]
  generalize (lg_sl ([Value.ref (q 4), Value.ref (q 9)]) ++ List.replicate (2 - (lg_sl ([Value.ref (q 4), Value.ref (q 9)])).length) Slot.unset).toArray = ls at hl ⊢
  have hl : lv_has ls 2 [(0, .ref (q 4)), (1, .ref (q 9))] := hl
  refine lv_aload_n hx hb dX7_copyFrom_0 rfl (lv_at hl 1 rfl) ?_
  refine va_get (D := (dC, dI)) (ci := 7) (v := .ref (q 10)) (C := RX7) (T := TX7) (N := 9) hx hb htl iX7 hown hK hP 0 rfl rfl 0 (by decide) (htl _ wd_52) (fun _ h9 => h9) rfl dX7_copyFrom_1 ?_
  refine lv_iconst (v := nI 0) hx hb dX7_copyFrom_4 (by decide) ?_
  refine lv_aload_n hx hb dX7_copyFrom_5 rfl (lv_at hl 0 rfl) ?_
  refine va_get (D := (dC, dI)) (ci := 7) (v := .ref (q 5)) (C := RX7) (T := TX7) (N := 9) hx hb htl iX7 hown hK hP 5 rfl rfl 0 (by decide) (htl _ wd_52) (fun _ h9 => h9) rfl dX7_copyFrom_6 ?_
  refine lv_iconst (v := nI 0) hx hb dX7_copyFrom_9 (by decide) ?_
  refine lv_iconst (v := nI 4) hx hb dX7_copyFrom_10 (by decide) ?_
  refine va_copyi hx hb (by rw [hml]; exact hl.1.symm) hown (htl _ wd_515) (htl _ wd_517) (htl _ wd_516) (htl _ wd_19) hK hP hD hS 1 6 6 2 rfl rfl rfl rfl rfl (by decide) (by decide) (by decide) (by decide) (by decide) (fun _ _ => rfl) (Nat.le_of_ble_eq_true rfl) (Nat.le_of_ble_eq_true rfl) dX7_copyFrom_11 (fun H locs hP hD hS => ?_)
  have hP := va_P_fn hP 6 (g := fun zj => nI (khm zj)) rfl (fun j hj => by show va_cpy _ _ 0 0 4 j = _; rw [pk_cpy_in (by omega) (by omega)]; simp)
  have hD := va_D.set (e := .inl (ca 2, 4, .inl (fun zj => nI (khm zj)))) hD (p := 6) rfl
  have hP : va_P (dC, dI) vwCl [(q 9, .inr (7, [.ref (q 10), .ref (q 11), .ref (q 12), .ref (q 13), .long kisl, .int (nI kbr), .int kst, .int kso, .int (nI kse)])), (q 10, .inl (ca 6, 4, .inl (fun zj => nI (khm zj)))), (q 11, .inl (ca 7, 6, .inl (fun zj => nI (ksn zj)))), (q 12, .inl (ca 8, 6, .inl (fun zj => nI (ksp zj)))), (q 13, .inl (ca 9, 6, .inl (fun zj => nI (ksd zj)))), (q 4, .inr (7, [.ref (q 5), .ref (q 6), .ref (q 7), .ref (q 8), .long isl, .int (nI br), .int st, .int so, .int (nI se)])), (q 5, .inl (ca 2, 4, .inl (fun zj => nI (khm zj)))), (q 6, .inl (ca 3, 6, .inl (fun zj => nI (sn zj)))), (q 7, .inl (ca 4, 6, .inl (fun zj => nI (sp zj)))), (q 8, .inl (ca 5, 6, .inl (fun zj => nI (sd zj))))] H := hP
  have hD : va_D A [(q 9, .inr (7, [.ref (q 10), .ref (q 11), .ref (q 12), .ref (q 13), .long kisl, .int (nI kbr), .int kst, .int kso, .int (nI kse)])), (q 10, .inl (ca 6, 4, .inl (fun zj => nI (khm zj)))), (q 11, .inl (ca 7, 6, .inl (fun zj => nI (ksn zj)))), (q 12, .inl (ca 8, 6, .inl (fun zj => nI (ksp zj)))), (q 13, .inl (ca 9, 6, .inl (fun zj => nI (ksd zj)))), (q 4, .inr (7, [.ref (q 5), .ref (q 6), .ref (q 7), .ref (q 8), .long isl, .int (nI br), .int st, .int so, .int (nI se)])), (q 5, .inl (ca 2, 4, .inl (fun zj => nI (khm zj)))), (q 6, .inl (ca 3, 6, .inl (fun zj => nI (sn zj)))), (q 7, .inl (ca 4, 6, .inl (fun zj => nI (sp zj)))), (q 8, .inl (ca 5, 6, .inl (fun zj => nI (sd zj))))] := hD
  refine lv_aload_n hx hb dX7_copyFrom_14 rfl (lv_at hl 1 rfl) ?_
  refine va_get (D := (dC, dI)) (ci := 7) (v := .ref (q 11)) (C := RX7) (T := TX7) (N := 9) hx hb htl iX7 hown hK hP 0 rfl rfl 1 (by decide) (htl _ wd_54) (fun _ h9 => h9) rfl dX7_copyFrom_15 ?_
  refine lv_iconst (v := nI 0) hx hb dX7_copyFrom_18 (by decide) ?_
  refine lv_aload_n hx hb dX7_copyFrom_19 rfl (lv_at hl 0 rfl) ?_
  refine va_get (D := (dC, dI)) (ci := 7) (v := .ref (q 6)) (C := RX7) (T := TX7) (N := 9) hx hb htl iX7 hown hK hP 5 rfl rfl 1 (by decide) (htl _ wd_54) (fun _ h9 => h9) rfl dX7_copyFrom_20 ?_
  refine lv_iconst (v := nI 0) hx hb dX7_copyFrom_23 (by decide) ?_
  refine lv_bipush (v := nI 6) hx hb dX7_copyFrom_24 (by decide) ?_
  refine va_copyi hx hb (by rw [hml]; exact hl.1.symm) hown (htl _ wd_515) (htl _ wd_517) (htl _ wd_516) (htl _ wd_19) hK hP hD hS 2 7 7 3 rfl rfl rfl rfl rfl (by decide) (by decide) (by decide) (by decide) (by decide) (fun _ _ => rfl) (Nat.le_of_ble_eq_true rfl) (Nat.le_of_ble_eq_true rfl) dX7_copyFrom_26 (fun H locs hP hD hS => ?_)
  have hP := va_P_fn hP 7 (g := fun zj => nI (ksn zj)) rfl (fun j hj => by show va_cpy _ _ 0 0 6 j = _; rw [pk_cpy_in (by omega) (by omega)]; simp)
  have hD := va_D.set (e := .inl (ca 3, 6, .inl (fun zj => nI (ksn zj)))) hD (p := 7) rfl
  have hP : va_P (dC, dI) vwCl [(q 9, .inr (7, [.ref (q 10), .ref (q 11), .ref (q 12), .ref (q 13), .long kisl, .int (nI kbr), .int kst, .int kso, .int (nI kse)])), (q 10, .inl (ca 6, 4, .inl (fun zj => nI (khm zj)))), (q 11, .inl (ca 7, 6, .inl (fun zj => nI (ksn zj)))), (q 12, .inl (ca 8, 6, .inl (fun zj => nI (ksp zj)))), (q 13, .inl (ca 9, 6, .inl (fun zj => nI (ksd zj)))), (q 4, .inr (7, [.ref (q 5), .ref (q 6), .ref (q 7), .ref (q 8), .long isl, .int (nI br), .int st, .int so, .int (nI se)])), (q 5, .inl (ca 2, 4, .inl (fun zj => nI (khm zj)))), (q 6, .inl (ca 3, 6, .inl (fun zj => nI (ksn zj)))), (q 7, .inl (ca 4, 6, .inl (fun zj => nI (sp zj)))), (q 8, .inl (ca 5, 6, .inl (fun zj => nI (sd zj))))] H := hP
  have hD : va_D A [(q 9, .inr (7, [.ref (q 10), .ref (q 11), .ref (q 12), .ref (q 13), .long kisl, .int (nI kbr), .int kst, .int kso, .int (nI kse)])), (q 10, .inl (ca 6, 4, .inl (fun zj => nI (khm zj)))), (q 11, .inl (ca 7, 6, .inl (fun zj => nI (ksn zj)))), (q 12, .inl (ca 8, 6, .inl (fun zj => nI (ksp zj)))), (q 13, .inl (ca 9, 6, .inl (fun zj => nI (ksd zj)))), (q 4, .inr (7, [.ref (q 5), .ref (q 6), .ref (q 7), .ref (q 8), .long isl, .int (nI br), .int st, .int so, .int (nI se)])), (q 5, .inl (ca 2, 4, .inl (fun zj => nI (khm zj)))), (q 6, .inl (ca 3, 6, .inl (fun zj => nI (ksn zj)))), (q 7, .inl (ca 4, 6, .inl (fun zj => nI (sp zj)))), (q 8, .inl (ca 5, 6, .inl (fun zj => nI (sd zj))))] := hD
  refine lv_aload_n hx hb dX7_copyFrom_29 rfl (lv_at hl 1 rfl) ?_
  refine va_get (D := (dC, dI)) (ci := 7) (v := .ref (q 12)) (C := RX7) (T := TX7) (N := 9) hx hb htl iX7 hown hK hP 0 rfl rfl 2 (by decide) (htl _ wd_56) (fun _ h9 => h9) rfl dX7_copyFrom_30 ?_
  refine lv_iconst (v := nI 0) hx hb dX7_copyFrom_33 (by decide) ?_
  refine lv_aload_n hx hb dX7_copyFrom_34 rfl (lv_at hl 0 rfl) ?_
  refine va_get (D := (dC, dI)) (ci := 7) (v := .ref (q 7)) (C := RX7) (T := TX7) (N := 9) hx hb htl iX7 hown hK hP 5 rfl rfl 2 (by decide) (htl _ wd_56) (fun _ h9 => h9) rfl dX7_copyFrom_35 ?_
  refine lv_iconst (v := nI 0) hx hb dX7_copyFrom_38 (by decide) ?_
  refine lv_bipush (v := nI 6) hx hb dX7_copyFrom_39 (by decide) ?_
  refine va_copyi hx hb (by rw [hml]; exact hl.1.symm) hown (htl _ wd_515) (htl _ wd_517) (htl _ wd_516) (htl _ wd_19) hK hP hD hS 3 8 8 4 rfl rfl rfl rfl rfl (by decide) (by decide) (by decide) (by decide) (by decide) (fun _ _ => rfl) (Nat.le_of_ble_eq_true rfl) (Nat.le_of_ble_eq_true rfl) dX7_copyFrom_41 (fun H locs hP hD hS => ?_)
  have hP := va_P_fn hP 8 (g := fun zj => nI (ksp zj)) rfl (fun j hj => by show va_cpy _ _ 0 0 6 j = _; rw [pk_cpy_in (by omega) (by omega)]; simp)
  have hD := va_D.set (e := .inl (ca 4, 6, .inl (fun zj => nI (ksp zj)))) hD (p := 8) rfl
  have hP : va_P (dC, dI) vwCl [(q 9, .inr (7, [.ref (q 10), .ref (q 11), .ref (q 12), .ref (q 13), .long kisl, .int (nI kbr), .int kst, .int kso, .int (nI kse)])), (q 10, .inl (ca 6, 4, .inl (fun zj => nI (khm zj)))), (q 11, .inl (ca 7, 6, .inl (fun zj => nI (ksn zj)))), (q 12, .inl (ca 8, 6, .inl (fun zj => nI (ksp zj)))), (q 13, .inl (ca 9, 6, .inl (fun zj => nI (ksd zj)))), (q 4, .inr (7, [.ref (q 5), .ref (q 6), .ref (q 7), .ref (q 8), .long isl, .int (nI br), .int st, .int so, .int (nI se)])), (q 5, .inl (ca 2, 4, .inl (fun zj => nI (khm zj)))), (q 6, .inl (ca 3, 6, .inl (fun zj => nI (ksn zj)))), (q 7, .inl (ca 4, 6, .inl (fun zj => nI (ksp zj)))), (q 8, .inl (ca 5, 6, .inl (fun zj => nI (sd zj))))] H := hP
  have hD : va_D A [(q 9, .inr (7, [.ref (q 10), .ref (q 11), .ref (q 12), .ref (q 13), .long kisl, .int (nI kbr), .int kst, .int kso, .int (nI kse)])), (q 10, .inl (ca 6, 4, .inl (fun zj => nI (khm zj)))), (q 11, .inl (ca 7, 6, .inl (fun zj => nI (ksn zj)))), (q 12, .inl (ca 8, 6, .inl (fun zj => nI (ksp zj)))), (q 13, .inl (ca 9, 6, .inl (fun zj => nI (ksd zj)))), (q 4, .inr (7, [.ref (q 5), .ref (q 6), .ref (q 7), .ref (q 8), .long isl, .int (nI br), .int st, .int so, .int (nI se)])), (q 5, .inl (ca 2, 4, .inl (fun zj => nI (khm zj)))), (q 6, .inl (ca 3, 6, .inl (fun zj => nI (ksn zj)))), (q 7, .inl (ca 4, 6, .inl (fun zj => nI (ksp zj)))), (q 8, .inl (ca 5, 6, .inl (fun zj => nI (sd zj))))] := hD
  refine lv_aload_n hx hb dX7_copyFrom_44 rfl (lv_at hl 1 rfl) ?_
  refine va_get (D := (dC, dI)) (ci := 7) (v := .ref (q 13)) (C := RX7) (T := TX7) (N := 9) hx hb htl iX7 hown hK hP 0 rfl rfl 3 (by decide) (htl _ wd_58) (fun _ h9 => h9) rfl dX7_copyFrom_45 ?_
  refine lv_iconst (v := nI 0) hx hb dX7_copyFrom_48 (by decide) ?_
  refine lv_aload_n hx hb dX7_copyFrom_49 rfl (lv_at hl 0 rfl) ?_
  refine va_get (D := (dC, dI)) (ci := 7) (v := .ref (q 8)) (C := RX7) (T := TX7) (N := 9) hx hb htl iX7 hown hK hP 5 rfl rfl 3 (by decide) (htl _ wd_58) (fun _ h9 => h9) rfl dX7_copyFrom_50 ?_
  refine lv_iconst (v := nI 0) hx hb dX7_copyFrom_53 (by decide) ?_
  refine lv_bipush (v := nI 6) hx hb dX7_copyFrom_54 (by decide) ?_
  refine va_copyi hx hb (by rw [hml]; exact hl.1.symm) hown (htl _ wd_515) (htl _ wd_517) (htl _ wd_516) (htl _ wd_19) hK hP hD hS 4 9 9 5 rfl rfl rfl rfl rfl (by decide) (by decide) (by decide) (by decide) (by decide) (fun _ _ => rfl) (Nat.le_of_ble_eq_true rfl) (Nat.le_of_ble_eq_true rfl) dX7_copyFrom_56 (fun H locs hP hD hS => ?_)
  have hP := va_P_fn hP 9 (g := fun zj => nI (ksd zj)) rfl (fun j hj => by show va_cpy _ _ 0 0 6 j = _; rw [pk_cpy_in (by omega) (by omega)]; simp)
  have hD := va_D.set (e := .inl (ca 5, 6, .inl (fun zj => nI (ksd zj)))) hD (p := 9) rfl
  have hP : va_P (dC, dI) vwCl [(q 9, .inr (7, [.ref (q 10), .ref (q 11), .ref (q 12), .ref (q 13), .long kisl, .int (nI kbr), .int kst, .int kso, .int (nI kse)])), (q 10, .inl (ca 6, 4, .inl (fun zj => nI (khm zj)))), (q 11, .inl (ca 7, 6, .inl (fun zj => nI (ksn zj)))), (q 12, .inl (ca 8, 6, .inl (fun zj => nI (ksp zj)))), (q 13, .inl (ca 9, 6, .inl (fun zj => nI (ksd zj)))), (q 4, .inr (7, [.ref (q 5), .ref (q 6), .ref (q 7), .ref (q 8), .long isl, .int (nI br), .int st, .int so, .int (nI se)])), (q 5, .inl (ca 2, 4, .inl (fun zj => nI (khm zj)))), (q 6, .inl (ca 3, 6, .inl (fun zj => nI (ksn zj)))), (q 7, .inl (ca 4, 6, .inl (fun zj => nI (ksp zj)))), (q 8, .inl (ca 5, 6, .inl (fun zj => nI (ksd zj))))] H := hP
  have hD : va_D A [(q 9, .inr (7, [.ref (q 10), .ref (q 11), .ref (q 12), .ref (q 13), .long kisl, .int (nI kbr), .int kst, .int kso, .int (nI kse)])), (q 10, .inl (ca 6, 4, .inl (fun zj => nI (khm zj)))), (q 11, .inl (ca 7, 6, .inl (fun zj => nI (ksn zj)))), (q 12, .inl (ca 8, 6, .inl (fun zj => nI (ksp zj)))), (q 13, .inl (ca 9, 6, .inl (fun zj => nI (ksd zj)))), (q 4, .inr (7, [.ref (q 5), .ref (q 6), .ref (q 7), .ref (q 8), .long isl, .int (nI br), .int st, .int so, .int (nI se)])), (q 5, .inl (ca 2, 4, .inl (fun zj => nI (khm zj)))), (q 6, .inl (ca 3, 6, .inl (fun zj => nI (ksn zj)))), (q 7, .inl (ca 4, 6, .inl (fun zj => nI (ksp zj)))), (q 8, .inl (ca 5, 6, .inl (fun zj => nI (ksd zj))))] := hD
  refine lv_aload_n hx hb dX7_copyFrom_59 rfl (lv_at hl 0 rfl) ?_
  refine lv_aload_n hx hb dX7_copyFrom_60 rfl (lv_at hl 1 rfl) ?_
  refine va_get (D := (dC, dI)) (ci := 7) (v := .long kisl) (C := RX7) (T := TX7) (N := 9) hx hb htl iX7 hown hK hP 0 rfl rfl 4 (by decide) (htl _ wd_60) (fun _ h9 => h9) rfl dX7_copyFrom_61 ?_
  refine va_put (D := (dC, dI)) (ci := 7) (v := .long kisl) (ty := .long) (C := RX7) (T := TX7) (N := 9) hx hb htl iX7 tyX7 tyX7_ok nmX7 hown hK hP hD hS 5 rfl rfl 4 (by decide) (htl _ wd_60) (fun _ h9 => h9) rfl (by decide +kernel) rfl rfl (Nat.le_of_ble_eq_true rfl) dX7_copyFrom_64 (fun H locs hP hD hS => ?_)
  have hP : va_P (dC, dI) vwCl [(q 9, .inr (7, [.ref (q 10), .ref (q 11), .ref (q 12), .ref (q 13), .long kisl, .int (nI kbr), .int kst, .int kso, .int (nI kse)])), (q 10, .inl (ca 6, 4, .inl (fun zj => nI (khm zj)))), (q 11, .inl (ca 7, 6, .inl (fun zj => nI (ksn zj)))), (q 12, .inl (ca 8, 6, .inl (fun zj => nI (ksp zj)))), (q 13, .inl (ca 9, 6, .inl (fun zj => nI (ksd zj)))), (q 4, .inr (7, [.ref (q 5), .ref (q 6), .ref (q 7), .ref (q 8), .long kisl, .int (nI br), .int st, .int so, .int (nI se)])), (q 5, .inl (ca 2, 4, .inl (fun zj => nI (khm zj)))), (q 6, .inl (ca 3, 6, .inl (fun zj => nI (ksn zj)))), (q 7, .inl (ca 4, 6, .inl (fun zj => nI (ksp zj)))), (q 8, .inl (ca 5, 6, .inl (fun zj => nI (ksd zj))))] H := hP
  have hD : va_D A [(q 9, .inr (7, [.ref (q 10), .ref (q 11), .ref (q 12), .ref (q 13), .long kisl, .int (nI kbr), .int kst, .int kso, .int (nI kse)])), (q 10, .inl (ca 6, 4, .inl (fun zj => nI (khm zj)))), (q 11, .inl (ca 7, 6, .inl (fun zj => nI (ksn zj)))), (q 12, .inl (ca 8, 6, .inl (fun zj => nI (ksp zj)))), (q 13, .inl (ca 9, 6, .inl (fun zj => nI (ksd zj)))), (q 4, .inr (7, [.ref (q 5), .ref (q 6), .ref (q 7), .ref (q 8), .long kisl, .int (nI br), .int st, .int so, .int (nI se)])), (q 5, .inl (ca 2, 4, .inl (fun zj => nI (khm zj)))), (q 6, .inl (ca 3, 6, .inl (fun zj => nI (ksn zj)))), (q 7, .inl (ca 4, 6, .inl (fun zj => nI (ksp zj)))), (q 8, .inl (ca 5, 6, .inl (fun zj => nI (ksd zj))))] := hD
  refine lv_aload_n hx hb dX7_copyFrom_67 rfl (lv_at hl 0 rfl) ?_
  refine lv_aload_n hx hb dX7_copyFrom_68 rfl (lv_at hl 1 rfl) ?_
  refine va_get (D := (dC, dI)) (ci := 7) (v := .int (nI kbr)) (C := RX7) (T := TX7) (N := 9) hx hb htl iX7 hown hK hP 0 rfl rfl 5 (by decide) (htl _ wd_62) (fun _ h9 => h9) rfl dX7_copyFrom_69 ?_
  refine va_put (D := (dC, dI)) (ci := 7) (v := .int (nI kbr)) (ty := .int) (C := RX7) (T := TX7) (N := 9) hx hb htl iX7 tyX7 tyX7_ok nmX7 hown hK hP hD hS 5 rfl rfl 5 (by decide) (htl _ wd_62) (fun _ h9 => h9) rfl (by decide +kernel) rfl rfl (Nat.le_of_ble_eq_true rfl) dX7_copyFrom_72 (fun H locs hP hD hS => ?_)
  have hP : va_P (dC, dI) vwCl [(q 9, .inr (7, [.ref (q 10), .ref (q 11), .ref (q 12), .ref (q 13), .long kisl, .int (nI kbr), .int kst, .int kso, .int (nI kse)])), (q 10, .inl (ca 6, 4, .inl (fun zj => nI (khm zj)))), (q 11, .inl (ca 7, 6, .inl (fun zj => nI (ksn zj)))), (q 12, .inl (ca 8, 6, .inl (fun zj => nI (ksp zj)))), (q 13, .inl (ca 9, 6, .inl (fun zj => nI (ksd zj)))), (q 4, .inr (7, [.ref (q 5), .ref (q 6), .ref (q 7), .ref (q 8), .long kisl, .int (nI kbr), .int st, .int so, .int (nI se)])), (q 5, .inl (ca 2, 4, .inl (fun zj => nI (khm zj)))), (q 6, .inl (ca 3, 6, .inl (fun zj => nI (ksn zj)))), (q 7, .inl (ca 4, 6, .inl (fun zj => nI (ksp zj)))), (q 8, .inl (ca 5, 6, .inl (fun zj => nI (ksd zj))))] H := hP
  have hD : va_D A [(q 9, .inr (7, [.ref (q 10), .ref (q 11), .ref (q 12), .ref (q 13), .long kisl, .int (nI kbr), .int kst, .int kso, .int (nI kse)])), (q 10, .inl (ca 6, 4, .inl (fun zj => nI (khm zj)))), (q 11, .inl (ca 7, 6, .inl (fun zj => nI (ksn zj)))), (q 12, .inl (ca 8, 6, .inl (fun zj => nI (ksp zj)))), (q 13, .inl (ca 9, 6, .inl (fun zj => nI (ksd zj)))), (q 4, .inr (7, [.ref (q 5), .ref (q 6), .ref (q 7), .ref (q 8), .long kisl, .int (nI kbr), .int st, .int so, .int (nI se)])), (q 5, .inl (ca 2, 4, .inl (fun zj => nI (khm zj)))), (q 6, .inl (ca 3, 6, .inl (fun zj => nI (ksn zj)))), (q 7, .inl (ca 4, 6, .inl (fun zj => nI (ksp zj)))), (q 8, .inl (ca 5, 6, .inl (fun zj => nI (ksd zj))))] := hD
  refine lv_aload_n hx hb dX7_copyFrom_75 rfl (lv_at hl 0 rfl) ?_
  refine lv_aload_n hx hb dX7_copyFrom_76 rfl (lv_at hl 1 rfl) ?_
  refine va_get (D := (dC, dI)) (ci := 7) (v := .int kst) (C := RX7) (T := TX7) (N := 9) hx hb htl iX7 hown hK hP 0 rfl rfl 6 (by decide) (htl _ wd_64) (fun _ h9 => h9) rfl dX7_copyFrom_77 ?_
  refine va_put (D := (dC, dI)) (ci := 7) (v := .int kst) (ty := .int) (C := RX7) (T := TX7) (N := 9) hx hb htl iX7 tyX7 tyX7_ok nmX7 hown hK hP hD hS 5 rfl rfl 6 (by decide) (htl _ wd_64) (fun _ h9 => h9) rfl (by decide +kernel) rfl rfl (Nat.le_of_ble_eq_true rfl) dX7_copyFrom_80 (fun H locs hP hD hS => ?_)
  have hP : va_P (dC, dI) vwCl [(q 9, .inr (7, [.ref (q 10), .ref (q 11), .ref (q 12), .ref (q 13), .long kisl, .int (nI kbr), .int kst, .int kso, .int (nI kse)])), (q 10, .inl (ca 6, 4, .inl (fun zj => nI (khm zj)))), (q 11, .inl (ca 7, 6, .inl (fun zj => nI (ksn zj)))), (q 12, .inl (ca 8, 6, .inl (fun zj => nI (ksp zj)))), (q 13, .inl (ca 9, 6, .inl (fun zj => nI (ksd zj)))), (q 4, .inr (7, [.ref (q 5), .ref (q 6), .ref (q 7), .ref (q 8), .long kisl, .int (nI kbr), .int kst, .int so, .int (nI se)])), (q 5, .inl (ca 2, 4, .inl (fun zj => nI (khm zj)))), (q 6, .inl (ca 3, 6, .inl (fun zj => nI (ksn zj)))), (q 7, .inl (ca 4, 6, .inl (fun zj => nI (ksp zj)))), (q 8, .inl (ca 5, 6, .inl (fun zj => nI (ksd zj))))] H := hP
  have hD : va_D A [(q 9, .inr (7, [.ref (q 10), .ref (q 11), .ref (q 12), .ref (q 13), .long kisl, .int (nI kbr), .int kst, .int kso, .int (nI kse)])), (q 10, .inl (ca 6, 4, .inl (fun zj => nI (khm zj)))), (q 11, .inl (ca 7, 6, .inl (fun zj => nI (ksn zj)))), (q 12, .inl (ca 8, 6, .inl (fun zj => nI (ksp zj)))), (q 13, .inl (ca 9, 6, .inl (fun zj => nI (ksd zj)))), (q 4, .inr (7, [.ref (q 5), .ref (q 6), .ref (q 7), .ref (q 8), .long kisl, .int (nI kbr), .int kst, .int so, .int (nI se)])), (q 5, .inl (ca 2, 4, .inl (fun zj => nI (khm zj)))), (q 6, .inl (ca 3, 6, .inl (fun zj => nI (ksn zj)))), (q 7, .inl (ca 4, 6, .inl (fun zj => nI (ksp zj)))), (q 8, .inl (ca 5, 6, .inl (fun zj => nI (ksd zj))))] := hD
  refine lv_aload_n hx hb dX7_copyFrom_83 rfl (lv_at hl 0 rfl) ?_
  refine lv_aload_n hx hb dX7_copyFrom_84 rfl (lv_at hl 1 rfl) ?_
  refine va_get (D := (dC, dI)) (ci := 7) (v := .int kso) (C := RX7) (T := TX7) (N := 9) hx hb htl iX7 hown hK hP 0 rfl rfl 7 (by decide) (htl _ wd_66) (fun _ h9 => h9) rfl dX7_copyFrom_85 ?_
  refine va_put (D := (dC, dI)) (ci := 7) (v := .int kso) (ty := .int) (C := RX7) (T := TX7) (N := 9) hx hb htl iX7 tyX7 tyX7_ok nmX7 hown hK hP hD hS 5 rfl rfl 7 (by decide) (htl _ wd_66) (fun _ h9 => h9) rfl (by decide +kernel) rfl rfl (Nat.le_of_ble_eq_true rfl) dX7_copyFrom_88 (fun H locs hP hD hS => ?_)
  have hP : va_P (dC, dI) vwCl [(q 9, .inr (7, [.ref (q 10), .ref (q 11), .ref (q 12), .ref (q 13), .long kisl, .int (nI kbr), .int kst, .int kso, .int (nI kse)])), (q 10, .inl (ca 6, 4, .inl (fun zj => nI (khm zj)))), (q 11, .inl (ca 7, 6, .inl (fun zj => nI (ksn zj)))), (q 12, .inl (ca 8, 6, .inl (fun zj => nI (ksp zj)))), (q 13, .inl (ca 9, 6, .inl (fun zj => nI (ksd zj)))), (q 4, .inr (7, [.ref (q 5), .ref (q 6), .ref (q 7), .ref (q 8), .long kisl, .int (nI kbr), .int kst, .int kso, .int (nI se)])), (q 5, .inl (ca 2, 4, .inl (fun zj => nI (khm zj)))), (q 6, .inl (ca 3, 6, .inl (fun zj => nI (ksn zj)))), (q 7, .inl (ca 4, 6, .inl (fun zj => nI (ksp zj)))), (q 8, .inl (ca 5, 6, .inl (fun zj => nI (ksd zj))))] H := hP
  have hD : va_D A [(q 9, .inr (7, [.ref (q 10), .ref (q 11), .ref (q 12), .ref (q 13), .long kisl, .int (nI kbr), .int kst, .int kso, .int (nI kse)])), (q 10, .inl (ca 6, 4, .inl (fun zj => nI (khm zj)))), (q 11, .inl (ca 7, 6, .inl (fun zj => nI (ksn zj)))), (q 12, .inl (ca 8, 6, .inl (fun zj => nI (ksp zj)))), (q 13, .inl (ca 9, 6, .inl (fun zj => nI (ksd zj)))), (q 4, .inr (7, [.ref (q 5), .ref (q 6), .ref (q 7), .ref (q 8), .long kisl, .int (nI kbr), .int kst, .int kso, .int (nI se)])), (q 5, .inl (ca 2, 4, .inl (fun zj => nI (khm zj)))), (q 6, .inl (ca 3, 6, .inl (fun zj => nI (ksn zj)))), (q 7, .inl (ca 4, 6, .inl (fun zj => nI (ksp zj)))), (q 8, .inl (ca 5, 6, .inl (fun zj => nI (ksd zj))))] := hD
  refine lv_aload_n hx hb dX7_copyFrom_91 rfl (lv_at hl 0 rfl) ?_
  refine lv_aload_n hx hb dX7_copyFrom_92 rfl (lv_at hl 1 rfl) ?_
  refine va_get (D := (dC, dI)) (ci := 7) (v := .int (nI kse)) (C := RX7) (T := TX7) (N := 9) hx hb htl iX7 hown hK hP 0 rfl rfl 8 (by decide) (htl _ wd_68) (fun _ h9 => h9) rfl dX7_copyFrom_93 ?_
  refine va_put (D := (dC, dI)) (ci := 7) (v := .int (nI kse)) (ty := .int) (C := RX7) (T := TX7) (N := 9) hx hb htl iX7 tyX7 tyX7_ok nmX7 hown hK hP hD hS 5 rfl rfl 8 (by decide) (htl _ wd_68) (fun _ h9 => h9) rfl (by decide +kernel) rfl rfl (Nat.le_of_ble_eq_true rfl) dX7_copyFrom_96 (fun H locs hP hD hS => ?_)
  have hP : va_P (dC, dI) vwCl [(q 9, .inr (7, [.ref (q 10), .ref (q 11), .ref (q 12), .ref (q 13), .long kisl, .int (nI kbr), .int kst, .int kso, .int (nI kse)])), (q 10, .inl (ca 6, 4, .inl (fun zj => nI (khm zj)))), (q 11, .inl (ca 7, 6, .inl (fun zj => nI (ksn zj)))), (q 12, .inl (ca 8, 6, .inl (fun zj => nI (ksp zj)))), (q 13, .inl (ca 9, 6, .inl (fun zj => nI (ksd zj)))), (q 4, .inr (7, [.ref (q 5), .ref (q 6), .ref (q 7), .ref (q 8), .long kisl, .int (nI kbr), .int kst, .int kso, .int (nI kse)])), (q 5, .inl (ca 2, 4, .inl (fun zj => nI (khm zj)))), (q 6, .inl (ca 3, 6, .inl (fun zj => nI (ksn zj)))), (q 7, .inl (ca 4, 6, .inl (fun zj => nI (ksp zj)))), (q 8, .inl (ca 5, 6, .inl (fun zj => nI (ksd zj))))] H := hP
  have hD : va_D A [(q 9, .inr (7, [.ref (q 10), .ref (q 11), .ref (q 12), .ref (q 13), .long kisl, .int (nI kbr), .int kst, .int kso, .int (nI kse)])), (q 10, .inl (ca 6, 4, .inl (fun zj => nI (khm zj)))), (q 11, .inl (ca 7, 6, .inl (fun zj => nI (ksn zj)))), (q 12, .inl (ca 8, 6, .inl (fun zj => nI (ksp zj)))), (q 13, .inl (ca 9, 6, .inl (fun zj => nI (ksd zj)))), (q 4, .inr (7, [.ref (q 5), .ref (q 6), .ref (q 7), .ref (q 8), .long kisl, .int (nI kbr), .int kst, .int kso, .int (nI kse)])), (q 5, .inl (ca 2, 4, .inl (fun zj => nI (khm zj)))), (q 6, .inl (ca 3, 6, .inl (fun zj => nI (ksn zj)))), (q 7, .inl (ca 4, 6, .inl (fun zj => nI (ksp zj)))), (q 8, .inl (ca 5, 6, .inl (fun zj => nI (ksd zj))))] := hD
  have hP9 := hP.sub (ws' := [(q 9, .inr (7, [.ref (q 10), .ref (q 11), .ref (q 12), .ref (q 13), .long kisl, .int (nI kbr), .int kst, .int kso, .int (nI kse)])), (q 10, .inl (ca 6, 4, .inl (fun zj => nI (khm zj)))), (q 11, .inl (ca 7, 6, .inl (fun zj => nI (ksn zj)))), (q 12, .inl (ca 8, 6, .inl (fun zj => nI (ksp zj)))), (q 13, .inl (ca 9, 6, .inl (fun zj => nI (ksd zj)))), (q 4, .inr (7, [.ref (q 5), .ref (q 6), .ref (q 7), .ref (q 8), .long kisl, .int (nI kbr), .int kst, .int kso, .int (nI kse)])), (q 5, .inl (ca 2, 4, .inl (fun zj => nI (khm zj)))), (q 6, .inl (ca 3, 6, .inl (fun zj => nI (ksn zj)))), (q 7, .inl (ca 4, 6, .inl (fun zj => nI (ksp zj)))), (q 8, .inl (ca 5, 6, .inl (fun zj => nI (ksd zj))))]) [0, 1, 2, 3, 4, 5, 6, 7, 8, 9] rfl
  have hD9 := hD.sub (ws' := [(q 9, .inr (7, [.ref (q 10), .ref (q 11), .ref (q 12), .ref (q 13), .long kisl, .int (nI kbr), .int kst, .int kso, .int (nI kse)])), (q 10, .inl (ca 6, 4, .inl (fun zj => nI (khm zj)))), (q 11, .inl (ca 7, 6, .inl (fun zj => nI (ksn zj)))), (q 12, .inl (ca 8, 6, .inl (fun zj => nI (ksp zj)))), (q 13, .inl (ca 9, 6, .inl (fun zj => nI (ksd zj)))), (q 4, .inr (7, [.ref (q 5), .ref (q 6), .ref (q 7), .ref (q 8), .long kisl, .int (nI kbr), .int kst, .int kso, .int (nI kse)])), (q 5, .inl (ca 2, 4, .inl (fun zj => nI (khm zj)))), (q 6, .inl (ca 3, 6, .inl (fun zj => nI (ksn zj)))), (q 7, .inl (ca 4, 6, .inl (fun zj => nI (ksp zj)))), (q 8, .inl (ca 5, 6, .inl (fun zj => nI (ksd zj))))]) [0, 1, 2, 3, 4, 5, 6, 7, 8, 9] (by decide) rfl
  exact W.vret hx hb hr (fun t ht hW => ⟨⟨(), rfl, trivial, by rw [ht]; exact hP9, va_K.moved hW.alike hK, hD9⟩, hS.F ht⟩) hS.2.2 dX7_copyFrom_99
end
section
def kindI (x : Nat) : Int32 := if 110 = x then nI 0 else if 115 = x then nI 1 else if 108 = x then nI 2 else if 116 = x then nI 3 else if 111 = x then nI 4 else -1
theorem i2b_s : ∀ x, x < 127 → (nI x).toInt8.toInt32 = nI x := by decide +kernel
def dig (x : Nat) : Bool := decide (48 ≤ x) && decide (x < 54)
theorem nI_z {a : Nat} (h : a < 2 ^ 31) : nI a = 0 ↔ a = 0 := nI_eq h (by decide)
theorem nar_c {q : Nat} (h : q < 65536) : vp_nar .char (nI q) = nI q := by
  unfold vp_nar
  rw [(pk_charN h).1]
theorem sub2_lt {a b d : Nat} (h : b ≤ a) (ha : a < 2 ^ 20) (hd : d < 2 ^ 20) : nI a - nI b - nI 1 < nI d ↔ a < b + d + 1 := by
  rw [pk_sub h, sub1_lt (by omega) (by omega)]
  omega
/-- the first place at which something is so; n behind j, if nowhere -/
def fstL (f : Nat → Bool) : Nat → Nat → Nat
  | 0, j => j
  | n + 1, j => if f j = true then j else fstL f n (j + 1)
theorem fstL_le {f : Nat → Bool} : ∀ (n j : Nat), j ≤ fstL f n j ∧ fstL f n j ≤ j + n
  | 0, j => ⟨Nat.le_refl j, Nat.le_refl j⟩
  | n + 1, j => by
    have h := fstL_le (f := f) n (j + 1)
    unfold fstL
    split
    · exact ⟨Nat.le_refl j, Nat.le_add_right _ _⟩
    · omega
def hE (pl : Nat → Nat) (ps : Nat) : Nat := fstL (fun j => decide (pl j = 59)) ps 0
theorem hE_le (pl : Nat → Nat) (ps : Nat) : hE pl ps ≤ ps := by
  have h := (fstL_le (f := fun j => decide (pl j = 59)) ps 0).2
  unfold hE
  omega
def fitH (pl : Nat → Nat) (a : Nat) : Bool := if a % 4 = 0 then !decide (kindI (pl a) = -1) else if a % 4 = 3 then decide (pl a = 59) || (decide (pl a = 44) && decide (a / 4 < 3)) else dig (pl a)
def fitT (pl : Nat → Nat) (he a : Nat) : Bool := dig (pl a) && decide (a - he ≤ 10)
def fitX (pl : Nat → Nat) (he a : Nat) : Bool := if he < a then fitT pl he a else fitH pl a
def fwN (pl : Nat → Nat) (ps : Nat) : Nat := fstL (fun a => !fitX pl (hE pl ps) a) ps 0
theorem fwN_le (pl : Nat → Nat) (ps : Nat) : fwN pl ps ≤ ps := by
  have h := (fstL_le (f := fun a => !fitX pl (hE pl ps) a) ps 0).2
  unfold fwN
  omega
def whN (pl : Nat → Nat) (ps : Nat) : Bool := decide (fwN pl ps = ps) && (decide (hE pl ps + 3 ≤ ps) && decide ((ps - hE pl ps - 1) % 2 = 0))
def plcN (pl : Nat → Nat) (a : Nat) : Nat := 6 * (pl a - 48) + pl (a + 1) - 48
set_option maxHeartbeats 4000000 in
set_option maxRecDepth 100000 in
theorem kJ0_isLatin1_aae02 (l : Launch) (dC : Nat → ClassId) (dI : Nat → Nat → Nat) (ca : Nat → ClassId) (k1 k2 : Nat → Nat) : Met l yJ0_isLatin1_aae02 (Cond.code yJ0_isLatin1_aae02 cJ0_isLatin1_aae02 1 (some .boolean) :: gT) (rk 1) (ROs (dC, dI) [] (TY ca) k1 k2 [Value.ref (k1 0)]) (vp_Si (fun r => r = nI 1)) 0 0 (fun _ => False) := by
  refine Met.ofW (cc := cJ0_isLatin1_aae02) (maxL := 1) (ret := (some .boolean)) (by decide) rfl ?_
  intro p e s m args below meth c s₁ B hml hv
  obtain ⟨rfl, hP, hK, hF⟩ := hv
  have hx := B.exec
  have hb := B.bytes
  have hr := B.returns
  have hts := atoms_spec (ws := (Cond.code yJ0_isLatin1_aae02 cJ0_isLatin1_aae02 1 (some .boolean) :: gT)) B.pre
  have htl : ∀ w ∈ gT, w.before _ s = true := fun w h => hts w (List.mem_cons_of_mem _ h)
  have hown : s.vm.findClass RJ0 = some m.cls := findClass_of_methodNamed B.named
  have hlocks := B.notSynchronized
  have hl := lv_entry ([Value.ref (k1 0)]) (n := 1) (Nat.le_of_ble_eq_true rfl)
  rw [lg_entry_eq]
  generalize (lg_sl ([Value.ref (k1 0)]) ++ List.replicate (1 - (lg_sl ([Value.ref (k1 0)])).length) Slot.unset).toArray = ls at hl ⊢
  have hl : lv_has ls 1 [(0, .ref (k1 0))] := hl
  refine va_gets (A := fun _ => False) hx hb hF.2.2 va_S.rf hown (htl _ wd_190) (fun _ h9 => h9) dJ0_isLatin1_aae02_0 ?_
  refine lv_if_eq (tgt := 17) hx hb dJ0_isLatin1_aae02_3 (by decide) (fun c_1 => ?_) (fun c_1 => ?_)
  · exact absurd c_1 (by decide)
  · refine lv_aload_n hx hb dJ0_isLatin1_aae02_6 rfl (lv_at hl 0 rfl) ?_
    refine vk_getf (A := fun _ => False) hx hb (hF.1.1 0 (by decide)).2.1 va_S.rf hown (htl _ wd_839) (fun _ h9 => h9) dJ0_isLatin1_aae02_7 ?_
    refine lv_if_ne (tgt := 17) hx hb dJ0_isLatin1_aae02_10 (by decide) (fun c_2 => ?_) (fun c_2 => ?_)
    · exact absurd c_2 (by decide)
    · refine lv_iconst (v := nI 1) hx hb dJ0_isLatin1_aae02_13 (by decide) ?_
      refine lv_goto (tgt := 18) hx hb dJ0_isLatin1_aae02_14 (by decide) ?_
      exact W.zret (v := nI 1) hx hb hr (by decide +kernel) (fun t ht hW => ⟨nI 1, rfl, rfl, ht⟩) (fun q h => by cases h) dJ0_isLatin1_aae02_18
set_option maxHeartbeats 4000000 in
set_option maxRecDepth 100000 in
theorem kJ0_coder_7d493 (l : Launch) (dC : Nat → ClassId) (dI : Nat → Nat → Nat) (ca : Nat → ClassId) (k1 k2 : Nat → Nat) : Met l yJ0_coder_7d493 (Cond.code yJ0_coder_7d493 cJ0_coder_7d493 1 (some .byte) :: gT) (rk 1) (ROs (dC, dI) [] (TY ca) k1 k2 [Value.ref (k1 0)]) (vp_Si (fun r => r = 0)) 0 0 (fun _ => False) := by
  refine Met.ofW (cc := cJ0_coder_7d493) (maxL := 1) (ret := (some .byte)) (by decide) rfl ?_
  intro p e s m args below meth c s₁ B hml hv
  obtain ⟨rfl, hP, hK, hF⟩ := hv
  have hx := B.exec
  have hb := B.bytes
  have hr := B.returns
  have hts := atoms_spec (ws := (Cond.code yJ0_coder_7d493 cJ0_coder_7d493 1 (some .byte) :: gT)) B.pre
  have htl : ∀ w ∈ gT, w.before _ s = true := fun w h => hts w (List.mem_cons_of_mem _ h)
  have hown : s.vm.findClass RJ0 = some m.cls := findClass_of_methodNamed B.named
  have hlocks := B.notSynchronized
  have hl := lv_entry ([Value.ref (k1 0)]) (n := 1) (Nat.le_of_ble_eq_true rfl)
  rw [lg_entry_eq]
  generalize (lg_sl ([Value.ref (k1 0)]) ++ List.replicate (1 - (lg_sl ([Value.ref (k1 0)])).length) Slot.unset).toArray = ls at hl ⊢
  have hl : lv_has ls 1 [(0, .ref (k1 0))] := hl
  refine va_gets (A := fun _ => False) hx hb hF.2.2 va_S.rf hown (htl _ wd_190) (fun _ h9 => h9) dJ0_coder_7d493_0 ?_
  refine lv_if_eq (tgt := 13) hx hb dJ0_coder_7d493_3 (by decide) (fun c_1 => ?_) (fun c_1 => ?_)
  · exact absurd c_1 (by decide)
  · refine lv_aload_n hx hb dJ0_coder_7d493_6 rfl (lv_at hl 0 rfl) ?_
    refine vk_getf (A := fun _ => False) hx hb (hF.1.1 0 (by decide)).2.1 va_S.rf hown (htl _ wd_839) (fun _ h9 => h9) dJ0_coder_7d493_7 ?_
    refine lv_goto (tgt := 14) hx hb dJ0_coder_7d493_10 (by decide) ?_
    exact W.zret (v := 0) hx hb hr (by decide +kernel) (fun t ht hW => ⟨0, rfl, rfl, ht⟩) (fun q h => by cases h) dJ0_coder_7d493_14
set_option maxHeartbeats 4000000 in
set_option maxRecDepth 100000 in
theorem kJ0_length_8abf5 (l : Launch) (dC : Nat → ClassId) (dI : Nat → Nat → Nat) (ca : Nat → ClassId) (k1 k2 : Nat → Nat) : Met l yJ0_length_8abf5 (Cond.code yJ0_length_8abf5 cJ0_length_8abf5 1 (some .int) :: gT) (rk 2) (ROs (dC, dI) [] (TY ca) k1 k2 [Value.ref (k1 0)]) (vp_Si (fun r => r = nI 5)) 0 0 (fun _ => False) := by
  refine Met.ofW (cc := cJ0_length_8abf5) (maxL := 1) (ret := (some .int)) (by decide) rfl ?_
  intro p e s m args below meth c s₁ B hml hv
  obtain ⟨rfl, hP, hK, hF⟩ := hv
  have hx := B.exec
  have hb := B.bytes
  have hr := B.returns
  have hts := atoms_spec (ws := (Cond.code yJ0_length_8abf5 cJ0_length_8abf5 1 (some .int) :: gT)) B.pre
  have htl : ∀ w ∈ gT, w.before _ s = true := fun w h => hts w (List.mem_cons_of_mem _ h)
  have hown : s.vm.findClass RJ0 = some m.cls := findClass_of_methodNamed B.named
  have hlocks := B.notSynchronized
  have hl := lv_entry ([Value.ref (k1 0)]) (n := 1) (Nat.le_of_ble_eq_true rfl)
  rw [lg_entry_eq]
  generalize (lg_sl ([Value.ref (k1 0)]) ++ List.replicate (1 - (lg_sl ([Value.ref (k1 0)])).length) Slot.unset).toArray = ls at hl ⊢
  have hl : lv_has ls 1 [(0, .ref (k1 0))] := hl
  refine lv_aload_n hx hb dJ0_length_8abf5_0 rfl (lv_at hl 0 rfl) ?_
  refine vk_getf (A := fun _ => False) hx hb (hF.1.1 0 (by decide)).2.2.1 va_S.rf hown (htl _ wd_840) (fun _ h9 => h9) dJ0_length_8abf5_1 ?_
  refine va_tlen (A := fun _ => False) (v := nI 5) hx hb (hF.1.1 0 (by decide)).2.2.2 va_S.rf (by decide) dJ0_length_8abf5_4 ?_
  refine lv_aload_n hx hb dJ0_length_8abf5_5 rfl (lv_at hl 0 rfl) ?_
  refine roVs (As := []) (rest := [.int (nI 5)]) (kJ0_coder_7d493 l dC dI ca k1 k2  ) ⟨hx, hb, hml, hown, htl⟩ (cVg (C := RJ0) 0 htl wd_196 wd_197 wd_198 wd_7 wd_199 rfl rfl (by decide +kernel) ⟨Nat.le_of_ble_eq_true rfl, Nat.le_of_ble_eq_true rfl⟩) (hP.sub [] rfl) hF hK (vk_recv (i := 0) hF.1 (by decide) va_S.rf) rfl hl.1 rfl (Nat.le_of_ble_eq_true rfl) dJ0_length_8abf5_6 ⟨Nat.zero_le _, Nat.zero_le _⟩ (fun r hr9 => ?_)
  subst hr9
  refine lv_ishr hx hb dJ0_length_8abf5_9 ?_
  exact W.iret (v := (nI 5) >>> (0 &&& 31)) hx hb hr (fun t ht hW => ⟨(nI 5) >>> (0 &&& 31), rfl, by decide +kernel, ht⟩) (fun q h => by cases h) dJ0_length_8abf5_10
def s_J1_canEncode_9a6ad (x1 : Int32) : Bool := if x1 < 0 then false else (if (nI 255) < x1 then false else (true))
set_option maxHeartbeats 4000000 in
set_option maxRecDepth 100000 in
theorem kJ1_canEncode_9a6ad (l : Launch) (dC : Nat → ClassId) (dI : Nat → Nat → Nat) (ca : Nat → ClassId) (x1 : Int32) : Met l yJ1_canEncode_9a6ad (Cond.code yJ1_canEncode_9a6ad cJ1_canEncode_9a6ad 1 (some .boolean) :: gT) (rk 1) (ROp (dC, dI) [] (TY ca) [Value.int x1]) (vp_Si (fun r => r = bI (s_J1_canEncode_9a6ad x1))) 0 0 (fun _ => False) := by
  refine Met.ofW (cc := cJ1_canEncode_9a6ad) (maxL := 1) (ret := (some .boolean)) (by decide) rfl ?_
  intro p e s m args below meth c s₁ B hml hv
  obtain ⟨rfl, hP, hK⟩ := hv
  have hx := B.exec
  have hb := B.bytes
  have hr := B.returns
  have hts := atoms_spec (ws := (Cond.code yJ1_canEncode_9a6ad cJ1_canEncode_9a6ad 1 (some .boolean) :: gT)) B.pre
  have htl : ∀ w ∈ gT, w.before _ s = true := fun w h => hts w (List.mem_cons_of_mem _ h)
  have hown : s.vm.findClass RJ1 = some m.cls := findClass_of_methodNamed B.named
  have hlocks := B.notSynchronized
  have hl := lv_entry ([Value.int x1]) (n := 1) (Nat.le_of_ble_eq_true rfl)
  rw [lg_entry_eq]
  generalize (lg_sl ([Value.int x1]) ++ List.replicate (1 - (lg_sl ([Value.int x1])).length) Slot.unset).toArray = ls at hl ⊢
  have hl : lv_has ls 1 [(0, .int x1)] := hl
  refine lv_iload_n hx hb dJ1_canEncode_9a6ad_0 rfl (lv_at hl 0 rfl) ?_
  refine lv_if_lt (tgt := 15) hx hb dJ1_canEncode_9a6ad_1 (by decide) (fun c_1 => ?_) (fun c_1 => ?_)
  · refine lv_iconst (v := nI 0) hx hb dJ1_canEncode_9a6ad_15 (by decide) ?_
    exact W.zret (v := nI 0) hx hb hr (by decide +kernel) (fun t ht hW => ⟨nI 0, rfl, by show _ = _; unfold s_J1_canEncode_9a6ad; (first | rw [if_pos c_1] | rw [if_neg c_1] | rw [if_neg (by rw [c_1]; decide)]); (first | done | rfl), ht⟩) (fun q h => by cases h) dJ1_canEncode_9a6ad_16
  · refine lv_iload_n hx hb dJ1_canEncode_9a6ad_4 rfl (lv_at hl 0 rfl) ?_
    refine lv_sipush (v := nI 255) hx hb dJ1_canEncode_9a6ad_5 (by decide) ?_
    refine lv_icmp_gt (tgt := 15) hx hb dJ1_canEncode_9a6ad_8 (by decide) (fun c_2 => ?_) (fun c_2 => ?_)
    · refine lv_iconst (v := nI 0) hx hb dJ1_canEncode_9a6ad_15 (by decide) ?_
      exact W.zret (v := nI 0) hx hb hr (by decide +kernel) (fun t ht hW => ⟨nI 0, rfl, by show _ = _; unfold s_J1_canEncode_9a6ad; (first | rw [if_pos c_1] | rw [if_neg c_1] | rw [if_neg (by rw [c_1]; decide)]); (first | rw [if_pos c_2] | rw [if_neg c_2] | rw [if_neg (by rw [c_2]; decide)]); (first | done | rfl), ht⟩) (fun q h => by cases h) dJ1_canEncode_9a6ad_16
    · refine lv_iconst (v := nI 1) hx hb dJ1_canEncode_9a6ad_11 (by decide) ?_
      refine lv_goto (tgt := 16) hx hb dJ1_canEncode_9a6ad_12 (by decide) ?_
      exact W.zret (v := nI 1) hx hb hr (by decide +kernel) (fun t ht hW => ⟨nI 1, rfl, by show _ = _; unfold s_J1_canEncode_9a6ad; (first | rw [if_pos c_1] | rw [if_neg c_1] | rw [if_neg (by rw [c_1]; decide)]); (first | rw [if_pos c_2] | rw [if_neg c_2] | rw [if_neg (by rw [c_2]; decide)]); (first | done | rfl), ht⟩) (fun q h => by cases h) dJ1_canEncode_9a6ad_16
theorem enc_s : ∀ x, x < 127 → s_J1_canEncode_9a6ad (nI x) = true := by decide +kernel
set_option maxHeartbeats 4000000 in
set_option maxRecDepth 100000 in
theorem kJ1_indexOfChar_4cfef (l : Launch) (dC : Nat → ClassId) (dI : Nat → Nat → Nat) (ca : Nat → ClassId) (k1 k2 : Nat → Nat) (ch : Nat) (hch : ch < 127) : Met l yJ1_indexOfChar_4cfef (Cond.code yJ1_indexOfChar_4cfef cJ1_indexOfChar_4cfef 6 (some .int) :: gT) (rk 1) (ROs (dC, dI) [] (TY ca) k1 k2 [Value.ref (k2 0), Value.int (nI ch), Value.int (nI 0), Value.int (nI 5)]) (vp_Si (fun r => r = kindI ch)) 0 0 (fun _ => False) := by
  refine Met.ofW (cc := cJ1_indexOfChar_4cfef) (maxL := 6) (ret := (some .int)) (by decide) rfl ?_
  intro p e s m args below meth c s₁ B hml hv
  obtain ⟨rfl, hP, hK, hF⟩ := hv
  have hx := B.exec
  have hb := B.bytes
  have hr := B.returns
  have hts := atoms_spec (ws := (Cond.code yJ1_indexOfChar_4cfef cJ1_indexOfChar_4cfef 6 (some .int) :: gT)) B.pre
  have htl : ∀ w ∈ gT, w.before _ s = true := fun w h => hts w (List.mem_cons_of_mem _ h)
  have hown : s.vm.findClass RJ1 = some m.cls := findClass_of_methodNamed B.named
  have hlocks := B.notSynchronized
  have hl := lv_entry ([Value.ref (k2 0), Value.int (nI ch), Value.int (nI 0), Value.int (nI 5)]) (n := 6) (Nat.le_of_ble_eq_true rfl)
  rw [lg_entry_eq]
  generalize (lg_sl ([Value.ref (k2 0), Value.int (nI ch), Value.int (nI 0), Value.int (nI 5)]) ++ List.replicate (6 - (lg_sl ([Value.ref (k2 0), Value.int (nI ch), Value.int (nI 0), Value.int (nI 5)])).length) Slot.unset).toArray = ls at hl ⊢
  have hl : lv_has ls 6 [(0, .ref (k2 0)), (1, .int (nI ch)), (2, .int (nI 0)), (3, .int (nI 5))] := hl
  refine lv_iload_n hx hb dJ1_indexOfChar_4cfef_0 rfl (lv_at hl 1 rfl) ?_
  refine lv_i2b (v := nI ch) hx hb dJ1_indexOfChar_4cfef_1 (i2b_s ch hch) ?_
  refine lv_istore (lv' := [(4, .int (nI ch)), (0, .ref (k2 0)), (1, .int (nI ch)), (2, .int (nI 0)), (3, .int (nI 5))]) hx hb dJ1_indexOfChar_4cfef_2 hl (by decide) rfl (fun ls hl => ?_)
  refine lv_iload_n hx hb dJ1_indexOfChar_4cfef_4 rfl (lv_at hl 3 rfl) ?_
  refine lv_istore (lv' := [(5, .int (nI 0)), (4, .int (nI ch)), (0, .ref (k2 0)), (1, .int (nI ch)), (2, .int (nI 0)), (3, .int (nI 5))]) hx hb dJ1_indexOfChar_4cfef_5 hl (by decide) rfl (fun ls hl => ?_)
  refine lv_iload hx hb dJ1_indexOfChar_4cfef_7 (lv_at hl 0 rfl) ?_
  refine lv_iload_n hx hb dJ1_indexOfChar_4cfef_9 rfl (lv_at hl 5 rfl) ?_
  refine lv_icmp_ge (tgt := 31) hx hb dJ1_indexOfChar_4cfef_10 (by decide) (fun c_1 => ?_) (fun c_1 => ?_)
  · exact absurd c_1 (by decide)
  · refine lv_aload_n hx hb dJ1_indexOfChar_4cfef_13 rfl (lv_at hl 2 rfl) ?_
    refine lv_iload hx hb dJ1_indexOfChar_4cfef_14 (lv_at hl 0 rfl) ?_
    refine va_tb (A := fun _ => False) (v := .int (nI 110)) hx hb (hF.1.1 0 (by decide)).2.2.2 va_S.rf (vp_in_nI (by decide) (by decide)) (by decide +kernel) dJ1_indexOfChar_4cfef_16 ?_
    refine lv_iload hx hb dJ1_indexOfChar_4cfef_17 (lv_at hl 1 rfl) ?_
    refine lv_icmp_ne (tgt := 25) hx hb dJ1_indexOfChar_4cfef_19 (by decide) (fun c_2 => ?_) (fun c_2 => ?_)
    · rw [nI_eq (by decide) (by omega)] at c_2
      refine lv_iinc (v := nI 1) (lv' := [(5, .int (nI 1)), (4, .int (nI ch)), (0, .ref (k2 0)), (1, .int (nI ch)), (2, .int (nI 0)), (3, .int (nI 5))]) hx hb dJ1_indexOfChar_4cfef_25 hl (k := 0) rfl (nI_add 0 1) (by decide) rfl (fun ls hl => ?_)
      refine lv_goto (tgt := 7) hx hb dJ1_indexOfChar_4cfef_28 (by decide) ?_
      refine lv_iload hx hb dJ1_indexOfChar_4cfef_7 (lv_at hl 0 rfl) ?_
      refine lv_iload_n hx hb dJ1_indexOfChar_4cfef_9 rfl (lv_at hl 5 rfl) ?_
      refine lv_icmp_ge (tgt := 31) hx hb dJ1_indexOfChar_4cfef_10 (by decide) (fun c_3 => ?_) (fun c_3 => ?_)
      · exact absurd c_3 (by decide)
      · refine lv_aload_n hx hb dJ1_indexOfChar_4cfef_13 rfl (lv_at hl 2 rfl) ?_
        refine lv_iload hx hb dJ1_indexOfChar_4cfef_14 (lv_at hl 0 rfl) ?_
        refine va_tb (A := fun _ => False) (v := .int (nI 115)) hx hb (hF.1.1 0 (by decide)).2.2.2 va_S.rf (vp_in_nI (by decide) (by decide)) (by decide +kernel) dJ1_indexOfChar_4cfef_16 ?_
        refine lv_iload hx hb dJ1_indexOfChar_4cfef_17 (lv_at hl 1 rfl) ?_
        refine lv_icmp_ne (tgt := 25) hx hb dJ1_indexOfChar_4cfef_19 (by decide) (fun c_4 => ?_) (fun c_4 => ?_)
        · rw [nI_eq (by decide) (by omega)] at c_4
          refine lv_iinc (v := nI 2) (lv' := [(5, .int (nI 2)), (4, .int (nI ch)), (0, .ref (k2 0)), (1, .int (nI ch)), (2, .int (nI 0)), (3, .int (nI 5))]) hx hb dJ1_indexOfChar_4cfef_25 hl (k := 0) rfl (nI_add 1 1) (by decide) rfl (fun ls hl => ?_)
          refine lv_goto (tgt := 7) hx hb dJ1_indexOfChar_4cfef_28 (by decide) ?_
          refine lv_iload hx hb dJ1_indexOfChar_4cfef_7 (lv_at hl 0 rfl) ?_
          refine lv_iload_n hx hb dJ1_indexOfChar_4cfef_9 rfl (lv_at hl 5 rfl) ?_
          refine lv_icmp_ge (tgt := 31) hx hb dJ1_indexOfChar_4cfef_10 (by decide) (fun c_5 => ?_) (fun c_5 => ?_)
          · exact absurd c_5 (by decide)
          · refine lv_aload_n hx hb dJ1_indexOfChar_4cfef_13 rfl (lv_at hl 2 rfl) ?_
            refine lv_iload hx hb dJ1_indexOfChar_4cfef_14 (lv_at hl 0 rfl) ?_
            refine va_tb (A := fun _ => False) (v := .int (nI 108)) hx hb (hF.1.1 0 (by decide)).2.2.2 va_S.rf (vp_in_nI (by decide) (by decide)) (by decide +kernel) dJ1_indexOfChar_4cfef_16 ?_
            refine lv_iload hx hb dJ1_indexOfChar_4cfef_17 (lv_at hl 1 rfl) ?_
            refine lv_icmp_ne (tgt := 25) hx hb dJ1_indexOfChar_4cfef_19 (by decide) (fun c_6 => ?_) (fun c_6 => ?_)
            · rw [nI_eq (by decide) (by omega)] at c_6
              refine lv_iinc (v := nI 3) (lv' := [(5, .int (nI 3)), (4, .int (nI ch)), (0, .ref (k2 0)), (1, .int (nI ch)), (2, .int (nI 0)), (3, .int (nI 5))]) hx hb dJ1_indexOfChar_4cfef_25 hl (k := 0) rfl (nI_add 2 1) (by decide) rfl (fun ls hl => ?_)
              refine lv_goto (tgt := 7) hx hb dJ1_indexOfChar_4cfef_28 (by decide) ?_
              refine lv_iload hx hb dJ1_indexOfChar_4cfef_7 (lv_at hl 0 rfl) ?_
              refine lv_iload_n hx hb dJ1_indexOfChar_4cfef_9 rfl (lv_at hl 5 rfl) ?_
              refine lv_icmp_ge (tgt := 31) hx hb dJ1_indexOfChar_4cfef_10 (by decide) (fun c_7 => ?_) (fun c_7 => ?_)
              · exact absurd c_7 (by decide)
              · refine lv_aload_n hx hb dJ1_indexOfChar_4cfef_13 rfl (lv_at hl 2 rfl) ?_
                refine lv_iload hx hb dJ1_indexOfChar_4cfef_14 (lv_at hl 0 rfl) ?_
                refine va_tb (A := fun _ => False) (v := .int (nI 116)) hx hb (hF.1.1 0 (by decide)).2.2.2 va_S.rf (vp_in_nI (by decide) (by decide)) (by decide +kernel) dJ1_indexOfChar_4cfef_16 ?_
                refine lv_iload hx hb dJ1_indexOfChar_4cfef_17 (lv_at hl 1 rfl) ?_
                refine lv_icmp_ne (tgt := 25) hx hb dJ1_indexOfChar_4cfef_19 (by decide) (fun c_8 => ?_) (fun c_8 => ?_)
                · rw [nI_eq (by decide) (by omega)] at c_8
                  refine lv_iinc (v := nI 4) (lv' := [(5, .int (nI 4)), (4, .int (nI ch)), (0, .ref (k2 0)), (1, .int (nI ch)), (2, .int (nI 0)), (3, .int (nI 5))]) hx hb dJ1_indexOfChar_4cfef_25 hl (k := 0) rfl (nI_add 3 1) (by decide) rfl (fun ls hl => ?_)
                  refine lv_goto (tgt := 7) hx hb dJ1_indexOfChar_4cfef_28 (by decide) ?_
                  refine lv_iload hx hb dJ1_indexOfChar_4cfef_7 (lv_at hl 0 rfl) ?_
                  refine lv_iload_n hx hb dJ1_indexOfChar_4cfef_9 rfl (lv_at hl 5 rfl) ?_
                  refine lv_icmp_ge (tgt := 31) hx hb dJ1_indexOfChar_4cfef_10 (by decide) (fun c_9 => ?_) (fun c_9 => ?_)
                  · exact absurd c_9 (by decide)
                  · refine lv_aload_n hx hb dJ1_indexOfChar_4cfef_13 rfl (lv_at hl 2 rfl) ?_
                    refine lv_iload hx hb dJ1_indexOfChar_4cfef_14 (lv_at hl 0 rfl) ?_
                    refine va_tb (A := fun _ => False) (v := .int (nI 111)) hx hb (hF.1.1 0 (by decide)).2.2.2 va_S.rf (vp_in_nI (by decide) (by decide)) (by decide +kernel) dJ1_indexOfChar_4cfef_16 ?_
                    refine lv_iload hx hb dJ1_indexOfChar_4cfef_17 (lv_at hl 1 rfl) ?_
                    refine lv_icmp_ne (tgt := 25) hx hb dJ1_indexOfChar_4cfef_19 (by decide) (fun c_10 => ?_) (fun c_10 => ?_)
                    · rw [nI_eq (by decide) (by omega)] at c_10
                      refine lv_iinc (v := nI 5) (lv' := [(5, .int (nI 5)), (4, .int (nI ch)), (0, .ref (k2 0)), (1, .int (nI ch)), (2, .int (nI 0)), (3, .int (nI 5))]) hx hb dJ1_indexOfChar_4cfef_25 hl (k := 0) rfl (nI_add 4 1) (by decide) rfl (fun ls hl => ?_)
                      refine lv_goto (tgt := 7) hx hb dJ1_indexOfChar_4cfef_28 (by decide) ?_
                      refine lv_iload hx hb dJ1_indexOfChar_4cfef_7 (lv_at hl 0 rfl) ?_
                      refine lv_iload_n hx hb dJ1_indexOfChar_4cfef_9 rfl (lv_at hl 5 rfl) ?_
                      refine lv_icmp_ge (tgt := 31) hx hb dJ1_indexOfChar_4cfef_10 (by decide) (fun c_11 => ?_) (fun c_11 => ?_)
                      · refine lv_iconst (v := (-1)) hx hb dJ1_indexOfChar_4cfef_31 (by decide) ?_
                        exact W.iret (v := (-1)) hx hb hr (fun t ht hW => ⟨(-1), rfl, by show _ = _; unfold kindI; rw [if_neg c_2, if_neg c_4, if_neg c_6, if_neg c_8, if_neg c_10], ht⟩) (fun q h => by cases h) dJ1_indexOfChar_4cfef_32
                      · exact absurd c_11 (by decide)
                    · rw [nI_eq (by decide) (by omega)] at c_10
                      refine lv_iload hx hb dJ1_indexOfChar_4cfef_22 (lv_at hl 0 rfl) ?_
                      exact W.iret (v := nI 4) hx hb hr (fun t ht hW => ⟨nI 4, rfl, by show _ = _; unfold kindI; rw [if_neg c_2, if_neg c_4, if_neg c_6, if_neg c_8, if_pos c_10], ht⟩) (fun q h => by cases h) dJ1_indexOfChar_4cfef_24
                · rw [nI_eq (by decide) (by omega)] at c_8
                  refine lv_iload hx hb dJ1_indexOfChar_4cfef_22 (lv_at hl 0 rfl) ?_
                  exact W.iret (v := nI 3) hx hb hr (fun t ht hW => ⟨nI 3, rfl, by show _ = _; unfold kindI; rw [if_neg c_2, if_neg c_4, if_neg c_6, if_pos c_8], ht⟩) (fun q h => by cases h) dJ1_indexOfChar_4cfef_24
            · rw [nI_eq (by decide) (by omega)] at c_6
              refine lv_iload hx hb dJ1_indexOfChar_4cfef_22 (lv_at hl 0 rfl) ?_
              exact W.iret (v := nI 2) hx hb hr (fun t ht hW => ⟨nI 2, rfl, by show _ = _; unfold kindI; rw [if_neg c_2, if_neg c_4, if_pos c_6], ht⟩) (fun q h => by cases h) dJ1_indexOfChar_4cfef_24
        · rw [nI_eq (by decide) (by omega)] at c_4
          refine lv_iload hx hb dJ1_indexOfChar_4cfef_22 (lv_at hl 0 rfl) ?_
          exact W.iret (v := nI 1) hx hb hr (fun t ht hW => ⟨nI 1, rfl, by show _ = _; unfold kindI; rw [if_neg c_2, if_pos c_4], ht⟩) (fun q h => by cases h) dJ1_indexOfChar_4cfef_24
    · rw [nI_eq (by decide) (by omega)] at c_2
      refine lv_iload hx hb dJ1_indexOfChar_4cfef_22 (lv_at hl 0 rfl) ?_
      exact W.iret (v := nI 0) hx hb hr (fun t ht hW => ⟨nI 0, rfl, by show _ = _; unfold kindI; rw [if_pos c_2], ht⟩) (fun q h => by cases h) dJ1_indexOfChar_4cfef_24
set_option maxHeartbeats 4000000 in
set_option maxRecDepth 100000 in
theorem kJ1_indexOf_4cfef (l : Launch) (dC : Nat → ClassId) (dI : Nat → Nat → Nat) (ca : Nat → ClassId) (k1 k2 : Nat → Nat) (ch : Nat) (hch : ch < 127) : Met l yJ1_indexOf_4cfef (Cond.code yJ1_indexOf_4cfef cJ1_indexOf_4cfef 4 (some .int) :: gT) (rk 2) (ROs (dC, dI) [] (TY ca) k1 k2 [Value.ref (k2 0), Value.int (nI ch), Value.int (nI 0), Value.int (nI 5)]) (vp_Si (fun r => r = kindI ch)) 0 0 (fun _ => False) := by
  refine Met.ofW (cc := cJ1_indexOf_4cfef) (maxL := 4) (ret := (some .int)) (by decide) rfl ?_
  intro p e s m args below meth c s₁ B hml hv
  obtain ⟨rfl, hP, hK, hF⟩ := hv
  have hx := B.exec
  have hb := B.bytes
  have hr := B.returns
  have hts := atoms_spec (ws := (Cond.code yJ1_indexOf_4cfef cJ1_indexOf_4cfef 4 (some .int) :: gT)) B.pre
  have htl : ∀ w ∈ gT, w.before _ s = true := fun w h => hts w (List.mem_cons_of_mem _ h)
  have hown : s.vm.findClass RJ1 = some m.cls := findClass_of_methodNamed B.named
  have hlocks := B.notSynchronized
  have hl := lv_entry ([Value.ref (k2 0), Value.int (nI ch), Value.int (nI 0), Value.int (nI 5)]) (n := 4) (Nat.le_of_ble_eq_true rfl)
  rw [lg_entry_eq]
  generalize (lg_sl ([Value.ref (k2 0), Value.int (nI ch), Value.int (nI 0), Value.int (nI 5)]) ++ List.replicate (4 - (lg_sl ([Value.ref (k2 0), Value.int (nI ch), Value.int (nI 0), Value.int (nI 5)])).length) Slot.unset).toArray = ls at hl ⊢
  have hl : lv_has ls 4 [(0, .ref (k2 0)), (1, .int (nI ch)), (2, .int (nI 0)), (3, .int (nI 5))] := hl
  refine lv_iload_n hx hb dJ1_indexOf_4cfef_0 rfl (lv_at hl 1 rfl) ?_
  refine roS (As := [Value.int (nI ch)]) (rest := []) (kJ1_canEncode_9a6ad l dC dI ca (nI ch) ) ⟨hx, hb, hml, hown, htl⟩ (cSg 1 htl wd_203 wd_204 wd_8 wd_205 rfl rfl (by decide +kernel) ⟨Nat.le_of_ble_eq_true rfl, Nat.le_of_ble_eq_true rfl⟩) (hP.sub [] rfl) hK rfl hl.1 rfl (Nat.le_of_ble_eq_true rfl) dJ1_indexOf_4cfef_1 ⟨Nat.zero_le _, Nat.zero_le _⟩ (fun r hr9 => ?_)
  subst hr9
  refine lv_if_ne (tgt := 9) hx hb dJ1_indexOf_4cfef_4 (by decide) (fun c_1 => ?_) (fun c_1 => ?_)
  · replace c_1 := bI_t c_1
    refine lv_iload_n hx hb dJ1_indexOf_4cfef_9 rfl (lv_at hl 2 rfl) ?_
    refine lv_iconst (v := nI 0) hx hb dJ1_indexOf_4cfef_10 (by decide) ?_
    refine va_mmax hx hb (by rw [hml]; exact hl.1.symm) hown (htl _ wd_206) (htl _ wd_207) (htl _ wd_9) (htl _ wd_208) (Nat.le_of_ble_eq_true rfl) (Nat.le_of_ble_eq_true rfl) (Nat.zero_le _) (Nat.zero_le _) dJ1_indexOf_4cfef_11 ?_
    refine lv_ri (y := nI 0) (by decide) ?_
    refine lv_istore_n (lv' := [(2, .int (nI 0)), (0, .ref (k2 0)), (1, .int (nI ch)), (3, .int (nI 5))]) hx hb dJ1_indexOf_4cfef_14 rfl hl (by decide) rfl (fun ls hl => ?_)
    refine lv_iload_n hx hb dJ1_indexOf_4cfef_15 rfl (lv_at hl 3 rfl) ?_
    refine lv_aload_n hx hb dJ1_indexOf_4cfef_16 rfl (lv_at hl 1 rfl) ?_
    refine va_tlen (A := fun _ => False) (v := nI 5) hx hb (hF.1.1 0 (by decide)).2.2.2 va_S.rf (by decide) dJ1_indexOf_4cfef_17 ?_
    refine va_mmin hx hb (by rw [hml]; exact hl.1.symm) hown (htl _ wd_209) (htl _ wd_210) (htl _ wd_9) (htl _ wd_211) (Nat.le_of_ble_eq_true rfl) (Nat.le_of_ble_eq_true rfl) (Nat.zero_le _) (Nat.zero_le _) dJ1_indexOf_4cfef_18 ?_
    refine lv_ri (y := nI 5) (by decide) ?_
    refine lv_istore_n (lv' := [(3, .int (nI 5)), (2, .int (nI 0)), (0, .ref (k2 0)), (1, .int (nI ch))]) hx hb dJ1_indexOf_4cfef_21 rfl hl (by decide) rfl (fun ls hl => ?_)
    refine lv_iload_n hx hb dJ1_indexOf_4cfef_22 rfl (lv_at hl 1 rfl) ?_
    refine lv_iload_n hx hb dJ1_indexOf_4cfef_23 rfl (lv_at hl 0 rfl) ?_
    refine lv_icmp_lt (tgt := 29) hx hb dJ1_indexOf_4cfef_24 (by decide) (fun c_2 => ?_) (fun c_2 => ?_)
    · refine lv_aload_n hx hb dJ1_indexOf_4cfef_29 rfl (lv_at hl 2 rfl) ?_
      refine lv_iload_n hx hb dJ1_indexOf_4cfef_30 rfl (lv_at hl 3 rfl) ?_
      refine lv_iload_n hx hb dJ1_indexOf_4cfef_31 rfl (lv_at hl 1 rfl) ?_
      refine lv_iload_n hx hb dJ1_indexOf_4cfef_32 rfl (lv_at hl 0 rfl) ?_
      refine roSs (As := [Value.ref (k2 0), Value.int (nI ch), Value.int (nI 0), Value.int (nI 5)]) (rest := []) (kJ1_indexOfChar_4cfef l dC dI ca k1 k2 ch (by first | assumption | omega)) ⟨hx, hb, hml, hown, htl⟩ (cSg 4 htl wd_212 wd_213 wd_8 wd_214 rfl rfl (by decide +kernel) ⟨Nat.le_of_ble_eq_true rfl, Nat.le_of_ble_eq_true rfl⟩) (hP.sub [] rfl) hF hK rfl hl.1 rfl (Nat.le_of_ble_eq_true rfl) dJ1_indexOf_4cfef_33 ⟨Nat.zero_le _, Nat.zero_le _⟩ (fun r hr9 => ?_)
      subst hr9
      exact W.iret (v := kindI ch) hx hb hr (fun t ht hW => ⟨kindI ch, rfl, rfl, ht⟩) (fun q h => by cases h) dJ1_indexOf_4cfef_36
    · exact absurd c_2 (by decide)
  · exact absurd (enc_s ch hch) (by rw [bI_f c_1]; decide)
set_option maxHeartbeats 4000000 in
set_option maxRecDepth 100000 in
theorem kJ0_indexOf_7cf53 (l : Launch) (dC : Nat → ClassId) (dI : Nat → Nat → Nat) (ca : Nat → ClassId) (k1 k2 : Nat → Nat) (ch : Nat) (hch : ch < 127) : Met l yJ0_indexOf_7cf53 (Cond.code yJ0_indexOf_7cf53 cJ0_indexOf_7cf53 3 (some .int) :: gT) (rk 3) (ROs (dC, dI) [] (TY ca) k1 k2 [Value.ref (k1 0), Value.int (nI ch), Value.int (nI 0)]) (vp_Si (fun r => r = kindI ch)) 0 0 (fun _ => False) := by
  refine Met.ofW (cc := cJ0_indexOf_7cf53) (maxL := 3) (ret := (some .int)) (by decide) rfl ?_
  intro p e s m args below meth c s₁ B hml hv
  obtain ⟨rfl, hP, hK, hF⟩ := hv
  have hx := B.exec
  have hb := B.bytes
  have hr := B.returns
  have hts := atoms_spec (ws := (Cond.code yJ0_indexOf_7cf53 cJ0_indexOf_7cf53 3 (some .int) :: gT)) B.pre
  have htl : ∀ w ∈ gT, w.before _ s = true := fun w h => hts w (List.mem_cons_of_mem _ h)
  have hown : s.vm.findClass RJ0 = some m.cls := findClass_of_methodNamed B.named
  have hlocks := B.notSynchronized
  have hl := lv_entry ([Value.ref (k1 0), Value.int (nI ch), Value.int (nI 0)]) (n := 3) (Nat.le_of_ble_eq_true rfl)
  rw [lg_entry_eq]
  generalize (lg_sl ([Value.ref (k1 0), Value.int (nI ch), Value.int (nI 0)]) ++ List.replicate (3 - (lg_sl ([Value.ref (k1 0), Value.int (nI ch), Value.int (nI 0)])).length) Slot.unset).toArray = ls at hl ⊢
  have hl : lv_has ls 3 [(0, .ref (k1 0)), (1, .int (nI ch)), (2, .int (nI 0))] := hl
  refine lv_aload_n hx hb dJ0_indexOf_7cf53_0 rfl (lv_at hl 0 rfl) ?_
  refine roVs (As := []) (rest := []) (kJ0_isLatin1_aae02 l dC dI ca k1 k2  ) ⟨hx, hb, hml, hown, htl⟩ (cVg (C := RJ0) 0 htl wd_186 wd_187 wd_188 wd_7 wd_189 rfl rfl (by decide +kernel) ⟨Nat.le_of_ble_eq_true rfl, Nat.le_of_ble_eq_true rfl⟩) (hP.sub [] rfl) hF hK (vk_recv (i := 0) hF.1 (by decide) va_S.rf) rfl hl.1 rfl (Nat.le_of_ble_eq_true rfl) dJ0_indexOf_7cf53_1 ⟨Nat.zero_le _, Nat.zero_le _⟩ (fun r hr9 => ?_)
  subst hr9
  refine lv_if_eq (tgt := 23) hx hb dJ0_indexOf_7cf53_4 (by decide) (fun c_1 => ?_) (fun c_1 => ?_)
  · exact absurd c_1 (by decide)
  · refine lv_aload_n hx hb dJ0_indexOf_7cf53_7 rfl (lv_at hl 0 rfl) ?_
    refine vk_getf (A := fun _ => False) hx hb (hF.1.1 0 (by decide)).2.2.1 va_S.rf hown (htl _ wd_840) (fun _ h9 => h9) dJ0_indexOf_7cf53_8 ?_
    refine lv_iload_n hx hb dJ0_indexOf_7cf53_11 rfl (lv_at hl 1 rfl) ?_
    refine lv_iload_n hx hb dJ0_indexOf_7cf53_12 rfl (lv_at hl 2 rfl) ?_
    refine lv_aload_n hx hb dJ0_indexOf_7cf53_13 rfl (lv_at hl 0 rfl) ?_
    refine roVs (As := []) (rest := [.int (nI 0), .int (nI ch), .ref (k2 0)]) (kJ0_length_8abf5 l dC dI ca k1 k2  ) ⟨hx, hb, hml, hown, htl⟩ (cVg (C := RJ0) 0 htl wd_192 wd_193 wd_194 wd_7 wd_195 rfl rfl (by decide +kernel) ⟨Nat.le_of_ble_eq_true rfl, Nat.le_of_ble_eq_true rfl⟩) (hP.sub [] rfl) hF hK (vk_recv (i := 0) hF.1 (by decide) va_S.rf) rfl hl.1 rfl (Nat.le_of_ble_eq_true rfl) dJ0_indexOf_7cf53_14 ⟨Nat.zero_le _, Nat.zero_le _⟩ (fun r hr9 => ?_)
    subst hr9
    refine roSs (As := [Value.ref (k2 0), Value.int (nI ch), Value.int (nI 0), Value.int (nI 5)]) (rest := []) (kJ1_indexOf_4cfef l dC dI ca k1 k2 ch (by first | assumption | omega)) ⟨hx, hb, hml, hown, htl⟩ (cSg 4 htl wd_200 wd_201 wd_8 wd_202 rfl rfl (by decide +kernel) ⟨Nat.le_of_ble_eq_true rfl, Nat.le_of_ble_eq_true rfl⟩) (hP.sub [] rfl) hF hK rfl hl.1 rfl (Nat.le_of_ble_eq_true rfl) dJ0_indexOf_7cf53_17 ⟨Nat.zero_le _, Nat.zero_le _⟩ (fun r hr9 => ?_)
    subst hr9
    refine lv_goto (tgt := 36) hx hb dJ0_indexOf_7cf53_20 (by decide) ?_
    exact W.iret (v := kindI ch) hx hb hr (fun t ht hW => ⟨kindI ch, rfl, rfl, ht⟩) (fun q h => by cases h) dJ0_indexOf_7cf53_36
set_option maxHeartbeats 4000000 in
set_option maxRecDepth 100000 in
theorem kJ0_indexOf_0f7a4 (l : Launch) (dC : Nat → ClassId) (dI : Nat → Nat → Nat) (ca : Nat → ClassId) (k1 k2 : Nat → Nat) (ch : Nat) (hch : ch < 127) : Met l yJ0_indexOf_0f7a4 (Cond.code yJ0_indexOf_0f7a4 cJ0_indexOf_0f7a4 2 (some .int) :: gT) (rk 4) (ROs (dC, dI) [] (TY ca) k1 k2 [Value.ref (k1 0), Value.int (nI ch)]) (vp_Si (fun r => r = kindI ch)) 0 0 (fun _ => False) := by
  refine Met.ofW (cc := cJ0_indexOf_0f7a4) (maxL := 2) (ret := (some .int)) (by decide) rfl ?_
  intro p e s m args below meth c s₁ B hml hv
  obtain ⟨rfl, hP, hK, hF⟩ := hv
  have hx := B.exec
  have hb := B.bytes
  have hr := B.returns
  have hts := atoms_spec (ws := (Cond.code yJ0_indexOf_0f7a4 cJ0_indexOf_0f7a4 2 (some .int) :: gT)) B.pre
  have htl : ∀ w ∈ gT, w.before _ s = true := fun w h => hts w (List.mem_cons_of_mem _ h)
  have hown : s.vm.findClass RJ0 = some m.cls := findClass_of_methodNamed B.named
  have hlocks := B.notSynchronized
  have hl := lv_entry ([Value.ref (k1 0), Value.int (nI ch)]) (n := 2) (Nat.le_of_ble_eq_true rfl)
  rw [lg_entry_eq]
  generalize (lg_sl ([Value.ref (k1 0), Value.int (nI ch)]) ++ List.replicate (2 - (lg_sl ([Value.ref (k1 0), Value.int (nI ch)])).length) Slot.unset).toArray = ls at hl ⊢
  have hl : lv_has ls 2 [(0, .ref (k1 0)), (1, .int (nI ch))] := hl
  refine lv_aload_n hx hb dJ0_indexOf_0f7a4_0 rfl (lv_at hl 0 rfl) ?_
  refine lv_iload_n hx hb dJ0_indexOf_0f7a4_1 rfl (lv_at hl 1 rfl) ?_
  refine lv_iconst (v := nI 0) hx hb dJ0_indexOf_0f7a4_2 (by decide) ?_
  refine roVs (As := [Value.int (nI ch), Value.int (nI 0)]) (rest := []) (kJ0_indexOf_7cf53 l dC dI ca k1 k2 ch (by first | assumption | omega)) ⟨hx, hb, hml, hown, htl⟩ (cVg (C := RJ0) 2 htl wd_182 wd_183 wd_184 wd_7 wd_185 rfl rfl (by decide +kernel) ⟨Nat.le_of_ble_eq_true rfl, Nat.le_of_ble_eq_true rfl⟩) (hP.sub [] rfl) hF hK (vk_recv (i := 0) hF.1 (by decide) va_S.rf) rfl hl.1 rfl (Nat.le_of_ble_eq_true rfl) dJ0_indexOf_0f7a4_3 ⟨Nat.zero_le _, Nat.zero_le _⟩ (fun r hr9 => ?_)
  subst hr9
  exact W.iret (v := kindI ch) hx hb hr (fun t ht hW => ⟨kindI ch, rfl, rfl, ht⟩) (fun q h => by cases h) dJ0_indexOf_0f7a4_6
set_option maxHeartbeats 4000000 in
set_option maxRecDepth 100000 in
theorem kX2_kindAt (l : Launch) (dC : Nat → ClassId) (dI : Nat → Nat → Nat) (ca : Nat → ClassId) (k1 k2 : Nat → Nat) (a : Nat) (q : Nat → Nat) (ps : Nat) (pl : Nat → Nat) (ha : a < 28) (hpl : ∀ j, j < 28 → pl j < 127) : Met l yX2_kindAt (Cond.code yX2_kindAt cX2_kindAt 2 (some .int) :: gT) (rk 5) (ROs (dC, dI) [(q 1, .inr (2, [.ref (q 2), .int (nI ps)])), (q 2, .inl (ca 0, 28, .inl (fun zj => nI (pl zj))))] (TY ca) k1 k2 [Value.ref (q 1), Value.int (nI a)]) (vp_Si (fun r => r = kindI (pl a))) 0 0 (fun _ => False) := by
  refine Met.ofW (cc := cX2_kindAt) (maxL := 2) (ret := (some .int)) (by decide) rfl ?_
  intro p e s m args below meth c s₁ B hml hv
  obtain ⟨rfl, hP, hK, hF⟩ := hv
  have hx := B.exec
  have hb := B.bytes
  have hr := B.returns
  have hts := atoms_spec (ws := (Cond.code yX2_kindAt cX2_kindAt 2 (some .int) :: gT)) B.pre
  have htl : ∀ w ∈ gT, w.before _ s = true := fun w h => hts w (List.mem_cons_of_mem _ h)
  have hown : s.vm.findClass RX2 = some m.cls := findClass_of_methodNamed B.named
  have hlocks := B.notSynchronized
  have hl := lv_entry ([Value.ref (q 1), Value.int (nI a)]) (n := 2) (Nat.le_of_ble_eq_true rfl)
  rw [lg_entry_eq]
  generalize (lg_sl ([Value.ref (q 1), Value.int (nI a)]) ++ List.replicate (2 - (lg_sl ([Value.ref (q 1), Value.int (nI a)])).length) Slot.unset).toArray = ls at hl ⊢
  have hl : lv_has ls 2 [(0, .ref (q 1)), (1, .int (nI a))] := hl
  refine va_ldcS hx hb hown hF.2.1 dX2_kindAt_0 ?_
  refine lv_aload_n hx hb dX2_kindAt_2 rfl (lv_at hl 0 rfl) ?_
  refine va_get (D := (dC, dI)) (ci := 2) (v := .ref (q 2)) (C := RX2) (T := TX2) (N := 2) hx hb htl iX2 hown hK hP 0 rfl rfl 0 (by decide) (htl _ wd_34) (fun _ h9 => h9) rfl dX2_kindAt_3 ?_
  refine lv_iload_n hx hb dX2_kindAt_6 rfl (lv_at hl 1 rfl) ?_
  refine va_cald hx hb hK hP 1 0 rfl rfl (vp_in_nI (by omega) (by decide)) dX2_kindAt_7 ?_
  refine lv_ri (y := nI (pl a)) (congrArg (fun zj => nI (pl zj)) (nI_clamp (by omega))) ?_
  refine roVs (As := [Value.int (nI (pl a))]) (rest := []) (kJ0_indexOf_0f7a4 l dC dI ca k1 k2 (pl a) (hpl a ha)) ⟨hx, hb, hml, hown, htl⟩ (cVg (C := RJ0) 1 htl wd_178 wd_179 wd_180 wd_7 wd_181 rfl rfl (by decide +kernel) ⟨Nat.le_of_ble_eq_true rfl, Nat.le_of_ble_eq_true rfl⟩) (hP.sub [] rfl) hF hK (vk_recv (i := 0) hF.1 (by decide) va_S.rf) rfl hl.1 rfl (Nat.le_of_ble_eq_true rfl) dX2_kindAt_8 ⟨Nat.zero_le _, Nat.zero_le _⟩ (fun r hr9 => ?_)
  subst hr9
  exact W.iret (v := kindI (pl a)) hx hb hr (fun t ht hW => ⟨kindI (pl a), rfl, rfl, ht⟩) (fun q h => by cases h) dX2_kindAt_11
set_option maxHeartbeats 4000000 in
set_option maxRecDepth 100000 in
theorem kX2_headEnd (l : Launch) (dC : Nat → ClassId) (dI : Nat → Nat → Nat) (ca : Nat → ClassId) (q : Nat → Nat) (ps : Nat) (pl : Nat → Nat) (hps : ps ≤ 28) (hpl : ∀ j, j < 28 → pl j < 127) : Met l yX2_headEnd (Cond.code yX2_headEnd cX2_headEnd 2 (some .int) :: gT) (rk 1) (ROp (dC, dI) [(q 1, .inr (2, [.ref (q 2), .int (nI ps)])), (q 2, .inl (ca 0, 28, .inl (fun zj => nI (pl zj))))] (TY ca) [Value.ref (q 1)]) (vp_Si (fun r => r = nI (hE pl ps))) 0 0 (fun _ => False) := by
  refine Met.ofW (cc := cX2_headEnd) (maxL := 2) (ret := (some .int)) (by decide) rfl ?_
  intro p e s m args below meth c s₁ B hml hv
  obtain ⟨rfl, hP, hK⟩ := hv
  have hx := B.exec
  have hb := B.bytes
  have hr := B.returns
  have hts := atoms_spec (ws := (Cond.code yX2_headEnd cX2_headEnd 2 (some .int) :: gT)) B.pre
  have htl : ∀ w ∈ gT, w.before _ s = true := fun w h => hts w (List.mem_cons_of_mem _ h)
  have hown : s.vm.findClass RX2 = some m.cls := findClass_of_methodNamed B.named
  have hlocks := B.notSynchronized
  have hl := lv_entry ([Value.ref (q 1)]) (n := 2) (Nat.le_of_ble_eq_true rfl)
  rw [lg_entry_eq]
  generalize (lg_sl ([Value.ref (q 1)]) ++ List.replicate (2 - (lg_sl ([Value.ref (q 1)])).length) Slot.unset).toArray = ls at hl ⊢
  have hl : lv_has ls 2 [(0, .ref (q 1))] := hl
  refine lv_iconst (v := nI 0) hx hb dX2_headEnd_0 (by decide) ?_
  refine lv_istore_n (lv' := [(1, .int (nI 0)), (0, .ref (q 1))]) hx hb dX2_headEnd_1 rfl hl (by decide) rfl (fun ls hl => ?_)
  have lp2 : ∀ (n : Nat) (j : Nat), (j + n = ps) → (fstL (fun j => decide (pl j = 59)) n j = fstL (fun j => decide (pl j = 59)) ps 0) → ∀ (ls : Array Slot), lv_has ls 2 [(1, .int (nI j)), (0, .ref (q 1))] → W p l e (headSpec (Cond.code yX2_headEnd cX2_headEnd 2 (some .int) :: gT) (rk 1)).room s m ([Value.ref (q 1)] : List Value).toArray below meth c s.heap [] 0 0 (MQ below (vp_Si (fun r => r = nI (hE pl ps))) ([Value.ref (q 1)] : List Value).toArray s 0 0 (fun _ => False)) (F0 m 2 ls []) := by
    clear hl
    intro n
    induction n with
    | zero =>
      intro j hj hR ls hl
      refine lv_iload_n hx hb dX2_headEnd_2 rfl (lv_at hl 0 rfl) ?_
      refine lv_aload_n hx hb dX2_headEnd_3 rfl (lv_at hl 1 rfl) ?_
      refine va_get (D := (dC, dI)) (ci := 2) (v := .int (nI ps)) (C := RX2) (T := TX2) (N := 2) hx hb htl iX2 hown hK hP 0 rfl rfl 1 (by decide) (htl _ wd_36) (fun _ h9 => h9) rfl dX2_headEnd_4 ?_
      refine lv_icmp_ge (tgt := 29) hx hb dX2_headEnd_7 (by decide) (fun c_1 => ?_) (fun c_1 => ?_)
      · refine lv_aload_n hx hb dX2_headEnd_29 rfl (lv_at hl 1 rfl) ?_
        refine va_get (D := (dC, dI)) (ci := 2) (v := .int (nI ps)) (C := RX2) (T := TX2) (N := 2) hx hb htl iX2 hown hK hP 0 rfl rfl 1 (by decide) (htl _ wd_36) (fun _ h9 => h9) rfl dX2_headEnd_30 ?_
        exact W.iret (v := nI ps) hx hb hr (fun t ht hW => ⟨nI ps, rfl, by show _ = _; unfold hE; rw [← hR]; show nI ps = nI j; rw [show ps = j by omega], ht⟩) (fun q h => by cases h) dX2_headEnd_33
      · exact absurd (nI_le (by omega) (by omega)) c_1
    | succ n ih2 =>
      intro j hj hR ls hl
      refine lv_iload_n hx hb dX2_headEnd_2 rfl (lv_at hl 0 rfl) ?_
      refine lv_aload_n hx hb dX2_headEnd_3 rfl (lv_at hl 1 rfl) ?_
      refine va_get (D := (dC, dI)) (ci := 2) (v := .int (nI ps)) (C := RX2) (T := TX2) (N := 2) hx hb htl iX2 hown hK hP 0 rfl rfl 1 (by decide) (htl _ wd_36) (fun _ h9 => h9) rfl dX2_headEnd_4 ?_
      refine lv_icmp_ge (tgt := 29) hx hb dX2_headEnd_7 (by decide) (fun c_2 => ?_) (fun c_2 => ?_)
      · exact absurd c_2 (nI_ge (by omega) (by omega))
      · refine lv_aload_n hx hb dX2_headEnd_10 rfl (lv_at hl 1 rfl) ?_
        refine va_get (D := (dC, dI)) (ci := 2) (v := .ref (q 2)) (C := RX2) (T := TX2) (N := 2) hx hb htl iX2 hown hK hP 0 rfl rfl 0 (by decide) (htl _ wd_34) (fun _ h9 => h9) rfl dX2_headEnd_11 ?_
        refine lv_iload_n hx hb dX2_headEnd_14 rfl (lv_at hl 0 rfl) ?_
        refine va_cald hx hb hK hP 1 0 rfl rfl (vp_in_nI (by omega) (by decide)) dX2_headEnd_15 ?_
        refine lv_ri (y := nI (pl j)) (congrArg (fun zj => nI (pl zj)) (nI_clamp (by omega))) ?_
        refine lv_bipush (v := nI 59) hx hb dX2_headEnd_16 (by decide) ?_
        refine lv_icmp_ne (tgt := 23) hx hb dX2_headEnd_18 (by decide) (fun c_3 => ?_) (fun c_3 => ?_)
        · rw [nI_eq (Nat.lt_trans (hpl j (by omega)) (by decide)) (by decide)] at c_3
          refine lv_iinc (v := nI (j + 1)) (lv' := [(1, .int (nI (j + 1))), (0, .ref (q 1))]) hx hb dX2_headEnd_23 hl (k := 0) rfl (nI_add j 1) (by decide) rfl (fun ls hl => ?_)
          refine lv_goto (tgt := 2) hx hb dX2_headEnd_26 (by decide) ?_
          exact ih2 (j + 1) (by omega) (by rw [← hR]; simp only [fstL, c_3, decide_false, ↓reduceIte, Bool.false_eq_true]) ls (lv_sub hl [0, 1] rfl)
        · rw [nI_eq (Nat.lt_trans (hpl j (by omega)) (by decide)) (by decide)] at c_3
          refine lv_iload_n hx hb dX2_headEnd_21 rfl (lv_at hl 0 rfl) ?_
          exact W.iret (v := nI j) hx hb hr (fun t ht hW => ⟨nI j, rfl, by show _ = _; unfold hE; rw [← hR]; simp only [fstL, c_3, decide_true, ↓reduceIte], ht⟩) (fun q h => by cases h) dX2_headEnd_22
  exact lp2 ps 0 (by omega) rfl ls (lv_sub hl [0, 1] rfl)
set_option maxHeartbeats 4000000 in
set_option maxRecDepth 100000 in
theorem kX2_isDigit (l : Launch) (dC : Nat → ClassId) (dI : Nat → Nat → Nat) (ca : Nat → ClassId) (ch : Nat) (hch : ch < 127) : Met l yX2_isDigit (Cond.code yX2_isDigit cX2_isDigit 1 (some .boolean) :: gT) (rk 1) (ROp (dC, dI) [] (TY ca) [Value.int (nI ch)]) (vp_Si (fun r => r = bI (dig ch))) 0 0 (fun _ => False) := by
  refine Met.ofW (cc := cX2_isDigit) (maxL := 1) (ret := (some .boolean)) (by decide) rfl ?_
  intro p e s m args below meth c s₁ B hml hv
  obtain ⟨rfl, hP, hK⟩ := hv
  have hx := B.exec
  have hb := B.bytes
  have hr := B.returns
  have hts := atoms_spec (ws := (Cond.code yX2_isDigit cX2_isDigit 1 (some .boolean) :: gT)) B.pre
  have htl : ∀ w ∈ gT, w.before _ s = true := fun w h => hts w (List.mem_cons_of_mem _ h)
  have hown : s.vm.findClass RX2 = some m.cls := findClass_of_methodNamed B.named
  have hlocks := B.notSynchronized
  have hl := lv_entry ([Value.int (nI ch)]) (n := 1) (Nat.le_of_ble_eq_true rfl)
  rw [lg_entry_eq]
  generalize (lg_sl ([Value.int (nI ch)]) ++ List.replicate (1 - (lg_sl ([Value.int (nI ch)])).length) Slot.unset).toArray = ls at hl ⊢
  have hl : lv_has ls 1 [(0, .int (nI ch))] := hl
  refine lv_iload_n hx hb dX2_isDigit_0 rfl (lv_at hl 0 rfl) ?_
  refine lv_bipush (v := nI 48) hx hb dX2_isDigit_1 (by decide) ?_
  refine lv_icmp_lt (tgt := 16) hx hb dX2_isDigit_3 (by decide) (fun c_1 => ?_) (fun c_1 => ?_)
  · rw [nI_ltI (by omega) (by decide)] at c_1
    refine lv_iconst (v := nI 0) hx hb dX2_isDigit_16 (by decide) ?_
    exact W.zret (v := nI 0) hx hb hr (by decide +kernel) (fun t ht hW => ⟨nI 0, rfl, by show _ = _; rw [show dig ch = false by unfold dig; simp; omega]; rfl, ht⟩) (fun q h => by cases h) dX2_isDigit_17
  · rw [nI_ltI (by omega) (by decide)] at c_1
    refine lv_iload_n hx hb dX2_isDigit_6 rfl (lv_at hl 0 rfl) ?_
    refine lv_bipush (v := nI 54) hx hb dX2_isDigit_7 (by decide) ?_
    refine lv_icmp_ge (tgt := 16) hx hb dX2_isDigit_9 (by decide) (fun c_2 => ?_) (fun c_2 => ?_)
    · rw [nI_leI (by decide) (by omega)] at c_2
      refine lv_iconst (v := nI 0) hx hb dX2_isDigit_16 (by decide) ?_
      exact W.zret (v := nI 0) hx hb hr (by decide +kernel) (fun t ht hW => ⟨nI 0, rfl, by show _ = _; rw [show dig ch = false by unfold dig; simp; omega]; rfl, ht⟩) (fun q h => by cases h) dX2_isDigit_17
    · rw [nI_leI (by decide) (by omega)] at c_2
      refine lv_iconst (v := nI 1) hx hb dX2_isDigit_12 (by decide) ?_
      refine lv_goto (tgt := 17) hx hb dX2_isDigit_13 (by decide) ?_
      exact W.zret (v := nI 1) hx hb hr (by decide +kernel) (fun t ht hW => ⟨nI 1, rfl, by show _ = _; rw [show dig ch = true by unfold dig; simp; omega]; rfl, ht⟩) (fun q h => by cases h) dX2_isDigit_17
set_option maxHeartbeats 4000000 in
set_option maxRecDepth 100000 in
theorem kX2_fitsTail (l : Launch) (dC : Nat → ClassId) (dI : Nat → Nat → Nat) (ca : Nat → ClassId) (a : Nat) (he : Nat) (q : Nat → Nat) (ps : Nat) (pl : Nat → Nat) (ha : a < 28) (hhe : he ≤ a) (hpl : ∀ j, j < 28 → pl j < 127) : Met l yX2_fitsTail (Cond.code yX2_fitsTail cX2_fitsTail 3 (some .boolean) :: gT) (rk 2) (ROp (dC, dI) [(q 1, .inr (2, [.ref (q 2), .int (nI ps)])), (q 2, .inl (ca 0, 28, .inl (fun zj => nI (pl zj))))] (TY ca) [Value.ref (q 1), Value.int (nI a), Value.int (nI he)]) (vp_Si (fun r => r = bI (fitT pl he a))) 0 0 (fun _ => False) := by
  refine Met.ofW (cc := cX2_fitsTail) (maxL := 3) (ret := (some .boolean)) (by decide) rfl ?_
  intro p e s m args below meth c s₁ B hml hv
  obtain ⟨rfl, hP, hK⟩ := hv
  have hx := B.exec
  have hb := B.bytes
  have hr := B.returns
  have hts := atoms_spec (ws := (Cond.code yX2_fitsTail cX2_fitsTail 3 (some .boolean) :: gT)) B.pre
  have htl : ∀ w ∈ gT, w.before _ s = true := fun w h => hts w (List.mem_cons_of_mem _ h)
  have hown : s.vm.findClass RX2 = some m.cls := findClass_of_methodNamed B.named
  have hlocks := B.notSynchronized
  have hl := lv_entry ([Value.ref (q 1), Value.int (nI a), Value.int (nI he)]) (n := 3) (Nat.le_of_ble_eq_true rfl)
  rw [lg_entry_eq]
  generalize (lg_sl ([Value.ref (q 1), Value.int (nI a), Value.int (nI he)]) ++ List.replicate (3 - (lg_sl ([Value.ref (q 1), Value.int (nI a), Value.int (nI he)])).length) Slot.unset).toArray = ls at hl ⊢
  have hl : lv_has ls 3 [(0, .ref (q 1)), (1, .int (nI a)), (2, .int (nI he))] := hl
  refine lv_aload_n hx hb dX2_fitsTail_0 rfl (lv_at hl 0 rfl) ?_
  refine va_get (D := (dC, dI)) (ci := 2) (v := .ref (q 2)) (C := RX2) (T := TX2) (N := 2) hx hb htl iX2 hown hK hP 0 rfl rfl 0 (by decide) (htl _ wd_34) (fun _ h9 => h9) rfl dX2_fitsTail_1 ?_
  refine lv_iload_n hx hb dX2_fitsTail_4 rfl (lv_at hl 1 rfl) ?_
  refine va_cald hx hb hK hP 1 0 rfl rfl (vp_in_nI (by omega) (by decide)) dX2_fitsTail_5 ?_
  refine lv_ri (y := nI (pl a)) (congrArg (fun zj => nI (pl zj)) (nI_clamp (by omega))) ?_
  refine roS (As := [Value.int (nI (pl a))]) (rest := []) (kX2_isDigit l dC dI ca (pl a) (hpl a ha)) ⟨hx, hb, hml, hown, htl⟩ (cSg 1 htl wd_264 wd_265 wd_2 wd_266 rfl rfl (by decide +kernel) ⟨Nat.le_of_ble_eq_true rfl, Nat.le_of_ble_eq_true rfl⟩) (hP.sub [] rfl) hK rfl hl.1 rfl (Nat.le_of_ble_eq_true rfl) dX2_fitsTail_6 ⟨Nat.zero_le _, Nat.zero_le _⟩ (fun r hr9 => ?_)
  subst hr9
  refine lv_if_eq (tgt := 24) hx hb dX2_fitsTail_9 (by decide) (fun c_1 => ?_) (fun c_1 => ?_)
  · replace c_1 := bI_f c_1
    refine lv_iconst (v := nI 0) hx hb dX2_fitsTail_24 (by decide) ?_
    exact W.zret (v := nI 0) hx hb hr (by decide +kernel) (fun t ht hW => ⟨nI 0, rfl, by show _ = _; unfold fitT; simp only [c_1]; first | rfl | (rw [show decide (a - he ≤ 10) = false by simp; omega]; rfl), ht⟩) (fun q h => by cases h) dX2_fitsTail_25
  · replace c_1 := bI_t c_1
    refine lv_iload_n hx hb dX2_fitsTail_12 rfl (lv_at hl 1 rfl) ?_
    refine lv_iload_n hx hb dX2_fitsTail_13 rfl (lv_at hl 2 rfl) ?_
    refine lv_isub hx hb dX2_fitsTail_14 ?_
    refine lv_ri (y := nI (a - he)) (pk_sub hhe) ?_
    refine lv_bipush (v := nI 10) hx hb dX2_fitsTail_15 (by decide) ?_
    refine lv_icmp_gt (tgt := 24) hx hb dX2_fitsTail_17 (by decide) (fun c_2 => ?_) (fun c_2 => ?_)
    · rw [nI_ltI (by decide) (by omega)] at c_2
      refine lv_iconst (v := nI 0) hx hb dX2_fitsTail_24 (by decide) ?_
      exact W.zret (v := nI 0) hx hb hr (by decide +kernel) (fun t ht hW => ⟨nI 0, rfl, by show _ = _; unfold fitT; simp only [c_1]; first | rfl | (rw [show decide (a - he ≤ 10) = false by simp; omega]; rfl), ht⟩) (fun q h => by cases h) dX2_fitsTail_25
    · rw [nI_ltI (by decide) (by omega)] at c_2
      refine lv_iconst (v := nI 1) hx hb dX2_fitsTail_20 (by decide) ?_
      refine lv_goto (tgt := 25) hx hb dX2_fitsTail_21 (by decide) ?_
      exact W.zret (v := nI 1) hx hb hr (by decide +kernel) (fun t ht hW => ⟨nI 1, rfl, by show _ = _; unfold fitT; simp only [c_1]; first | rfl | (rw [show decide (a - he ≤ 10) = true by simp; omega]; rfl), ht⟩) (fun q h => by cases h) dX2_fitsTail_25
set_option maxHeartbeats 4000000 in
set_option maxRecDepth 100000 in
theorem kX2_fitsHead (l : Launch) (dC : Nat → ClassId) (dI : Nat → Nat → Nat) (ca : Nat → ClassId) (k1 k2 : Nat → Nat) (a : Nat) (q : Nat → Nat) (ps : Nat) (pl : Nat → Nat) (ha : a < 28) (hpl : ∀ j, j < 28 → pl j < 127) : Met l yX2_fitsHead (Cond.code yX2_fitsHead cX2_fitsHead 2 (some .boolean) :: gT) (rk 6) (ROs (dC, dI) [(q 1, .inr (2, [.ref (q 2), .int (nI ps)])), (q 2, .inl (ca 0, 28, .inl (fun zj => nI (pl zj))))] (TY ca) k1 k2 [Value.ref (q 1), Value.int (nI a)]) (vp_Si (fun r => r = bI (fitH pl a))) 0 0 (fun _ => False) := by
  refine Met.ofW (cc := cX2_fitsHead) (maxL := 2) (ret := (some .boolean)) (by decide) rfl ?_
  intro p e s m args below meth c s₁ B hml hv
  obtain ⟨rfl, hP, hK, hF⟩ := hv
  have hx := B.exec
  have hb := B.bytes
  have hr := B.returns
  have hts := atoms_spec (ws := (Cond.code yX2_fitsHead cX2_fitsHead 2 (some .boolean) :: gT)) B.pre
  have htl : ∀ w ∈ gT, w.before _ s = true := fun w h => hts w (List.mem_cons_of_mem _ h)
  have hown : s.vm.findClass RX2 = some m.cls := findClass_of_methodNamed B.named
  have hlocks := B.notSynchronized
  have hl := lv_entry ([Value.ref (q 1), Value.int (nI a)]) (n := 2) (Nat.le_of_ble_eq_true rfl)
  rw [lg_entry_eq]
  generalize (lg_sl ([Value.ref (q 1), Value.int (nI a)]) ++ List.replicate (2 - (lg_sl ([Value.ref (q 1), Value.int (nI a)])).length) Slot.unset).toArray = ls at hl ⊢
  have hl : lv_has ls 2 [(0, .ref (q 1)), (1, .int (nI a))] := hl
  refine lv_iload_n hx hb dX2_fitsHead_0 rfl (lv_at hl 1 rfl) ?_
  refine lv_iconst (v := nI 4) hx hb dX2_fitsHead_1 (by decide) ?_
  refine lv_irem hx hb dX2_fitsHead_2 (by decide) ?_
  refine lv_ri (y := nI (a % 4)) (pk_rem (by omega) (by decide) (by decide)) ?_
  by_cases c_1 : (nI (a % 4)) = nI 0
  · refine lv_ri c_1 ?_
    refine lv_lookup (off := 25) (tgt := 28) hx hb dX2_fitsHead_3 (by decide) (by decide) (by decide) ?_
    refine lv_aload_n hx hb dX2_fitsHead_28 rfl (lv_at hl 0 rfl) ?_
    refine lv_iload_n hx hb dX2_fitsHead_29 rfl (lv_at hl 1 rfl) ?_
    refine roVs (As := [Value.int (nI a)]) (rest := []) (kX2_kindAt l dC dI ca k1 k2 a q ps pl ha hpl) ⟨hx, hb, hml, hown, htl⟩ (cVg (C := RX2) 1 htl wd_173 wd_174 wd_175 wd_2 wd_176 rfl rfl (by decide +kernel) ⟨Nat.le_of_ble_eq_true rfl, Nat.le_of_ble_eq_true rfl⟩) (hP.sub [0, 1] rfl) hF hK (va_recv hK hP (ci := 2) (q0 := 0) rfl rfl) rfl hl.1 rfl (Nat.le_of_ble_eq_true rfl) dX2_fitsHead_30 ⟨Nat.zero_le _, Nat.zero_le _⟩ (fun r hr9 => ?_)
    subst hr9
    refine lv_iconst (v := (-1)) hx hb dX2_fitsHead_33 (by decide) ?_
    refine lv_icmp_eq (tgt := 41) hx hb dX2_fitsHead_34 (by decide) (fun c_2 => ?_) (fun c_2 => ?_)
    · refine lv_iconst (v := nI 0) hx hb dX2_fitsHead_41 (by decide) ?_
      exact W.zret (v := nI 0) hx hb hr (by decide +kernel) (fun t ht hW => ⟨nI 0, rfl, by show _ = _; have z0 : a % 4 = 0 := (nI_eq (by omega) (by decide)).mp c_1; unfold fitH; rw [if_pos z0]; simp only [c_2]; rfl, ht⟩) (fun q h => by cases h) dX2_fitsHead_42
    · refine lv_iconst (v := nI 1) hx hb dX2_fitsHead_37 (by decide) ?_
      refine lv_goto (tgt := 42) hx hb dX2_fitsHead_38 (by decide) ?_
      exact W.zret (v := nI 1) hx hb hr (by decide +kernel) (fun t ht hW => ⟨nI 1, rfl, by show _ = _; have z0 : a % 4 = 0 := (nI_eq (by omega) (by decide)).mp c_1; unfold fitH; rw [if_pos z0]; simp only [c_2]; rfl, ht⟩) (fun q h => by cases h) dX2_fitsHead_42
  by_cases c_3 : (nI (a % 4)) = nI 3
  · refine lv_ri c_3 ?_
    refine lv_lookup (off := 40) (tgt := 43) hx hb dX2_fitsHead_3 (by decide) (by decide) (by decide) ?_
    refine lv_aload_n hx hb dX2_fitsHead_43 rfl (lv_at hl 0 rfl) ?_
    refine va_get (D := (dC, dI)) (ci := 2) (v := .ref (q 2)) (C := RX2) (T := TX2) (N := 2) hx hb htl iX2 hown hK hP 0 rfl rfl 0 (by decide) (htl _ wd_34) (fun _ h9 => h9) rfl dX2_fitsHead_44 ?_
    refine lv_iload_n hx hb dX2_fitsHead_47 rfl (lv_at hl 1 rfl) ?_
    refine va_cald hx hb hK hP 1 0 rfl rfl (vp_in_nI (by omega) (by decide)) dX2_fitsHead_48 ?_
    refine lv_ri (y := nI (pl a)) (congrArg (fun zj => nI (pl zj)) (nI_clamp (by omega))) ?_
    refine lv_bipush (v := nI 59) hx hb dX2_fitsHead_49 (by decide) ?_
    refine lv_icmp_eq (tgt := 72) hx hb dX2_fitsHead_51 (by decide) (fun c_4 => ?_) (fun c_4 => ?_)
    · rw [nI_eq (Nat.lt_trans (hpl a ha) (by decide)) (by decide)] at c_4
      refine lv_iconst (v := nI 1) hx hb dX2_fitsHead_72 (by decide) ?_
      refine lv_goto (tgt := 77) hx hb dX2_fitsHead_73 (by decide) ?_
      exact W.zret (v := nI 1) hx hb hr (by decide +kernel) (fun t ht hW => ⟨nI 1, rfl, by show _ = _; have z0 : ¬ a % 4 = 0 := (fun h => c_1 ((nI_eq (by omega) (by decide)).mpr h)); have z3 : a % 4 = 3 := (nI_eq (by omega) (by decide)).mp c_3; unfold fitH; rw [if_neg z0, if_pos z3, show (decide (pl a = 59) || (decide (pl a = 44) && decide (a / 4 < 3))) = true by simp; omega]; rfl, ht⟩) (fun q h => by cases h) dX2_fitsHead_77
    · rw [nI_eq (Nat.lt_trans (hpl a ha) (by decide)) (by decide)] at c_4
      refine lv_aload_n hx hb dX2_fitsHead_54 rfl (lv_at hl 0 rfl) ?_
      refine va_get (D := (dC, dI)) (ci := 2) (v := .ref (q 2)) (C := RX2) (T := TX2) (N := 2) hx hb htl iX2 hown hK hP 0 rfl rfl 0 (by decide) (htl _ wd_34) (fun _ h9 => h9) rfl dX2_fitsHead_55 ?_
      refine lv_iload_n hx hb dX2_fitsHead_58 rfl (lv_at hl 1 rfl) ?_
      refine va_cald hx hb hK hP 1 0 rfl rfl (vp_in_nI (by omega) (by decide)) dX2_fitsHead_59 ?_
      refine lv_ri (y := nI (pl a)) (congrArg (fun zj => nI (pl zj)) (nI_clamp (by omega))) ?_
      refine lv_bipush (v := nI 44) hx hb dX2_fitsHead_60 (by decide) ?_
      refine lv_icmp_ne (tgt := 76) hx hb dX2_fitsHead_62 (by decide) (fun c_5 => ?_) (fun c_5 => ?_)
      · rw [nI_eq (Nat.lt_trans (hpl a ha) (by decide)) (by decide)] at c_5
        refine lv_iconst (v := nI 0) hx hb dX2_fitsHead_76 (by decide) ?_
        exact W.zret (v := nI 0) hx hb hr (by decide +kernel) (fun t ht hW => ⟨nI 0, rfl, by show _ = _; have z0 : ¬ a % 4 = 0 := (fun h => c_1 ((nI_eq (by omega) (by decide)).mpr h)); have z3 : a % 4 = 3 := (nI_eq (by omega) (by decide)).mp c_3; unfold fitH; rw [if_neg z0, if_pos z3, show (decide (pl a = 59) || (decide (pl a = 44) && decide (a / 4 < 3))) = false by simp; omega]; rfl, ht⟩) (fun q h => by cases h) dX2_fitsHead_77
      · rw [nI_eq (Nat.lt_trans (hpl a ha) (by decide)) (by decide)] at c_5
        refine lv_iload_n hx hb dX2_fitsHead_65 rfl (lv_at hl 1 rfl) ?_
        refine lv_iconst (v := nI 4) hx hb dX2_fitsHead_66 (by decide) ?_
        refine lv_idiv hx hb dX2_fitsHead_67 (by decide) ?_
        refine lv_ri (y := nI (a / 4)) (pk_div (by omega) (by decide) (by decide)) ?_
        refine lv_iconst (v := nI 3) hx hb dX2_fitsHead_68 (by decide) ?_
        refine lv_icmp_ge (tgt := 76) hx hb dX2_fitsHead_69 (by decide) (fun c_6 => ?_) (fun c_6 => ?_)
        · rw [nI_leI (by decide) (by omega)] at c_6
          refine lv_iconst (v := nI 0) hx hb dX2_fitsHead_76 (by decide) ?_
          exact W.zret (v := nI 0) hx hb hr (by decide +kernel) (fun t ht hW => ⟨nI 0, rfl, by show _ = _; have z0 : ¬ a % 4 = 0 := (fun h => c_1 ((nI_eq (by omega) (by decide)).mpr h)); have z3 : a % 4 = 3 := (nI_eq (by omega) (by decide)).mp c_3; unfold fitH; rw [if_neg z0, if_pos z3, show (decide (pl a = 59) || (decide (pl a = 44) && decide (a / 4 < 3))) = false by simp; omega]; rfl, ht⟩) (fun q h => by cases h) dX2_fitsHead_77
        · rw [nI_leI (by decide) (by omega)] at c_6
          refine lv_iconst (v := nI 1) hx hb dX2_fitsHead_72 (by decide) ?_
          refine lv_goto (tgt := 77) hx hb dX2_fitsHead_73 (by decide) ?_
          exact W.zret (v := nI 1) hx hb hr (by decide +kernel) (fun t ht hW => ⟨nI 1, rfl, by show _ = _; have z0 : ¬ a % 4 = 0 := (fun h => c_1 ((nI_eq (by omega) (by decide)).mpr h)); have z3 : a % 4 = 3 := (nI_eq (by omega) (by decide)).mp c_3; unfold fitH; rw [if_neg z0, if_pos z3, show (decide (pl a = 59) || (decide (pl a = 44) && decide (a / 4 < 3))) = true by simp; omega]; rfl, ht⟩) (fun q h => by cases h) dX2_fitsHead_77
  refine lv_lookup (off := 75) (tgt := 78) hx hb dX2_fitsHead_3 (by decide) (by rw [lv_osw (k := nI 0) c_1 (by decide)]; rw [lv_osw (k := nI 3) c_3 (by decide)]; rfl) (by decide) ?_
  refine lv_aload_n hx hb dX2_fitsHead_78 rfl (lv_at hl 0 rfl) ?_
  refine va_get (D := (dC, dI)) (ci := 2) (v := .ref (q 2)) (C := RX2) (T := TX2) (N := 2) hx hb htl iX2 hown hK hP 0 rfl rfl 0 (by decide) (htl _ wd_34) (fun _ h9 => h9) rfl dX2_fitsHead_79 ?_
  refine lv_iload_n hx hb dX2_fitsHead_82 rfl (lv_at hl 1 rfl) ?_
  refine va_cald hx hb hK hP 1 0 rfl rfl (vp_in_nI (by omega) (by decide)) dX2_fitsHead_83 ?_
  refine lv_ri (y := nI (pl a)) (congrArg (fun zj => nI (pl zj)) (nI_clamp (by omega))) ?_
  refine roS (As := [Value.int (nI (pl a))]) (rest := []) (kX2_isDigit l dC dI ca (pl a) (hpl a ha)) ⟨hx, hb, hml, hown, htl⟩ (cSg 1 htl wd_264 wd_265 wd_2 wd_266 rfl rfl (by decide +kernel) ⟨Nat.le_of_ble_eq_true rfl, Nat.le_of_ble_eq_true rfl⟩) (hP.sub [] rfl) hK rfl hl.1 rfl (Nat.le_of_ble_eq_true rfl) dX2_fitsHead_84 ⟨Nat.zero_le _, Nat.zero_le _⟩ (fun r hr9 => ?_)
  subst hr9
  exact W.zret (v := bI (dig (pl a))) hx hb hr (bI_n _) (fun t ht hW => ⟨bI (dig (pl a)), rfl, by show _ = _; have z0 : ¬ a % 4 = 0 := (fun h => c_1 ((nI_eq (by omega) (by decide)).mpr h)); have z3 : ¬ a % 4 = 3 := (fun h => c_3 ((nI_eq (by omega) (by decide)).mpr h)); unfold fitH; rw [if_neg z0, if_neg z3], ht⟩) (fun q h => by cases h) dX2_fitsHead_87
set_option maxHeartbeats 4000000 in
set_option maxRecDepth 100000 in
theorem kX2_firstWrong (l : Launch) (dC : Nat → ClassId) (dI : Nat → Nat → Nat) (ca : Nat → ClassId) (k1 k2 : Nat → Nat) (q : Nat → Nat) (ps : Nat) (pl : Nat → Nat) (hps : ps ≤ 28) (hpl : ∀ j, j < 28 → pl j < 127) : Met l yX2_firstWrong (Cond.code yX2_firstWrong cX2_firstWrong 4 (some .int) :: gT) (rk 7) (ROs (dC, dI) [(q 1, .inr (2, [.ref (q 2), .int (nI ps)])), (q 2, .inl (ca 0, 28, .inl (fun zj => nI (pl zj))))] (TY ca) k1 k2 [Value.ref (q 1)]) (vp_Si (fun r => r = nI (fwN pl ps))) 0 0 (fun _ => False) := by
  refine Met.ofW (cc := cX2_firstWrong) (maxL := 4) (ret := (some .int)) (by decide) rfl ?_
  intro p e s m args below meth c s₁ B hml hv
  obtain ⟨rfl, hP, hK, hF⟩ := hv
  have hx := B.exec
  have hb := B.bytes
  have hr := B.returns
  have hts := atoms_spec (ws := (Cond.code yX2_firstWrong cX2_firstWrong 4 (some .int) :: gT)) B.pre
  have htl : ∀ w ∈ gT, w.before _ s = true := fun w h => hts w (List.mem_cons_of_mem _ h)
  have hown : s.vm.findClass RX2 = some m.cls := findClass_of_methodNamed B.named
  have hlocks := B.notSynchronized
  have hl := lv_entry ([Value.ref (q 1)]) (n := 4) (Nat.le_of_ble_eq_true rfl)
  rw [lg_entry_eq]
  generalize (lg_sl ([Value.ref (q 1)]) ++ List.replicate (4 - (lg_sl ([Value.ref (q 1)])).length) Slot.unset).toArray = ls at hl ⊢
  have hl : lv_has ls 4 [(0, .ref (q 1))] := hl
  refine lv_aload_n hx hb dX2_firstWrong_0 rfl (lv_at hl 0 rfl) ?_
  have hhe := hE_le pl ps
  refine roV (As := []) (rest := []) (kX2_headEnd l dC dI ca q ps pl hps hpl) ⟨hx, hb, hml, hown, htl⟩ (cVg (C := RX2) 0 htl wd_165 wd_166 wd_167 wd_2 wd_168 rfl rfl (by decide +kernel) ⟨Nat.le_of_ble_eq_true rfl, Nat.le_of_ble_eq_true rfl⟩) (hP.sub [0, 1] rfl) hK (va_recv hK hP (ci := 2) (q0 := 0) rfl rfl) rfl hl.1 rfl (Nat.le_of_ble_eq_true rfl) dX2_firstWrong_1 ⟨Nat.zero_le _, Nat.zero_le _⟩ (fun r hr9 => ?_)
  subst hr9
  refine lv_istore_n (lv' := [(1, .int (nI (hE pl ps))), (0, .ref (q 1))]) hx hb dX2_firstWrong_4 rfl hl (by decide) rfl (fun ls hl => ?_)
  refine lv_iconst (v := nI 0) hx hb dX2_firstWrong_5 (by decide) ?_
  refine lv_istore_n (lv' := [(2, .int (nI 0)), (1, .int (nI (hE pl ps))), (0, .ref (q 1))]) hx hb dX2_firstWrong_6 rfl hl (by decide) rfl (fun ls hl => ?_)
  have lp7 : ∀ (n : Nat) (a : Nat), (a + n = ps) → (fstL (fun a => !fitX pl (hE pl ps) a) n a = fstL (fun a => !fitX pl (hE pl ps) a) ps 0) → ∀ (ls : Array Slot), lv_has ls 4 [(2, .int (nI a)), (1, .int (nI (hE pl ps))), (0, .ref (q 1))] → W p l e (headSpec (Cond.code yX2_firstWrong cX2_firstWrong 4 (some .int) :: gT) (rk 7)).room s m ([Value.ref (q 1)] : List Value).toArray below meth c s.heap [] 0 0 (MQ below (vp_Si (fun r => r = nI (fwN pl ps))) ([Value.ref (q 1)] : List Value).toArray s 0 0 (fun _ => False)) (F0 m 7 ls []) := by
    clear hl
    intro n
    induction n with
    | zero =>
      intro a hj hR ls hl
      refine lv_iload_n hx hb dX2_firstWrong_7 rfl (lv_at hl 0 rfl) ?_
      refine lv_aload_n hx hb dX2_firstWrong_8 rfl (lv_at hl 2 rfl) ?_
      refine va_get (D := (dC, dI)) (ci := 2) (v := .int (nI ps)) (C := RX2) (T := TX2) (N := 2) hx hb htl iX2 hown hK hP 0 rfl rfl 1 (by decide) (htl _ wd_36) (fun _ h9 => h9) rfl dX2_firstWrong_9 ?_
      refine lv_icmp_ge (tgt := 47) hx hb dX2_firstWrong_12 (by decide) (fun c_1 => ?_) (fun c_1 => ?_)
      · refine lv_aload_n hx hb dX2_firstWrong_47 rfl (lv_at hl 2 rfl) ?_
        refine va_get (D := (dC, dI)) (ci := 2) (v := .int (nI ps)) (C := RX2) (T := TX2) (N := 2) hx hb htl iX2 hown hK hP 0 rfl rfl 1 (by decide) (htl _ wd_36) (fun _ h9 => h9) rfl dX2_firstWrong_48 ?_
        exact W.iret (v := nI ps) hx hb hr (fun t ht hW => ⟨nI ps, rfl, by show _ = _; unfold fwN; rw [← hR]; show nI ps = nI a; rw [show ps = a by omega], ht⟩) (fun q h => by cases h) dX2_firstWrong_51
      · exact absurd (nI_le (by omega) (by omega)) c_1
    | succ n ih7 =>
      intro a hj hR ls hl
      refine lv_iload_n hx hb dX2_firstWrong_7 rfl (lv_at hl 0 rfl) ?_
      refine lv_aload_n hx hb dX2_firstWrong_8 rfl (lv_at hl 2 rfl) ?_
      refine va_get (D := (dC, dI)) (ci := 2) (v := .int (nI ps)) (C := RX2) (T := TX2) (N := 2) hx hb htl iX2 hown hK hP 0 rfl rfl 1 (by decide) (htl _ wd_36) (fun _ h9 => h9) rfl dX2_firstWrong_9 ?_
      refine lv_icmp_ge (tgt := 47) hx hb dX2_firstWrong_12 (by decide) (fun c_2 => ?_) (fun c_2 => ?_)
      · exact absurd c_2 (nI_ge (by omega) (by omega))
      · refine lv_iload_n hx hb dX2_firstWrong_15 rfl (lv_at hl 0 rfl) ?_
        refine lv_iload_n hx hb dX2_firstWrong_16 rfl (lv_at hl 1 rfl) ?_
        refine lv_icmp_gt (tgt := 28) hx hb dX2_firstWrong_17 (by decide) (fun c_3 => ?_) (fun c_3 => ?_)
        · rw [nI_ltI (by omega) (by omega)] at c_3
          refine lv_aload_n hx hb dX2_firstWrong_28 rfl (lv_at hl 2 rfl) ?_
          refine lv_iload_n hx hb dX2_firstWrong_29 rfl (lv_at hl 0 rfl) ?_
          refine lv_iload_n hx hb dX2_firstWrong_30 rfl (lv_at hl 1 rfl) ?_
          refine roV (As := [Value.int (nI a), Value.int (nI (hE pl ps))]) (rest := []) (kX2_fitsTail l dC dI ca a (hE pl ps) q ps pl (by omega) (by omega) hpl) ⟨hx, hb, hml, hown, htl⟩ (cVg (C := RX2) 2 htl wd_267 wd_269 wp_1 wd_2 wd_270 rfl rfl (by decide +kernel) ⟨Nat.le_of_ble_eq_true rfl, Nat.le_of_ble_eq_true rfl⟩) (hP.sub [0, 1] rfl) hK (va_recv hK hP (ci := 2) (q0 := 0) rfl rfl) rfl hl.1 rfl (Nat.le_of_ble_eq_true rfl) dX2_firstWrong_31 ⟨Nat.zero_le _, Nat.zero_le _⟩ (fun r hr9 => ?_)
          subst hr9
          refine lv_istore_n (lv' := [(3, .int (bI (fitT pl (hE pl ps) a))), (2, .int (nI a)), (1, .int (nI (hE pl ps))), (0, .ref (q 1))]) hx hb dX2_firstWrong_34 rfl hl (by decide) rfl (fun ls hl => ?_)
          refine lv_iload_n hx hb dX2_firstWrong_35 rfl (lv_at hl 0 rfl) ?_
          refine lv_if_ne (tgt := 41) hx hb dX2_firstWrong_36 (by decide) (fun c_4 => ?_) (fun c_4 => ?_)
          · replace c_4 := bI_t c_4
            have hfx : fitX pl (hE pl ps) a = true := by unfold fitX; rw [if_pos c_3]; exact c_4
            refine lv_iinc (v := nI (a + 1)) (lv' := [(2, .int (nI (a + 1))), (3, .int (bI (fitT pl (hE pl ps) a))), (1, .int (nI (hE pl ps))), (0, .ref (q 1))]) hx hb dX2_firstWrong_41 hl (k := 1) rfl (nI_add a 1) (by decide) rfl (fun ls hl => ?_)
            refine lv_goto (tgt := 7) hx hb dX2_firstWrong_44 (by decide) ?_
            exact ih7 (a + 1) (by omega) (by rw [← hR]; simp only [fstL, hfx, Bool.not_true, ↓reduceIte, Bool.false_eq_true]) ls (lv_sub hl [0, 2, 3] rfl)
          · replace c_4 := bI_f c_4
            have hfx : fitX pl (hE pl ps) a = false := by unfold fitX; rw [if_pos c_3]; exact c_4
            refine lv_iload_n hx hb dX2_firstWrong_39 rfl (lv_at hl 1 rfl) ?_
            exact W.iret (v := nI a) hx hb hr (fun t ht hW => ⟨nI a, rfl, by show _ = _; unfold fwN; rw [← hR]; simp only [fstL, hfx, Bool.not_false, ↓reduceIte], ht⟩) (fun q h => by cases h) dX2_firstWrong_40
        · rw [nI_ltI (by omega) (by omega)] at c_3
          refine lv_aload_n hx hb dX2_firstWrong_20 rfl (lv_at hl 2 rfl) ?_
          refine lv_iload_n hx hb dX2_firstWrong_21 rfl (lv_at hl 0 rfl) ?_
          refine roVs (As := [Value.int (nI a)]) (rest := []) (kX2_fitsHead l dC dI ca k1 k2 a q ps pl (by omega) hpl) ⟨hx, hb, hml, hown, htl⟩ (cVg (C := RX2) 1 htl wd_169 wd_171 wp_0 wd_2 wd_172 rfl rfl (by decide +kernel) ⟨Nat.le_of_ble_eq_true rfl, Nat.le_of_ble_eq_true rfl⟩) (hP.sub [0, 1] rfl) hF hK (va_recv hK hP (ci := 2) (q0 := 0) rfl rfl) rfl hl.1 rfl (Nat.le_of_ble_eq_true rfl) dX2_firstWrong_22 ⟨Nat.zero_le _, Nat.zero_le _⟩ (fun r hr9 => ?_)
          subst hr9
          refine lv_goto (tgt := 34) hx hb dX2_firstWrong_25 (by decide) ?_
          refine lv_istore_n (lv' := [(3, .int (bI (fitH pl a))), (2, .int (nI a)), (1, .int (nI (hE pl ps))), (0, .ref (q 1))]) hx hb dX2_firstWrong_34 rfl hl (by decide) rfl (fun ls hl => ?_)
          refine lv_iload_n hx hb dX2_firstWrong_35 rfl (lv_at hl 0 rfl) ?_
          refine lv_if_ne (tgt := 41) hx hb dX2_firstWrong_36 (by decide) (fun c_5 => ?_) (fun c_5 => ?_)
          · replace c_5 := bI_t c_5
            have hfx : fitX pl (hE pl ps) a = true := by unfold fitX; rw [if_neg c_3]; exact c_5
            refine lv_iinc (v := nI (a + 1)) (lv' := [(2, .int (nI (a + 1))), (3, .int (bI (fitH pl a))), (1, .int (nI (hE pl ps))), (0, .ref (q 1))]) hx hb dX2_firstWrong_41 hl (k := 1) rfl (nI_add a 1) (by decide) rfl (fun ls hl => ?_)
            refine lv_goto (tgt := 7) hx hb dX2_firstWrong_44 (by decide) ?_
            exact ih7 (a + 1) (by omega) (by rw [← hR]; simp only [fstL, hfx, Bool.not_true, ↓reduceIte, Bool.false_eq_true]) ls (lv_sub hl [0, 2, 3] rfl)
          · replace c_5 := bI_f c_5
            have hfx : fitX pl (hE pl ps) a = false := by unfold fitX; rw [if_neg c_3]; exact c_5
            refine lv_iload_n hx hb dX2_firstWrong_39 rfl (lv_at hl 1 rfl) ?_
            exact W.iret (v := nI a) hx hb hr (fun t ht hW => ⟨nI a, rfl, by show _ = _; unfold fwN; rw [← hR]; simp only [fstL, hfx, Bool.not_false, ↓reduceIte], ht⟩) (fun q h => by cases h) dX2_firstWrong_40
  exact lp7 ps 0 (by omega) rfl ls (lv_sub hl [0, 1, 2] rfl)
set_option maxHeartbeats 4000000 in
set_option maxRecDepth 100000 in
theorem kX2_isWhole (l : Launch) (dC : Nat → ClassId) (dI : Nat → Nat → Nat) (ca : Nat → ClassId) (k1 k2 : Nat → Nat) (q : Nat → Nat) (ps : Nat) (pl : Nat → Nat) (hps : ps ≤ 28) (hpl : ∀ j, j < 28 → pl j < 127) : Met l yX2_isWhole (Cond.code yX2_isWhole cX2_isWhole 2 (some .boolean) :: gT) (rk 8) (ROs (dC, dI) [(q 1, .inr (2, [.ref (q 2), .int (nI ps)])), (q 2, .inl (ca 0, 28, .inl (fun zj => nI (pl zj))))] (TY ca) k1 k2 [Value.ref (q 1)]) (vp_Si (fun r => r = bI (whN pl ps))) 0 0 (fun _ => False) := by
  refine Met.ofW (cc := cX2_isWhole) (maxL := 2) (ret := (some .boolean)) (by decide) rfl ?_
  intro p e s m args below meth c s₁ B hml hv
  obtain ⟨rfl, hP, hK, hF⟩ := hv
  have hx := B.exec
  have hb := B.bytes
  have hr := B.returns
  have hts := atoms_spec (ws := (Cond.code yX2_isWhole cX2_isWhole 2 (some .boolean) :: gT)) B.pre
  have htl : ∀ w ∈ gT, w.before _ s = true := fun w h => hts w (List.mem_cons_of_mem _ h)
  have hown : s.vm.findClass RX2 = some m.cls := findClass_of_methodNamed B.named
  have hlocks := B.notSynchronized
  have hl := lv_entry ([Value.ref (q 1)]) (n := 2) (Nat.le_of_ble_eq_true rfl)
  rw [lg_entry_eq]
  generalize (lg_sl ([Value.ref (q 1)]) ++ List.replicate (2 - (lg_sl ([Value.ref (q 1)])).length) Slot.unset).toArray = ls at hl ⊢
  have hl : lv_has ls 2 [(0, .ref (q 1))] := hl
  refine lv_aload_n hx hb dX2_isWhole_0 rfl (lv_at hl 0 rfl) ?_
  refine va_get (D := (dC, dI)) (ci := 2) (v := .int (nI ps)) (C := RX2) (T := TX2) (N := 2) hx hb htl iX2 hown hK hP 0 rfl rfl 1 (by decide) (htl _ wd_36) (fun _ h9 => h9) rfl dX2_isWhole_1 ?_
  refine lv_aload_n hx hb dX2_isWhole_4 rfl (lv_at hl 0 rfl) ?_
  have hhe := hE_le pl ps
  refine roV (As := []) (rest := [.int (nI ps)]) (kX2_headEnd l dC dI ca q ps pl hps hpl) ⟨hx, hb, hml, hown, htl⟩ (cVg (C := RX2) 0 htl wd_165 wd_166 wd_167 wd_2 wd_168 rfl rfl (by decide +kernel) ⟨Nat.le_of_ble_eq_true rfl, Nat.le_of_ble_eq_true rfl⟩) (hP.sub [0, 1] rfl) hK (va_recv hK hP (ci := 2) (q0 := 0) rfl rfl) rfl hl.1 rfl (Nat.le_of_ble_eq_true rfl) dX2_isWhole_5 ⟨Nat.zero_le _, Nat.zero_le _⟩ (fun r hr9 => ?_)
  subst hr9
  refine lv_isub hx hb dX2_isWhole_8 ?_
  refine lv_iconst (v := nI 1) hx hb dX2_isWhole_9 (by decide) ?_
  refine lv_isub hx hb dX2_isWhole_10 ?_
  refine lv_istore_n (lv' := [(1, .int (((nI ps) - (nI (hE pl ps))) - (nI 1))), (0, .ref (q 1))]) hx hb dX2_isWhole_11 rfl hl (by decide) rfl (fun ls hl => ?_)
  refine lv_aload_n hx hb dX2_isWhole_12 rfl (lv_at hl 1 rfl) ?_
  have hfw := fwN_le pl ps
  refine roVs (As := []) (rest := []) (kX2_firstWrong l dC dI ca k1 k2 q ps pl hps hpl) ⟨hx, hb, hml, hown, htl⟩ (cVg (C := RX2) 0 htl wd_280 wd_162 wd_163 wd_2 wd_164 rfl rfl (by decide +kernel) ⟨Nat.le_of_ble_eq_true rfl, Nat.le_of_ble_eq_true rfl⟩) (hP.sub [0, 1] rfl) hF hK (va_recv hK hP (ci := 2) (q0 := 0) rfl rfl) rfl hl.1 rfl (Nat.le_of_ble_eq_true rfl) dX2_isWhole_13 ⟨Nat.zero_le _, Nat.zero_le _⟩ (fun r hr9 => ?_)
  subst hr9
  refine lv_aload_n hx hb dX2_isWhole_16 rfl (lv_at hl 1 rfl) ?_
  refine va_get (D := (dC, dI)) (ci := 2) (v := .int (nI ps)) (C := RX2) (T := TX2) (N := 2) hx hb htl iX2 hown hK hP 0 rfl rfl 1 (by decide) (htl _ wd_36) (fun _ h9 => h9) rfl dX2_isWhole_17 ?_
  refine lv_icmp_ne (tgt := 38) hx hb dX2_isWhole_20 (by decide) (fun c_1 => ?_) (fun c_1 => ?_)
  · rw [nI_eq (by omega) (by omega)] at c_1
    refine lv_iconst (v := nI 0) hx hb dX2_isWhole_38 (by decide) ?_
    exact W.zret (v := nI 0) hx hb hr (by decide +kernel) (fun t ht hW => ⟨nI 0, rfl, by show _ = _; unfold whN; rw [show (decide (fwN pl ps = ps) && (decide (hE pl ps + 3 ≤ ps) && decide ((ps - hE pl ps - 1) % 2 = 0))) = false by simp; omega]; rfl, ht⟩) (fun q h => by cases h) dX2_isWhole_39
  · rw [nI_eq (by omega) (by omega)] at c_1
    refine lv_iload_n hx hb dX2_isWhole_23 rfl (lv_at hl 0 rfl) ?_
    refine lv_iconst (v := nI 2) hx hb dX2_isWhole_24 (by decide) ?_
    refine lv_icmp_lt (tgt := 38) hx hb dX2_isWhole_25 (by decide) (fun c_2 => ?_) (fun c_2 => ?_)
    · rw [sub2_lt hhe (by omega) (by decide)] at c_2
      refine lv_iconst (v := nI 0) hx hb dX2_isWhole_38 (by decide) ?_
      exact W.zret (v := nI 0) hx hb hr (by decide +kernel) (fun t ht hW => ⟨nI 0, rfl, by show _ = _; unfold whN; rw [show (decide (fwN pl ps = ps) && (decide (hE pl ps + 3 ≤ ps) && decide ((ps - hE pl ps - 1) % 2 = 0))) = false by simp; omega]; rfl, ht⟩) (fun q h => by cases h) dX2_isWhole_39
    · rw [sub2_lt hhe (by omega) (by decide)] at c_2
      refine lv_iload_n hx hb dX2_isWhole_28 rfl (lv_at hl 0 rfl) ?_
      refine lv_iconst (v := nI 2) hx hb dX2_isWhole_29 (by decide) ?_
      refine lv_irem hx hb dX2_isWhole_30 (by decide) ?_
      refine lv_ri (y := nI ((ps - hE pl ps - 1) % 2)) (by rw [pk_sub hhe, pk_sub (by omega)]; exact pk_rem (by omega) (by decide) (by decide)) ?_
      refine lv_if_ne (tgt := 38) hx hb dX2_isWhole_31 (by decide) (fun c_3 => ?_) (fun c_3 => ?_)
      · rw [nI_z (by omega)] at c_3
        refine lv_iconst (v := nI 0) hx hb dX2_isWhole_38 (by decide) ?_
        exact W.zret (v := nI 0) hx hb hr (by decide +kernel) (fun t ht hW => ⟨nI 0, rfl, by show _ = _; unfold whN; rw [show (decide (fwN pl ps = ps) && (decide (hE pl ps + 3 ≤ ps) && decide ((ps - hE pl ps - 1) % 2 = 0))) = false by simp; omega]; rfl, ht⟩) (fun q h => by cases h) dX2_isWhole_39
      · rw [nI_z (by omega)] at c_3
        refine lv_iconst (v := nI 1) hx hb dX2_isWhole_34 (by decide) ?_
        refine lv_goto (tgt := 39) hx hb dX2_isWhole_35 (by decide) ?_
        exact W.zret (v := nI 1) hx hb hr (by decide +kernel) (fun t ht hW => ⟨nI 1, rfl, by show _ = _; unfold whN; rw [show (decide (fwN pl ps = ps) && (decide (hE pl ps + 3 ≤ ps) && decide ((ps - hE pl ps - 1) % 2 = 0))) = true by simp; omega]; rfl, ht⟩) (fun q h => by cases h) dX2_isWhole_39
set_option maxHeartbeats 4000000 in
set_option maxRecDepth 100000 in
theorem kX2_placeAt (l : Launch) (dC : Nat → ClassId) (dI : Nat → Nat → Nat) (ca : Nat → ClassId) (a : Nat) (q : Nat → Nat) (ps : Nat) (pl : Nat → Nat) (ha : a + 1 < 28) (h1 : 48 ≤ pl a) (h2 : 48 ≤ pl (a + 1)) (hpl : ∀ j, j < 28 → pl j < 127) : Met l yX2_placeAt (Cond.code yX2_placeAt cX2_placeAt 2 (some .int) :: gT) (rk 1) (ROp (dC, dI) [(q 1, .inr (2, [.ref (q 2), .int (nI ps)])), (q 2, .inl (ca 0, 28, .inl (fun zj => nI (pl zj))))] (TY ca) [Value.ref (q 1), Value.int (nI a)]) (vp_Si (fun r => r = nI (plcN pl a))) 0 0 (fun _ => False) := by
  refine Met.ofW (cc := cX2_placeAt) (maxL := 2) (ret := (some .int)) (by decide) rfl ?_
  intro p e s m args below meth c s₁ B hml hv
  obtain ⟨rfl, hP, hK⟩ := hv
  have hx := B.exec
  have hb := B.bytes
  have hr := B.returns
  have hts := atoms_spec (ws := (Cond.code yX2_placeAt cX2_placeAt 2 (some .int) :: gT)) B.pre
  have htl : ∀ w ∈ gT, w.before _ s = true := fun w h => hts w (List.mem_cons_of_mem _ h)
  have hown : s.vm.findClass RX2 = some m.cls := findClass_of_methodNamed B.named
  have hlocks := B.notSynchronized
  have hl := lv_entry ([Value.ref (q 1), Value.int (nI a)]) (n := 2) (Nat.le_of_ble_eq_true rfl)
  rw [lg_entry_eq]
  generalize (lg_sl ([Value.ref (q 1), Value.int (nI a)]) ++ List.replicate (2 - (lg_sl ([Value.ref (q 1), Value.int (nI a)])).length) Slot.unset).toArray = ls at hl ⊢
  have hl : lv_has ls 2 [(0, .ref (q 1)), (1, .int (nI a))] := hl
  refine lv_bipush (v := nI 6) hx hb dX2_placeAt_0 (by decide) ?_
  refine lv_aload_n hx hb dX2_placeAt_2 rfl (lv_at hl 0 rfl) ?_
  refine va_get (D := (dC, dI)) (ci := 2) (v := .ref (q 2)) (C := RX2) (T := TX2) (N := 2) hx hb htl iX2 hown hK hP 0 rfl rfl 0 (by decide) (htl _ wd_34) (fun _ h9 => h9) rfl dX2_placeAt_3 ?_
  refine lv_iload_n hx hb dX2_placeAt_6 rfl (lv_at hl 1 rfl) ?_
  have hb1 := hpl a (by omega)
  have hb2 := hpl (a + 1) (by omega)
  refine va_cald hx hb hK hP 1 0 rfl rfl (vp_in_nI (by omega) (by decide)) dX2_placeAt_7 ?_
  refine lv_ri (y := nI (pl a)) (congrArg (fun zj => nI (pl zj)) (nI_clamp (by omega))) ?_
  refine lv_bipush (v := nI 48) hx hb dX2_placeAt_8 (by decide) ?_
  refine lv_isub hx hb dX2_placeAt_10 ?_
  refine lv_ri (y := nI (pl a - 48)) (pk_sub h1) ?_
  refine lv_imul hx hb dX2_placeAt_11 ?_
  refine lv_ri (y := nI (6 * (pl a - 48))) (pk_mul 6 (pl a - 48)) ?_
  refine lv_aload_n hx hb dX2_placeAt_12 rfl (lv_at hl 0 rfl) ?_
  refine va_get (D := (dC, dI)) (ci := 2) (v := .ref (q 2)) (C := RX2) (T := TX2) (N := 2) hx hb htl iX2 hown hK hP 0 rfl rfl 0 (by decide) (htl _ wd_34) (fun _ h9 => h9) rfl dX2_placeAt_13 ?_
  refine lv_iload_n hx hb dX2_placeAt_16 rfl (lv_at hl 1 rfl) ?_
  refine lv_iconst (v := nI 1) hx hb dX2_placeAt_17 (by decide) ?_
  refine lv_iadd hx hb dX2_placeAt_18 ?_
  refine lv_ri (y := nI (a + 1)) (nI_add a 1) ?_
  refine va_cald hx hb hK hP 1 0 rfl rfl (vp_in_nI (by omega) (by decide)) dX2_placeAt_19 ?_
  refine lv_ri (y := nI (pl (a + 1))) (congrArg (fun zj => nI (pl zj)) (nI_clamp (by omega))) ?_
  refine lv_iadd hx hb dX2_placeAt_20 ?_
  refine lv_ri (y := nI ((6 * (pl a - 48)) + (pl (a + 1)))) (nI_add (6 * (pl a - 48)) (pl (a + 1))) ?_
  refine lv_bipush (v := nI 48) hx hb dX2_placeAt_21 (by decide) ?_
  refine lv_isub hx hb dX2_placeAt_23 ?_
  refine lv_ri (y := nI (6 * (pl a - 48) + pl (a + 1) - 48)) (pk_sub (by omega)) ?_
  exact W.iret (v := nI (6 * (pl a - 48) + pl (a + 1) - 48)) hx hb hr (fun t ht hW => ⟨nI (6 * (pl a - 48) + pl (a + 1) - 48), rfl, rfl, ht⟩) (fun q h => by cases h) dX2_placeAt_24
set_option maxHeartbeats 4000000 in
set_option maxRecDepth 100000 in
theorem kX2_write (l : Launch) (dC : Nat → ClassId) (dI : Nat → Nat → Nat) (ca : Nat → ClassId) (sz : Nat) (ch : Nat) (q : Nat → Nat) (ps : Nat) (pl : Nat → Nat) (hps : ps < 28) (hch : ch < 127) : Met l yX2_write (Cond.code yX2_write cX2_write 2 none :: gT) (rk 1) (EFp (dC, dI) [(q 1, .inr (2, [.ref (q 2), .int (nI ps)])), (q 2, .inl (ca 0, 28, .inl (fun zj => nI (pl zj))))] (TY ca) sz [Value.ref (q 1), Value.int (nI ch)]) (va_Qv (fun (_ : Unit) => True) (EFb (dC, dI) (fun (_ : Unit) => [(q 1, .inr (2, [.ref (q 2), .int (nI (ps + 1))])), (q 2, .inl (ca 0, 28, .inl (fun zj => nI (va_up pl ps ch zj))))]) (TY ca) (va_A [(q 1, .inr (2, [.ref (q 2), .int (nI ps)])), (q 2, .inl (ca 0, 28, .inl (fun zj => nI (pl zj))))] sz)) (va_A [(q 1, .inr (2, [.ref (q 2), .int (nI ps)])), (q 2, .inl (ca 0, 28, .inl (fun zj => nI (pl zj))))] sz)) 0 0 (va_A [(q 1, .inr (2, [.ref (q 2), .int (nI ps)])), (q 2, .inl (ca 0, 28, .inl (fun zj => nI (pl zj))))] sz) := by
  refine Met.ofW (cc := cX2_write) (maxL := 2) (ret := none) (by decide) rfl ?_
  intro p e s m args below meth c s₁ B hml hv
  obtain ⟨rfl, hsz, hP, hK, hD0⟩ := hv
  have hx := B.exec
  have hb := B.bytes
  have hr := B.returns
  have hts := atoms_spec (ws := (Cond.code yX2_write cX2_write 2 none :: gT)) B.pre
  have htl : ∀ w ∈ gT, w.before _ s = true := fun w h => hts w (List.mem_cons_of_mem _ h)
  have hown : s.vm.findClass RX2 = some m.cls := findClass_of_methodNamed B.named
  have hlocks := B.notSynchronized
  subst hsz
  have hD := hD0.self (sz := s.heap.size)
  generalize hAe : va_A [(q 1, .inr (2, [.ref (q 2), .int (nI ps)])), (q 2, .inl (ca 0, 28, .inl (fun zj => nI (pl zj))))] s.heap.size = A at hD ⊢
  have hA : ∀ q : Nat, s.heap.size ≤ q → A q := fun q h => by rw [← hAe]; exact Or.inr h
  have hS : va_S A s.heap s.heap [] := va_S.rf
  have hl := lv_entry ([Value.ref (q 1), Value.int (nI ch)]) (n := 2) (Nat.le_of_ble_eq_true rfl)
  rw [lg_entry_eq]
  generalize (lg_sl ([Value.ref (q 1), Value.int (nI ch)]) ++ List.replicate (2 - (lg_sl ([Value.ref (q 1), Value.int (nI ch)])).length) Slot.unset).toArray = ls at hl ⊢
  have hl : lv_has ls 2 [(0, .ref (q 1)), (1, .int (nI ch))] := hl
  refine lv_aload_n hx hb dX2_write_0 rfl (lv_at hl 0 rfl) ?_
  refine va_get (D := (dC, dI)) (ci := 2) (v := .int (nI ps)) (C := RX2) (T := TX2) (N := 2) hx hb htl iX2 hown hK hP 0 rfl rfl 1 (by decide) (htl _ wd_36) (fun _ h9 => h9) rfl dX2_write_1 ?_
  refine lv_bipush (v := nI 28) hx hb dX2_write_4 (by decide) ?_
  refine lv_icmp_ge (tgt := 29) hx hb dX2_write_6 (by decide) (fun c_1 => ?_) (fun c_1 => ?_)
  · exact absurd c_1 (nI_ge (by omega) (by decide))
  · refine lv_aload_n hx hb dX2_write_9 rfl (lv_at hl 0 rfl) ?_
    refine va_get (D := (dC, dI)) (ci := 2) (v := .ref (q 2)) (C := RX2) (T := TX2) (N := 2) hx hb htl iX2 hown hK hP 0 rfl rfl 0 (by decide) (htl _ wd_34) (fun _ h9 => h9) rfl dX2_write_10 ?_
    refine lv_aload_n hx hb dX2_write_13 rfl (lv_at hl 0 rfl) ?_
    refine va_get (D := (dC, dI)) (ci := 2) (v := .int (nI ps)) (C := RX2) (T := TX2) (N := 2) hx hb htl iX2 hown hK hP 0 rfl rfl 1 (by decide) (htl _ wd_36) (fun _ h9 => h9) rfl dX2_write_14 ?_
    refine lv_iload_n hx hb dX2_write_17 rfl (lv_at hl 1 rfl) ?_
    refine va_cast hx hb hK hP hD hS 1 0 rfl rfl (vp_in_nI (by omega) (by decide)) dX2_write_18 (fun H locs hP hD hS => ?_)
    rw [nI_clamp (show ps < 2 ^ 31 by omega)] at hP hD
    rw [nar_c (Nat.lt_trans hch (by decide))] at hP hD
    rw [show (upd (fun zj => nI (pl zj)) ps (nI ch)) = (fun zj => nI (va_up pl ps ch zj)) from upd_nI _ _ _] at hP hD
    have hP : va_P (dC, dI) vwCl [(q 1, .inr (2, [.ref (q 2), .int (nI ps)])), (q 2, .inl (ca 0, 28, .inl (fun zj => nI (va_up pl ps ch zj))))] H := hP
    have hD : va_D A [(q 1, .inr (2, [.ref (q 2), .int (nI ps)])), (q 2, .inl (ca 0, 28, .inl (fun zj => nI (va_up pl ps ch zj))))] := hD
    refine lv_aload_n hx hb dX2_write_19 rfl (lv_at hl 0 rfl) ?_
    refine lv_dup hx hb dX2_write_20 rfl ?_
    refine va_get (D := (dC, dI)) (ci := 2) (v := .int (nI ps)) (C := RX2) (T := TX2) (N := 2) hx hb htl iX2 hown hK hP 0 rfl rfl 1 (by decide) (htl _ wd_36) (fun _ h9 => h9) rfl dX2_write_21 ?_
    refine lv_iconst (v := nI 1) hx hb dX2_write_24 (by decide) ?_
    refine lv_iadd hx hb dX2_write_25 ?_
    refine lv_ri (y := nI (ps + 1)) (nI_add ps 1) ?_
    refine va_put (D := (dC, dI)) (ci := 2) (v := .int (nI (ps + 1))) (ty := .int) (C := RX2) (T := TX2) (N := 2) hx hb htl iX2 tyX2 tyX2_ok nmX2 hown hK hP hD hS 0 rfl rfl 1 (by decide) (htl _ wd_36) (fun _ h9 => h9) rfl (by decide +kernel) rfl rfl (Nat.le_of_ble_eq_true rfl) dX2_write_26 (fun H locs hP hD hS => ?_)
    have hP : va_P (dC, dI) vwCl [(q 1, .inr (2, [.ref (q 2), .int (nI (ps + 1))])), (q 2, .inl (ca 0, 28, .inl (fun zj => nI (va_up pl ps ch zj))))] H := hP
    have hD : va_D A [(q 1, .inr (2, [.ref (q 2), .int (nI (ps + 1))])), (q 2, .inl (ca 0, 28, .inl (fun zj => nI (va_up pl ps ch zj))))] := hD
    have hP9 := hP.sub (ws' := [(q 1, .inr (2, [.ref (q 2), .int (nI (ps + 1))])), (q 2, .inl (ca 0, 28, .inl (fun zj => nI (va_up pl ps ch zj))))]) [0, 1] rfl
    have hD9 := hD.sub (ws' := [(q 1, .inr (2, [.ref (q 2), .int (nI (ps + 1))])), (q 2, .inl (ca 0, 28, .inl (fun zj => nI (va_up pl ps ch zj))))]) [0, 1] (by decide) rfl
    exact W.vret hx hb hr (fun t ht hW => ⟨⟨(), rfl, trivial, by rw [ht]; exact hP9, va_K.moved hW.alike hK, hD9⟩, hS.F ht⟩) hS.2.2 dX2_write_29
end
