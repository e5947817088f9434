/-! the fewest steps: both searches are one -/
theorem pgn : ∀ (n : Nat) (f : Nat → Nat), (∀ i, i ≤ n → f i < n) → ∃ i j, i < j ∧ j ≤ n ∧ f i = f j
  | 0, f, h => absurd (h 0 (Nat.le_refl 0)) (by omega)
  | n + 1, f, h => by
    by_cases hq : ∃ i, i ≤ n ∧ f i = f (n + 1)
    · obtain ⟨i, h1, h2⟩ := hq
      exact ⟨i, n + 1, by omega, Nat.le_refl _, h2⟩
    · obtain ⟨i, j, h1, h2, h3⟩ := pgn n (fun i => if f i = n then f (n + 1) else f i) (fun i hi => by
        have ha := h i (by omega)
        have hb := h (n + 1) (Nat.le_refl _)
        show (if f i = n then f (n + 1) else f i) < n
        by_cases hf : f i = n
        · rw [if_pos hf]
          have hne : ¬ f i = f (n + 1) := fun q => hq ⟨i, hi, q⟩
          omega
        · rw [if_neg hf]
          omega)
      refine ⟨i, j, h1, by omega, ?_⟩
      have hi : ¬ f i = f (n + 1) := fun q => hq ⟨i, by omega, q⟩
      have hj : ¬ f j = f (n + 1) := fun q => hq ⟨j, by omega, q⟩
      have h3 : (if f i = n then f (n + 1) else f i) = (if f j = n then f (n + 1) else f j) := h3
      by_cases ha : f i = n
      · by_cases hb : f j = n
        · omega
        · rw [if_pos ha, if_neg hb] at h3
          exact absurd h3.symm hj
      · by_cases hb : f j = n
        · rw [if_neg ha, if_pos hb] at h3
          exact absurd h3 hi
        · rw [if_neg ha, if_neg hb] at h3
          exact h3
theorem nIm1 {n : Nat} (h : n ≤ 200) : ¬ nI n = -1 := nI_ne1 (by omega)
theorem nIq {a b : Nat} (ha : a ≤ 200) (hb : b ≤ 200) (h : nI a = nI b) : a = b := (nI_eq (by omega) (by omega)).mp h
def rlx (fa : Nat → Int32) (v : Nat) (x : Int32) : Nat → Int32 := if fa v = -1 then upd fa v x else fa
theorem rlx_keep {fa : Nat → Int32} {v w : Nat} {x : Int32} (h : ¬ fa w = -1) : rlx fa v x w = fa w := by
  unfold rlx
  split
  · unfold upd
    by_cases hw : w = v
    · subst hw
      exact absurd (by assumption) h
    · rw [if_neg hw]
  · rfl
theorem rlx_or (fa : Nat → Int32) (v w : Nat) (x : Int32) : rlx fa v x w = fa w ∨ (w = v ∧ fa v = -1 ∧ rlx fa v x w = x) := by
  by_cases h : fa v = -1
  · by_cases hw : w = v
    · subst hw
      refine Or.inr ⟨rfl, h, ?_⟩
      unfold rlx upd
      rw [if_pos h, if_pos rfl]
    · refine Or.inl ?_
      unfold rlx upd
      rw [if_pos h, if_neg hw]
  · refine Or.inl ?_
    unfold rlx
    rw [if_neg h]
theorem rlx_eq (fa : Nat → Int32) (v : Nat) (x : Int32) : upd fa v (if fa v = -1 then x else fa v) = rlx fa v x := by
  funext w
  unfold rlx upd
  by_cases h : fa v = -1
  · rw [if_pos h, if_pos h]
  · rw [if_neg h, if_neg h]
    by_cases hw : w = v
    · rw [if_pos hw, hw]
    · rw [if_neg hw]
def Bs (ib : Nat → Bool) (br N : Nat) (fa : Nat → Int32) : Prop := fa br = nI 0 ∧ (∀ v, v < 36 → fa v = -1 ∨ ∃ n, n ≤ N ∧ fa v = nI n) ∧ (∀ v n, v < 36 → n ≤ 100 → fa v = nI (n + 1) → ∃ u d, u < 36 ∧ d < 9 ∧ fa u = nI n ∧ stepN ib u d = v) ∧ (∀ v, v < 36 → fa v = nI 0 → v = br)
def Cl (ib : Nat → Bool) (fa : Nat → Int32) (u d : Nat) : Prop := ∃ n m, n ≤ 100 ∧ fa u = nI n ∧ m ≤ n + 1 ∧ fa (stepN ib u d) = nI m
theorem Bs.up {ib : Nat → Bool} {br N M : Nat} {fa : Nat → Int32} (h : Bs ib br N fa) (hN : N ≤ M) : Bs ib br M fa := ⟨h.1, fun v hv => (h.2.1 v hv).imp id (fun ⟨n, h1, h2⟩ => ⟨n, by omega, h2⟩), h.2.2.1, h.2.2.2⟩
theorem Cl.keep {ib : Nat → Bool} {fa fb : Nat → Int32} {u d : Nat} (h : Cl ib fa u d) (hk : ∀ w, ¬ fa w = -1 → fb w = fa w) : Cl ib fb u d := by
  obtain ⟨n, m, h1, h2, h3, h4⟩ := h
  exact ⟨n, m, h1, by rw [hk _ (by rw [h2]; exact nIm1 (by omega))]; exact h2, h3, by rw [hk _ (by rw [h4]; exact nIm1 (by omega))]; exact h4⟩
theorem Bs.rlx {ib : Nat → Bool} {br N : Nat} {fa : Nat → Int32} (h : Bs ib br N fa) (hN : N ≤ 100) {u d n : Nat} (hu : u < 36) (hd : d < 9) (hn : fa u = nI n) (hn1 : n + 1 ≤ N) : Bs ib br N (rlx fa (stepN ib u d) (nI (n + 1))) := by
  obtain ⟨h0, h1, h2, h3⟩ := h
  refine ⟨by rw [rlx_keep (by rw [h0]; exact nIm1 (by omega))]; exact h0, fun v hv => ?_, fun v k hv hk e => ?_, fun v hv e => ?_⟩
  · rcases rlx_or fa (stepN ib u d) v (nI (n + 1)) with e | ⟨_, _, e⟩
    · rw [e]
      exact h1 v hv
    · rw [e]
      exact Or.inr ⟨n + 1, hn1, rfl⟩
  · rcases rlx_or fa (stepN ib u d) v (nI (n + 1)) with e1 | ⟨e0, _, e1⟩
    · rw [e1] at e
      obtain ⟨u', d', a1, a2, a3, a4⟩ := h2 v k hv hk e
      exact ⟨u', d', a1, a2, by rw [rlx_keep (by rw [a3]; exact nIm1 (by omega))]; exact a3, a4⟩
    · rw [e1] at e
      have hkn := nIq (by omega) (by omega) e
      refine ⟨u, d, hu, hd, ?_, e0.symm⟩
      rw [rlx_keep (by rw [hn]; exact nIm1 (by omega)), hn]
      congr 1
      omega
  · rcases rlx_or fa (stepN ib u d) v (nI (n + 1)) with e1 | ⟨_, _, e1⟩
    · rw [e1] at e
      exact h3 v hv e
    · rw [e1] at e
      exact absurd (nIq (by omega) (by omega) e) (by omega)
theorem Cl.mk0 {ib : Nat → Bool} {br N : Nat} {fa : Nat → Int32} (h : Bs ib br N fa) {u d n : Nat} (hu : u < 36) (hn : fa u = nI n) (hn1 : n + 1 ≤ N) (hN : N ≤ 100) (hle : ∀ m, fa (stepN ib u d) = nI m → m ≤ N → m ≤ n + 1) : Cl ib (rlx fa (stepN ib u d) (nI (n + 1))) u d := by
  have hk : rlx fa (stepN ib u d) (nI (n + 1)) u = nI n := by rw [rlx_keep (by rw [hn]; exact nIm1 (by omega))]; exact hn
  rcases rlx_or fa (stepN ib u d) (stepN ib u d) (nI (n + 1)) with e | ⟨_, _, e⟩
  · rcases h.2.1 (stepN ib u d) (stepN_lt hu) with q | ⟨m, hm, q⟩
    · refine ⟨n, n + 1, by omega, hk, Nat.le_refl _, ?_⟩
      unfold rlx upd
      rw [if_pos q, if_pos rfl]
    · exact ⟨n, m, by omega, hk, hle m q hm, by rw [e]; exact q⟩
  · exact ⟨n, n + 1, by omega, hk, Nat.le_refl _, e⟩
/-- what both searches come to -/
def Sol (ib : Nat → Bool) (br : Nat) (fa : Nat → Int32) : Prop := Bs ib br 36 fa ∧ ∀ u n, u < 36 → n ≤ 36 → fa u = nI n → ∀ d, d < 9 → Cl ib fa u d
theorem Sol.half {ib : Nat → Bool} {br : Nat} {fa fb : Nat → Int32} (ha : Sol ib br fa) (hb : Sol ib br fb) (k : Nat) (hk : k + 1 ≤ 36) (h1 : ∀ m, m ≤ k → ∀ v, v < 36 → fb v = nI m → fa v = nI m) (h2 : ∀ v, v < 36 → fa v = nI k → fb v = nI k) (v : Nat) (hv : v < 36) (e : fa v = nI (k + 1)) : fb v = nI (k + 1) := by
  obtain ⟨u, d, a1, a2, a3, a4⟩ := ha.1.2.2.1 v k hv (by omega) e
  have hu := h2 u a1 a3
  obtain ⟨n, m, b1, b2, b3, b4⟩ := hb.2 u k a1 (by omega) hu d a2
  rw [a4] at b4
  have hn := nIq (by omega) (by omega) (hu.symm.trans b2)
  by_cases hm : m = k + 1
  · rw [b4, hm]
  · have h5 := h1 m (by omega) v hv b4
    have := nIq (by omega) (by omega) (h5.symm.trans e)
    omega
theorem Sol.lev {ib : Nat → Bool} {br : Nat} {fa fb : Nat → Int32} (ha : Sol ib br fa) (hb : Sol ib br fb) : ∀ n, n ≤ 36 → ∀ m, m ≤ n → ∀ v, v < 36 → (fa v = nI m ↔ fb v = nI m)
  | 0, _, m, hm, v, hv => by
    have h0 : m = 0 := by omega
    subst h0
    exact ⟨fun e => by rw [ha.1.2.2.2 v hv e]; exact hb.1.1, fun e => by rw [hb.1.2.2.2 v hv e]; exact ha.1.1⟩
  | n + 1, hn, m, hm, v, hv => by
    have ih := Sol.lev ha hb n (by omega)
    by_cases hm2 : m ≤ n
    · exact ih m hm2 v hv
    · have h0 : m = n + 1 := by omega
      subst h0
      exact ⟨Sol.half ha hb n hn (fun m h v hv => (ih m h v hv).mpr) (fun v hv => (ih n (Nat.le_refl _) v hv).mp) v hv, Sol.half hb ha n hn (fun m h v hv => (ih m h v hv).mp) (fun v hv => (ih n (Nat.le_refl _) v hv).mpr) v hv⟩
theorem Sol.uniq {ib : Nat → Bool} {br : Nat} {fa fb : Nat → Int32} (ha : Sol ib br fa) (hb : Sol ib br fb) (v : Nat) (hv : v < 36) : fa v = fb v := by
  rcases ha.1.2.1 v hv with h | ⟨n, hn, h⟩
  · rcases hb.1.2.1 v hv with g | ⟨m, hm, g⟩
    · rw [h, g]
    · have := (Sol.lev ha hb m hm m (Nat.le_refl _) v hv).mpr g
      rw [h] at this
      exact absurd this.symm (nIm1 (by omega))
  · rw [h, (Sol.lev ha hb n hn n (Nat.le_refl _) v hv).mp h]
/-! by layers -/
theorem fmD_ok {ib : Nat → Bool} {br pp nn : Nat} (hpp : pp < 36) (hnn : nn < 36) : ∀ (n d : Nat) (fa : Nat → Int32), d + n = 9 → Bs ib br (nn + 1) fa → fa pp = nI nn → (∀ d', d' < d → Cl ib fa pp d') →
    Bs ib br (nn + 1) (fmD ib pp nn n d fa) ∧ (∀ w, ¬ fa w = -1 → fmD ib pp nn n d fa w = fa w) ∧ (∀ d', d' < 9 → Cl ib (fmD ib pp nn n d fa) pp d') ∧ ∀ w, fmD ib pp nn n d fa w = fa w ∨ fmD ib pp nn n d fa w = nI (nn + 1)
  | 0, d, fa, hd, hB, hp, hC => ⟨hB, fun _ _ => rfl, fun d' h => hC d' (by omega), fun _ => Or.inl rfl⟩
  | n + 1, d, fa, hd, hB, hp, hC => by
    simp only [fmD, if_pos hp, rlx_eq]
    have hB1 := hB.rlx (by omega) hpp (d := d) (by omega) hp (Nat.le_refl _)
    have hp1 : rlx fa (stepN ib pp d) (nI (nn + 1)) pp = nI nn := by rw [rlx_keep (by rw [hp]; exact nIm1 (by omega))]; exact hp
    have hC1 : ∀ d', d' < d + 1 → Cl ib (rlx fa (stepN ib pp d) (nI (nn + 1))) pp d' := by
      intro d' h
      by_cases hq : d' = d
      · subst hq
        exact Cl.mk0 hB hpp hp (Nat.le_refl _) (by omega) (fun m _ hm => hm)
      · exact (hC d' (by omega)).keep (fun w hw => rlx_keep hw)
    obtain ⟨r1, r2, r3, r4⟩ := fmD_ok hpp hnn n (d + 1) _ (by omega) hB1 hp1 hC1
    refine ⟨r1, fun w hw => ?_, r3, fun w => ?_⟩
    · rw [r2 w (by rw [rlx_keep hw]; exact hw), rlx_keep hw]
    · rcases r4 w with e | e
      · rcases rlx_or fa (stepN ib pp d) w (nI (nn + 1)) with e1 | ⟨_, _, e1⟩
        · exact Or.inl (e.trans e1)
        · exact Or.inr (e.trans e1)
      · exact Or.inr e
theorem fmP_ok {ib : Nat → Bool} {br nn : Nat} (hnn : nn < 36) : ∀ (n pp : Nat) (fa : Nat → Int32), pp + n = 36 → Bs ib br (nn + 1) fa → (∀ u k, u < 36 → k < nn ∨ (k = nn ∧ u < pp) → fa u = nI k → ∀ d, d < 9 → Cl ib fa u d) →
    Bs ib br (nn + 1) (fmP ib nn n pp fa) ∧ ∀ u k, u < 36 → k ≤ nn → fmP ib nn n pp fa u = nI k → ∀ d, d < 9 → Cl ib (fmP ib nn n pp fa) u d
  | 0, pp, fa, hp, hB, hC => ⟨hB, fun u k hu hk => hC u k hu (by omega)⟩
  | n + 1, pp, fa, hp, hB, hC => by
    simp only [fmP]
    by_cases h : fa pp = nI nn
    · obtain ⟨r1, r2, r3, r4⟩ := fmD_ok (br := br) (by omega) hnn 9 0 fa (by omega) hB h (fun d' q => absurd q (by omega))
      refine fmP_ok hnn n (pp + 1) _ (by omega) r1 (fun u k hu hk e d hd => ?_)
      by_cases hq : u = pp ∧ k = nn
      · rw [hq.1]
        exact r3 d hd
      · rcases r4 u with e1 | e1
        · exact (hC u k hu (by omega) (e1.symm.trans e) d hd).keep r2
        · exact absurd (nIq (by omega) (by omega) (e1.symm.trans e)) (by omega)
    · have e0 : fmD ib pp nn 9 0 fa = fa := by
        show (if fa pp = nI nn then _ else fa) = fa
        rw [if_neg h]
      rw [e0]
      refine fmP_ok hnn n (pp + 1) _ (by omega) hB (fun u k hu hk e d hd => ?_)
      by_cases hq : u = pp ∧ k = nn
      · rw [hq.1, hq.2] at e
        exact absurd e h
      · exact hC u k hu (by omega) e d hd
theorem fmN_ok {ib : Nat → Bool} {br : Nat} : ∀ (n nn : Nat) (fa : Nat → Int32), nn + n = 36 → Bs ib br nn fa → (∀ u k, u < 36 → k < nn → fa u = nI k → ∀ d, d < 9 → Cl ib fa u d) →
    Bs ib br 36 (fmN ib n nn fa) ∧ ∀ u k, u < 36 → k < 36 → fmN ib n nn fa u = nI k → ∀ d, d < 9 → Cl ib (fmN ib n nn fa) u d
  | 0, nn, fa, hn, hB, hC => by
    have h0 : nn = 36 := by omega
    subst h0
    exact ⟨hB, hC⟩
  | n + 1, nn, fa, hn, hB, hC => by
    obtain ⟨r1, r2⟩ := fmP_ok (br := br) (ib := ib) (nn := nn) (by omega) 36 0 fa (by omega) (hB.up (by omega)) (fun u k hu hk => hC u k hu (by omega))
    exact fmN_ok n (nn + 1) _ (by omega) r1 (fun u k hu hk => r2 u k hu (by omega))
theorem Bs.down {ib : Nat → Bool} {br N : Nat} {fa : Nat → Int32} (h : Bs ib br N fa) {v k : Nat} (hk : k ≤ 100) (hv : v < 36) (e : fa v = nI k) : ∀ j, j ≤ k → ∃ u, u < 36 ∧ fa u = nI (k - j)
  | 0, _ => ⟨v, hv, e⟩
  | j + 1, hj => by
    obtain ⟨u, hu, e1⟩ := Bs.down h hk hv e j (by omega)
    obtain ⟨u', d', a1, _, a3, _⟩ := h.2.2.1 u (k - (j + 1)) hu (by omega) (by rw [e1]; congr 1; omega)
    exact ⟨u', a1, a3⟩
theorem Bs.no36 {ib : Nat → Bool} {br N : Nat} {fa : Nat → Int32} (h : Bs ib br N fa) {v : Nat} (hv : v < 36) : ¬ fa v = nI 36 := by
  intro e
  have hd : ∀ k, ∃ u, k ≤ 36 → u < 36 ∧ fa u = nI k := by
    intro k
    by_cases hk : k ≤ 36
    · obtain ⟨u, h1, h2⟩ := Bs.down h (by omega) hv e (36 - k) (by omega)
      exact ⟨u, fun _ => ⟨h1, by rw [h2]; congr 1; omega⟩⟩
    · exact ⟨0, fun q => absurd q hk⟩
  obtain ⟨f, hf⟩ := Classical.axiomOfChoice hd
  obtain ⟨i, j, h1, h2, h3⟩ := pgn 36 f (fun i hi => (hf i hi).1)
  have e1 := (hf i (by omega)).2
  have e2 := (hf j h2).2
  rw [h3] at e1
  exact absurd (nIq (by omega) (by omega) (e1.symm.trans e2)) (by omega)
theorem Bs.ini (ib : Nat → Bool) (br N : Nat) : Bs ib br N (upd (fun _ => (-1)) br (nI 0)) := by
  have h1 : ∀ v, (upd (fun _ => (-1)) br (nI 0)) v = if v = br then nI 0 else -1 := fun v => rfl
  refine ⟨by rw [h1, if_pos rfl], fun v _ => ?_, fun v n _ hn e => ?_, fun v _ e => ?_⟩
  · rw [h1]
    by_cases hv : v = br
    · rw [if_pos hv]
      exact Or.inr ⟨0, Nat.zero_le _, rfl⟩
    · rw [if_neg hv]
      exact Or.inl rfl
  · rw [h1] at e
    by_cases hv : v = br
    · rw [if_pos hv] at e
      exact absurd (nIq (by omega) (by omega) e) (by omega)
    · rw [if_neg hv] at e
      exact absurd e.symm (nIm1 (by omega))
  · rw [h1] at e
    by_cases hv : v = br
    · exact hv
    · rw [if_neg hv] at e
      exact absurd e.symm (nIm1 (by omega))
theorem Sol.M (ib : Nat → Bool) (br : Nat) : Sol ib br (fmN ib 36 0 (upd (fun _ => (-1)) br (nI 0))) := by
  obtain ⟨r1, r2⟩ := fmN_ok (ib := ib) (br := br) 36 0 _ (by omega) (Bs.ini ib br 0) (fun u k _ hk => absurd hk (by omega))
  refine ⟨r1, fun u n hu hn e d hd => ?_⟩
  by_cases h : n = 36
  · subst h
    exact absurd e (r1.no36 hu)
  · exact r2 u n hu (by omega) e d hd
/-! by a row of those that wait -/
def QI (ib : Nat → Bool) (br pl i d : Nat) (sa : Nat → Int32) (wq : Nat → Nat) (en : Nat) : Prop := ∃ g : Nat → Nat, i < en ∧ wq i = pl ∧ en ≤ 36 ∧ (∀ j, j < en → wq j < 36 ∧ sa (wq j) = nI (g j) ∧ g j ≤ j) ∧ (∀ j k, j ≤ k → k < en → g j ≤ g k) ∧ (∀ j, j < en → g j ≤ g i + 1) ∧ (∀ v, v < 36 → sa v = -1 ∨ ∃ j, j < en ∧ wq j = v) ∧ (∀ j k, j < en → k < en → wq j = wq k → j = k) ∧ Bs ib br 36 sa ∧ (∀ j, j < i → ∀ d, d < 9 → Cl ib sa (wq j) d) ∧ ∀ d', d' < d → Cl ib sa pl d'
theorem bfI_ok {ib : Nat → Bool} {br pl i : Nat} : ∀ (n d : Nat) (sa : Nat → Int32) (wq : Nat → Nat) (en : Nat), d + n = 9 → QI ib br pl i d sa wq en → QI ib br pl i 9 (bfI ib pl n d sa wq en).1 (bfI ib pl n d sa wq en).2.1 (bfI ib pl n d sa wq en).2.2
  | 0, d, sa, wq, en, hd, h => by
    have h0 : d = 9 := by omega
    subst h0
    exact h
  | n + 1, d, sa, wq, en, hd, h => by
    obtain ⟨g, h1, h2, h3, h4, h5, h6, h7, h8, h9, h10, h11⟩ := h
    have hpl : pl < 36 := by rw [← h2]; exact (h4 i h1).1
    have hgi : sa pl = nI (g i) := by rw [← h2]; exact (h4 i h1).2.1
    have hgl := (h4 i h1).2.2
    have hv := stepN_lt (ib := ib) (p := pl) (d := d) hpl
    simp only [bfI]
    by_cases hc : sa (stepN ib pl d) = -1 ∧ en < 36
    · rw [if_pos hc]
      have e1 : upd sa (stepN ib pl d) (sa pl + nI 1) = rlx sa (stepN ib pl d) (nI (g i + 1)) := by
        unfold rlx
        rw [if_pos hc.1, hgi, nI_add]
      rw [e1]
      have hnot : ∀ j, j < en → ¬ wq j = stepN ib pl d := fun j hj q => by
        have := (h4 j hj).2.1
        rw [q, hc.1] at this
        exact nIm1 (by have := (h4 j hj).2.2; omega) this.symm
      have hk : ∀ w, ¬ sa w = -1 → rlx sa (stepN ib pl d) (nI (g i + 1)) w = sa w := fun w hw => rlx_keep hw
      have hB1 := h9.rlx (by omega) hpl (d := d) (by omega) hgi (by omega)
      refine bfI_ok n (d + 1) _ _ _ (by omega) ⟨fun j => if j = en then g i + 1 else g j, by omega, ?_, by omega, fun j hj => ?_, fun j k hjk hke => ?_, fun j hj => ?_, fun v hv9 => ?_, fun j k hj hk9 e => ?_, hB1, fun j hj d9 hd9 => ?_, fun d' hd' => ?_⟩
      · unfold va_up
        rw [if_neg (by omega)]
        exact h2
      · unfold va_up
        dsimp only
        by_cases hq : j = en
        · rw [if_pos hq, if_pos hq]
          refine ⟨hv, ?_, by omega⟩
          unfold rlx upd
          rw [if_pos hc.1, if_pos rfl]
        · rw [if_neg hq, if_neg hq]
          obtain ⟨q1, q2, q3⟩ := h4 j (by omega)
          exact ⟨q1, by rw [hk _ (by rw [q2]; exact nIm1 (by omega))]; exact q2, q3⟩
      · show (if j = en then g i + 1 else g j) ≤ (if k = en then g i + 1 else g k)
        by_cases hq : k = en
        · rw [if_pos hq]
          by_cases hr : j = en
          · rw [if_pos hr]
            omega
          · rw [if_neg hr]
            exact h6 j (by omega)
        · rw [if_neg hq, if_neg (by omega)]
          exact h5 j k hjk (by omega)
      · show (if j = en then g i + 1 else g j) ≤ (if i = en then g i + 1 else g i) + 1
        rw [if_neg (show ¬ i = en by omega)]
        by_cases hq : j = en
        · rw [if_pos hq]
          omega
        · rw [if_neg hq]
          exact h6 j (by omega)
      · rcases rlx_or sa (stepN ib pl d) v (nI (g i + 1)) with e | ⟨e0, _, _⟩
        · rcases h7 v hv9 with q | ⟨j, hj, q⟩
          · exact Or.inl (e.trans q)
          · refine Or.inr ⟨j, by omega, ?_⟩
            unfold va_up
            rw [if_neg (by omega)]
            exact q
        · refine Or.inr ⟨en, by omega, ?_⟩
          unfold va_up
          rw [if_pos rfl]
          exact e0.symm
      · unfold va_up at e
        by_cases hq : j = en
        · by_cases hr : k = en
          · omega
          · rw [if_pos hq, if_neg hr] at e
            exact absurd e.symm (hnot k (by omega))
        · by_cases hr : k = en
          · rw [if_neg hq, if_pos hr] at e
            exact absurd e (hnot j (by omega))
          · rw [if_neg hq, if_neg hr] at e
            exact h8 j k (by omega) (by omega) e
      · have e9 : va_up wq en (stepN ib pl d) j = wq j := by
          unfold va_up
          rw [if_neg (by omega)]
        rw [e9]
        exact (h10 j hj d9 hd9).keep hk
      · by_cases hq : d' = d
        · subst hq
          exact Cl.mk0 h9 hpl hgi (by omega) (by omega) (fun m e _ => by
            rw [hc.1] at e
            exact absurd e.symm (nIm1 (by omega)))
        · exact (h11 d' (by omega)).keep hk
    · rw [if_neg hc]
      have hs : ¬ sa (stepN ib pl d) = -1 := by
        intro q
        have hen : en = 36 := by
          rcases Nat.lt_or_ge en 36 with a | a
          · exact absurd ⟨q, a⟩ hc
          · omega
        subst hen
        obtain ⟨a, b, r1, r2, r3⟩ := pgn 36 (fun j => if j < 36 then wq j else stepN ib pl d) (fun j hj => by
          show (if j < 36 then wq j else stepN ib pl d) < 36
          by_cases hq : j < 36
          · rw [if_pos hq]
            exact (h4 j hq).1
          · rw [if_neg hq]
            exact hv)
        have r3 : (if a < 36 then wq a else stepN ib pl d) = (if b < 36 then wq b else stepN ib pl d) := r3
        rw [if_pos (by omega)] at r3
        by_cases hq : b < 36
        · rw [if_pos hq] at r3
          have := h8 a b (by omega) hq r3
          omega
        · rw [if_neg hq] at r3
          have q2 := (h4 a (by omega)).2.1
          rw [r3, q] at q2
          exact nIm1 (by have := (h4 a (by omega)).2.2; omega) q2.symm
      refine bfI_ok n (d + 1) _ _ _ (by omega) ⟨g, h1, h2, h3, h4, h5, h6, h7, h8, h9, h10, fun d' hd' => ?_⟩
      by_cases hq : d' = d
      · subst hq
        rcases h7 (stepN ib pl d') hv with q | ⟨j, hj, q⟩
        · exact absurd q hs
        · refine ⟨g i, g j, by omega, hgi, h6 j hj, ?_⟩
          rw [← q]
          exact (h4 j hj).2.1
      · exact h11 d' (by omega)
def QO (ib : Nat → Bool) (br i : Nat) (sa : Nat → Int32) (wq : Nat → Nat) (en : Nat) : Prop := ∃ g : Nat → Nat, i ≤ en ∧ en ≤ 36 ∧ (∀ j, j < en → wq j < 36 ∧ sa (wq j) = nI (g j) ∧ g j ≤ j) ∧ (∀ j k, j ≤ k → k < en → g j ≤ g k) ∧ (∀ j, j < en → i < en → g j ≤ g i + 1) ∧ (∀ v, v < 36 → sa v = -1 ∨ ∃ j, j < en ∧ wq j = v) ∧ (∀ j k, j < en → k < en → wq j = wq k → j = k) ∧ Bs ib br 36 sa ∧ (∀ j, j < i → ∀ d, d < 9 → Cl ib sa (wq j) d)
theorem bfO_ok {ib : Nat → Bool} {br : Nat} : ∀ (n i : Nat) (sa : Nat → Int32) (wq : Nat → Nat) (en : Nat), i + n = 36 → QO ib br i sa wq en → Sol ib br (bfO ib n i sa wq en)
  | 0, i, sa, wq, en, hi, h => by
    obtain ⟨g, h1, h2, h3, h4, h5, h6, h7, h8, h9⟩ := h
    refine ⟨h8, fun u k hu hk e d hd => ?_⟩
    rcases h6 u hu with q | ⟨j, hj, q⟩
    · exact absurd (q.symm.trans e).symm (nIm1 (by omega))
    · rw [← q]
      exact h9 j (by omega) d hd
  | n + 1, i, sa, wq, en, hi, h => by
    obtain ⟨g, h1, h2, h3, h4, h5, h6, h7, h8, h9⟩ := h
    simp only [bfO]
    by_cases hc : i < en
    · rw [if_pos hc]
      obtain ⟨g', a1, a2, a3, a4, a5, a6, a7, a8, a9, a10, a11⟩ := bfI_ok (ib := ib) (br := br) (pl := wq i) (i := i) 9 0 sa wq en (by omega) ⟨g, hc, rfl, h2, h3, h4, fun j hj => h5 j hj hc, h6, h7, h8, h9, fun d' q => absurd q (by omega)⟩
      refine bfO_ok n (i + 1) _ _ _ (by omega) ⟨g', by omega, a3, a4, a5, fun j hj hl => ?_, a7, a8, a9, fun j hj d hd => ?_⟩
      · have := a6 j hj
        have := a5 i (i + 1) (by omega) hl
        omega
      · by_cases hq : j = i
        · rw [hq, a2]
          exact a11 d hd
        · exact a10 j (by omega) d hd
    · rw [if_neg hc]
      refine ⟨h8, fun u k hu hk e d hd => ?_⟩
      rcases h6 u hu with q | ⟨j, hj, q⟩
      · exact absurd (q.symm.trans e).symm (nIm1 (by omega))
      · rw [← q]
        exact h9 j (by omega) d hd
theorem Sol.X (ib : Nat → Bool) {br : Nat} (hbr : br < 36) : Sol ib br (bfO ib 36 0 (upd (fun _ => (-1)) br (nI 0)) (fun _ => br) 1) := by
  refine bfO_ok 36 0 _ _ _ (by omega) ⟨fun _ => 0, by omega, by omega, fun j hj => ⟨hbr, (Bs.ini ib br 36).1, Nat.zero_le _⟩, fun _ _ _ _ => Nat.le_refl _, fun _ _ _ => Nat.zero_le _, fun v hv => ?_, fun j k hj hk _ => by omega, Bs.ini ib br 36, fun j hj => absurd hj (by omega)⟩
  by_cases h : v = br
  · exact Or.inr ⟨0, by omega, h.symm⟩
  · refine Or.inl ?_
    unfold upd
    rw [if_neg h]
theorem few_eq (ib : Nat → Bool) {br ho : Nat} (hbr : br < 36) (hho : ho < 36) : fewX ib br ho = fewM ib br ho := Sol.uniq (Sol.X ib hbr) (Sol.M ib br) ho hho
