/-! WHAT IS MADE -/
/-- only labels in [lo, hi) and the passing one have changed, in place or contents -/
def fReg (lo hi : Nat) (ad : Nat → Nat) (M : fM) (ad1 : Nat → Nat) (M1 : fM) : Prop := ∀ l, ¬ (lo ≤ l ∧ l < hi) → l ≠ 4090 → ad1 l = ad l ∧ M1 l = M l
theorem fReg_rf {lo hi : Nat} {ad : Nat → Nat} {M : fM} : fReg lo hi ad M ad M := fun _ _ _ => ⟨rfl, rfl⟩
theorem fReg_tr {lo hi : Nat} {ad ad1 ad2 : Nat → Nat} {M M1 M2 : fM} (h : fReg lo hi ad M ad1 M1) (h2 : fReg lo hi ad1 M1 ad2 M2) : fReg lo hi ad M ad2 M2 := fun l a b => ⟨(h2 l a b).1.trans (h l a b).1, (h2 l a b).2.trans (h l a b).2⟩
theorem fReg_V {lo hi l q : Nat} {ad ad1 : Nat → Nat} {M M1 : fM} {e : va_E} (h : fReg lo hi ad M ad1 M1) (hl : lo ≤ l ∧ l < hi) : fReg lo hi ad M (fV ad1 l q) (fU M1 l e) := fun k a b => ⟨(fV_n (fun z => a (by rw [z]; exact hl))).trans (h k a b).1, (fU_n (fun z => a (by rw [z]; exact hl))).trans (h k a b).2⟩
theorem fReg_U {lo hi l : Nat} {ad ad1 : Nat → Nat} {M M1 : fM} {e : va_E} (h : fReg lo hi ad M ad1 M1) (hl : lo ≤ l ∧ l < hi) : fReg lo hi ad M ad1 (fU M1 l e) := fun k a b => ⟨(h k a b).1, (fU_n (fun z => a (by rw [z]; exact hl))).trans (h k a b).2⟩
theorem fReg_w {lo hi lo2 hi2 : Nat} {ad ad1 : Nat → Nat} {M M1 : fM} (h : fReg lo hi ad M ad1 M1) (h1 : lo2 ≤ lo) (h2 : hi ≤ hi2) : fReg lo2 hi2 ad M ad1 M1 := fun k a b => h k (fun z => a ⟨Nat.le_trans h1 z.1, Nat.lt_of_lt_of_le z.2 h2⟩) b
theorem fReg_out {b : Nat} {ad : Nat → Nat} {M M1 : fM} (h : fOut b M M1) : fReg b (b + 1000) ad M ad M1 := fun l a _ => ⟨rfl, h l a⟩
abbrev f0 : Nat → Int32 := fun _ => 0
abbrev T0 : fTn := (0, (0, fun _ => f0), (0, fun _ => f0), (0, fun _ => f0))
abbrev fMkG (g : fG) (ad : Nat → Nat) (M : fM) : (Nat → Nat) → fM → Prop := fun ad1 M1 => isGround g ad1 M1 f0 f0 f0 ∧ fReg 1 5 ad M ad1 M1 ∧ ad1 1 = ad 1
abbrev fMkT (g : fG) (ad : Nat → Nat) (M : fM) (b : Nat) : (Nat → Nat) → fM → Prop := fun ad1 M1 => isTown g ad1 M1 b T0 ∧ fReg b (b + 1000) ad M ad1 M1 ∧ ad1 b = ad b
def isFE (ad : Nat → Nat) (M : fM) : Prop := M 0 = some (.inr (6, [.ref (ad 1), .ref (ad 1000), .ref (ad 2000)]))
abbrev fMkF (g : fG) (ad : Nat → Nat) (M : fM) : (Nat → Nat) → fM → Prop := fun ad1 M1 => isFE ad1 M1 ∧ isGround g ad1 M1 f0 f0 f0 ∧ isTown g ad1 M1 1000 T0 ∧ isTown g ad1 M1 2000 T0 ∧ fReg 0 3000 ad M ad1 M1 ∧ ad1 0 = ad 0
theorem isTown_reg {g : fG} {ad ad1 : Nat → Nat} {M M1 : fM} {b lo hi : Nat} {T : fTn} (h : isTown g ad M b T) (hr : fReg lo hi ad M ad1 M1) (hb : b + 1000 ≤ lo ∨ hi ≤ b) (h4 : b ≤ 3000) : isTown g ad1 M1 b T := by
  obtain ⟨h0, h1, h2, h3, h5, h6, h7, n1, n2, n3, hA⟩ := h
  have R : ∀ k, k < 1000 → ad1 (b + k) = ad (b + k) ∧ M1 (b + k) = M (b + k) := fun k hk => hr _ (by omega) (by omega)
  refine ⟨?_, fList_A h1 (R 4 (by omega)).1 (fun i hi => ?_) (R 1 (by omega)).2 (R 4 (by omega)).2, fList_A h2 (R 5 (by omega)).1 (fun i hi => ?_) (R 2 (by omega)).2 (R 5 (by omega)).2, fList_A h3 (R 6 (by omega)).1 (fun i hi => ?_) (R 3 (by omega)).2 (R 6 (by omega)).2, fun j hj => ?_, fun j hj => ?_, fun j hj => ?_, n1, n2, n3, hA⟩
  · rw [show M1 b = M b from (R 0 (by omega)).2, (R 1 (by omega)).1, (R 2 (by omega)).1, (R 3 (by omega)).1]
    exact h0
  · have := (R (100 + i) (by omega)).1
    rwa [← Nat.add_assoc] at this
  · have := (R (200 + i) (by omega)).1
    rwa [← Nat.add_assoc] at this
  · have := (R (300 + i) (by omega)).1
    rwa [← Nat.add_assoc] at this
  · have := (R (100 + j) (by omega)).2
    rw [← Nat.add_assoc] at this
    exact this.trans (h5 j hj)
  · have := (R (200 + j) (by omega)).2
    rw [← Nat.add_assoc] at this
    exact this.trans (h6 j hj)
  · have := (R (300 + j) (by omega)).2
    rw [← Nat.add_assoc] at this
    exact this.trans (h7 j hj)
theorem isGround_reg {g : fG} {ad ad1 : Nat → Nat} {M M1 : fM} {lo hi : Nat} {kf nf sf : Nat → Int32} (h : isGround g ad M kf nf sf) (hr : fReg lo hi ad M ad1 M1) (hb : 5 ≤ lo) : isGround g ad1 M1 kf nf sf := by
  obtain ⟨h0, h1, h2, h3⟩ := h
  have R : ∀ k, k < 5 → ad1 k = ad k ∧ M1 k = M k := fun k hk => hr _ (by omega) (by omega)
  refine ⟨?_, (R 2 (by omega)).2.trans h1, (R 3 (by omega)).2.trans h2, (R 4 (by omega)).2.trans h3⟩
  rw [(R 1 (by omega)).2, (R 2 (by omega)).1, (R 3 (by omega)).1, (R 4 (by omega)).1]
  exact h0
theorem isGround_0 {g : fG} {ad ad1 : Nat → Nat} {M M1 : fM} {kf nf sf : Nat → Int32} (h : isGround g ad M kf nf sf) (hr : fReg 0 1 ad M ad1 M1) : isGround g ad1 M1 kf nf sf := by
  obtain ⟨h0, h1, h2, h3⟩ := h
  have R : ∀ k, 0 < k → k < 5 → ad1 k = ad k ∧ M1 k = M k := fun k h0 hk => hr _ (by omega) (by omega)
  refine ⟨?_, (R 2 (by omega) (by omega)).2.trans h1, (R 3 (by omega) (by omega)).2.trans h2, (R 4 (by omega) (by omega)).2.trans h3⟩
  rw [(R 1 (by omega) (by omega)).2, (R 2 (by omega) (by omega)).1, (R 3 (by omega) (by omega)).1, (R 4 (by omega) (by omega)).1]
  exact h0
/-! one thing more in a town -/
abbrev addH (S : fTn) (f : Nat → Int32) : fTn := (tM S, (tHn S + 1, fun j => if j = tHn S then f else tH S j), (tPn S, tP S), (tEn S, tE S))
abbrev addP (S : fTn) (f : Nat → Int32) : fTn := (tM S, (tHn S, tH S), (tPn S + 1, fun j => if j = tPn S then f else tP S j), (tEn S, tE S))
abbrev addE (S : fTn) (f : Nat → Int32) : fTn := (tM S, (tHn S, tH S), (tPn S, tP S), (tEn S + 1, fun j => if j = tEn S then f else tE S j))
theorem isTown_addH {g : fG} {ad ad1 : Nat → Nat} {M M1 : fM} {b : Nat} {S : fTn} {f : Nat → Int32} (h : isTown g ad M b S) (hn : tHn S < 30) (hL : fList g ad1 M1 (b + 1) (b + 4) (b + 100) (tHn S + 1)) (hv : M1 (b + 100 + tHn S) = some (.inr (3, hV f)))
    (hr : ∀ l, b ≤ l → l < b + 1000 → l ≠ b + 4 → l ≠ b + 100 + tHn S → ad1 l = ad l ∧ (l ≠ b + 1 → M1 l = M l)) : isTown g ad1 M1 b (addH S f) := by
  obtain ⟨h0, h1, h2, h3, h4, h5, h6, n1, n2, n3, hA⟩ := h
  refine ⟨?_, hL, fList_A h2 (hr _ (by omega) (by omega) (by omega) (by omega)).1 (fun i (hi : i < tPn S) => (hr _ (by omega) (by omega) (by omega) (by omega)).1) ((hr _ (by omega) (by omega) (by omega) (by omega)).2 (by omega)) ((hr _ (by omega) (by omega) (by omega) (by omega)).2 (by omega)),
    fList_A h3 (hr _ (by omega) (by omega) (by omega) (by omega)).1 (fun i (hi : i < tEn S) => (hr _ (by omega) (by omega) (by omega) (by omega)).1) ((hr _ (by omega) (by omega) (by omega) (by omega)).2 (by omega)) ((hr _ (by omega) (by omega) (by omega) (by omega)).2 (by omega)),
    fun j hj => ?_, fun j (hj : j < tPn S) => ((hr _ (by omega) (by omega) (by omega) (by omega)).2 (by omega)).trans (h5 j hj), fun j (hj : j < tEn S) => ((hr _ (by omega) (by omega) (by omega) (by omega)).2 (by omega)).trans (h6 j hj), hn, n2, n3, hA⟩
  · rw [(hr b (by omega) (by omega) (by omega) (by omega)).2 (by omega), (hr (b + 1) (by omega) (by omega) (by omega) (by omega)).1, (hr (b + 2) (by omega) (by omega) (by omega) (by omega)).1, (hr (b + 3) (by omega) (by omega) (by omega) (by omega)).1]
    exact h0
  · have hj : j < tHn S + 1 := hj
    show M1 (b + 100 + j) = some (.inr (3, hV (if j = tHn S then f else tH S j)))
    by_cases e : j = tHn S
    · rw [if_pos e, e]; exact hv
    · rw [if_neg e, (hr (b + 100 + j) (by omega) (by omega) (by omega) (by omega)).2 (by omega)]
      exact h4 j (by omega)
theorem isTown_addP {g : fG} {ad ad1 : Nat → Nat} {M M1 : fM} {b : Nat} {S : fTn} {f : Nat → Int32} (h : isTown g ad M b S) (hn : tPn S < 6) (hL : fList g ad1 M1 (b + 2) (b + 5) (b + 200) (tPn S + 1)) (hv : M1 (b + 200 + tPn S) = some (.inr (4, pV f)))
    (hr : ∀ l, b ≤ l → l < b + 1000 → l ≠ b + 5 → l ≠ b + 200 + tPn S → ad1 l = ad l ∧ (l ≠ b + 2 → M1 l = M l)) : isTown g ad1 M1 b (addP S f) := by
  obtain ⟨h0, h1, h2, h3, h4, h5, h6, n1, n2, n3, hA⟩ := h
  refine ⟨?_, fList_A h1 (hr _ (by omega) (by omega) (by omega) (by omega)).1 (fun i (hi : i < tHn S) => (hr _ (by omega) (by omega) (by omega) (by omega)).1) ((hr _ (by omega) (by omega) (by omega) (by omega)).2 (by omega)) ((hr _ (by omega) (by omega) (by omega) (by omega)).2 (by omega)), hL,
    fList_A h3 (hr _ (by omega) (by omega) (by omega) (by omega)).1 (fun i (hi : i < tEn S) => (hr _ (by omega) (by omega) (by omega) (by omega)).1) ((hr _ (by omega) (by omega) (by omega) (by omega)).2 (by omega)) ((hr _ (by omega) (by omega) (by omega) (by omega)).2 (by omega)),
    fun j (hj : j < tHn S) => ((hr _ (by omega) (by omega) (by omega) (by omega)).2 (by omega)).trans (h4 j hj), fun j hj => ?_, fun j (hj : j < tEn S) => ((hr _ (by omega) (by omega) (by omega) (by omega)).2 (by omega)).trans (h6 j hj), n1, hn, n3, hA⟩
  · rw [(hr b (by omega) (by omega) (by omega) (by omega)).2 (by omega), (hr (b + 1) (by omega) (by omega) (by omega) (by omega)).1, (hr (b + 2) (by omega) (by omega) (by omega) (by omega)).1, (hr (b + 3) (by omega) (by omega) (by omega) (by omega)).1]
    exact h0
  · have hj : j < tPn S + 1 := hj
    show M1 (b + 200 + j) = some (.inr (4, pV (if j = tPn S then f else tP S j)))
    by_cases e : j = tPn S
    · rw [if_pos e, e]; exact hv
    · rw [if_neg e, (hr (b + 200 + j) (by omega) (by omega) (by omega) (by omega)).2 (by omega)]
      exact h5 j (by omega)
theorem isTown_addE {g : fG} {ad ad1 : Nat → Nat} {M M1 : fM} {b : Nat} {S : fTn} {f : Nat → Int32} (h : isTown g ad M b S) (hn : tEn S < 6) (hL : fList g ad1 M1 (b + 3) (b + 6) (b + 300) (tEn S + 1)) (hv : M1 (b + 300 + tEn S) = some (.inr (1, eV f))) (ha : f 10 = 0 ∨ f 10 = 1)
    (hr : ∀ l, b ≤ l → l < b + 1000 → l ≠ b + 6 → l ≠ b + 300 + tEn S → ad1 l = ad l ∧ (l ≠ b + 3 → M1 l = M l)) : isTown g ad1 M1 b (addE S f) := by
  obtain ⟨h0, h1, h2, h3, h4, h5, h6, n1, n2, n3, hA⟩ := h
  refine ⟨?_, fList_A h1 (hr _ (by omega) (by omega) (by omega) (by omega)).1 (fun i (hi : i < tHn S) => (hr _ (by omega) (by omega) (by omega) (by omega)).1) ((hr _ (by omega) (by omega) (by omega) (by omega)).2 (by omega)) ((hr _ (by omega) (by omega) (by omega) (by omega)).2 (by omega)),
    fList_A h2 (hr _ (by omega) (by omega) (by omega) (by omega)).1 (fun i (hi : i < tPn S) => (hr _ (by omega) (by omega) (by omega) (by omega)).1) ((hr _ (by omega) (by omega) (by omega) (by omega)).2 (by omega)) ((hr _ (by omega) (by omega) (by omega) (by omega)).2 (by omega)), hL,
    fun j (hj : j < tHn S) => ((hr _ (by omega) (by omega) (by omega) (by omega)).2 (by omega)).trans (h4 j hj), fun j (hj : j < tPn S) => ((hr _ (by omega) (by omega) (by omega) (by omega)).2 (by omega)).trans (h5 j hj), fun j hj => ?_, n1, n2, hn, fun j hj => ?_⟩
  · rw [(hr b (by omega) (by omega) (by omega) (by omega)).2 (by omega), (hr (b + 1) (by omega) (by omega) (by omega) (by omega)).1, (hr (b + 2) (by omega) (by omega) (by omega) (by omega)).1, (hr (b + 3) (by omega) (by omega) (by omega) (by omega)).1]
    exact h0
  · have hj : j < tEn S + 1 := hj
    show M1 (b + 300 + j) = some (.inr (1, eV (if j = tEn S then f else tE S j)))
    by_cases e : j = tEn S
    · rw [if_pos e, e]; exact hv
    · rw [if_neg e, (hr (b + 300 + j) (by omega) (by omega) (by omega) (by omega)).2 (by omega)]
      exact h6 j (by omega)
  · have hj : j < tEn S + 1 := hj
    show (if j = tEn S then f else tE S j) 10 = 0 ∨ (if j = tEn S then f else tE S j) 10 = 1
    by_cases e : j = tEn S
    · rw [if_pos e]; exact ha
    · rw [if_neg e]; exact hA j (by omega)
theorem isTown_cong {g : fG} {ad : Nat → Nat} {M : fM} {b : Nat} {S T : fTn} (h : isTown g ad M b S) (e0 : tM S = tM T) (e1 : tHn S = tHn T) (e2 : tPn S = tPn T) (e3 : tEn S = tEn T) (g1 : ∀ i, i < tHn T → tH S i = tH T i) (g2 : ∀ i, i < tPn T → tP S i = tP T i) (g3 : ∀ i, i < tEn T → tE S i = tE T i) : isTown g ad M b T := by
  obtain ⟨h0, h1, h2, h3, h4, h5, h6, n1, n2, n3, hA⟩ := h
  rw [e0] at h0
  rw [e1] at h1 h4 n1
  rw [e2] at h2 h5 n2
  rw [e3] at h3 h6 n3 hA
  exact ⟨h0, h1, h2, h3, fun i hi => by rw [← g1 i hi]; exact h4 i hi, fun i hi => by rw [← g2 i hi]; exact h5 i hi, fun i hi => by rw [← g3 i hi]; exact h6 i hi, n1, n2, n3, fun i hi => by rw [← g3 i hi]; exact hA i hi⟩
abbrev kH (T S : fTn) (k c : Nat) : fTn := (tM S, (c, fun j => if j < k then tH T j else tH S j), (tPn S, tP S), (tEn S, tE S))
abbrev kP (T S : fTn) (k c : Nat) : fTn := (tM S, (tHn S, tH S), (c, fun j => if j < k then tP T j else tP S j), (tEn S, tE S))
abbrev kE (T S : fTn) (k c : Nat) : fTn := (tM S, (tHn S, tH S), (tPn S, tP S), (c, fun j => if j < k then tE T j else tE S j))
theorem cop_step {F G : Nat → Nat → Int32} {k : Nat} : (fun j => if j = k then F k else (if j < k then F j else G j)) = (fun j => if j < k + 1 then F j else G j) := by
  funext j
  by_cases h : j = k
  · rw [if_pos h, if_pos (by omega), h]
  · by_cases h2 : j < k
    · rw [if_neg h, if_pos h2, if_pos (by omega)]
    · rw [if_neg h, if_neg h2, if_neg (by omega)]
theorem cop_new {F G : Nat → Nat → Int32} {x : Nat → Int32} {k : Nat} : (fun j => if j = k then F k else (if j = k then x else (if j < k then F j else G j))) = (fun j => if j < k + 1 then F j else G j) := by
  rw [← cop_step]
  funext j
  by_cases h : j = k
  · rw [if_pos h, if_pos h]
  · rw [if_neg h, if_neg h, if_neg h]
abbrev fCopy (g : fG) (ad : Nat → Nat) (M : fM) (b : Nat) (T : fTn) : (Nat → Nat) → fM → Prop := fun ad1 M1 => isTown g ad1 M1 b T ∧ fReg b (b + 1000) ad M ad1 M1 ∧ ad1 b = ad b
