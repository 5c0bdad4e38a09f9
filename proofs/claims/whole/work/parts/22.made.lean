/-! WHAT IS MADE -/
/-- only labels in [lo, hi) and the passing one have changed, in place or contents -/
def fReg (lo hi : Nat) (ad : Nat → Nat) (M : fM) (ad1 : Nat → Nat) (M1 : fM) : Prop := ∀ l, ¬ (lo ≤ l ∧ l < hi) → l ≠ 4090 → ad1 l = ad l ∧ M1 l = M l
theorem fReg_rf {lo hi : Nat} {ad : Nat → Nat} {M : fM} : fReg lo hi ad M ad M := fun _ _ _ => ⟨rfl, rfl⟩
theorem fReg_tr {lo hi : Nat} {ad ad1 ad2 : Nat → Nat} {M M1 M2 : fM} (h : fReg lo hi ad M ad1 M1) (h2 : fReg lo hi ad1 M1 ad2 M2) : fReg lo hi ad M ad2 M2 := fun l a b => ⟨(h2 l a b).1.trans (h l a b).1, (h2 l a b).2.trans (h l a b).2⟩
theorem fReg_V {lo hi l q : Nat} {ad ad1 : Nat → Nat} {M M1 : fM} {e : va_E} (h : fReg lo hi ad M ad1 M1) (hl : lo ≤ l ∧ l < hi) : fReg lo hi ad M (fV ad1 l q) (fU M1 l e) := fun k a b => ⟨(fV_n (fun z => a (by rw [z]; exact hl))).trans (h k a b).1, (fU_n (fun z => a (by rw [z]; exact hl))).trans (h k a b).2⟩
theorem fReg_U {lo hi l : Nat} {ad ad1 : Nat → Nat} {M M1 : fM} {e : va_E} (h : fReg lo hi ad M ad1 M1) (hl : lo ≤ l ∧ l < hi) : fReg lo hi ad M ad1 (fU M1 l e) := fun k a b => ⟨(h k a b).1, (fU_n (fun z => a (by rw [z]; exact hl))).trans (h k a b).2⟩
theorem fReg_w {lo hi lo2 hi2 : Nat} {ad ad1 : Nat → Nat} {M M1 : fM} (h : fReg lo hi ad M ad1 M1) (h1 : lo2 ≤ lo) (h2 : hi ≤ hi2) : fReg lo2 hi2 ad M ad1 M1 := fun k a b => h k (fun z => a ⟨Nat.le_trans h1 z.1, Nat.lt_of_lt_of_le z.2 h2⟩) b
theorem fReg_out {b : Nat} {ad : Nat → Nat} {M M1 : fM} (h : fOut b M M1) : fReg b (b + 1000) ad M ad M1 := fun l a _ => ⟨rfl, h l a⟩
abbrev f0 : Nat → Int32 := fun _ => 0
abbrev T0 : fTn := (0, (0, fun _ => f0), (0, fun _ => f0), (0, fun _ => f0))
abbrev fMkG (g : fG) (ad : Nat → Nat) (M : fM) : (Nat → Nat) → fM → Prop := fun ad1 M1 => isGround g ad1 M1 f0 f0 f0 ∧ fReg 1 5 ad M ad1 M1 ∧ ad1 1 = ad 1
abbrev fMkT (g : fG) (ad : Nat → Nat) (M : fM) (b : Nat) : (Nat → Nat) → fM → Prop := fun ad1 M1 => isTown g ad1 M1 b T0 ∧ fReg b (b + 1000) ad M ad1 M1 ∧ ad1 b = ad b
def isFE (ad : Nat → Nat) (M : fM) : Prop := M 0 = some (.inr (6, [.ref (ad 1), .ref (ad 1000), .ref (ad 2000)]))
abbrev fMkF (g : fG) (ad : Nat → Nat) (M : fM) : (Nat → Nat) → fM → Prop := fun ad1 M1 => isFE ad1 M1 ∧ isGround g ad1 M1 f0 f0 f0 ∧ isTown g ad1 M1 1000 T0 ∧ isTown g ad1 M1 2000 T0 ∧ fReg 0 3000 ad M ad1 M1 ∧ ad1 0 = ad 0
theorem isTown_reg {g : fG} {ad ad1 : Nat → Nat} {M M1 : fM} {b lo hi : Nat} {T : fTn} (h : isTown g ad M b T) (hr : fReg lo hi ad M ad1 M1) (hb : b + 1000 ≤ lo ∨ hi ≤ b) (h4 : b ≤ 3000) : isTown g ad1 M1 b T := by
  obtain ⟨h0, h1, h2, h3, h5, h6, h7, n1, n2, n3, hA⟩ := h
  have R : ∀ k, k < 1000 → ad1 (b + k) = ad (b + k) ∧ M1 (b + k) = M (b + k) := fun k hk => hr _ (by omega) (by omega)
  refine ⟨?_, fList_A h1 (R 4 (by omega)).1 (fun i hi => ?_) (R 1 (by omega)).2 (R 4 (by omega)).2, fList_A h2 (R 5 (by omega)).1 (fun i hi => ?_) (R 2 (by omega)).2 (R 5 (by omega)).2, fList_A h3 (R 6 (by omega)).1 (fun i hi => ?_) (R 3 (by omega)).2 (R 6 (by omega)).2, fun j hj => ?_, fun j hj => ?_, fun j hj => ?_, n1, n2, n3, hA⟩
  · rw [show M1 b = M b from (R 0 (by omega)).2, (R 1 (by omega)).1, (R 2 (by omega)).1, (R 3 (by omega)).1]
    exact h0
  · have := (R (100 + i) (by omega)).1
    rwa [← Nat.add_assoc] at this
  · have := (R (200 + i) (by omega)).1
    rwa [← Nat.add_assoc] at this
  · have := (R (300 + i) (by omega)).1
    rwa [← Nat.add_assoc] at this
  · have := (R (100 + j) (by omega)).2
    rw [← Nat.add_assoc] at this
    exact this.trans (h5 j hj)
  · have := (R (200 + j) (by omega)).2
    rw [← Nat.add_assoc] at this
    exact this.trans (h6 j hj)
  · have := (R (300 + j) (by omega)).2
    rw [← Nat.add_assoc] at this
    exact this.trans (h7 j hj)
theorem isGround_reg {g : fG} {ad ad1 : Nat → Nat} {M M1 : fM} {lo hi : Nat} {kf nf sf : Nat → Int32} (h : isGround g ad M kf nf sf) (hr : fReg lo hi ad M ad1 M1) (hb : 5 ≤ lo) : isGround g ad1 M1 kf nf sf := by
  obtain ⟨h0, h1, h2, h3⟩ := h
  have R : ∀ k, k < 5 → ad1 k = ad k ∧ M1 k = M k := fun k hk => hr _ (by omega) (by omega)
  refine ⟨?_, (R 2 (by omega)).2.trans h1, (R 3 (by omega)).2.trans h2, (R 4 (by omega)).2.trans h3⟩
  rw [(R 1 (by omega)).2, (R 2 (by omega)).1, (R 3 (by omega)).1, (R 4 (by omega)).1]
  exact h0
theorem isGround_0 {g : fG} {ad ad1 : Nat → Nat} {M M1 : fM} {kf nf sf : Nat → Int32} (h : isGround g ad M kf nf sf) (hr : fReg 0 1 ad M ad1 M1) : isGround g ad1 M1 kf nf sf := by
  obtain ⟨h0, h1, h2, h3⟩ := h
  have R : ∀ k, 0 < k → k < 5 → ad1 k = ad k ∧ M1 k = M k := fun k h0 hk => hr _ (by omega) (by omega)
  refine ⟨?_, (R 2 (by omega) (by omega)).2.trans h1, (R 3 (by omega) (by omega)).2.trans h2, (R 4 (by omega) (by omega)).2.trans h3⟩
  rw [(R 1 (by omega) (by omega)).2, (R 2 (by omega) (by omega)).1, (R 3 (by omega) (by omega)).1, (R 4 (by omega) (by omega)).1]
  exact h0
