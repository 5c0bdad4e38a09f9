/-! THE MINUTE: what the law asks of it, and the law's town beside the class's -/
def okL (T : fTn) : Prop := (∀ h, h < tHn T → okHo (tH T h)) ∧ (∀ p, p < tPn T → ∃ q, q ≤ 5000 ∧ tP T p 1 = nI q) ∧ (∀ e, e < tEn T → okE (tE T e)) ∧ hsOk T ∧ ∀ j i, j < tEn T → i < tEn T → tE T j 7 = nI i → tE T i 5 = 0
def lawE (f f2 : Nat → Int32) : Prop := f2 3 = iMax 0 (f 3 - 1) ∧ f2 4 = iMax 0 (lSt f - (if 0 < f2 9 then 2 else 0)) ∧ f2 5 = iMax 0 (f 5 - 1) ∧ 0 ≤ f2 9 ∧ f2 9 ≤ lMost f ∧ f2 7 = f 7 ∧ (f 7 < 0 → f2 9 = 0) ∧ (f 5 ≠ 1 → f2 0 = f 0) ∧ f2 1 = f 1 ∧ f2 2 = f 2
def lNear (T T2 : fTn) (c : Int32) : Nat → Int32
  | 0 => 0
  | k + 1 => if tH T k 3 = 1 then (if sNear (tH T k 0) c = true then lNear T T2 c k + tH T2 k 4 else lNear T T2 c k) else lNear T T2 c k
def lawH (T T2 : fTn) (f f2 : Nat → Int32) : Prop := (f2 0 = f 0 ∧ f2 1 = f 1 ∧ f2 6 = f 6 + f2 5 ∧ 0 ≤ f2 5) ∧ ((f2 3 = 3 ↔ f2 2 = 0) ∧ (f2 3 = 1 ↔ 0 < f2 4) ∧ f2 4 ≤ 99) ∧ (1 < f 3 → f2 3 = f 3 ∧ f2 2 = f 2) ∧
  (f 3 = 0 → f2 3 = (if 40 ≤ lNear T T2 (f 0) (tHn T) - f2 5 then 1 else 0) ∧ f2 2 = f 2 ∧ (f2 3 = 1 → f2 4 = 5)) ∧
  (f 3 = 1 → f2 3 = (if lHot (upd f 5 (f2 5)) ≤ 0 then 2 else if lLeft (upd f 5 (f2 5)) = 0 then 3 else 1) ∧ f2 2 = lLeft (upd f 5 (f2 5)) ∧ (f2 3 = 1 → f2 4 = lHot (upd f 5 (f2 5))))
def lCame (T2 : fTn) : Nat → Int32
  | 0 => 0
  | k + 1 => lCame T2 k + tH T2 k 5
def lFresh (T T2 : fTn) : Nat → Int32
  | 0 => 0
  | k + 1 => if tH T k 3 = 0 then lFresh T T2 k + tH T2 k 3 else lFresh T T2 k
def lSuck (T T2 : fTn) : Nat → Int32
  | 0 => 0
  | k + 1 => lSuck T T2 k + (tP T k 1 - tP T2 k 1)
def lGiven (T T2 : fTn) : Nat → Int32
  | 0 => 0
  | k + 1 => if 100 ≤ tE T k 7 then lGiven T T2 k + tE T2 k 9 else lGiven T T2 k
def lawS (T T2 : fTn) (v : Int32) : Prop := lFresh T T2 (tHn T) = v ∧ (∀ p, p < tPn T → 0 ≤ tP T2 p 1 ∧ tP T2 p 1 ≤ tP T p 1) ∧ ¬ lGiven T T2 (tEn T) < lCame T2 (tHn T) ∧ ¬ lSuck T T2 (tPn T) < lCame T2 (tHn T) ∧ ¬ (0 < lGiven T T2 (tEn T) ∧ lCame T2 (tHn T) = 0)
theorem okHo_law {f : Nat → Int32} (h : okHo f) : (f 3 = 3 ↔ f 2 = 0) ∧ (f 3 = 1 ↔ 0 < f 4) ∧ f 4 ≤ 99 ∧ 0 ≤ f 5 := by
  obtain ⟨wd, wl, ht, nw, a1, a2, a3, a4, a5, a6, a7, a8, hs⟩ := h
  have e99 : f 4 ≤ 99 := by rw [a5]; exact nI_le (a := ht) (b := 99) a6 (by omega)
  have e5 : 0 ≤ f 5 := by rw [a7]; exact nI_pos' (by omega)
  have w0 : f 2 = 0 ↔ wl = 0 := by
    rw [a3]
    exact ⟨fun z => nI_eq' (b := 0) z (by omega) (by omega), fun z => by rw [z]; rfl⟩
  have h0 : 0 < f 4 ↔ 0 < ht := by
    rw [a5]
    exact ⟨fun z => nI_lt' (a := 0) (b := ht) z (by omega) (by omega), fun z => nI_lt (a := 0) (b := ht) z (by omega)⟩
  refine ⟨?_, ?_, e99, e5⟩
  · rw [w0]
    rcases hs with ⟨y, e, -⟩ | ⟨y, e, -⟩ | ⟨y, e, -⟩ | ⟨y, e, -⟩ <;> rw [y]
    · exact ⟨fun z => absurd z (by decide), fun z => by omega⟩
    · exact ⟨fun z => absurd z (by decide), fun z => by omega⟩
    · exact ⟨fun z => absurd z (by decide), fun z => by omega⟩
    · exact ⟨fun _ => e, fun _ => rfl⟩
  · rw [h0]
    rcases hs with ⟨y, -, e⟩ | ⟨y, -, e⟩ | ⟨y, -, e⟩ | ⟨y, -, e⟩ <;> rw [y]
    · exact ⟨fun z => absurd z (by decide), fun z => by omega⟩
    · exact ⟨fun _ => e, fun _ => rfl⟩
    · exact ⟨fun z => absurd z (by decide), fun z => by omega⟩
    · exact ⟨fun z => absurd z (by decide), fun z => by omega⟩
theorem clampI {x : Int32} {m : Nat} (h : x = nI m) (hm : m < 2 ^ 31) : x.toNatClampNeg = m ∧ nI x.toNatClampNeg = x := by
  rw [h, nI_clamp hm]
  exact ⟨rfl, rfl⟩
theorem eSim_rf {f : Nat → Int32} : eSim f f := ⟨fun _ _ => rfl, rfl, fun _ => rfl⟩
theorem simT_rf {T : fTn} : simT T T := ⟨⟨rfl, rfl, rfl, rfl⟩, fun _ _ => ⟨rfl, rfl⟩, fun _ _ _ _ => rfl, fun _ _ => ⟨eSim_rf, rfl⟩⟩
theorem sTurns_6 (q : fGs) (h : Nat) : ∀ k, tH (qV (sTurns q k)) h 6 = tH (qV q) h 6 := by
  have one : ∀ (q : fGs) (e : Nat), tH (qV (sTurn q e)) h 6 = tH (qV q) h 6 := fun q e => by
    have z := sVp_n q e
    unfold sTurn
    split
    · rfl
    · split
      · show tH (sVp q e) h 6 = _
        rw [z.2.2.2.2.1]
      · show (if h = (tE (qV q) e 7 - 100).toNatClampNeg then upd (tH (qV q) (tE (qV q) e 7 - 100).toNatClampNeg) 5 _ else tH (sVp q e) h) 6 = _
        by_cases y : h = (tE (qV q) e 7 - 100).toNatClampNeg
        · rw [if_pos y, upd_ne (by omega), ← y]
        · rw [if_neg y, z.2.2.2.2.1]
  intro k
  induction k with
  | zero => rfl
  | succ k ih => exact (one _ _).trans ih
/-- the town ahead of the water, and behind it -/
def mT2 (T : fTn) : fTn := mE eReset (tEn T) (mH hReset (tHn T) (mE eGo (tEn T) T))
def mT3 (T : fTn) : fTn := turnsT (tEn T) (mT2 T)
def mT5 (T : fTn) : fTn := mH hBurn (tHn T) (mE eSpend (tEn T) (mT3 T))
def mMx (T : fTn) : Nat → Nat := fun j => (lMost (tE T j)).toNatClampNeg
def mP0 (T : fTn) : Nat → Nat := fun p => (tP T p 1).toNatClampNeg
section MIN
variable {kf : Nat → Int32} {T : fTn}
theorem t2_E {j : Nat} (hj : j < tEn T) : tE (mT2 T) j = eReset (eGo (tE T j)) := (row_mE (T := mH hReset (tHn T) (mE eGo (tEn T) T)) hj).trans (congrArg eReset (row_mE hj))
theorem t2_H {h : Nat} (hh : h < tHn T) : tH (mT2 T) h = hReset (tH T h) := row_mH (T := mE eGo (tEn T) T) hh
theorem eReset_lt {f : Nat → Int32} {k : Nat} (hk : k < 8) : eReset f k = f k := by unfold eReset; rw [upd_ne (by omega), upd_ne (by omega), upd_ne (by omega)]
theorem t2_S (ho : okT kf T) (hl : okL T) : ntS (mT2 T) (mMx T) (mP0 T) := by
  obtain ⟨-, -, oE, -, -, n1, n2, n3⟩ := ho
  obtain ⟨-, lP, lE, lS, lT⟩ := hl
  refine ⟨fun j (hj : j < tEn T) => ?_, fun j (hj : j < tEn T) => ?_, fun p (hp : p < tPn T) => ?_, n1, n2, n3⟩
  · obtain ⟨c3, c4, c5, c0, c1, c2, c7, cz, -⟩ := eGo_c (lE j hj) (oE j hj)
    rw [t2_E hj, eReset_lt (by omega), eReset_lt (by omega), c7]
    rcases lS j hj with z | ⟨i, L, a, b, c, d, e⟩ | ⟨i, L, a, c, d, e⟩
    · exact Or.inl z
    · refine Or.inr (Or.inl ⟨i, L, a, b, c, ?_, e⟩)
      have hj5 := (lE j hj).2.2 (by rw [c]; exact nI_m1 (by omega))
      have hi5 := lT j i hj a c
      rw [t2_E a, eReset_lt (by omega), (cz hj5).1, ((eGo_c (lE i a) (oE i a)).2.2.2.2.2.2.2.1 hi5).1]
      exact d
    · refine Or.inr (Or.inr ⟨i, L, a, c, ?_, e⟩)
      have hj5 := (lE j hj).2.2 (by rw [c]; exact nI_m1 (by omega))
      rw [t2_H a, (cz hj5).1, show hReset (tH T i) 0 = tH T i 0 from upd_ne (by omega)]
      exact d
  · rw [t2_E hj, ePump_cong (eReset_lt (f := eGo (tE T j)) (by omega)) (eReset_lt (by omega)) (eReset_lt (by omega)), pump_most (lE j hj) (oE j hj)]
    obtain ⟨m, hm, em⟩ := ePump_nI (okE_go (lE j hj) (oE j hj))
    rw [pump_most (lE j hj) (oE j hj)] at em
    obtain ⟨x1, x2⟩ := clampI em (by omega)
    exact ⟨x2.symm, by show (lMost (tE T j)).toNatClampNeg ≤ 100; omega⟩
  · obtain ⟨q, hq, eq⟩ := lP p hp
    show (tP T p 1).toNatClampNeg ≤ 5000
    rw [(clampI eq (by omega)).1]
    exact hq
theorem t2_I (hl : okL T) : ntI (mT2 T) (mMx T) (mP0 T) 0 (fun _ => 0) (fun _ => 0) (mP0 T) (fun _ => 0) := by
  have e0 : ∀ n, sumN (fun _ => 0) n = 0 := fun n => sumN_0 (fun _ _ => rfl)
  have e1 : ∀ n, sumN (uN (mT2 T) (fun _ => 0)) n = 0 := fun n => sumN_0 (fun _ _ => by unfold uN; split <;> rfl)
  have e2 : ∀ n, sumN (gvN (mT2 T) (fun _ => 0)) n = 0 := fun n => sumN_0 (fun _ _ => by unfold gvN; split <;> rfl)
  refine ⟨⟨fun j (hj : j < tEn T) => ?_, fun h (hh : h < tHn T) => ?_, fun p (hp : p < tPn T) => ?_, fun j (hj : j < tEn T) => ?_⟩, ⟨fun _ _ => Nat.zero_le _, fun _ _ => Nat.zero_le _, fun _ _ => Nat.le_refl _, fun _ _ => Nat.zero_le _⟩, ?_, ?_, ?_, fun _ _ _ => rfl⟩
  · rw [t2_E hj]; rfl
  · rw [t2_H hh]; rfl
  · obtain ⟨q, hq, eq⟩ := hl.2.1 p hp
    exact (clampI eq (by omega)).2.symm
  · rw [t2_E hj]; rfl
  · rw [e0, e1, Nat.zero_add]; exact Nat.le_refl _
  · rw [e0]; exact Nat.zero_le _
  · rw [e2]; exact fun z => absurd z (Nat.lt_irrefl _)
theorem t2_c (ho : okT kf T) : clOk (mT2 T) := by
  obtain ⟨-, oP, oE, -⟩ := ho
  refine ⟨fun p (hp : p < tPn T) => (oP p hp).1, fun e (he : e < tEn T) => ?_⟩
  have g := (go_row eSim_rf (oE e he)).2.1
  rw [t2_E he, eReset_lt (by omega), eReset_lt (by omega)]
  obtain ⟨⟨c, c1, c2, -⟩, -, -, d⟩ := g
  refine ⟨⟨c, c1, c2⟩, ?_⟩
  rcases d with ⟨z, -⟩ | ⟨z, -⟩
  · rw [z]; decide
  · exact Int32.le_of_lt z
theorem t2_R {rk : Nat → Nat} (h : okH T rk) : okH (mT2 T) rk := okH_of h rfl (fun j hj => by rw [t2_E hj, eReset_lt (by omega)]; exact eGo_7)
theorem t2_rel {U : fTn} (s : simT U T) (ho : okT kf T) (hl : okL T) : relQ (q0 (sU1 U)) (mT2 T) := by
  obtain ⟨⟨n0, n1, n2, n3⟩, sP, sH, sE⟩ := s
  obtain ⟨-, -, oE, -⟩ := ho
  refine ⟨⟨n0, n1, n2, n3⟩, sP, fun h (hh : h < tHn T) => ?_, fun e (he : e < tEn T) => ?_⟩
  · show wH (tH (mH hReset (tHn U) (mE sGo (tEn U) U)) h) (tH (mT2 T) h)
    rw [t2_H hh, row_mH (T := mE sGo (tEn U) U) (by omega)]
    refine ⟨fun k hk => upd_cong (n := 7) (sH h hh) k (by omega), ?_⟩
    show upd (tH T h) 5 0 6 = upd (tH U h) 5 0 6 + upd (tH U h) 5 0 5
    rw [upd_ne (by omega), upd_ne (by omega), upd_at, Int32.add_zero]
    exact (sH h hh 6 (by omega)).symm
  · obtain ⟨a, b⟩ := sE e he
    have g := go_row a (oE e he)
    have m : sGo (tE U e) = mDrive (mFire (tE U e)) := sGo_m (by rw [a.1 3 (by omega)]; exact (oE e he).2.1.1) (by rw [a.1 4 (by omega)]; exact (hl.2.2.1 e he).1)
    refine ⟨?_, ?_, ?_, ?_⟩
    · show eSim (tE (mH hReset (tHn U) (mE sGo (tEn U) U)) e) (tE (mT2 T) e)
      rw [t2_E he, show tE (mH hReset (tHn U) (mE sGo (tEn U) U)) e = sGo (tE U e) from row_mE (by omega), m]
      exact eSim_fr g.1 (fun k hk => eReset_lt hk)
    · rw [t2_E he]; rfl
    · rw [t2_E he]; rfl
    · rw [t2_E he]; rfl
theorem t3_rel {U : fTn} (s : simT U T) (ho : okT kf T) (hl : okL T) : relQ (sQ U) (mT3 T) ∧ sgOk (sU1 U) := by
  obtain ⟨rk, hR⟩ := ho.2.2.2.2.1
  have n3 : tEn U = tEn T := s.1.2.2.2
  have n1 : tHn U = tHn T := s.1.2.1
  have A := turns_rel (t2_rel s ho hl) (t2_I hl) (t2_S ho hl) (t2_c ho) (t2_R hR) (fun j (hj : j < tEn T) => by rw [t2_E hj]; rfl)
  refine ⟨by have := (A (tEn T) (Nat.le_refl _)).1; unfold sQ mT3; rw [n3]; exact this, fun j (hj : j < tEn U) => ?_, fun k (hk : k < tEn U) => ?_⟩
  · have e7 : tE (sU1 U) j 7 = tE T j 7 := by
      have := (t2_rel s ho hl).2.2.2 j (show j < tEn T by omega)
      rw [t2_E (by omega)] at this
      exact this.1.2.1.trans ((eReset_lt (by omega)).trans eGo_7)
    rw [e7]
    rcases hl.2.2.2.1 j (by omega) with z | ⟨i, L, a, b, c, -⟩ | ⟨i, L, a, c, -⟩
    · rw [z]; exact Or.inl (by decide)
    · exact Or.inr (Or.inl ⟨i, by show i < tEn U; omega, c⟩)
    · exact Or.inr (Or.inr ⟨i, by show i < tHn U; omega, c⟩)
  · obtain ⟨e, he, z⟩ := (A k (by show k ≤ tEn T; omega)).2 (by show k < tEn T; omega)
    have he : e < tEn T := he
    exact ⟨e, by show e < tEn U; omega, z⟩
/-- the rows behind the water -/
theorem t3_n : tHn (mT3 T) = tHn T ∧ tPn (mT3 T) = tPn T ∧ tEn (mT3 T) = tEn T ∧ tM (mT3 T) = tM T := turnsT_n (tEn T) (mT2 T)
theorem t3_E {j k : Nat} (hj : j < tEn T) (hk : k < 8) : tE (mT3 T) j k = eGo (tE T j) k := ((turnsT_fr (tEn T) (mT2 T)).2.2.2 j k hk).trans (by rw [t2_E hj]; exact eReset_lt hk)
theorem t3_H {h k : Nat} (hh : h < tHn T) (h5 : k ≠ 5) (h6 : k ≠ 6) : tH (mT3 T) h k = tH T h k := ((turnsT_fr (tEn T) (mT2 T)).2.1 h k h5 h6).trans (by rw [t2_H hh]; exact upd_ne h5)
theorem t3_6 {h : Nat} (ho : okT kf T) (hl : okL T) (hh : h < tHn T) : tH (mT3 T) h 6 = tH T h 6 + tH (mT3 T) h 5 := by
  obtain ⟨a, b⟩ := (t3_rel simT_rf ho hl).1.2.2.1 h (by rw [t3_n.1]; exact hh)
  rw [b, a 5 (by omega)]
  congr 1
  refine (sTurns_6 (q0 (sU1 T)) h (tEn T)).trans ?_
  show tH (mH hReset (tHn T) (mE sGo (tEn T) T)) h 6 = _
  rw [row_mH (T := mE sGo (tEn T) T) hh]
  exact upd_ne (by omega)
end MIN
