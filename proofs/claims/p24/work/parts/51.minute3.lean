/-! THE MINUTE: sums; what stays; the law's town -/
section MIN3
variable {kf : Nat → Int32} {T : fTn}
theorem min_S (ho : okT kf T) (hl : okL T) : lawS T (minT T).1 (minT T).2 := by
  have h6 : tEn T ≤ 6 := ho.2.2.2.2.2.2.2
  have h30 : tHn T ≤ 30 := ho.2.2.2.2.2.1
  have h5 : tPn T ≤ 6 := ho.2.2.2.2.2.2.1
  obtain ⟨c, w, q, v, ⟨⟨-, w5, wp, w9⟩, ⟨-, -, bq, bv⟩, s1, s2, s3, s4⟩, hw⟩ := t3_nt ho hl
  have n3 := t3_n (T := T)
  rw [n3.1] at w5 s1 s2 s3
  rw [n3.2.1] at wp bq s1
  rw [n3.2.2.1] at w9 bv s1 s2 s3
  obtain ⟨f1, f2, f3, f4, -⟩ := min_form ho hl
  have p0 : ∀ p, p < tPn T → tP T p 1 = nI (mP0 T p) ∧ mP0 T p ≤ 5000 := fun p hp => by
    obtain ⟨x, hx, ex⟩ := hl.2.1 p hp
    have z := clampI ex (by omega)
    exact ⟨z.2.symm, by show (tP T p 1).toNatClampNeg ≤ 5000; rw [z.1]; exact hx⟩
  have mxb : ∀ j, j < tEn T → mMx T j ≤ 100 := fun j hj => ((t2_S ho hl).2.1 j hj).2
  have C : ∀ m, m ≤ tHn T → lCame (minT T).1 m = nI (sumN w m) := by
    intro m
    induction m with
    | zero => intro _; rfl
    | succ m ih =>
      intro hm
      unfold lCame sumN
      rw [ih (by omega), (min_5 ho hl hm).1, w5 m hm, nI_add]
  have F : ∀ m, m ≤ tHn T → lFresh T (minT T).1 m = litN (mT5 T) m := by
    intro m
    induction m with
    | zero => intro _; rfl
    | succ m ih =>
      intro hm
      unfold lFresh litN
      rw [ih (by omega)]
      by_cases z : tH T m 3 = 0
      · have e3 : tH (mT5 T) m 3 = 0 := by
          rw [t5_H hm, (burn_c (t3_all ho hl m hm)).2.1 (by rw [t3_H hm (by omega) (by omega), z]; decide), t3_H hm (by omega) (by omega)]; exact z
        rw [if_pos z, f1 m hm]
        by_cases y : catBT (mT5 T) m = true
        · rw [if_pos y, if_pos y]; rfl
        · rw [if_neg y, if_neg y, e3, Int32.add_zero]
      · rw [if_neg z, if_neg (fun y => t5_state ho hl hm z (cat_0 y))]
  have G : ∀ m, m ≤ tEn T → lGiven T (minT T).1 m = nI (sumN (gvN (mT3 T) v) m) := by
    intro m
    induction m with
    | zero => intro _; rfl
    | succ m ih =>
      intro hm
      have e7 : tE (mT3 T) m 7 = tE T m 7 := (t3_E hm (by omega)).trans eGo_7
      have e9 : tE (minT T).1 m 9 = nI (v m) := by rw [f3 m hm, spend_c.1 9 (by omega)]; exact w9 m hm
      unfold lGiven sumN
      rw [ih (by omega), e9]
      unfold gvN
      rw [e7]
      by_cases z : (100 : Int32) ≤ tE T m 7
      · rw [if_pos z, if_pos z, nI_add]
      · rw [if_neg z, if_neg z, Nat.add_zero]
  have pq : ∀ p, p < tPn T → tP (minT T).1 p 1 = nI (q p) := fun p hp => by rw [f4]; exact wp p hp
  have S : ∀ m, m ≤ tPn T → lSuck T (minT T).1 m = nI (sumN (fun p => mP0 T p - q p) m) := by
    intro m
    induction m with
    | zero => intro _; rfl
    | succ m ih =>
      intro hm
      unfold lSuck sumN
      rw [ih (by omega), (p0 m hm).1, pq m hm, pk_sub (bq m hm), nI_add]
  have SQ : ∀ m, m ≤ tPn T → sumN (fun p => mP0 T p - q p) m + sumN q m = sumN (mP0 T) m := by
    intro m
    induction m with
    | zero => intro _; rfl
    | succ m ih =>
      intro hm
      have := ih (by omega)
      have b := bq m hm
      unfold sumN
      show sumN (fun p => mP0 T p - q p) m + (mP0 T m - q m) + (sumN q m + q m) = _
      omega
  have b1 : sumN w (tHn T) ≤ tHn T * 600 := sumN_bd (fun i hi => hw i hi)
  have b2 : sumN (gvN (mT3 T) v) (tEn T) ≤ tEn T * 100 := sumN_bd (fun i hi => by
    have x := bv i hi
    have y := mxb i hi
    unfold gvN
    split <;> omega)
  have b3 : sumN (fun p => mP0 T p - q p) (tPn T) ≤ tPn T * 5000 := sumN_bd (fun i hi => by have := (p0 i hi).2; show mP0 T i - q i ≤ 5000; omega)
  have sq := SQ (tPn T) (Nat.le_refl _)
  rw [show lawS T (minT T).1 (minT T).2 = (lFresh T (minT T).1 (tHn T) = (minT T).2 ∧ (∀ p, p < tPn T → 0 ≤ tP (minT T).1 p 1 ∧ tP (minT T).1 p 1 ≤ tP T p 1) ∧ ¬ lGiven T (minT T).1 (tEn T) < lCame (minT T).1 (tHn T) ∧ ¬ lSuck T (minT T).1 (tPn T) < lCame (minT T).1 (tHn T) ∧ ¬ (0 < lGiven T (minT T).1 (tEn T) ∧ lCame (minT T).1 (tHn T) = 0)) from rfl, C _ (Nat.le_refl _), F _ (Nat.le_refl _), G _ (Nat.le_refl _), S _ (Nat.le_refl _)]
  have wb : sumN w (tHn T) < 2 ^ 31 := by omega
  have gb : sumN (gvN (mT3 T) v) (tEn T) < 2 ^ 31 := by omega
  have sb : sumN (fun p => mP0 T p - q p) (tPn T) < 2 ^ 31 := by omega
  refine ⟨f2.symm, fun p hp => ?_, fun z => ?_, fun z => ?_, fun z => ?_⟩
  · rw [pq p hp, (p0 p hp).1]
    have := (p0 p hp).2
    have := bq p hp
    exact ⟨nI_pos' (by omega), nI_le (bq p hp) (by omega)⟩
  · have := nI_lt' z gb wb; omega
  · have := nI_lt' z sb wb; omega
  · have x := nI_lt' (a := 0) z.1 (by omega) gb
    have y := nI_eq' (b := 0) z.2 wb (by omega)
    have := s3 x
    omega
theorem min_ok (ho : okT kf T) (hl : okL T) : okT kf (minT T).1 ∧ okL (minT T).1 := by
  obtain ⟨f1, f2, f3, f4, n1, n2, n3, -⟩ := min_form ho hl
  have h30 : tHn T ≤ 30 := ho.2.2.2.2.2.1
  have h6 : tEn T ≤ 6 := ho.2.2.2.2.2.2.2
  obtain ⟨c, w, q, v, ⟨⟨-, w5, wp, w9⟩, ⟨-, -, bq, bv⟩, -⟩, hw⟩ := t3_nt ho hl
  rw [t3_n.2.1] at wp bq
  refine ⟨(min_same simT_rf ho).2.1, fun h hh => min_okHo ho hl h (by omega), fun p hp => ?_, fun e he => (min_E ho hl (by omega)).2, fun j hj => ?_, fun j i hj hi h7 => ?_⟩
  · rw [n2] at hp
    obtain ⟨x, hx, ex⟩ := hl.2.1 p hp
    have z := clampI ex (by omega)
    refine ⟨q p, ?_, by rw [f4]; exact wp p hp⟩
    have a := bq p hp
    have b : mP0 T p ≤ 5000 := by show (tP T p 1).toNatClampNeg ≤ 5000; rw [z.1]; exact hx
    omega
  · rw [n3] at hj
    obtain ⟨⟨-, -, -, -, -, a7, -, a0, -⟩, -⟩ := min_E ho hl hj
    rw [a7, n3, n1]
    rcases hl.2.2.2.1 j hj with y | ⟨i, L, a, b, y, d, g⟩ | ⟨i, L, a, y, d, g⟩
    · exact Or.inl y
    · have z5 := (hl.2.2.1 j hj).2.2 (by rw [y]; exact nI_m1 (by omega))
      have zi := hl.2.2.2.2 j i hj a y
      obtain ⟨⟨-, -, -, -, -, -, -, b0, -⟩, -⟩ := min_E ho hl a
      exact Or.inr (Or.inl ⟨i, L, a, b, y, by rw [a0 (by rw [z5]; decide), b0 (by rw [zi]; decide)]; exact d, g⟩)
    · have z5 := (hl.2.2.1 j hj).2.2 (by rw [y]; exact nI_m1 (by omega))
      exact Or.inr (Or.inr ⟨i, L, a, y, by rw [a0 (by rw [z5]; decide), (min_5 ho hl a).2.2.1]; exact d, g⟩)
  · rw [n3] at hj hi
    obtain ⟨⟨-, -, -, -, -, a7, -⟩, -⟩ := min_E ho hl hj
    obtain ⟨⟨-, -, b5, -⟩, -⟩ := min_E ho hl hi
    rw [a7] at h7
    rw [b5, hl.2.2.2.2 j i hj hi h7]
    rfl
theorem heat_nI (hH : ∀ h, h < tHn T → okHo (tH T h)) (c : Int32) : ∀ m, m ≤ tHn T → ∃ x, x ≤ 99 * m ∧ heatN (tH T) c m = nI x := by
  intro m
  induction m with
  | zero => intro _; exact ⟨0, Nat.le_refl _, rfl⟩
  | succ m ih =>
    intro hm
    obtain ⟨x, hx, ex⟩ := ih (by omega)
    obtain ⟨wd, wl, ht, nw, -, -, -, -, h4, hl4, -⟩ := hH m hm
    unfold heatN
    rw [ex]
    split
    · split
      · exact ⟨x + ht, by omega, by rw [h4, nI_add]⟩
      · exact ⟨x, by omega, rfl⟩
    · exact ⟨x, by omega, rfl⟩
theorem sHeat_same {f f2 : Nat → Nat → Int32} {c n : Nat} (hc : c < 140) : ∀ m, m ≤ n → (∀ j, j < n → (∀ k, k < 7 → f j k = f2 j k) ∧ isC0 (f2 j 0)) → sHeat f (nI c) m = heatN f2 (nI c) m := by
  intro m
  induction m with
  | zero => intro _ _; rfl
  | succ m ih =>
    intro hm h
    obtain ⟨a, d, hd, e⟩ := h m (by omega)
    unfold sHeat heatN
    rw [ih (by omega) h, a 3 (by omega), a 0 (by omega), a 4 (by omega), e, sNear_same hd hc]
    split
    · split
      · rfl
      · exact Int32.add_zero _
    · exact Int32.add_zero _
theorem min_sim {U : fTn} (s : simT U T) (ho : okT kf T) (hl : okL T) : sgOk (sU1 U) ∧ simT (sMin U).1 (minT T).1 ∧ (sMin U).2 = (minT T).2 := by
  obtain ⟨⟨⟨r0, r1, r2, r3⟩, rP, rH, rE⟩, hsg⟩ := t3_rel s ho hl
  obtain ⟨⟨n0, n1, n2, n3⟩, -⟩ := s
  obtain ⟨f1, f2, f3, f4, m1, m2, m3, m4⟩ := min_form ho hl
  have t3 := t3_n (T := T)
  rw [t3.1] at rH
  rw [t3.2.2.1] at rE
  have h30 : tHn T ≤ 30 := ho.2.2.2.2.2.1
  have u4H : ∀ h, h < tHn T → ∀ k, k < 7 → tH (sU4 U) h k = tH (mT5 T) h k := fun h hh k hk => by
    obtain ⟨a, b⟩ := rH h hh
    rw [t5_H hh, show tH (sU4 U) h = sBr (tH (qV (sQ U)) h) from row_mH (T := sU3 U) (by omega)]
    refine burn_cong (fun j hj => ?_) k hk
    show upd (tH (qV (sQ U)) h) 6 (tH (qV (sQ U)) h 6 + tH (qV (sQ U)) h 5) j = _
    by_cases z : j = 6
    · rw [z, upd_at, b]
    · rw [upd_ne z]; exact a j (by omega)
  have nU : tHn (sU4 U) = tHn T := r1.trans t3.1
  have cB : ∀ h, h < tHn T → sCat (sU4 U) h = catBT (mT5 T) h := fun h hh => by
    obtain ⟨c, hc, ec⟩ := isC_hc ho hh
    obtain ⟨x, hx, ex⟩ := heat_nI (T := mT5 T) (fun j hj => t5_all ho hl j (by rw [t5_n] at hj; exact hj)) (nI c) (tHn T) (by rw [t5_n]; exact Nat.le_refl _)
    obtain ⟨wd, wl, ht, nw, -, -, -, -, -, -, g5, g6, -⟩ := t5_all ho hl h hh
    have e0 : tH (mT5 T) h 0 = nI c := (t5_0 ho hl hh).trans ec
    unfold sCat catBT
    rw [u4H h hh 3 (by omega), u4H h hh 5 (by omega), u4H h hh 0 (by omega), nU, t5_n, e0, sHeat_same hc (tHn T) (Nat.le_refl _) (fun j hj => ⟨fun k hk => u4H j hj k hk, by rw [t5_0 ho hl hj]; exact (ho.1 j hj).1⟩), ex, g5]
    congr 1
    apply decide_eq_decide.mpr
    rw [show nI nw + 40 = nI (nw + 40) from nI_add nw 40, sw_le, sw_lt, toInt_nI (by omega), toInt_nI (by omega), pk_sub_toInt (by omega) (by omega), show (40 : Int32).toInt = 40 from rfl]
    omega
  refine ⟨hsg, ⟨⟨?_, ?_, ?_, ?_⟩, fun p hp => ?_, fun h hh k hk => ?_, fun e he => ?_⟩, ?_⟩
  · show tM U + 1 = _
    rw [m4, n0]
  · rw [m1]; exact nU
  · rw [m2]; exact r2.trans t3.2.1
  · rw [m3]; exact r3.trans t3.2.2.1
  · rw [f4]; exact rP p (by rw [t3.2.1, ← m2]; exact hp)
  · rw [m1] at hh
    rw [f1 h hh]
    show tH (mHi (sCatH (sU4 U)) (tHn U) (sU4 U)) h k = _
    rw [show tH (mHi (sCatH (sU4 U)) (tHn U) (sU4 U)) h = sCatH (sU4 U) h (tH (sU4 U) h) from if_pos (by omega)]
    unfold sCatH
    rw [cB h hh]
    split
    · exact upd_cong (upd_cong (u4H h hh)) k hk
    · exact u4H h hh k hk
  · rw [m3] at he
    obtain ⟨a, -, -, a9⟩ := rE e he
    rw [f3 e he]
    show eSim (tE (sU3 U) e) _ ∧ tE (sU3 U) e 9 = _
    rw [show tE (sU3 U) e = sSp (qG (sQ U)) e (tE (qV (sQ U)) e) from if_pos (by omega)]
    unfold sSp eSpend
    rw [a9]
    by_cases z : tE (mT3 T) e 9 ≤ 0
    · rw [if_pos z, if_pos z]
      exact ⟨eSim_u a (by omega), upd_at⟩
    · rw [if_neg z, if_neg z, a.1 4 (by omega)]
      refine ⟨⟨fun k hk => ?_, ?_, fun y => ?_⟩, ?_⟩
      · by_cases x : k = 4
        · rw [x, upd_at, upd_at]
        · rw [upd_ne x, upd_ne x, upd_ne (by omega)]; exact a.1 k hk
      · rw [upd_ne (by omega), upd_ne (by omega), upd_ne (by omega)]; exact a.2.1
      · rw [upd_ne (by omega)] at y
        rw [upd_ne (by omega), upd_ne (by omega), upd_ne (by omega)]; exact a.2.2 y
      · rw [upd_ne (by omega), upd_at, upd_ne (by omega)]
  · show sCatN (sU4 U) (tHn U) = _
    rw [f2, n1]
    have : ∀ m, m ≤ tHn T → sCatN (sU4 U) m = litN (mT5 T) m := by
      intro m
      induction m with
      | zero => intro _; rfl
      | succ m ih => intro hm; unfold sCatN litN; rw [cB m hm, ih (by omega)]
    exact this (tHn T) (Nat.le_refl _)
end MIN3
