/-! THE MINUTE, its end: fire, catching fire -/
section MIN2
variable {kf : Nat → Int32} {T : fTn}
theorem t5_H {h : Nat} (hh : h < tHn T) : tH (mT5 T) h = hBurn (tH (mT3 T) h) := row_mH (T := mE eSpend (tEn T) (mT3 T)) hh
theorem t5_n : tHn (mT5 T) = tHn T := t3_n.1
/-- the natural numbers behind the water -/
theorem t3_nt (ho : okT kf T) (hl : okL T) : ∃ c w q v, ntI (mT3 T) (mMx T) (mP0 T) (tEn T) c w q v ∧ ∀ h, h < tHn T → w h ≤ 600 := by
  have h6 : tEn T ≤ 6 := ho.2.2.2.2.2.2.2
  obtain ⟨⟨c, w, q, v, hI⟩, -⟩ := turns_nt (t2_I hl) (t2_S ho hl) (tEn T) (by omega)
  refine ⟨c, w, q, v, hI, fun h hh => ?_⟩
  have := hI.2.1.2.1 h (by show h < tHn (mT3 T); rw [t3_n.1]; exact hh)
  omega
theorem t3_ho {h w : Nat} (hl : okL T) (hh : h < tHn T) (h5 : tH (mT3 T) h 5 = nI w) (hw : w ≤ 900) : okHo (tH (mT3 T) h) :=
  okHo_cg (hl.1 h hh) (t3_H hh (by omega) (by omega)) (t3_H hh (by omega) (by omega)) (t3_H hh (by omega) (by omega)) (t3_H hh (by omega) (by omega)) h5 hw
theorem t3_all (ho : okT kf T) (hl : okL T) : ∀ h, h < tHn T → okHo (tH (mT3 T) h) := fun h hh => by
  obtain ⟨c, w, q, v, hI, hw⟩ := t3_nt ho hl
  exact t3_ho hl hh (hI.1.2.1 h (by rw [t3_n.1]; exact hh)) (by have := hw h hh; omega)
theorem t5_all (ho : okT kf T) (hl : okL T) : ∀ h, h < tHn T → okHo (tH (mT5 T) h) := fun h hh => by rw [t5_H hh]; exact (burn_c (t3_all ho hl h hh)).1
/-- the town behind the minute, by its rows -/
theorem min_form (ho : okT kf T) (hl : okL T) : (∀ h, h < tHn T → tH (minT T).1 h = if catBT (mT5 T) h = true then upd (upd (tH (mT5 T) h) 3 1) 4 5 else tH (mT5 T) h) ∧ (minT T).2 = litN (mT5 T) (tHn T) ∧ (∀ e, e < tEn T → tE (minT T).1 e = eSpend (tE (mT3 T) e)) ∧ tP (minT T).1 = tP (mT3 T) ∧ tHn (minT T).1 = tHn T ∧ tPn (minT T).1 = tPn T ∧ tEn (minT T).1 = tEn T ∧ tM (minT T).1 = tM T + 1 := by
  have e5 : mH hBurn (tHn T) (moveT (mE eGo (tEn T) T)) = mT5 T := rfl
  have n5 : tHn (mT5 T) = tHn T := t5_n
  have cc := catch1_eq (S := mT5 T) (fun j hj => okHo_3 (t5_all ho hl j (by omega))) (tHn (mT5 T)) (Nat.le_refl _)
  have em : minT T = (sM (mH hCatch (tHn (mT5 T)) (mHi (litF (mT5 T)) (tHn (mT5 T)) (mT5 T))) (tM T + 1), litN (mT5 T) (tHn (mT5 T))) := by
    unfold minT catchT
    rw [e5, cc]
  rw [em, n5]
  refine ⟨fun h hh => ?_, rfl, fun e he => ?_, rfl, rfl, t3_n.2.1, t3_n.2.2.1, rfl⟩
  · show tH (mH hCatch (tHn T) (mHi (litF (mT5 T)) (tHn T) (mT5 T))) h = _
    rw [row_mH hh, show tH (mHi (litF (mT5 T)) (tHn T) (mT5 T)) h = litF (mT5 T) h (tH (mT5 T) h) from if_pos hh]
    exact (lit_c rfl (t5_all ho hl h hh)).2.1
  · show tE (mE eSpend (tEn T) (mT3 T)) e = _
    exact row_mE he
theorem cat_0 {h : Nat} (hc : catBT (mT5 T) h = true) : tH (mT5 T) h 3 = 0 := by
  unfold catBT at hc
  simp only [Bool.and_eq_true, decide_eq_true_eq] at hc
  exact hc.1
/-- what a house that was no whole one does behind the fire -/
theorem t5_state (ho : okT kf T) (hl : okL T) {h : Nat} (hh : h < tHn T) (h3 : tH T h 3 ≠ 0) : tH (mT5 T) h 3 ≠ 0 := by
  have b := burn_c (t3_all ho hl h hh)
  have e3 : tH (mT3 T) h 3 = tH T h 3 := t3_H hh (by omega) (by omega)
  rw [t5_H hh]
  by_cases q : tH (mT3 T) h 3 = 1
  · rw [(b.2.2.1 q).1]
    split
    · decide
    · split <;> decide
  · rw [b.2.1 q, e3]; exact h3
theorem min_5 (ho : okT kf T) (hl : okL T) {h : Nat} (hh : h < tHn T) : tH (minT T).1 h 5 = tH (mT3 T) h 5 ∧ tH (minT T).1 h 6 = tH (mT3 T) h 6 ∧ tH (minT T).1 h 0 = tH T h 0 ∧ tH (minT T).1 h 1 = tH T h 1 := by
  have b := burn_c (t3_all ho hl h hh)
  have key : ∀ k, k ≠ 3 → k ≠ 4 → tH (minT T).1 h k = tH (mT5 T) h k := fun k a c => by
    rw [(min_form ho hl).1 h hh]
    split
    · rw [upd_ne c, upd_ne a]
    · rfl
  rw [key 5 (by omega) (by omega), key 6 (by omega) (by omega), key 0 (by omega) (by omega), key 1 (by omega) (by omega), t5_H hh, b.2.2.2.1, b.2.2.2.2.1, b.2.2.2.2.2.1, b.2.2.2.2.2.2]
  exact ⟨rfl, rfl, t3_H hh (by omega) (by omega), t3_H hh (by omega) (by omega)⟩
theorem isC_hc (ho : okT kf T) {h : Nat} (hh : h < tHn T) : ∃ c, c < 140 ∧ tH T h 0 = nI c := (ho.1 h hh).1
theorem t5_0 (ho : okT kf T) (hl : okL T) {h : Nat} (hh : h < tHn T) : tH (mT5 T) h 0 = tH T h 0 := by
  rw [t5_H hh, (burn_c (t3_all ho hl h hh)).2.2.2.1]; exact t3_H hh (by omega) (by omega)
theorem near_eq (ho : okT kf T) (hl : okL T) {c : Nat} (hc : c < 140) : ∀ m, m ≤ tHn T → lNear T (minT T).1 (nI c) m = heatN (tH (mT5 T)) (nI c) m := by
  intro m
  induction m with
  | zero => intro _; rfl
  | succ m ih =>
    intro hm
    have hh : m < tHn T := hm
    obtain ⟨d, hd, ed⟩ := isC_hc ho hh
    have b := burn_c (t3_all ho hl m hh)
    have e3 : tH (mT3 T) m 3 = tH T m 3 := t3_H hh (by omega) (by omega)
    have a5 := t5_all ho hl m hh
    show (if tH T m 3 = 1 then (if sNear (tH T m 0) (nI c) = true then lNear T (minT T).1 (nI c) m + tH (minT T).1 m 4 else lNear T (minT T).1 (nI c) m) else lNear T (minT T).1 (nI c) m) = (if tH (mT5 T) m 3 = 1 then (if aNear (tH (mT5 T) m 0) (nI c) = true then heatN (tH (mT5 T)) (nI c) m + tH (mT5 T) m 4 else heatN (tH (mT5 T)) (nI c) m) else heatN (tH (mT5 T)) (nI c) m)
    rw [ih (by omega), t5_0 ho hl hh, ed, sNear_same hd hc]
    by_cases q : tH T m 3 = 1
    · have nl : ¬ catBT (mT5 T) m = true := fun z => t5_state ho hl hh (by rw [q]; decide) (cat_0 z)
      have e4 : tH (minT T).1 m 4 = tH (mT5 T) m 4 := by rw [(min_form ho hl).1 m hh, if_neg nl]
      rw [if_pos q, e4]
      by_cases y : tH (mT5 T) m 3 = 1
      · rw [if_pos y]
      · rw [if_neg y, okHo_3 a5 y]
        split
        · exact Int32.add_zero _
        · rfl
    · have e : tH (mT5 T) m 3 = tH T m 3 := by rw [t5_H hh, b.2.1 (by rw [e3]; exact q), e3]
      rw [if_neg q, if_neg (by rw [e]; exact q)]
theorem min_okHo (ho : okT kf T) (hl : okL T) : ∀ h, h < tHn T → okHo (tH (minT T).1 h) := fun h hh => by
  rw [(min_form ho hl).1 h hh]
  have z := lit_c (S := mT5 T) (j := h) rfl (t5_all ho hl h hh)
  rw [← z.2.1]; exact z.1
theorem min_H (ho : okT kf T) (hl : okL T) {h : Nat} (hh : h < tHn T) : lawH T (minT T).1 (tH T h) (tH (minT T).1 h) := by
  obtain ⟨m5, m6, m0, m1⟩ := min_5 ho hl hh
  obtain ⟨l1, l2, l3, l4⟩ := okHo_law (min_okHo ho hl h hh)
  have b := burn_c (t3_all ho hl h hh)
  have e3 : tH (mT3 T) h 3 = tH T h 3 := t3_H hh (by omega) (by omega)
  have e2 : tH (mT3 T) h 2 = tH T h 2 := t3_H hh (by omega) (by omega)
  have e1 : tH (mT3 T) h 1 = tH T h 1 := t3_H hh (by omega) (by omega)
  have e4 : tH (mT3 T) h 4 = tH T h 4 := t3_H hh (by omega) (by omega)
  have eh : lHot (upd (tH T h) 5 (tH (minT T).1 h 5)) = lHot (tH (mT3 T) h) := by
    unfold lHot
    rw [upd_at, upd_ne (by omega), upd_ne (by omega), e4, e1, m5]
  have el : lLeft (upd (tH T h) 5 (tH (minT T).1 h 5)) = lLeft (tH (mT3 T) h) := by
    unfold lLeft
    rw [eh, upd_ne (by omega), e2]
  have nocat : tH T h 3 ≠ 0 → tH (minT T).1 h = hBurn (tH (mT3 T) h) := fun z => by
    rw [(min_form ho hl).1 h hh, if_neg (fun y => t5_state ho hl hh z (cat_0 y)), t5_H hh]
  refine ⟨⟨m0, m1, by rw [m6, m5]; exact t3_6 ho hl hh, l4⟩, ⟨l1, l2, l3⟩, fun z => ?_, fun z => ?_, fun z => ?_⟩
  · have z0 : tH T h 3 ≠ 0 := fun y => by rw [y] at z; exact absurd z (by decide)
    have z1 : tH T h 3 ≠ 1 := fun y => by rw [y] at z; exact absurd z (by decide)
    rw [nocat z0, b.2.1 (by rw [e3]; exact z1)]
    exact ⟨e3, e2⟩
  · have hb : tH (mT5 T) h = tH (mT3 T) h := by rw [t5_H hh]; exact b.2.1 (by rw [e3, z]; decide)
    obtain ⟨c, hc, ec⟩ := isC_hc ho hh
    rw [ec, near_eq ho hl hc (tHn T) (Nat.le_refl _), m5, (min_form ho hl).1 h hh]
    have ct : catBT (mT5 T) h = decide (40 ≤ heatN (tH (mT5 T)) (nI c) (tHn T) - tH (mT3 T) h 5) := by
      unfold catBT
      rw [hb, e3, z, t3_H hh (by omega) (by omega), ec, t5_n, decide_eq_true rfl, Bool.true_and]
      exact decide_eq_decide.mpr Int32.not_lt
    rw [ct, hb]
    by_cases y : 40 ≤ heatN (tH (mT5 T)) (nI c) (tHn T) - tH (mT3 T) h 5
    · rw [if_pos y, if_pos (decide_eq_true y)]
      exact ⟨rfl, e2, fun _ => rfl⟩
    · rw [if_neg y, if_neg (by rw [decide_eq_false y]; decide)]
      refine ⟨e3.trans z, e2, fun x => ?_⟩
      rw [e3, z] at x
      exact absurd x (by decide)
  · rw [eh, el, nocat (by rw [z]; decide)]
    exact b.2.2.1 (by rw [e3]; exact z)
/-! engines -/
theorem spend_c {f : Nat → Int32} : (∀ k, k ≠ 4 → eSpend f k = f k) ∧ (f 9 ≤ 0 → eSpend f 4 = f 4) ∧ (0 < f 9 → eSpend f 4 = iMax 0 (f 4 - 2)) := by
  unfold eSpend
  by_cases q : f 9 ≤ 0
  · rw [if_pos q]; exact ⟨fun _ _ => rfl, fun _ => rfl, fun z => absurd q (Int32.not_le.mpr z)⟩
  · rw [if_neg q]; exact ⟨fun k h => upd_ne h, fun z => absurd z q, fun _ => upd_at⟩
theorem min_E (ho : okT kf T) (hl : okL T) {e : Nat} (he : e < tEn T) : lawE (tE T e) (tE (minT T).1 e) ∧ okE (tE (minT T).1 e) := by
  have h6 : tEn T ≤ 6 := ho.2.2.2.2.2.2.2
  obtain ⟨c, w, q, v, hI, hw⟩ := t3_nt ho hl
  have he3 : e < tEn (mT3 T) := by rw [t3_n.2.2.1]; exact he
  have v9 := hI.1.2.2.2 e he3
  have vb := hI.2.1.2.2.2 e he3
  have v0 := hI.2.2.2.2.2 e he3
  have oe := hl.2.2.1 e he
  have ok := ho.2.2.1 e he
  obtain ⟨c3, c4, c5, c0, c1, c2, c7, cz, -⟩ := eGo_c oe ok
  obtain ⟨x, hx, ex⟩ := ePump_nI (okE_go oe ok)
  rw [pump_most oe ok] at ex
  have mx : mMx T e = x := (clampI ex (by omega)).1
  have vx : v e ≤ x := by rw [mx] at vb; exact vb
  rw [(min_form ho hl).2.2.1 e he]
  obtain ⟨sk, s0, s1⟩ := spend_c (f := tE (mT3 T) e)
  obtain ⟨st, hst, est⟩ := lSt_nI oe
  have e7 : tE (mT3 T) e 7 = tE T e 7 := (t3_E he (by omega)).trans c7
  have e4 : eSpend (tE (mT3 T) e) 4 = iMax 0 (lSt (tE T e) - (if 0 < eSpend (tE (mT3 T) e) 9 then 2 else 0)) := by
    rw [sk 9 (by omega)]
    by_cases z : 0 < tE (mT3 T) e 9
    · rw [s1 z, if_pos z, t3_E he (by omega), c4]
    · rw [s0 (Int32.not_lt.mp z), if_neg z, t3_E he (by omega), c4, est, Int32.sub_zero]
      have y := max_nI (a := st) (b := 0) (by omega) (by omega)
      rw [show (nI 0 : Int32) = 0 from rfl, Int32.sub_zero, Nat.sub_zero] at y
      exact y.symm
  refine ⟨⟨by rw [sk 3 (by omega), t3_E he (by omega), c3], e4, by rw [sk 5 (by omega), t3_E he (by omega), c5], ?_, ?_, by rw [sk 7 (by omega), e7], fun z => ?_, fun z => ?_, by rw [sk 1 (by omega), t3_E he (by omega), c1], by rw [sk 2 (by omega), t3_E he (by omega), c2]⟩, ?_, ?_, fun z => ?_⟩
  · rw [sk 9 (by omega), v9]; exact nI_pos' (by omega)
  · rw [sk 9 (by omega), v9, ex]; exact nI_le vx (by omega)
  · rw [sk 9 (by omega), v9, v0 (Or.inl ?_)]
    · rfl
    · rw [e7]
      rcases hl.2.2.2.1 e he with y | ⟨i, L, a, b, y, -⟩ | ⟨i, L, a, y, -⟩
      · exact y
      · rw [y] at z; exact absurd z (nI_pos (by omega))
      · rw [y] at z; exact absurd z (nI_pos (by have := ho.2.2.2.2.2.1; omega))
  · rw [sk 0 (by omega), t3_E he (by omega), c0 z]
  · rw [e4, est]
    split
    · exact ⟨st - 2, by omega, max_nI (a := st) (b := 2) (by omega) (by omega)⟩
    · exact ⟨st - 0, by omega, max_nI (a := st) (b := 0) (by omega) (by omega)⟩
  · rw [sk 2 (by omega), t3_E he (by omega), c2]; exact oe.2.1
  · rw [sk 7 (by omega), e7] at z
    rw [sk 5 (by omega), t3_E he (by omega)]
    exact (cz (oe.2.2 z)).2
end MIN2
