/-! setting out; advice -/
def drvT (T : fTn) (j jc : Nat) (st0 : Int32) : fTn := sE (mEi (upHose (nI j)) (tEn T) T) j (eSetOut (tE (mEi (upHose (nI j)) (tEn T) T) j) (nI jc) st0)
def drvU (U : fTn) (j jc : Nat) (v : Int32) : fTn := mE (mOff (nI j)) (tEn U) (mSet U j v (nI jc))
theorem drvT_row {T : fTn} {j jc e : Nat} {st0 : Int32} (he : e < tEn T) (hj : j < tEn T) : tE (drvT T j jc st0) e = if e = j then upd (upd (upd (tE T j) 7 (-1)) 6 (nI jc)) 5 (st0 * (5 - tE T j 1)) else upHose (nI j) e (tE T e) := by
  have r : ∀ q, q < tEn T → tE (mEi (upHose (nI j)) (tEn T) T) q = upHose (nI j) q (tE T q) := fun q hq => if_pos hq
  show (if e = j then eSetOut (tE (mEi (upHose (nI j)) (tEn T) T) j) (nI jc) st0 else tE (mEi (upHose (nI j)) (tEn T) T) e) = _
  by_cases q : e = j
  · rw [if_pos q, if_pos q, r j hj, show upHose (nI j) j (tE T j) = upd (tE T j) 7 (-1) from if_pos rfl]
    rfl
  · rw [if_neg q, if_neg q, r e he]
theorem drvU_row {U : fTn} {j jc e : Nat} {v : Int32} (he : e < tEn U) (hj : j < 1000) : tE (drvU U j jc v) e = if e = j then upd (upd (upd (tE U j) 5 v) 6 (nI jc)) 7 (-1) else mOff (nI j) (tE U e) := by
  have r : tE (drvU U j jc v) e = mOff (nI j) (tE (mSet U j v (nI jc)) e) := row_mE (F := mOff (nI j)) (T := mSet U j v (nI jc)) he
  rw [r]
  have s : tE (mSet U j v (nI jc)) e = if e = j then upd (upd (upd (tE U j) 5 v) 6 (nI jc)) 7 (-1) else tE U e := by
    unfold mSet
    rw [tE_sE, tE_sE, sE_sE, sE_sE]
  rw [s]
  by_cases q : e = j
  · rw [if_pos q, if_pos q]
    exact if_neg (show ¬ (-1 : Int32) = nI j from fun z => nI_m1 (by omega) z.symm)
  · rw [if_neg q, if_neg q]
theorem sim_drv {U T : fTn} {j jc : Nat} {st0 v : Int32} (s : simT U T) (hj : j < tEn T) (h6 : tEn T ≤ 6) (hv : v = st0 * (5 - tE T j 1)) : simT (drvU U j jc v) (drvT T j jc st0) := by
  obtain ⟨⟨n0, n1, n2, n3⟩, sP, sH, sE0⟩ := s
  refine ⟨⟨n0, n1, n2, n3⟩, sP, sH, fun e (he : e < tEn T) => ?_⟩
  rw [drvT_row he hj, drvU_row (by omega) (by omega)]
  obtain ⟨⟨a, b, c⟩, d⟩ := sE0 e he
  by_cases q : e = j
  · rw [if_pos q, if_pos q]
    subst q
    refine ⟨⟨fun k hk => ?_, rfl, fun _ => rfl⟩, d⟩
    by_cases q2 : k = 5
    · rw [q2, upd_ne (by omega), upd_ne (by omega), upd_at, upd_at, hv]
    · rw [upd_ne (by omega), upd_ne (by omega), upd_ne q2, upd_ne q2, upd_ne (by omega), upd_ne (by omega)]
      exact a k hk
  · rw [if_neg q, if_neg q]
    unfold mOff upHose
    rw [if_neg (show ¬ nI e = nI j from fun z => q (nI_eq' z (by omega) (by omega))), b]
    by_cases q2 : tE T e 7 = nI j
    · rw [if_pos q2, if_pos q2]
      exact ⟨⟨fun k hk => by rw [upd_ne (by omega), upd_ne (by omega)]; exact a k hk, rfl, c⟩, d⟩
    · rw [if_neg q2, if_neg q2]
      exact ⟨⟨a, b, c⟩, d⟩
theorem ok_drv {kf : Nat → Int32} {T : fTn} {j jc : Nat} {st0 : Int32} (ho : okT kf T) (hj : j < tEn T) (hjc : jc < 140) (hk : kf jc = 0) {mm : Nat} (h1 : 1 ≤ mm) (h2 : mm ≤ 140) (hst : st0 = nI mm) : okT kf (drvT T j jc st0) := by
  obtain ⟨oH, oP, oE, oZ, ⟨rk, oR⟩, o1, o2, o3⟩ := ho
  have h7 : ∀ e, e < tEn T → tE (drvT T j jc st0) e 7 = -1 ∨ tE (drvT T j jc st0) e 7 = tE T e 7 := fun e he => by
    rw [drvT_row he hj]
    by_cases q : e = j
    · rw [if_pos q]; exact Or.inl rfl
    · rw [if_neg q]
      unfold upHose
      split
      · exact Or.inl rfl
      · split
        · exact Or.inl rfl
        · exact Or.inr rfl
  refine ⟨oH, oP, fun e (he : e < tEn T) => ?_, fun e (he : e < tEn T) => ?_, ⟨rk, fun e (he : e < tEn T) => ?_⟩, o1, o2, o3⟩
  · rw [drvT_row he hj]
    by_cases q : e = j
    · rw [if_pos q]
      obtain ⟨a, b, ⟨r, r1, r2, er⟩, -⟩ := oE j hj
      refine ⟨a, b, ⟨r, r1, r2, er⟩, Or.inr ⟨?_, ⟨jc, hjc, rfl, hk⟩⟩⟩
      show 0 < st0 * (5 - tE T j 1)
      have e5 : (5 : Int32) - nI r = nI (5 - r) := pk_sub (a := 5) (b := r) (by omega)
      rw [hst, er, e5, pk_mul]
      have hp : 1 ≤ mm * (5 - r) := Nat.mul_pos h1 (by omega)
      have hp2 : mm * (5 - r) ≤ 140 * 5 := Nat.mul_le_mul h2 (by omega)
      exact nI_lt (a := 0) (b := mm * (5 - r)) hp (by omega)
    · rw [if_neg q]
      unfold upHose
      split
      · exact eOk_of (oE e he) rfl rfl rfl rfl rfl
      · split
        · exact eOk_of (oE e he) rfl rfl rfl rfl rfl
        · exact oE e he
  · rcases h7 e he with z | z
    · exact Or.inl z
    · rw [z]; exact oZ e he
  · refine ⟨(oR e he).1, fun y => ?_⟩
    rcases h7 e he with z | z
    · rw [z] at y; exact absurd y (by decide)
    · rw [z] at y ⊢; exact (oR e he).2 y
theorem aim_in {h : Nat} (hh : h < 30) : inR (100 + nI h) 0 5 = false := by
  rw [show (100 : Int32) + nI h = nI (100 + h) from nI_add 100 h]
  unfold inR
  rw [show decide (¬ (5 : Int32) < nI (100 + h)) = false from decide_eq_false (fun z => z (nI_lt (a := 5) (b := 100 + h) (by omega) (by omega))), Bool.and_false]
theorem ok_aim {kf : Nat → Int32} {T : fTn} {j h : Nat} (ho : okT kf T) (hh : h < tHn T) : okT kf (aimT T j h) := by
  obtain ⟨rk, oR⟩ := ho.2.2.2.2.1
  have o1 := ho.2.2.2.2.2.1
  exact ok_hose ho (Or.inr (Or.inr ⟨h, hh, nI_add 100 h⟩)) ⟨rk, aim_ok oR (aim_in (by omega))⟩
theorem adv_sim {kf : Nat → Int32} {U T : fTn} {j N : Nat} (s : simT U T) (ho : okT kf T) (hj : j < tEn T) : ∀ k, k ≤ tHn T → simT (mAdvV U j N k) T := by
  intro k
  induction k with
  | zero => intro _; exact s
  | succ k ih =>
    intro hk
    have I := ih (by omega)
    unfold mAdvV
    split
    · obtain ⟨e1, e2, e3⟩ := mAdvV_n U j N k
      have I2 : simT (aimT (mAdvV U j N k) j k) (aimT T j k) := sim_sE I (by decide) (by decide)
      have o2 := ok_aim (j := j) (h := k) ho (by omega)
      obtain ⟨g1, g2, g3⟩ := goU_n (aimT (mAdvV U j N k) j k) N
      refine sim_back s (g1.trans e1) (g2.trans e2) (g3.trans e3) (fun p hp => ?_)
      rw [go_p0 I2 o2 N p (show p < tPn (mAdvV U j N k) by omega)]
      show tP (mAdvV U j N k) p 0 = tP U p 0
      have hp2 : p < tPn T := by rw [← s.1.2.2.1]; exact hp
      rw [(I.2.1 p hp2).1, (s.2.1 p hp2).1]
    · exact I
theorem adv_same {kf : Nat → Int32} {U T : fTn} {j N : Nat} (s : simT U T) (ho : okT kf T) (hj : j < tEn T) : ∀ k, k ≤ tHn T → mAdvF U j N k = advF T j N k := by
  intro k
  induction k with
  | zero => intro _; rfl
  | succ k ih =>
    intro hk
    have I := adv_sim (N := N) s ho hj k (by omega)
    have hB : mAdvB (mAdvV U j N k) j k = advB T j k := by
      unfold mAdvB advB eStands
      obtain ⟨⟨a, -, -⟩, -⟩ := I.2.2.2 j hj
      rw [a 5 (by omega), a 0 (by omega), I.2.2.1 k (by omega) 3 (by omega), I.2.2.1 k (by omega) 0 (by omega)]
      rw [show decide (aDist (tE T j 0) (tH T k 0) ≤ 6) = decide (¬ 6 < aDist (tE T j 0) (tH T k 0)) from decide_eq_decide.mpr Int32.not_lt.symm]
    have hF : fallM U j N k = fallI T j k N := by
      unfold fallM
      exact cnt_same (go_same (sim_sE (j := j) (c0 := 7) (v := 100 + nI k) I (by decide) (by decide)) (ok_aim (j := j) (h := k) ho (by omega)) N).1
    unfold mAdvF advF
    rw [hB, hF, ih (by omega)]
    split
    · by_cases q : (advF T j N k).2 ≤ fallI T j k N
      · rw [if_neg (Int32.not_lt.mpr q), if_pos q]
      · rw [if_pos (Int32.not_le.mp q), if_neg q]
    · rfl
