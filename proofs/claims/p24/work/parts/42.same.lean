theorem sw_lt {x y : Int32} : (x < y) = (x.toInt < y.toInt) := propext Int32.lt_iff_toInt_lt
theorem sw_le {x y : Int32} : (x ≤ y) = (x.toInt ≤ y.toInt) := propext Int32.le_iff_toInt_le
theorem sw_eq {x y : Int32} : (x = y) = (x.toInt = y.toInt) := propext Int32.toInt_inj.symm
theorem z0 : (0 : Int32).toInt = 0 := rfl
theorem iMin_i (x y : Int32) : (iMin x y).toInt = if y.toInt < x.toInt then y.toInt else x.toInt := by
  unfold iMin
  simp only [sw_lt]
  split <;> rfl
theorem iMax_i (x y : Int32) : (iMax x y).toInt = if x.toInt < y.toInt then y.toInt else x.toInt := by
  unfold iMax
  simp only [sw_lt]
  split <;> rfl
theorem iMin_comm (x y : Int32) : iMin x y = iMin y x := by
  apply Int32.toInt_inj.mp
  rw [iMin_i, iMin_i]
  repeat' split
  all_goals omega
theorem give_same {w p : Int32} (h : 0 ≤ p) : iMax 0 (iMin w p) = iMin p (iMax 0 w) := by
  rw [sw_le, z0] at h
  apply Int32.toInt_inj.mp
  rw [iMax_i, iMin_i, iMin_i, iMax_i, z0]
  repeat' split
  all_goals omega
theorem give_le {w p : Int32} (h : 0 ≤ p) : 0 ≤ iMax 0 (iMin w p) ∧ iMax 0 (iMin w p) ≤ p := by
  rw [sw_le, z0] at h
  simp only [sw_le, iMax_i, iMin_i, z0]
  repeat' split
  all_goals omega
theorem sub_pos {g p : Int32} (h0 : 0 ≤ g) (h1 : g ≤ p) : 0 ≤ p - g := by
  rw [sw_le, z0] at h0
  rw [sw_le] at h1
  rw [sw_le, z0, Int32.toInt_sub, Int.bmod_eq_of_le]
  · omega
  · have := Int32.toInt_lt p; have := Int32.le_toInt g; omega
  · have := Int32.toInt_lt p; have := Int32.le_toInt g; omega
theorem max_nn {x : Int32} : 0 ≤ iMax 0 x := by
  simp only [sw_le, iMax_i, z0]
  split <;> omega
theorem max_0 {x : Int32} (h : x ≤ 0) : iMax 0 x = 0 := by
  unfold iMax
  rw [if_neg (by rw [sw_lt]; rw [sw_le] at h; omega)]
theorem max_p {x : Int32} (h : 0 < x) : iMax 0 x = x := if_pos h
theorem eq0_of {x : Int32} (h0 : 0 ≤ x) (h1 : x ≤ 0) : x = 0 := by
  rw [sw_le] at h0 h1
  exact Int32.toInt_inj.mp (by omega)
theorem sq14 : ∀ p : Fin 14, ∀ q : Fin 14, decide (¬ 1 < iAbs (nI p.1 - nI q.1)) = decide (¬ 1 < (nI p.1 - nI q.1) * (nI p.1 - nI q.1)) := by decide +kernel
theorem near_same {a b : Nat} (ha : a < 140) (hb : b < 140) : mNear (nI a) (nI b) = aNear (nI a) (nI b) := by
  have e1 : iMod (nI a) = nI (a % 14) := pk_rem (a := a) (d := 14) (by omega) (by omega) (by omega)
  have e2 : iMod (nI b) = nI (b % 14) := pk_rem (a := b) (d := 14) (by omega) (by omega) (by omega)
  have e3 : nI a / 14 = nI (a / 14) := pk_div (a := a) (d := 14) (by omega) (by omega) (by omega)
  have e4 : nI b / 14 = nI (b / 14) := pk_div (a := b) (d := 14) (by omega) (by omega) (by omega)
  unfold mNear aNear
  rw [e1, e2, e3, e4, sq14 ⟨a % 14, by omega⟩ ⟨b % 14, by omega⟩, sq14 ⟨a / 14, by omega⟩ ⟨b / 14, by omega⟩]
theorem firstN_cong {p q : Nat → Bool} {n : Nat} (h : ∀ i, i < n → p i = q i) : firstN p n = firstN q n := by
  induction n generalizing p q with
  | zero => rfl
  | succ n ih =>
    unfold firstN
    rw [h 0 (by omega), ih (p := fun i => p (i + 1)) (q := fun i => q (i + 1)) (fun i hi => h (i + 1) (by omega))]
theorem jFirst_cong {p q : Nat → Bool} {n : Nat} (h : ∀ i, i < n → p i = q i) : jFirst p n = jFirst q n := by
  unfold jFirst
  rw [firstN_cong h]
def eSim (f f2 : Nat → Int32) : Prop := (∀ k, k < 6 → f k = f2 k) ∧ f 7 = f2 7 ∧ (f2 5 ≠ 0 → f 6 = f2 6)
def simN (U T : fTn) : Prop := tM U = tM T ∧ tHn U = tHn T ∧ tPn U = tPn T ∧ tEn U = tEn T
def simP (U T : fTn) : Prop := ∀ p, p < tPn T → tP U p 0 = tP T p 0 ∧ tP U p 1 = tP T p 1
def simH (U T : fTn) : Prop := ∀ h, h < tHn T → ∀ k, k < 7 → tH U h k = tH T h k
def simE (U T : fTn) : Prop := ∀ e, e < tEn T → eSim (tE U e) (tE T e) ∧ tE U e 9 = tE T e 9
def simT (U T : fTn) : Prop := simN U T ∧ simP U T ∧ simH U T ∧ simE U T
def isCl (kf : Nat → Int32) (x : Int32) : Prop := ∃ c, c < 140 ∧ x = nI c ∧ kf c = 0
def isC0 (x : Int32) : Prop := ∃ c, c < 140 ∧ x = nI c
def okHs (T : fTn) : Prop := ∀ h, h < tHn T → isC0 (tH T h 0) ∧ (tH T h 3 ≠ 1 → tH T h 4 = 0)
def okPs (T : fTn) : Prop := ∀ p, p < tPn T → isC0 (tP T p 0) ∧ 0 ≤ tP T p 1
def eOk (kf f : Nat → Int32) : Prop := isCl kf (f 0) ∧ (0 ≤ f 3 ∧ f 3 ≤ 200) ∧ (∃ r, 1 ≤ r ∧ r ≤ 4 ∧ f 1 = nI r) ∧ ((f 5 = 0 ∧ f 6 = -1) ∨ (0 < f 5 ∧ isCl kf (f 6)))
def okEs (kf : Nat → Int32) (T : fTn) : Prop := ∀ e, e < tEn T → eOk kf (tE T e)
def okT (kf : Nat → Int32) (T : fTn) : Prop := okHs T ∧ okPs T ∧ okEs kf T ∧ okHz T ∧ (∃ rk, okH T rk) ∧ tHn T ≤ 30 ∧ tPn T ≤ 6 ∧ tEn T ≤ 6
theorem eSim_u {f f2 : Nat → Int32} {k : Nat} {x : Int32} (h : eSim f f2) (hk : 8 ≤ k) : eSim (upd f k x) f2 :=
  ⟨fun j hj => (upd_ne (by omega)).trans (h.1 j hj), (upd_ne (by omega)).trans h.2.1, fun z => (upd_ne (by omega)).trans (h.2.2 z)⟩
theorem eSim_t {f f2 : Nat → Int32} {k : Nat} {x : Int32} (h : eSim f f2) (hk : 8 ≤ k) : eSim f (upd f2 k x) :=
  ⟨fun j hj => (h.1 j hj).trans (upd_ne (by omega)).symm, h.2.1.trans (upd_ne (by omega)).symm, fun z => (h.2.2 (by rwa [upd_ne (by omega)] at z)).trans (upd_ne (by omega)).symm⟩
theorem ePump_cong {f f2 : Nat → Int32} (h2 : f 2 = f2 2) (h4 : f 4 = f2 4) (h5 : f 5 = f2 5) : ePump f = ePump f2 := by
  unfold ePump eStands
  rw [h2, h4, h5]
theorem eSim_pump {f f2 : Nat → Int32} (h : eSim f f2) : ePump f = ePump f2 := ePump_cong (h.1 2 (by omega)) (h.1 4 (by omega)) (h.1 5 (by omega))
theorem src_same {U T : fTn} {f f2 : Nat → Int32} (hn : tPn U = tPn T) (hP : ∀ p, p < tPn T → tP U p 0 = tP T p 0) (hO : ∀ p, p < tPn T → isC0 (tP T p 0)) (h0 : f 0 = f2 0) (h5 : f 5 = f2 5) (hc : isC0 (f2 0)) : mSrc U f = pondOf T f2 := by
  obtain ⟨c, hc1, hc2⟩ := hc
  unfold mSrc pondOf
  rw [hn, show eStands f = eStands f2 from by unfold eStands; rw [h5]]
  by_cases q : eStands f2 = true
  · rw [if_pos q]
    refine jFirst_cong (fun i hi => ?_)
    obtain ⟨d, hd1, hd2⟩ := hO i hi
    rw [q, hP i hi, h0, hd2, hc2, near_same hd1 hc1]
    rfl
  · rw [if_neg q]
    refine (jFirst_none (fun j hj => ?_)).symm
    rw [Bool.eq_false_iff.mpr q]
    rfl
theorem go_row {kf f f2 : Nat → Int32} (h : eSim f f2) (ho : eOk kf f2) : eSim (mDrive (mFire f)) (eGo f2) ∧ eOk kf (eGo f2) ∧ mDrive (mFire f) 9 = f 9 ∧ eGo f2 9 = f2 9 := by
  obtain ⟨h1, h7, h6⟩ := h
  obtain ⟨oC, ⟨o3, o3b⟩, oR, oD⟩ := ho
  have g0 := h1 0 (by omega); have g1 := h1 1 (by omega); have g2 := h1 2 (by omega); have g3 := h1 3 (by omega); have g4 := h1 4 (by omega); have g5 := h1 5 (by omega)
  have F : eSim (mFire f) (eFire f2) ∧ eOk kf (eFire f2) ∧ mFire f 9 = f 9 ∧ eFire f2 9 = f2 9 := by
    unfold eFire
    by_cases q : f2 3 ≤ 0
    · rw [if_pos q]
      have q0 : f2 3 = 0 := eq0_of o3 q
      refine ⟨⟨fun k hk => ?_, ?_, ?_⟩, ⟨oC, ⟨o3, o3b⟩, oR, oD⟩, rfl, rfl⟩
      · rcases (show k = 0 ∨ k = 1 ∨ k = 2 ∨ k = 3 ∨ k = 4 ∨ k = 5 by omega) with rfl | rfl | rfl | rfl | rfl | rfl
        · exact g0
        · exact g1
        · exact g2
        · show iMax 0 (f 3 - 1) = f2 3
          rw [g3, q0]; rfl
        · show (if f 3 ≤ 0 then iMax 0 (f 4 - 3) else iMin 100 (f 4 + 4)) = iMax 0 (f2 4 - 3)
          rw [g3, if_pos q, g4]
        · exact g5
      · exact h7
      · exact h6
    · rw [if_neg q]
      have q1 : 0 < f2 3 := Int32.not_le.mp q
      have e3 : iMax 0 (f2 3 - 1) = f2 3 - 1 := by
        rw [sw_lt, z0] at q1
        apply Int32.toInt_inj.mp
        have e : (f2 3 - 1).toInt = (f2 3).toInt - 1 := by
          rw [Int32.toInt_sub]
          show ((f2 3).toInt - 1).bmod (2 ^ 32) = _
          have := Int32.toInt_lt (f2 3)
          rw [Int.bmod_eq_of_le] <;> omega
        rw [iMax_i, e, z0]
        split <;> omega
      have e3b : 0 ≤ f2 3 - 1 ∧ f2 3 - 1 ≤ 200 := by
        rw [sw_lt, z0] at q1
        have e : (f2 3 - 1).toInt = (f2 3).toInt - 1 := by
          rw [Int32.toInt_sub]
          show ((f2 3).toInt - 1).bmod (2 ^ 32) = _
          have := Int32.toInt_lt (f2 3)
          rw [Int.bmod_eq_of_le] <;> omega
        rw [sw_le] at o3b
        rw [show (200 : Int32).toInt = 200 from rfl] at o3b
        rw [sw_le, sw_le, e, z0, show (200 : Int32).toInt = 200 from rfl]
        omega
      refine ⟨⟨fun k hk => ?_, ?_, ?_⟩, ⟨oC, e3b, oR, oD⟩, rfl, rfl⟩
      · rcases (show k = 0 ∨ k = 1 ∨ k = 2 ∨ k = 3 ∨ k = 4 ∨ k = 5 by omega) with rfl | rfl | rfl | rfl | rfl | rfl
        · exact g0
        · exact g1
        · exact g2
        · show iMax 0 (f 3 - 1) = f2 3 - 1
          rw [g3, e3]
        · show (if f 3 ≤ 0 then iMax 0 (f 4 - 3) else iMin 100 (f 4 + 4)) = iMin 100 (f2 4 + 4)
          rw [g3, if_neg q, g4]
        · exact g5
      · exact h7
      · exact h6
  obtain ⟨⟨k1, k7, k6⟩, ⟨pC, p3, pR, pD⟩, k9, k9b⟩ := F
  obtain ⟨u, hu⟩ : ∃ z, z = mFire f := ⟨_, rfl⟩
  obtain ⟨t, ht⟩ : ∃ z, z = eFire f2 := ⟨_, rfl⟩
  unfold eGo
  rw [← hu] at k1 k7 k6 k9 ⊢
  rw [← ht] at k1 k7 k6 k9b pC p3 pR pD ⊢
  rw [← k9, ← k9b]
  have a5 := k1 5 (by omega)
  unfold mDrive eDrive eStands
  rw [show (upd u 5 (u 5 - 1)) 5 = u 5 - 1 from upd_at, a5]
  by_cases q : t 5 = 0
  · rw [if_pos (by rw [q]; rfl), if_pos (by rw [q]; rfl)]
    exact ⟨⟨k1, k7, k6⟩, ⟨pC, p3, pR, pD⟩, rfl, rfl⟩
  · have d1 : ¬ (decide (t 5 = 0) = true) := by simpa using q
    rw [if_neg d1, if_neg d1]
    have pD2 : 0 < t 5 ∧ isCl kf (t 6) := by rcases pD with ⟨a, -⟩ | a; exact absurd a q; exact a
    by_cases q2 : t 5 - 1 = 0
    · have d2 : decide (t 5 - 1 = 0) = true := by simpa using q2
      rw [if_pos d2, if_pos q2]
      refine ⟨⟨fun k hk => ?_, k7, fun z => absurd q2 z⟩, ⟨pD2.2, p3, pR, Or.inl ⟨q2, rfl⟩⟩, rfl, rfl⟩
      rcases (show k = 0 ∨ k = 1 ∨ k = 2 ∨ k = 3 ∨ k = 4 ∨ k = 5 by omega) with rfl | rfl | rfl | rfl | rfl | rfl
      · exact k6 q
      · exact k1 1 (by omega)
      · exact k1 2 (by omega)
      · exact k1 3 (by omega)
      · exact k1 4 (by omega)
      · rfl
    · have d2 : ¬ (decide (t 5 - 1 = 0) = true) := by simpa using q2
      rw [if_neg d2, if_neg q2]
      have e5 : 0 < t 5 - 1 := by
        have z := pD2.1
        rw [sw_lt, z0] at z
        have e : (t 5 - 1).toInt = (t 5).toInt - 1 := by
          rw [Int32.toInt_sub]
          show ((t 5).toInt - 1).bmod (2 ^ 32) = _
          have := Int32.toInt_lt (t 5)
          rw [Int.bmod_eq_of_le] <;> omega
        rw [sw_eq, e, z0] at q2
        rw [sw_lt, e, z0]
        omega
      refine ⟨⟨fun k hk => ?_, k7, fun z => k6 q⟩, ⟨pC, p3, pR, Or.inr ⟨e5, pD2.2⟩⟩, rfl, rfl⟩
      rcases (show k = 0 ∨ k = 1 ∨ k = 2 ∨ k = 3 ∨ k = 4 ∨ k = 5 by omega) with rfl | rfl | rfl | rfl | rfl | rfl
      · exact k1 0 (by omega)
      · exact k1 1 (by omega)
      · exact k1 2 (by omega)
      · exact k1 3 (by omega)
      · exact k1 4 (by omega)
      · rfl
theorem eGo_7 {f : Nat → Int32} : eGo f 7 = f 7 := by
  unfold eGo eDrive eFire
  repeat' split
  all_goals rfl

theorem tE_at {U : fTn} {e j c0 : Nat} {v : Int32} : tE (sE U e (upd (tE U e) c0 v)) j c0 = if j = e then v else tE U j c0 := by
  show (if j = e then upd (tE U e) c0 v else tE U j) c0 = _
  by_cases q : j = e
  · rw [if_pos q, if_pos q]; exact upd_at
  · rw [if_neg q, if_neg q]
theorem tH_at {U : fTn} {e j c0 : Nat} {v : Int32} : tH (sH U e (upd (tH U e) c0 v)) j c0 = if j = e then v else tH U j c0 := by
  show (if j = e then upd (tH U e) c0 v else tH U j) c0 = _
  by_cases q : j = e
  · rw [if_pos q, if_pos q]; exact upd_at
  · rw [if_neg q, if_neg q]
theorem sH_col {U : fTn} {e j c0 k : Nat} {v : Int32} (h : k ≠ c0) : tH (sH U e (upd (tH U e) c0 v)) j k = tH U j k := by
  show (if j = e then upd (tH U e) c0 v else tH U j) k = _
  by_cases q : j = e
  · rw [if_pos q, upd_ne h, q]
  · rw [if_neg q]
theorem eSim_sU {U : fTn} {e j c0 : Nat} {v : Int32} {f2 : Nat → Int32} (h : eSim (tE U j) f2) (hk : 8 ≤ c0) : eSim (tE (sE U e (upd (tE U e) c0 v)) j) f2 :=
  ⟨fun k hk2 => (sE_col (by omega)).trans (h.1 k hk2), (sE_col (by omega)).trans h.2.1, fun z => (sE_col (by omega)).trans (h.2.2 z)⟩
theorem eSim_sT {T : fTn} {e j c0 : Nat} {v : Int32} {f : Nat → Int32} (h : eSim f (tE T j)) (hk : 8 ≤ c0) : eSim f (tE (sE T e (upd (tE T e) c0 v)) j) :=
  ⟨fun k hk2 => (h.1 k hk2).trans (sE_col (by omega)).symm, h.2.1.trans (sE_col (by omega)).symm, fun z => (h.2.2 (by rwa [sE_col (by omega)] at z)).trans (sE_col (by omega)).symm⟩
/-- while the engines get their turns -/
def wE (f f2 : Nat → Int32) : Prop := eSim f f2 ∧ f 8 = f2 8 ∧ f 10 = f2 10 ∧ (f2 10 ≠ 0 → f 9 = f2 9) ∧ (f2 10 = 0 → f2 9 = 0)
def wH (f f2 : Nat → Int32) : Prop := (∀ k, k < 6 → f k = f2 k) ∧ f2 6 = f 6 + f 5
def simW (U T : fTn) : Prop := simN U T ∧ simP U T ∧ (∀ h, h < tHn T → wH (tH U h) (tH T h)) ∧ ∀ e, e < tEn T → wE (tE U e) (tE T e)
/-- what a turn leaves as it was -/
def frW (T2 T : fTn) : Prop := simN T2 T ∧ (∀ h k, k ≠ 5 → k ≠ 6 → tH T2 h k = tH T h k) ∧ (∀ p, tP T2 p 0 = tP T p 0) ∧ ∀ e k, k < 8 → tE T2 e k = tE T e k
theorem frW_rf {T : fTn} : frW T T := ⟨⟨rfl, rfl, rfl, rfl⟩, fun _ _ _ _ => rfl, fun _ => rfl, fun _ _ _ => rfl⟩
theorem frW_tr {T T2 T3 : fTn} (a : frW T2 T) (b : frW T3 T2) : frW T3 T :=
  ⟨⟨b.1.1.trans a.1.1, b.1.2.1.trans a.1.2.1, b.1.2.2.1.trans a.1.2.2.1, b.1.2.2.2.trans a.1.2.2.2⟩, fun h k q q2 => (b.2.1 h k q q2).trans (a.2.1 h k q q2), fun p => (b.2.2.1 p).trans (a.2.2.1 p), fun e k q => (b.2.2.2 e k q).trans (a.2.2.2 e k q)⟩
theorem frW_E {T : fTn} {e c0 : Nat} {v : Int32} (hk : 8 ≤ c0) : frW (sE T e (upd (tE T e) c0 v)) T := ⟨⟨rfl, rfl, rfl, rfl⟩, fun _ _ _ _ => rfl, fun _ => rfl, fun _ _ _ => sE_col (by omega)⟩
theorem frW_P {T : fTn} {p : Nat} {v : Int32} : frW (sP T p (upd (tP T p) 1 v)) T := ⟨⟨rfl, rfl, rfl, rfl⟩, fun _ _ _ _ => rfl, fun q => by
  show (if q = p then upd (tP T p) 1 v else tP T q) 0 = _
  by_cases z : q = p
  · rw [if_pos z, upd_ne (by omega), z]
  · rw [if_neg z], fun _ _ _ => rfl⟩
theorem frW_H {T : fTn} {h : Nat} {v w : Int32} : frW (sH T h (upd (upd (tH T h) 5 v) 6 w)) T := ⟨⟨rfl, rfl, rfl, rfl⟩, fun j k q q2 => by
  show (if j = h then upd (upd (tH T h) 5 v) 6 w else tH T j) k = _
  by_cases z : j = h
  · rw [if_pos z, upd_ne q2, upd_ne q, z]
  · rw [if_neg z], fun _ => rfl, fun _ _ _ => rfl⟩
theorem sE2 {T : fTn} {e : Nat} {v w : Int32} : sE T e (upd (upd (tE T e) 10 v) 9 w) = sE (sE T e (upd (tE T e) 10 v)) e (upd (tE (sE T e (upd (tE T e) 10 v)) e) 9 w) := by
  rw [tE_sE, sE_sE]
theorem askT_fr (T : fTn) (e : Nat) : frW (askT T e) T := by
  unfold askT
  split
  · exact frW_E (by omega)
  · split
    · have z : ∀ V : fTn, ∀ v w : Int32, tE V e = tE T e → frW V T → frW (sE V e (upd (upd (tE T e) 10 v) 9 w)) T := fun V v w a b => by
        rw [← a, sE2]
        exact frW_tr (frW_tr b (frW_E (by omega))) (frW_E (by omega))
      exact z _ _ _ rfl frW_P
    · rw [sE2]
      exact frW_tr (frW_E (by omega)) (frW_E (by omega))
theorem sendT_fr (T : fTn) (e : Nat) : frW (sendT T e) T := by
  unfold sendT
  split
  · exact frW_E (by omega)
  · split
    · exact frW_H
    · exact frW_rf
theorem turnT_fr (T : fTn) : frW (turnT T) T := by
  unfold turnT
  split
  · exact frW_tr (askT_fr _ _) (sendT_fr _ _)
  · exact frW_rf
theorem okPs_E {T : fTn} {e : Nat} {f : Nat → Int32} (h : okPs T) : okPs (sE T e f) := h
theorem okPs_P {T : fTn} {p : Nat} {v : Int32} (h : okPs T) (hv : 0 ≤ v) : okPs (sP T p (upd (tP T p) 1 v)) := by
  intro q hq
  obtain ⟨a, b⟩ := h q hq
  show isC0 ((if q = p then upd (tP T p) 1 v else tP T q) 0) ∧ 0 ≤ (if q = p then upd (tP T p) 1 v else tP T q) 1
  by_cases z : q = p
  · rw [if_pos z, upd_ne (show 0 ≠ 1 by omega), upd_at, ← z]; exact ⟨a, hv⟩
  · rw [if_neg z]; exact ⟨a, b⟩
theorem nI_m1' {n : Nat} (h : n < 2 ^ 31) : nI n ≠ -1 := nI_m1 h
theorem isIx_m1 {n : Nat} : isIx n (-1) = false := rfl
theorem askT_N {T : fTn} {e : Nat} (h : tE T e 7 = -1) : askT T e = sE T e (upd (tE T e) 10 1) := if_pos h
theorem askT_0 {T : fTn} {e : Nat} (h : ¬ tE T e 7 = -1) (hp : pondOf T (tE T e) = -1) : askT T e = sE T e (upd (upd (tE T e) 10 1) 9 (iMin (tE T e 8) (ePump (tE T e)))) := by
  unfold askT
  rw [if_neg h, hp, isIx_m1, if_neg Bool.false_ne_true]
theorem askT_P {T : fTn} {e p : Nat} (h : ¬ tE T e 7 = -1) (hp : pondOf T (tE T e) = nI p) (h2 : p < tPn T) (hn : tPn T ≤ 6) : askT T e = sE (sP T p (upd (tP T p) 1 (tP T p 1 - pGive (tP T p) (ePump (tE T e) - tE T e 8)))) e (upd (upd (tE T e) 10 1) 9 (iMin (tE T e 8 + pGive (tP T p) (ePump (tE T e) - tE T e 8)) (ePump (tE T e)))) := by
  unfold askT
  rw [if_neg h, hp, isIx_nI h2 (by omega), if_pos rfl, nI_clamp (by omega)]
theorem sendT_N {T : fTn} {e : Nat} (h : tE T e 7 = -1) : sendT T e = T := by
  unfold sendT
  rw [h, isIx_m1, if_neg Bool.false_ne_true, if_neg (show ¬ isIx (tHn T) (-1 - 100) = true from Bool.false_ne_true)]
theorem sendT_E {T : fTn} {e i : Nat} (h : tE T e 7 = nI i) (hi : i < tEn T) (hn : tEn T ≤ 6) : sendT T e = sE T i (upd (tE T i) 8 (tE T i 8 + arrivesI (tE T e 9) (aDist (tE T e 0) (tE T i 0)))) := by
  unfold sendT
  rw [h, isIx_nI hi (by omega), if_pos rfl, nI_clamp (by omega)]
theorem isIx_ge {n i : Nat} (h : n ≤ i) (hi : i < 2 ^ 31) : isIx n (nI i) = false := by
  unfold isIx
  rw [show decide (¬ nI n ≤ nI i) = false from decide_eq_false (fun z => z (nI_le h hi)), Bool.and_false]
theorem sendT_H {T : fTn} {e h0 : Nat} (h : tE T e 7 = nI (100 + h0)) (hi : h0 < tHn T) (hn : tEn T ≤ 6) (hn2 : tHn T ≤ 30) : sendT T e = sH T h0 (upd (upd (tH T h0) 5 (tH T h0 5 + arrivesI (tE T e 9) (aDist (tE T e 0) (tH T h0 0)))) 6 (tH T h0 6 + arrivesI (tE T e 9) (aDist (tE T e 0) (tH T h0 0)))) := by
  unfold sendT
  rw [h, isIx_ge (by omega) (by omega), if_neg Bool.false_ne_true, sub100, isIx_nI hi (by omega), if_pos rfl, nI_clamp (by omega)]
theorem pumpU_N {U : fTn} {e : Nat} (h : tE U e 7 = -1) : pumpU U e = pm1 U e := if_pos h
theorem pumpU_E0 {U : fTn} {e i : Nat} (h : tE U e 7 = nI i) (hi : i < 6) (hs : pumpS U e = -1) : pumpU U e = pmE (pm1 U e) e i (pmG U e 0) := by
  unfold pumpU pumpT
  rw [h, if_neg (nI_m1 (by omega)), if_pos hs, if_pos (lt100 (by omega)), nI_clamp (by omega)]
theorem pumpU_EP {U : fTn} {e i p : Nat} (h : tE U e 7 = nI i) (hi : i < 6) (hs : pumpS U e = nI p) (hp : p < 6) : pumpU U e = pmE (pmW U e p) e i (pmG U e (pmS U e p)) := by
  unfold pumpU pumpT
  rw [h, if_neg (nI_m1 (by omega)), hs, if_neg (nI_m1 (by omega)), if_pos (lt100 (by omega)), nI_clamp (show i < 2 ^ 31 by omega), nI_clamp (show p < 2 ^ 31 by omega)]
theorem pumpU_H0 {U : fTn} {e i : Nat} (h : tE U e 7 = nI (100 + i)) (hi : i < 30) (hs : pumpS U e = -1) : pumpU U e = pmH (pm1 U e) e i (pmG U e 0) := by
  unfold pumpU pumpT
  rw [h, if_neg (nI_m1 (by omega)), if_pos hs, if_neg (nlt100 (by omega)), sub100, nI_clamp (by omega)]
theorem pumpU_HP {U : fTn} {e i p : Nat} (h : tE U e 7 = nI (100 + i)) (hi : i < 30) (hs : pumpS U e = nI p) (hp : p < 6) : pumpU U e = pmH (pmW U e p) e i (pmG U e (pmS U e p)) := by
  unfold pumpU pumpT
  rw [h, if_neg (nI_m1 (by omega)), hs, if_neg (nI_m1 (by omega)), if_neg (nlt100 (by omega)), sub100, nI_clamp (show i < 2 ^ 31 by omega), nI_clamp (show p < 2 ^ 31 by omega)]
theorem sE_comm {W0 : fTn} {i e c1 c2 : Nat} {x y : Int32} (h : c1 ≠ c2) : sE (sE W0 i (upd (tE W0 i) c1 x)) e (upd (tE (sE W0 i (upd (tE W0 i) c1 x)) e) c2 y) = sE (sE W0 e (upd (tE W0 e) c2 y)) i (upd (tE (sE W0 e (upd (tE W0 e) c2 y)) i) c1 x) := by
  refine congrArg (fun F : Nat → Nat → Int32 => ((tM W0, (tHn W0, tH W0), (tPn W0, tP W0), (tEn W0, F)) : fTn)) (funext fun j => funext fun k => ?_)
  show tE (sE (sE W0 i (upd (tE W0 i) c1 x)) e (upd (tE (sE W0 i (upd (tE W0 i) c1 x)) e) c2 y)) j k = tE (sE (sE W0 e (upd (tE W0 e) c2 y)) i (upd (tE (sE W0 e (upd (tE W0 e) c2 y)) i) c1 x)) j k
  by_cases q : k = c1
  · subst q
    rw [sE_col h, tE_at, tE_at, sE_col h]
  · by_cases q2 : k = c2
    · subst q2
      rw [tE_at, sE_col q, sE_col q, tE_at]
    · rw [sE_col q2, sE_col q, sE_col q, sE_col q2]
theorem simW_8 {U T : fTn} {i : Nat} {x : Int32} (h : simW U T) : simW (sE U i (upd (tE U i) 8 (tE U i 8 + x))) (sE T i (upd (tE T i) 8 (tE T i 8 + x))) := by
  obtain ⟨n, hP, hH, hE⟩ := h
  refine ⟨n, hP, hH, fun j hj => ?_⟩
  have hj : j < tEn T := hj
  obtain ⟨a, b8, b10, b9, b0⟩ := hE j hj
  refine ⟨eSim_sT (eSim_sU a (by omega)) (by omega), ?_, ?_, ?_, ?_⟩
  · rw [tE_at, tE_at]
    by_cases q : j = i
    · rw [if_pos q, if_pos q, ← q, b8]
    · rw [if_neg q, if_neg q]; exact b8
  · rw [sE_col (by omega), sE_col (by omega)]; exact b10
  · rw [sE_col (by omega), sE_col (by omega), sE_col (by omega)]; exact b9
  · rw [sE_col (by omega), sE_col (by omega)]; exact b0
theorem simW_h {U T : fTn} {h0 : Nat} {x : Int32} (h : simW U T) : simW (sH U h0 (upd (tH U h0) 5 (tH U h0 5 + x))) (sH T h0 (upd (upd (tH T h0) 5 (tH T h0 5 + x)) 6 (tH T h0 6 + x))) := by
  obtain ⟨n, hP, hH, hE⟩ := h
  refine ⟨n, hP, fun j hj => ?_, hE⟩
  have hj : j < tHn T := hj
  obtain ⟨a, b⟩ := hH j hj
  show wH (if j = h0 then upd (tH U h0) 5 (tH U h0 5 + x) else tH U j) (if j = h0 then upd (upd (tH T h0) 5 (tH T h0 5 + x)) 6 (tH T h0 6 + x) else tH T j)
  by_cases q : j = h0
  · rw [if_pos q, if_pos q, ← q]
    refine ⟨fun k hk => ?_, ?_⟩
    · by_cases q2 : k = 5
      · rw [q2, upd_at, upd_ne (by omega), upd_at, a 5 (by omega)]
      · rw [upd_ne q2, upd_ne (by omega), upd_ne q2]; exact a k hk
    · rw [upd_at, upd_ne (by omega), upd_at, b, Int32.add_assoc]
  · rw [if_neg q, if_neg q]; exact ⟨a, b⟩
theorem simW_p {U T : fTn} {p : Nat} {x : Int32} (h : simW U T) : simW (sP U p (upd (tP U p) 1 x)) (sP T p (upd (tP T p) 1 x)) := by
  obtain ⟨n, hP, hH, hE⟩ := h
  refine ⟨n, fun j hj => ?_, hH, hE⟩
  have hj : j < tPn T := hj
  show (if j = p then upd (tP U p) 1 x else tP U j) 0 = (if j = p then upd (tP T p) 1 x else tP T j) 0 ∧ (if j = p then upd (tP U p) 1 x else tP U j) 1 = (if j = p then upd (tP T p) 1 x else tP T j) 1
  by_cases q : j = p
  · rw [if_pos q, if_pos q, upd_ne (by omega), upd_ne (by omega), upd_at, upd_at, ← q]
    exact ⟨(hP j hj).1, rfl⟩
  · rw [if_neg q, if_neg q]; exact hP j hj
theorem simW_ask {U T : fTn} {e : Nat} {gv : Int32} (h : simW U T) : simW (askd (pm3 (pm1 U e) e gv) e) (sE T e (upd (upd (tE T e) 10 1) 9 gv)) := by
  obtain ⟨n, hP, hH, hE⟩ := h
  rw [sE2]
  refine ⟨n, hP, hH, fun j hj => ?_⟩
  have hj : j < tEn T := hj
  obtain ⟨a, b8, b10, b9, b0⟩ := hE j hj
  refine ⟨eSim_sT (eSim_sT (eSim_sU (eSim_sU (eSim_sU a (by omega)) (by omega)) (by omega)) (by omega)) (by omega), ?_, ?_, ?_, ?_⟩
  · rw [sE_col (by omega), sE_col (by omega), sE_col (by omega), sE_col (by omega), sE_col (by omega)]; exact b8
  · rw [tE_at, sE_col (by omega), sE_col (by omega), sE_col (by omega), tE_at, b10]
  · have u9 : tE (askd (pm3 (pm1 U e) e gv) e) j 9 = if j = e then gv else tE U j 9 := by
      refine (sE_col (by decide)).trans (tE_at.trans ?_)
      by_cases q : j = e
      · rw [if_pos q, if_pos q]
      · rw [if_neg q, if_neg q]; exact tE_at.trans (if_neg q)
    have t10 : tE (sE (sE T e (upd (tE T e) 10 1)) e (upd (tE (sE T e (upd (tE T e) 10 1)) e) 9 gv)) j 10 = if j = e then 1 else tE T j 10 := (sE_col (by decide)).trans tE_at
    have t9 : tE (sE (sE T e (upd (tE T e) 10 1)) e (upd (tE (sE T e (upd (tE T e) 10 1)) e) 9 gv)) j 9 = if j = e then gv else tE T j 9 := by
      refine tE_at.trans ?_
      by_cases q : j = e
      · rw [if_pos q, if_pos q]
      · rw [if_neg q, if_neg q]; exact sE_col (by decide)
    rw [u9, t10, t9]
    by_cases q : j = e
    · rw [if_pos q, if_pos q, if_pos q]; exact fun _ => rfl
    · rw [if_neg q, if_neg q, if_neg q]; exact b9
  · rw [sE_col (by omega), tE_at, tE_at, sE_col (by omega)]
    by_cases q : j = e
    · rw [if_pos q, if_pos q]; exact fun z => absurd z (by decide)
    · rw [if_neg q, if_neg q]; exact b0
theorem simW_none {U T : fTn} {e : Nat} (h : simW U T) (h10 : tE T e 10 = 0) : simW (askd (pm1 U e) e) (sE T e (upd (tE T e) 10 1)) := by
  obtain ⟨n, hP, hH, hE⟩ := h
  refine ⟨n, hP, hH, fun j hj => ?_⟩
  have hj : j < tEn T := hj
  obtain ⟨a, b8, b10, b9, b0⟩ := hE j hj
  refine ⟨eSim_sT (eSim_sU (eSim_sU a (by omega)) (by omega)) (by omega), ?_, ?_, ?_, ?_⟩
  · rw [sE_col (by omega), sE_col (by omega), sE_col (by omega)]; exact b8
  · rw [tE_at, sE_col (by omega), tE_at, b10]
  · have u9 : tE (askd (pm1 U e) e) j 9 = if j = e then 0 else tE U j 9 := (sE_col (by decide)).trans tE_at
    have t10 : tE (sE T e (upd (tE T e) 10 1)) j 10 = if j = e then 1 else tE T j 10 := tE_at
    have t9 : tE (sE T e (upd (tE T e) 10 1)) j 9 = tE T j 9 := sE_col (by decide)
    rw [u9, t10, t9]
    by_cases q : j = e
    · rw [if_pos q, if_pos q]; exact fun _ => (b0 (by rw [q]; exact h10)).symm
    · rw [if_neg q, if_neg q]; exact b9
  · rw [tE_at, sE_col (by omega)]
    by_cases q : j = e
    · rw [if_pos q]; exact fun z => absurd z (by decide)
    · rw [if_neg q]; exact b0
theorem askd_E {V : fTn} {e i : Nat} {gv : Int32} : askd (pmE V e i gv) e = sE (askd (pm3 V e gv) e) i (upd (tE (askd (pm3 V e gv) e) i) 8 (tE (askd (pm3 V e gv) e) i 8 + arrivesI gv (aDist (tE V e 0) (tE V i 0)))) := by
  rw [show tE (askd (pm3 V e gv) e) i 8 = tE (pm3 V e gv) i 8 from sE_col (by omega)]
  exact sE_comm (W0 := pm3 V e gv) (by omega)
theorem waits_cong {f f2 : Nat → Nat → Int32} {x : Int32} {n : Nat} (h : ∀ j, j < n → f j 10 = f2 j 10 ∧ f j 7 = f2 j 7) : waits f x n = waits f2 x n := by
  induction n with
  | zero => rfl
  | succ n ih => unfold waits; rw [ih (fun j hj => h j (by omega)), (h n (by omega)).1, (h n (by omega)).2]
theorem next_same {U T : fTn} (h : simW U T) : nextE U = nextE T := by
  obtain ⟨n, hP, hH, hE⟩ := h
  unfold nextE
  rw [n.2.2.2]
  refine jFirst_cong (fun i hi => ?_)
  rw [(hE i hi).2.2.1, waits_cong (f := tE U) (f2 := tE T) (fun j hj => ⟨(hE j hj).2.2.1, (hE j hj).1.2.1⟩)]

