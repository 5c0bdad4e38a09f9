/-! SAMENESS: what both tell, of numbers -/
theorem sw_lt {x y : Int32} : (x < y) = (x.toInt < y.toInt) := propext Int32.lt_iff_toInt_lt
theorem sw_le {x y : Int32} : (x ≤ y) = (x.toInt ≤ y.toInt) := propext Int32.le_iff_toInt_le
theorem sw_eq {x y : Int32} : (x = y) = (x.toInt = y.toInt) := propext Int32.toInt_inj.symm
theorem z0 : (0 : Int32).toInt = 0 := rfl
theorem iMin_i (x y : Int32) : (iMin x y).toInt = if y.toInt < x.toInt then y.toInt else x.toInt := by
  unfold iMin
  simp only [sw_lt]
  split <;> rfl
theorem iMax_i (x y : Int32) : (iMax x y).toInt = if x.toInt < y.toInt then y.toInt else x.toInt := by
  unfold iMax
  simp only [sw_lt]
  split <;> rfl
theorem iMin_comm (x y : Int32) : iMin x y = iMin y x := by
  apply Int32.toInt_inj.mp
  rw [iMin_i, iMin_i]
  repeat' split
  all_goals omega
theorem give_same {w p : Int32} (h : 0 ≤ p) : iMax 0 (iMin w p) = iMin p (iMax 0 w) := by
  rw [sw_le, z0] at h
  apply Int32.toInt_inj.mp
  rw [iMax_i, iMin_i, iMin_i, iMax_i, z0]
  repeat' split
  all_goals omega
theorem give_le {w p : Int32} (h : 0 ≤ p) : 0 ≤ iMax 0 (iMin w p) ∧ iMax 0 (iMin w p) ≤ p := by
  rw [sw_le, z0] at h
  simp only [sw_le, iMax_i, iMin_i, z0]
  repeat' split
  all_goals omega
theorem sub_pos {g p : Int32} (h0 : 0 ≤ g) (h1 : g ≤ p) : 0 ≤ p - g := by
  rw [sw_le, z0] at h0
  rw [sw_le] at h1
  rw [sw_le, z0, Int32.toInt_sub, Int.bmod_eq_of_le]
  · omega
  · have := Int32.toInt_lt p; have := Int32.le_toInt g; omega
  · have := Int32.toInt_lt p; have := Int32.le_toInt g; omega
theorem max_nn {x : Int32} : 0 ≤ iMax 0 x := by
  simp only [sw_le, iMax_i, z0]
  split <;> omega
theorem max_0 {x : Int32} (h : x ≤ 0) : iMax 0 x = 0 := by
  unfold iMax
  rw [if_neg (by rw [sw_lt]; rw [sw_le] at h; omega)]
theorem max_p {x : Int32} (h : 0 < x) : iMax 0 x = x := if_pos h
theorem eq0_of {x : Int32} (h0 : 0 ≤ x) (h1 : x ≤ 0) : x = 0 := by
  rw [sw_le] at h0 h1
  exact Int32.toInt_inj.mp (by omega)
theorem sq14 : ∀ p : Fin 14, ∀ q : Fin 14, decide (¬ 1 < iAbs (nI p.1 - nI q.1)) = decide (¬ 1 < (nI p.1 - nI q.1) * (nI p.1 - nI q.1)) := by decide +kernel
theorem near_same {a b : Nat} (ha : a < 140) (hb : b < 140) : mNear (nI a) (nI b) = aNear (nI a) (nI b) := by
  have e1 : iMod (nI a) = nI (a % 14) := pk_rem (a := a) (d := 14) (by omega) (by omega) (by omega)
  have e2 : iMod (nI b) = nI (b % 14) := pk_rem (a := b) (d := 14) (by omega) (by omega) (by omega)
  have e3 : nI a / 14 = nI (a / 14) := pk_div (a := a) (d := 14) (by omega) (by omega) (by omega)
  have e4 : nI b / 14 = nI (b / 14) := pk_div (a := b) (d := 14) (by omega) (by omega) (by omega)
  unfold mNear aNear
  rw [e1, e2, e3, e4, sq14 ⟨a % 14, by omega⟩ ⟨b % 14, by omega⟩, sq14 ⟨a / 14, by omega⟩ ⟨b / 14, by omega⟩]
theorem firstN_cong {p q : Nat → Bool} {n : Nat} (h : ∀ i, i < n → p i = q i) : firstN p n = firstN q n := by
  induction n generalizing p q with
  | zero => rfl
  | succ n ih =>
    unfold firstN
    rw [h 0 (by omega), ih (p := fun i => p (i + 1)) (q := fun i => q (i + 1)) (fun i hi => h (i + 1) (by omega))]
theorem jFirst_cong {p q : Nat → Bool} {n : Nat} (h : ∀ i, i < n → p i = q i) : jFirst p n = jFirst q n := by
  unfold jFirst
  rw [firstN_cong h]
/-! the relation between the reference's town U and the class's town T -/
def eSim (f f2 : Nat → Int32) : Prop := (∀ k, k < 6 → f k = f2 k) ∧ f 7 = f2 7 ∧ (f2 5 ≠ 0 → f 6 = f2 6)
def simN (U T : fTn) : Prop := tM U = tM T ∧ tHn U = tHn T ∧ tPn U = tPn T ∧ tEn U = tEn T
def simP (U T : fTn) : Prop := ∀ p, p < tPn T → tP U p 0 = tP T p 0 ∧ tP U p 1 = tP T p 1
def simH (U T : fTn) : Prop := ∀ h, h < tHn T → ∀ k, k < 7 → tH U h k = tH T h k
def simE (U T : fTn) : Prop := ∀ e, e < tEn T → eSim (tE U e) (tE T e) ∧ tE U e 9 = tE T e 9
def simT (U T : fTn) : Prop := simN U T ∧ simP U T ∧ simH U T ∧ simE U T
def isCl (kf : Nat → Int32) (x : Int32) : Prop := ∃ c, c < 140 ∧ x = nI c ∧ kf c = 0
def isC0 (x : Int32) : Prop := ∃ c, c < 140 ∧ x = nI c
def okHs (T : fTn) : Prop := ∀ h, h < tHn T → isC0 (tH T h 0) ∧ (tH T h 3 ≠ 1 → tH T h 4 = 0)
def okPs (T : fTn) : Prop := ∀ p, p < tPn T → isC0 (tP T p 0) ∧ 0 ≤ tP T p 1
def eOk (kf f : Nat → Int32) : Prop := isCl kf (f 0) ∧ (0 ≤ f 3 ∧ f 3 ≤ 200) ∧ (∃ r, 1 ≤ r ∧ r ≤ 4 ∧ f 1 = nI r) ∧ ((f 5 = 0 ∧ f 6 = -1) ∨ (0 < f 5 ∧ isCl kf (f 6)))
def okEs (kf : Nat → Int32) (T : fTn) : Prop := ∀ e, e < tEn T → eOk kf (tE T e)
def okT (kf : Nat → Int32) (T : fTn) : Prop := okHs T ∧ okPs T ∧ okEs kf T ∧ okHz T ∧ (∃ rk, okH T rk) ∧ tHn T ≤ 30 ∧ tPn T ≤ 6 ∧ tEn T ≤ 6
theorem eSim_u {f f2 : Nat → Int32} {k : Nat} {x : Int32} (h : eSim f f2) (hk : 8 ≤ k) : eSim (upd f k x) f2 :=
  ⟨fun j hj => (upd_ne (by omega)).trans (h.1 j hj), (upd_ne (by omega)).trans h.2.1, fun z => (upd_ne (by omega)).trans (h.2.2 z)⟩
theorem eSim_t {f f2 : Nat → Int32} {k : Nat} {x : Int32} (h : eSim f f2) (hk : 8 ≤ k) : eSim f (upd f2 k x) :=
  ⟨fun j hj => (h.1 j hj).trans (upd_ne (by omega)).symm, h.2.1.trans (upd_ne (by omega)).symm, fun z => (h.2.2 (by rwa [upd_ne (by omega)] at z)).trans (upd_ne (by omega)).symm⟩
theorem ePump_cong {f f2 : Nat → Int32} (h2 : f 2 = f2 2) (h4 : f 4 = f2 4) (h5 : f 5 = f2 5) : ePump f = ePump f2 := by
  unfold ePump eStands
  rw [h2, h4, h5]
theorem eSim_pump {f f2 : Nat → Int32} (h : eSim f f2) : ePump f = ePump f2 := ePump_cong (h.1 2 (by omega)) (h.1 4 (by omega)) (h.1 5 (by omega))
theorem src_same {U T : fTn} {f f2 : Nat → Int32} (hn : tPn U = tPn T) (hP : ∀ p, p < tPn T → tP U p 0 = tP T p 0) (hO : ∀ p, p < tPn T → isC0 (tP T p 0)) (h0 : f 0 = f2 0) (h5 : f 5 = f2 5) (hc : isC0 (f2 0)) : mSrc U f = pondOf T f2 := by
  obtain ⟨c, hc1, hc2⟩ := hc
  unfold mSrc pondOf
  rw [hn, show eStands f = eStands f2 from by unfold eStands; rw [h5]]
  by_cases q : eStands f2 = true
  · rw [if_pos q]
    refine jFirst_cong (fun i hi => ?_)
    obtain ⟨d, hd1, hd2⟩ := hO i hi
    rw [q, hP i hi, h0, hd2, hc2, near_same hd1 hc1]
    rfl
  · rw [if_neg q]
    refine (jFirst_none (fun j hj => ?_)).symm
    rw [Bool.eq_false_iff.mpr q]
    rfl
/-! steam and driving -/
theorem go_row {kf f f2 : Nat → Int32} (h : eSim f f2) (ho : eOk kf f2) : eSim (mDrive (mFire f)) (eGo f2) ∧ eOk kf (eGo f2) ∧ mDrive (mFire f) 9 = f 9 ∧ eGo f2 9 = f2 9 := by
  obtain ⟨h1, h7, h6⟩ := h
  obtain ⟨oC, ⟨o3, o3b⟩, oR, oD⟩ := ho
  have g0 := h1 0 (by omega); have g1 := h1 1 (by omega); have g2 := h1 2 (by omega); have g3 := h1 3 (by omega); have g4 := h1 4 (by omega); have g5 := h1 5 (by omega)
  have F : eSim (mFire f) (eFire f2) ∧ eOk kf (eFire f2) ∧ mFire f 9 = f 9 ∧ eFire f2 9 = f2 9 := by
    unfold eFire
    by_cases q : f2 3 ≤ 0
    · rw [if_pos q]
      have q0 : f2 3 = 0 := eq0_of o3 q
      refine ⟨⟨fun k hk => ?_, ?_, ?_⟩, ⟨oC, ⟨o3, o3b⟩, oR, oD⟩, rfl, rfl⟩
      · rcases (show k = 0 ∨ k = 1 ∨ k = 2 ∨ k = 3 ∨ k = 4 ∨ k = 5 by omega) with rfl | rfl | rfl | rfl | rfl | rfl
        · exact g0
        · exact g1
        · exact g2
        · show iMax 0 (f 3 - 1) = f2 3
          rw [g3, q0]; rfl
        · show (if f 3 ≤ 0 then iMax 0 (f 4 - 3) else iMin 100 (f 4 + 4)) = iMax 0 (f2 4 - 3)
          rw [g3, if_pos q, g4]
        · exact g5
      · exact h7
      · exact h6
    · rw [if_neg q]
      have q1 : 0 < f2 3 := Int32.not_le.mp q
      have e3 : iMax 0 (f2 3 - 1) = f2 3 - 1 := by
        rw [sw_lt, z0] at q1
        apply Int32.toInt_inj.mp
        have e : (f2 3 - 1).toInt = (f2 3).toInt - 1 := by
          rw [Int32.toInt_sub]
          show ((f2 3).toInt - 1).bmod (2 ^ 32) = _
          have := Int32.toInt_lt (f2 3)
          rw [Int.bmod_eq_of_le] <;> omega
        rw [iMax_i, e, z0]
        split <;> omega
      have e3b : 0 ≤ f2 3 - 1 ∧ f2 3 - 1 ≤ 200 := by
        rw [sw_lt, z0] at q1
        have e : (f2 3 - 1).toInt = (f2 3).toInt - 1 := by
          rw [Int32.toInt_sub]
          show ((f2 3).toInt - 1).bmod (2 ^ 32) = _
          have := Int32.toInt_lt (f2 3)
          rw [Int.bmod_eq_of_le] <;> omega
        rw [sw_le] at o3b
        rw [show (200 : Int32).toInt = 200 from rfl] at o3b
        rw [sw_le, sw_le, e, z0, show (200 : Int32).toInt = 200 from rfl]
        omega
      refine ⟨⟨fun k hk => ?_, ?_, ?_⟩, ⟨oC, e3b, oR, oD⟩, rfl, rfl⟩
      · rcases (show k = 0 ∨ k = 1 ∨ k = 2 ∨ k = 3 ∨ k = 4 ∨ k = 5 by omega) with rfl | rfl | rfl | rfl | rfl | rfl
        · exact g0
        · exact g1
        · exact g2
        · show iMax 0 (f 3 - 1) = f2 3 - 1
          rw [g3, e3]
        · show (if f 3 ≤ 0 then iMax 0 (f 4 - 3) else iMin 100 (f 4 + 4)) = iMin 100 (f2 4 + 4)
          rw [g3, if_neg q, g4]
        · exact g5
      · exact h7
      · exact h6
  obtain ⟨⟨k1, k7, k6⟩, ⟨pC, p3, pR, pD⟩, k9, k9b⟩ := F
  obtain ⟨u, hu⟩ : ∃ z, z = mFire f := ⟨_, rfl⟩
  obtain ⟨t, ht⟩ : ∃ z, z = eFire f2 := ⟨_, rfl⟩
  unfold eGo
  rw [← hu] at k1 k7 k6 k9 ⊢
  rw [← ht] at k1 k7 k6 k9b pC p3 pR pD ⊢
  rw [← k9, ← k9b]
  have a5 := k1 5 (by omega)
  unfold mDrive eDrive eStands
  rw [show (upd u 5 (u 5 - 1)) 5 = u 5 - 1 from upd_at, a5]
  by_cases q : t 5 = 0
  · rw [if_pos (by rw [q]; rfl), if_pos (by rw [q]; rfl)]
    exact ⟨⟨k1, k7, k6⟩, ⟨pC, p3, pR, pD⟩, rfl, rfl⟩
  · have d1 : ¬ (decide (t 5 = 0) = true) := by simpa using q
    rw [if_neg d1, if_neg d1]
    have pD2 : 0 < t 5 ∧ isCl kf (t 6) := by rcases pD with ⟨a, -⟩ | a; exact absurd a q; exact a
    by_cases q2 : t 5 - 1 = 0
    · have d2 : decide (t 5 - 1 = 0) = true := by simpa using q2
      rw [if_pos d2, if_pos q2]
      refine ⟨⟨fun k hk => ?_, k7, fun z => absurd q2 z⟩, ⟨pD2.2, p3, pR, Or.inl ⟨q2, rfl⟩⟩, rfl, rfl⟩
      rcases (show k = 0 ∨ k = 1 ∨ k = 2 ∨ k = 3 ∨ k = 4 ∨ k = 5 by omega) with rfl | rfl | rfl | rfl | rfl | rfl
      · exact k6 q
      · exact k1 1 (by omega)
      · exact k1 2 (by omega)
      · exact k1 3 (by omega)
      · exact k1 4 (by omega)
      · rfl
    · have d2 : ¬ (decide (t 5 - 1 = 0) = true) := by simpa using q2
      rw [if_neg d2, if_neg q2]
      have e5 : 0 < t 5 - 1 := by
        have z := pD2.1
        rw [sw_lt, z0] at z
        have e : (t 5 - 1).toInt = (t 5).toInt - 1 := by
          rw [Int32.toInt_sub]
          show ((t 5).toInt - 1).bmod (2 ^ 32) = _
          have := Int32.toInt_lt (t 5)
          rw [Int.bmod_eq_of_le] <;> omega
        rw [sw_eq, e, z0] at q2
        rw [sw_lt, e, z0]
        omega
      refine ⟨⟨fun k hk => ?_, k7, fun z => k6 q⟩, ⟨pC, p3, pR, Or.inr ⟨e5, pD2.2⟩⟩, rfl, rfl⟩
      rcases (show k = 0 ∨ k = 1 ∨ k = 2 ∨ k = 3 ∨ k = 4 ∨ k = 5 by omega) with rfl | rfl | rfl | rfl | rfl | rfl
      · exact k1 0 (by omega)
      · exact k1 1 (by omega)
      · exact k1 2 (by omega)
      · exact k1 3 (by omega)
      · exact k1 4 (by omega)
      · rfl
theorem eGo_7 {f : Nat → Int32} : eGo f 7 = f 7 := by
  unfold eGo eDrive eFire
  repeat' split
  all_goals rfl
