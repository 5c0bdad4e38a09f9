/-- behind looking ahead: the town is as it was, but for what came and who was asked -/
abbrev fMa (g : fG) (ad : Nat → Nat) (M : fM) (U2 : fTn) (sp : Nat → Int32) (v : Int32) : Int32 → (Nat → Nat) → fM → Prop := fun r ad1 M1 => (∃ ca, isMo g ad1 M1 0 U2 sp ca) ∧ fReg 5 26 ad M ad1 M1 ∧ (∀ l, l < 20 → ad1 l = ad l) ∧ r = v
def mFore (U : fTn) (w : Int32) : Int32 := if w = 0 then cntH (tH U) 1 (tHn U) else if w = 1 then cntH (tH U) 3 (tHn U) else tTell U 8
def mRest (U : fTn) (k : Nat) : Bool := decide (¬ cntH (tH (goU U k).1) 1 (tHn (goU U k).1) ≤ 0)
def mLastK (U : fTn) : Nat := firstN (fun k => !mRest U k) 200
def mLast (U : fTn) : Int32 := if mRest U (mLastK U) = true then -1 else nI (mLastK U)
set_option maxHeartbeats 4000000 in
set_option maxRecDepth 100000 in
theorem x_m_foresee_1 (l : Launch) (g : fG) (ad : Nat → Nat) (M : fM) {th : Int32} {U : fTn} {sp ca : Nat → Int32} (hM : isMo g ad M th U sp ca) {mm w : Int32} (h1 : inR mm 1 100 = false) : fCi l g yX6_foresee cX6_foresee 5 ((some .int)) 7 170 0 0 ad M [.ref (ad 5), .int mm, .int w] (fMi g ad M 1 U sp ca 0) := by
  refine f_body (own := RX6) (by decide +kernel) rfl (Nat.le_of_ble_eq_true rfl) ?_
  intro p e s m args below meth c ls X hw hin hl
  have hx := X.1
  have hb := X.2.1
  have hl : lv_has ls 5 [(0, .ref (ad 5)), (1, .int mm), (2, .int w)] := hl
  obtain ⟨pcs, wa, ht, et, mi, co, as, hMo, ⟨hm6, hm7, hm8, hm9, hm10, hm11, hm12, hm13, hm14⟩, hRel, hCnt⟩ := id hM
  obtain ⟨hn1, hn2, hn3⟩ := id hCnt
  have hn1 : tHn U ≤ 30 := hn1
  have hn2 : tPn U ≤ 6 := hn2
  have hn3 : tEn U ≤ 6 := hn3
  have hMo : M 5 = some (.inr (7, [.int th, .int (nI (tHn U)), .int (nI (tPn U)), .int (nI (tEn U)), .ref (ad 6), .ref (ad 7), .ref (ad 8), .ref (ad 9), .ref (ad 10), .ref (ad 11), .ref (ad 12), .ref (ad 13), .ref (ad 14)])) := hMo
  obtain ⟨rH, rP, rE, rM⟩ := id hRel
  obtain ⟨Mo, hMq⟩ : ∃ z, z = M := ⟨_, rfl⟩
  have hrA : fReg 5 15 ad Mo ad M := by rw [hMq]; exact fReg_rf
  obtain ⟨Q9, hQ9⟩ : ∃ z, z = MQ below (fQi g (fMi g ad M 1 U sp ca 0)) args s 0 0 (fA g) := ⟨_, rfl⟩
  show W p l e (fR 7 170 0 0) s m args below meth c _ _ 0 0 (MQ below (fQi g (fMi g ad M 1 U sp ca 0)) args s 0 0 (fA g)) (F0 m 0 ls [])
  rw [← hQ9]
  refine lv_aload_n hx hb dX6_foresee_0 rfl (lv_at hl 0 rfl) ?_
  refine lv_iconst (v := 0) hx hb dX6_foresee_1 (by decide) ?_
  refine f_put X hw hMo fc7 0 (by decide) wq794 rfl rfl (v := .int 0) rfl rfl (Nat.le_of_ble_eq_true rfl) dX6_foresee_2 (fun H locs hw => ?_)
  have hw : fw g ad (fU M 5 (.inr (7, [.int 0, .int (nI (tHn U)), .int (nI (tPn U)), .int (nI (tEn U)), .ref (ad 6), .ref (ad 7), .ref (ad 8), .ref (ad 9), .ref (ad 10), .ref (ad 11), .ref (ad 12), .ref (ad 13), .ref (ad 14)]))) s H locs := hw
  have hMo : (fU M 5 (.inr (7, [.int 0, .int (nI (tHn U)), .int (nI (tPn U)), .int (nI (tEn U)), .ref (ad 6), .ref (ad 7), .ref (ad 8), .ref (ad 9), .ref (ad 10), .ref (ad 11), .ref (ad 12), .ref (ad 13), .ref (ad 14)]))) 5 = some (.inr (7, [.int 0, .int (nI (tHn U)), .int (nI (tPn U)), .int (nI (tEn U)), .ref (ad 6), .ref (ad 7), .ref (ad 8), .ref (ad 9), .ref (ad 10), .ref (ad 11), .ref (ad 12), .ref (ad 13), .ref (ad 14)])) := fU_s
  have hm6 : (fU M 5 (.inr (7, [.int 0, .int (nI (tHn U)), .int (nI (tPn U)), .int (nI (tEn U)), .ref (ad 6), .ref (ad 7), .ref (ad 8), .ref (ad 9), .ref (ad 10), .ref (ad 11), .ref (ad 12), .ref (ad 13), .ref (ad 14)]))) 6 = _ := (fU_n (by omega)).trans hm6
  have hm7 : (fU M 5 (.inr (7, [.int 0, .int (nI (tHn U)), .int (nI (tPn U)), .int (nI (tEn U)), .ref (ad 6), .ref (ad 7), .ref (ad 8), .ref (ad 9), .ref (ad 10), .ref (ad 11), .ref (ad 12), .ref (ad 13), .ref (ad 14)]))) 7 = _ := (fU_n (by omega)).trans hm7
  have hm8 : (fU M 5 (.inr (7, [.int 0, .int (nI (tHn U)), .int (nI (tPn U)), .int (nI (tEn U)), .ref (ad 6), .ref (ad 7), .ref (ad 8), .ref (ad 9), .ref (ad 10), .ref (ad 11), .ref (ad 12), .ref (ad 13), .ref (ad 14)]))) 8 = _ := (fU_n (by omega)).trans hm8
  have hm9 : (fU M 5 (.inr (7, [.int 0, .int (nI (tHn U)), .int (nI (tPn U)), .int (nI (tEn U)), .ref (ad 6), .ref (ad 7), .ref (ad 8), .ref (ad 9), .ref (ad 10), .ref (ad 11), .ref (ad 12), .ref (ad 13), .ref (ad 14)]))) 9 = _ := (fU_n (by omega)).trans hm9
  have hm10 : (fU M 5 (.inr (7, [.int 0, .int (nI (tHn U)), .int (nI (tPn U)), .int (nI (tEn U)), .ref (ad 6), .ref (ad 7), .ref (ad 8), .ref (ad 9), .ref (ad 10), .ref (ad 11), .ref (ad 12), .ref (ad 13), .ref (ad 14)]))) 10 = _ := (fU_n (by omega)).trans hm10
  have hm11 : (fU M 5 (.inr (7, [.int 0, .int (nI (tHn U)), .int (nI (tPn U)), .int (nI (tEn U)), .ref (ad 6), .ref (ad 7), .ref (ad 8), .ref (ad 9), .ref (ad 10), .ref (ad 11), .ref (ad 12), .ref (ad 13), .ref (ad 14)]))) 11 = _ := (fU_n (by omega)).trans hm11
  have hm12 : (fU M 5 (.inr (7, [.int 0, .int (nI (tHn U)), .int (nI (tPn U)), .int (nI (tEn U)), .ref (ad 6), .ref (ad 7), .ref (ad 8), .ref (ad 9), .ref (ad 10), .ref (ad 11), .ref (ad 12), .ref (ad 13), .ref (ad 14)]))) 12 = _ := (fU_n (by omega)).trans hm12
  have hm13 : (fU M 5 (.inr (7, [.int 0, .int (nI (tHn U)), .int (nI (tPn U)), .int (nI (tEn U)), .ref (ad 6), .ref (ad 7), .ref (ad 8), .ref (ad 9), .ref (ad 10), .ref (ad 11), .ref (ad 12), .ref (ad 13), .ref (ad 14)]))) 13 = _ := (fU_n (by omega)).trans hm13
  have hm14 : (fU M 5 (.inr (7, [.int 0, .int (nI (tHn U)), .int (nI (tPn U)), .int (nI (tEn U)), .ref (ad 6), .ref (ad 7), .ref (ad 8), .ref (ad 9), .ref (ad 10), .ref (ad 11), .ref (ad 12), .ref (ad 13), .ref (ad 14)]))) 14 = _ := (fU_n (by omega)).trans hm14
  have hM : isMo g ad (fU M 5 (.inr (7, [.int 0, .int (nI (tHn U)), .int (nI (tPn U)), .int (nI (tEn U)), .ref (ad 6), .ref (ad 7), .ref (ad 8), .ref (ad 9), .ref (ad 10), .ref (ad 11), .ref (ad 12), .ref (ad 13), .ref (ad 14)]))) 0 U sp ca := ⟨pcs, wa, ht, et, mi, co, as, hMo, ⟨hm6, hm7, hm8, hm9, hm10, hm11, hm12, hm13, hm14⟩, hRel, hCnt⟩
  have hrA : fReg 5 15 ad Mo ad (fU M 5 (.inr (7, [.int 0, .int (nI (tHn U)), .int (nI (tPn U)), .int (nI (tEn U)), .ref (ad 6), .ref (ad 7), .ref (ad 8), .ref (ad 9), .ref (ad 10), .ref (ad 11), .ref (ad 12), .ref (ad 13), .ref (ad 14)]))) := fReg_U hrA (by omega)
  obtain ⟨M1, eM1⟩ : ∃ z, z = (fU M 5 (.inr (7, [.int 0, .int (nI (tHn U)), .int (nI (tPn U)), .int (nI (tEn U)), .ref (ad 6), .ref (ad 7), .ref (ad 8), .ref (ad 9), .ref (ad 10), .ref (ad 11), .ref (ad 12), .ref (ad 13), .ref (ad 14)]))) := ⟨_, rfl⟩
  rw [← eM1] at hM hw hrA
  obtain ⟨pcs, wa, ht, et, mi, co, as, hMo, ⟨hm6, hm7, hm8, hm9, hm10, hm11, hm12, hm13, hm14⟩, hRel, hCnt⟩ := id hM
  obtain ⟨hn1, hn2, hn3⟩ := id hCnt
  have hn1 : tHn U ≤ 30 := hn1
  have hn2 : tPn U ≤ 6 := hn2
  have hn3 : tEn U ≤ 6 := hn3
  have hMo : M1 5 = some (.inr (7, [.int 0, .int (nI (tHn U)), .int (nI (tPn U)), .int (nI (tEn U)), .ref (ad 6), .ref (ad 7), .ref (ad 8), .ref (ad 9), .ref (ad 10), .ref (ad 11), .ref (ad 12), .ref (ad 13), .ref (ad 14)])) := hMo
  obtain ⟨rH, rP, rE, rM⟩ := id hRel
  refine lv_iload_n hx hb dX6_foresee_5 rfl (lv_at hl 1 rfl) ?_
  refine lv_iconst (v := 1) hx hb dX6_foresee_6 (by decide) ?_
  refine lv_bipush (v := 100) hx hb dX6_foresee_7 (by decide) ?_
  refine fk_di (fcS X hw (c_isIn l g ad M1 (mm) 1 100) wq846 kSX6_isIn ⟨(Nat.le_of_ble_eq_true rfl), (Nat.le_of_ble_eq_true rfl)⟩ rfl hl.1 rfl (Nat.le_of_ble_eq_true rfl) dX6_foresee_9 ⟨Nat.le_refl _, Nat.le_refl _⟩) hw (fun H locs hw => ?_)
  refine lv_if_ne (tgt := 21) hx hb dX6_foresee_12 (by decide) (fun c_1 => absurd (bI_nf.mp c_1) (f_false h1)) (fun c_1 => ?_)
  have c_1 := bI_f.mp c_1
  refine lv_aload_n hx hb dX6_foresee_15 rfl (lv_at hl 0 rfl) ?_
  refine lv_iconst (v := 1) hx hb dX6_foresee_16 (by decide) ?_
  refine fk_mi (fcV X hw (c_fail l g ad M1 hM 1) hMo rfl wq849 kVX6_fail ⟨(Nat.le_of_ble_eq_true rfl), (Nat.le_of_ble_eq_true rfl)⟩ rfl hl.1 rfl (Nat.le_of_ble_eq_true rfl) dX6_foresee_17 ⟨Nat.le_refl _, Nat.le_refl _⟩) hw (fun M2 H locs hM hr2 hw => ?_)
  have hrA := fReg_tr hrA hr2
  rw [hQ9, ← hMq]
  exact f_iret X hw ⟨rfl, hM, hrA, rfl⟩ (Nat.le_refl _) (Nat.le_refl _) dX6_foresee_20
set_option maxHeartbeats 4000000 in
set_option maxRecDepth 100000 in
theorem x_m_foresee_2 (l : Launch) (g : fG) (ad : Nat → Nat) (M : fM) {th : Int32} {U : fTn} {sp ca : Nat → Int32} (hM : isMo g ad M th U sp ca) {N : Nat} {w : Int32} (h1 : inR (nI N) 1 100 = true) (h2 : inR w 0 2 = false) : fCi l g yX6_foresee cX6_foresee 5 ((some .int)) 7 170 0 0 ad M [.ref (ad 5), .int (nI N), .int w] (fMi g ad M 2 U sp ca 0) := by
  refine f_body (own := RX6) (by decide +kernel) rfl (Nat.le_of_ble_eq_true rfl) ?_
  intro p e s m args below meth c ls X hw hin hl
  have hx := X.1
  have hb := X.2.1
  have hl : lv_has ls 5 [(0, .ref (ad 5)), (1, .int (nI N)), (2, .int w)] := hl
  obtain ⟨pcs, wa, ht, et, mi, co, as, hMo, ⟨hm6, hm7, hm8, hm9, hm10, hm11, hm12, hm13, hm14⟩, hRel, hCnt⟩ := id hM
  obtain ⟨hn1, hn2, hn3⟩ := id hCnt
  have hn1 : tHn U ≤ 30 := hn1
  have hn2 : tPn U ≤ 6 := hn2
  have hn3 : tEn U ≤ 6 := hn3
  have hMo : M 5 = some (.inr (7, [.int th, .int (nI (tHn U)), .int (nI (tPn U)), .int (nI (tEn U)), .ref (ad 6), .ref (ad 7), .ref (ad 8), .ref (ad 9), .ref (ad 10), .ref (ad 11), .ref (ad 12), .ref (ad 13), .ref (ad 14)])) := hMo
  obtain ⟨rH, rP, rE, rM⟩ := id hRel
  obtain ⟨Mo, hMq⟩ : ∃ z, z = M := ⟨_, rfl⟩
  have hrA : fReg 5 15 ad Mo ad M := by rw [hMq]; exact fReg_rf
  obtain ⟨Q9, hQ9⟩ : ∃ z, z = MQ below (fQi g (fMi g ad M 2 U sp ca 0)) args s 0 0 (fA g) := ⟨_, rfl⟩
  show W p l e (fR 7 170 0 0) s m args below meth c _ _ 0 0 (MQ below (fQi g (fMi g ad M 2 U sp ca 0)) args s 0 0 (fA g)) (F0 m 0 ls [])
  rw [← hQ9]
  refine lv_aload_n hx hb dX6_foresee_0 rfl (lv_at hl 0 rfl) ?_
  refine lv_iconst (v := 0) hx hb dX6_foresee_1 (by decide) ?_
  refine f_put X hw hMo fc7 0 (by decide) wq794 rfl rfl (v := .int 0) rfl rfl (Nat.le_of_ble_eq_true rfl) dX6_foresee_2 (fun H locs hw => ?_)
  have hw : fw g ad (fU M 5 (.inr (7, [.int 0, .int (nI (tHn U)), .int (nI (tPn U)), .int (nI (tEn U)), .ref (ad 6), .ref (ad 7), .ref (ad 8), .ref (ad 9), .ref (ad 10), .ref (ad 11), .ref (ad 12), .ref (ad 13), .ref (ad 14)]))) s H locs := hw
  have hMo : (fU M 5 (.inr (7, [.int 0, .int (nI (tHn U)), .int (nI (tPn U)), .int (nI (tEn U)), .ref (ad 6), .ref (ad 7), .ref (ad 8), .ref (ad 9), .ref (ad 10), .ref (ad 11), .ref (ad 12), .ref (ad 13), .ref (ad 14)]))) 5 = some (.inr (7, [.int 0, .int (nI (tHn U)), .int (nI (tPn U)), .int (nI (tEn U)), .ref (ad 6), .ref (ad 7), .ref (ad 8), .ref (ad 9), .ref (ad 10), .ref (ad 11), .ref (ad 12), .ref (ad 13), .ref (ad 14)])) := fU_s
  have hm6 : (fU M 5 (.inr (7, [.int 0, .int (nI (tHn U)), .int (nI (tPn U)), .int (nI (tEn U)), .ref (ad 6), .ref (ad 7), .ref (ad 8), .ref (ad 9), .ref (ad 10), .ref (ad 11), .ref (ad 12), .ref (ad 13), .ref (ad 14)]))) 6 = _ := (fU_n (by omega)).trans hm6
  have hm7 : (fU M 5 (.inr (7, [.int 0, .int (nI (tHn U)), .int (nI (tPn U)), .int (nI (tEn U)), .ref (ad 6), .ref (ad 7), .ref (ad 8), .ref (ad 9), .ref (ad 10), .ref (ad 11), .ref (ad 12), .ref (ad 13), .ref (ad 14)]))) 7 = _ := (fU_n (by omega)).trans hm7
  have hm8 : (fU M 5 (.inr (7, [.int 0, .int (nI (tHn U)), .int (nI (tPn U)), .int (nI (tEn U)), .ref (ad 6), .ref (ad 7), .ref (ad 8), .ref (ad 9), .ref (ad 10), .ref (ad 11), .ref (ad 12), .ref (ad 13), .ref (ad 14)]))) 8 = _ := (fU_n (by omega)).trans hm8
  have hm9 : (fU M 5 (.inr (7, [.int 0, .int (nI (tHn U)), .int (nI (tPn U)), .int (nI (tEn U)), .ref (ad 6), .ref (ad 7), .ref (ad 8), .ref (ad 9), .ref (ad 10), .ref (ad 11), .ref (ad 12), .ref (ad 13), .ref (ad 14)]))) 9 = _ := (fU_n (by omega)).trans hm9
  have hm10 : (fU M 5 (.inr (7, [.int 0, .int (nI (tHn U)), .int (nI (tPn U)), .int (nI (tEn U)), .ref (ad 6), .ref (ad 7), .ref (ad 8), .ref (ad 9), .ref (ad 10), .ref (ad 11), .ref (ad 12), .ref (ad 13), .ref (ad 14)]))) 10 = _ := (fU_n (by omega)).trans hm10
  have hm11 : (fU M 5 (.inr (7, [.int 0, .int (nI (tHn U)), .int (nI (tPn U)), .int (nI (tEn U)), .ref (ad 6), .ref (ad 7), .ref (ad 8), .ref (ad 9), .ref (ad 10), .ref (ad 11), .ref (ad 12), .ref (ad 13), .ref (ad 14)]))) 11 = _ := (fU_n (by omega)).trans hm11
  have hm12 : (fU M 5 (.inr (7, [.int 0, .int (nI (tHn U)), .int (nI (tPn U)), .int (nI (tEn U)), .ref (ad 6), .ref (ad 7), .ref (ad 8), .ref (ad 9), .ref (ad 10), .ref (ad 11), .ref (ad 12), .ref (ad 13), .ref (ad 14)]))) 12 = _ := (fU_n (by omega)).trans hm12
  have hm13 : (fU M 5 (.inr (7, [.int 0, .int (nI (tHn U)), .int (nI (tPn U)), .int (nI (tEn U)), .ref (ad 6), .ref (ad 7), .ref (ad 8), .ref (ad 9), .ref (ad 10), .ref (ad 11), .ref (ad 12), .ref (ad 13), .ref (ad 14)]))) 13 = _ := (fU_n (by omega)).trans hm13
  have hm14 : (fU M 5 (.inr (7, [.int 0, .int (nI (tHn U)), .int (nI (tPn U)), .int (nI (tEn U)), .ref (ad 6), .ref (ad 7), .ref (ad 8), .ref (ad 9), .ref (ad 10), .ref (ad 11), .ref (ad 12), .ref (ad 13), .ref (ad 14)]))) 14 = _ := (fU_n (by omega)).trans hm14
  have hM : isMo g ad (fU M 5 (.inr (7, [.int 0, .int (nI (tHn U)), .int (nI (tPn U)), .int (nI (tEn U)), .ref (ad 6), .ref (ad 7), .ref (ad 8), .ref (ad 9), .ref (ad 10), .ref (ad 11), .ref (ad 12), .ref (ad 13), .ref (ad 14)]))) 0 U sp ca := ⟨pcs, wa, ht, et, mi, co, as, hMo, ⟨hm6, hm7, hm8, hm9, hm10, hm11, hm12, hm13, hm14⟩, hRel, hCnt⟩
  have hrA : fReg 5 15 ad Mo ad (fU M 5 (.inr (7, [.int 0, .int (nI (tHn U)), .int (nI (tPn U)), .int (nI (tEn U)), .ref (ad 6), .ref (ad 7), .ref (ad 8), .ref (ad 9), .ref (ad 10), .ref (ad 11), .ref (ad 12), .ref (ad 13), .ref (ad 14)]))) := fReg_U hrA (by omega)
  obtain ⟨M3, eM3⟩ : ∃ z, z = (fU M 5 (.inr (7, [.int 0, .int (nI (tHn U)), .int (nI (tPn U)), .int (nI (tEn U)), .ref (ad 6), .ref (ad 7), .ref (ad 8), .ref (ad 9), .ref (ad 10), .ref (ad 11), .ref (ad 12), .ref (ad 13), .ref (ad 14)]))) := ⟨_, rfl⟩
  rw [← eM3] at hM hw hrA
  obtain ⟨pcs, wa, ht, et, mi, co, as, hMo, ⟨hm6, hm7, hm8, hm9, hm10, hm11, hm12, hm13, hm14⟩, hRel, hCnt⟩ := id hM
  obtain ⟨hn1, hn2, hn3⟩ := id hCnt
  have hn1 : tHn U ≤ 30 := hn1
  have hn2 : tPn U ≤ 6 := hn2
  have hn3 : tEn U ≤ 6 := hn3
  have hMo : M3 5 = some (.inr (7, [.int 0, .int (nI (tHn U)), .int (nI (tPn U)), .int (nI (tEn U)), .ref (ad 6), .ref (ad 7), .ref (ad 8), .ref (ad 9), .ref (ad 10), .ref (ad 11), .ref (ad 12), .ref (ad 13), .ref (ad 14)])) := hMo
  obtain ⟨rH, rP, rE, rM⟩ := id hRel
  refine lv_iload_n hx hb dX6_foresee_5 rfl (lv_at hl 1 rfl) ?_
  refine lv_iconst (v := 1) hx hb dX6_foresee_6 (by decide) ?_
  refine lv_bipush (v := 100) hx hb dX6_foresee_7 (by decide) ?_
  refine fk_di (fcS X hw (c_isIn l g ad M3 (nI N) 1 100) wq846 kSX6_isIn ⟨(Nat.le_of_ble_eq_true rfl), (Nat.le_of_ble_eq_true rfl)⟩ rfl hl.1 rfl (Nat.le_of_ble_eq_true rfl) dX6_foresee_9 ⟨Nat.le_refl _, Nat.le_refl _⟩) hw (fun H locs hw => ?_)
  refine lv_if_ne (tgt := 21) hx hb dX6_foresee_12 (by decide) (fun c_1 => ?_) (fun c_1 => absurd (bI_f.mp c_1) (by rw [h1]; decide))
  have c_1 := bI_nf.mp c_1
  refine lv_iload_n hx hb dX6_foresee_21 rfl (lv_at hl 2 rfl) ?_
  refine lv_iconst (v := 0) hx hb dX6_foresee_22 (by decide) ?_
  refine lv_iconst (v := 2) hx hb dX6_foresee_23 (by decide) ?_
  refine fk_di (fcS X hw (c_isIn l g ad M3 (w) 0 2) wq846 kSX6_isIn ⟨(Nat.le_of_ble_eq_true rfl), (Nat.le_of_ble_eq_true rfl)⟩ rfl hl.1 rfl (Nat.le_of_ble_eq_true rfl) dX6_foresee_24 ⟨Nat.le_refl _, Nat.le_refl _⟩) hw (fun H locs hw => ?_)
  refine lv_if_ne (tgt := 36) hx hb dX6_foresee_27 (by decide) (fun c_2 => absurd (bI_nf.mp c_2) (f_false h2)) (fun c_2 => ?_)
  have c_2 := bI_f.mp c_2
  refine lv_aload_n hx hb dX6_foresee_30 rfl (lv_at hl 0 rfl) ?_
  refine lv_iconst (v := 2) hx hb dX6_foresee_31 (by decide) ?_
  refine fk_mi (fcV X hw (c_fail l g ad M3 hM 2) hMo rfl wq849 kVX6_fail ⟨(Nat.le_of_ble_eq_true rfl), (Nat.le_of_ble_eq_true rfl)⟩ rfl hl.1 rfl (Nat.le_of_ble_eq_true rfl) dX6_foresee_32 ⟨Nat.le_refl _, Nat.le_refl _⟩) hw (fun M4 H locs hM hr4 hw => ?_)
  have hrA := fReg_tr hrA hr4
  rw [hQ9, ← hMq]
  exact f_iret X hw ⟨rfl, hM, hrA, rfl⟩ (Nat.le_refl _) (Nat.le_refl _) dX6_foresee_35
set_option maxHeartbeats 4000000 in
set_option maxRecDepth 100000 in
theorem c_m_foresee (l : Launch) (g : fG) (ad : Nat → Nat) (M : fM) {th : Int32} {U : fTn} {sp ca : Nat → Int32} (hM : isMo g ad M th U sp ca) {N : Nat} {w : Int32} (h1 : inR (nI N) 1 100 = true) (h2 : inR w 0 2 = true) (hN : N < 1000) (hOk : okHz U) : fCi l g yX6_foresee cX6_foresee 5 ((some .int)) 8 190 6 279 ad M [.ref (ad 5), .int (nI N), .int w] (fMa g ad M (backT (goU U N).1 U) sp (mFore (goU U N).1 w)) := by
  refine f_body (own := RX6) (by decide +kernel) rfl (Nat.le_of_ble_eq_true rfl) ?_
  intro p e s m args below meth c ls X hw hin hl
  have hx := X.1
  have hb := X.2.1
  have hl : lv_has ls 5 [(0, .ref (ad 5)), (1, .int (nI N)), (2, .int w)] := hl
  obtain ⟨pcs, wa, ht, et, mi, co, as, hMo, ⟨hm6, hm7, hm8, hm9, hm10, hm11, hm12, hm13, hm14⟩, hRel, hCnt⟩ := id hM
  obtain ⟨hn1, hn2, hn3⟩ := id hCnt
  have hn1 : tHn U ≤ 30 := hn1
  have hn2 : tPn U ≤ 6 := hn2
  have hn3 : tEn U ≤ 6 := hn3
  have hMo : M 5 = some (.inr (7, [.int th, .int (nI (tHn U)), .int (nI (tPn U)), .int (nI (tEn U)), .ref (ad 6), .ref (ad 7), .ref (ad 8), .ref (ad 9), .ref (ad 10), .ref (ad 11), .ref (ad 12), .ref (ad 13), .ref (ad 14)])) := hMo
  obtain ⟨rH, rP, rE, rM⟩ := id hRel
  obtain ⟨ado, hado⟩ : ∃ z, z = ad := ⟨_, rfl⟩
  obtain ⟨Mo, hMq⟩ : ∃ z, z = M := ⟨_, rfl⟩
  have hrA : fReg 5 15 ad Mo ad M := by rw [hMq]; exact fReg_rf
  obtain ⟨Q9, hQ9⟩ : ∃ z, z = MQ below (fQi g (fMa g ad M (backT (goU U N).1 U) sp (mFore (goU U N).1 w))) args s 6 279 (fA g) := ⟨_, rfl⟩
  show W p l e (fR 8 190 6 279) s m args below meth c _ _ 0 0 (MQ below (fQi g (fMa g ad M (backT (goU U N).1 U) sp (mFore (goU U N).1 w))) args s 6 279 (fA g)) (F0 m 0 ls [])
  rw [← hQ9]
  refine lv_aload_n hx hb dX6_foresee_0 rfl (lv_at hl 0 rfl) ?_
  refine lv_iconst (v := 0) hx hb dX6_foresee_1 (by decide) ?_
  refine f_put X hw hMo fc7 0 (by decide) wq794 rfl rfl (v := .int 0) rfl rfl (Nat.le_of_ble_eq_true rfl) dX6_foresee_2 (fun H locs hw => ?_)
  have hw : fw g ad (fU M 5 (.inr (7, [.int 0, .int (nI (tHn U)), .int (nI (tPn U)), .int (nI (tEn U)), .ref (ad 6), .ref (ad 7), .ref (ad 8), .ref (ad 9), .ref (ad 10), .ref (ad 11), .ref (ad 12), .ref (ad 13), .ref (ad 14)]))) s H locs := hw
  have hMo : (fU M 5 (.inr (7, [.int 0, .int (nI (tHn U)), .int (nI (tPn U)), .int (nI (tEn U)), .ref (ad 6), .ref (ad 7), .ref (ad 8), .ref (ad 9), .ref (ad 10), .ref (ad 11), .ref (ad 12), .ref (ad 13), .ref (ad 14)]))) 5 = some (.inr (7, [.int 0, .int (nI (tHn U)), .int (nI (tPn U)), .int (nI (tEn U)), .ref (ad 6), .ref (ad 7), .ref (ad 8), .ref (ad 9), .ref (ad 10), .ref (ad 11), .ref (ad 12), .ref (ad 13), .ref (ad 14)])) := fU_s
  have hm6 : (fU M 5 (.inr (7, [.int 0, .int (nI (tHn U)), .int (nI (tPn U)), .int (nI (tEn U)), .ref (ad 6), .ref (ad 7), .ref (ad 8), .ref (ad 9), .ref (ad 10), .ref (ad 11), .ref (ad 12), .ref (ad 13), .ref (ad 14)]))) 6 = _ := (fU_n (by omega)).trans hm6
  have hm7 : (fU M 5 (.inr (7, [.int 0, .int (nI (tHn U)), .int (nI (tPn U)), .int (nI (tEn U)), .ref (ad 6), .ref (ad 7), .ref (ad 8), .ref (ad 9), .ref (ad 10), .ref (ad 11), .ref (ad 12), .ref (ad 13), .ref (ad 14)]))) 7 = _ := (fU_n (by omega)).trans hm7
  have hm8 : (fU M 5 (.inr (7, [.int 0, .int (nI (tHn U)), .int (nI (tPn U)), .int (nI (tEn U)), .ref (ad 6), .ref (ad 7), .ref (ad 8), .ref (ad 9), .ref (ad 10), .ref (ad 11), .ref (ad 12), .ref (ad 13), .ref (ad 14)]))) 8 = _ := (fU_n (by omega)).trans hm8
  have hm9 : (fU M 5 (.inr (7, [.int 0, .int (nI (tHn U)), .int (nI (tPn U)), .int (nI (tEn U)), .ref (ad 6), .ref (ad 7), .ref (ad 8), .ref (ad 9), .ref (ad 10), .ref (ad 11), .ref (ad 12), .ref (ad 13), .ref (ad 14)]))) 9 = _ := (fU_n (by omega)).trans hm9
  have hm10 : (fU M 5 (.inr (7, [.int 0, .int (nI (tHn U)), .int (nI (tPn U)), .int (nI (tEn U)), .ref (ad 6), .ref (ad 7), .ref (ad 8), .ref (ad 9), .ref (ad 10), .ref (ad 11), .ref (ad 12), .ref (ad 13), .ref (ad 14)]))) 10 = _ := (fU_n (by omega)).trans hm10
  have hm11 : (fU M 5 (.inr (7, [.int 0, .int (nI (tHn U)), .int (nI (tPn U)), .int (nI (tEn U)), .ref (ad 6), .ref (ad 7), .ref (ad 8), .ref (ad 9), .ref (ad 10), .ref (ad 11), .ref (ad 12), .ref (ad 13), .ref (ad 14)]))) 11 = _ := (fU_n (by omega)).trans hm11
  have hm12 : (fU M 5 (.inr (7, [.int 0, .int (nI (tHn U)), .int (nI (tPn U)), .int (nI (tEn U)), .ref (ad 6), .ref (ad 7), .ref (ad 8), .ref (ad 9), .ref (ad 10), .ref (ad 11), .ref (ad 12), .ref (ad 13), .ref (ad 14)]))) 12 = _ := (fU_n (by omega)).trans hm12
  have hm13 : (fU M 5 (.inr (7, [.int 0, .int (nI (tHn U)), .int (nI (tPn U)), .int (nI (tEn U)), .ref (ad 6), .ref (ad 7), .ref (ad 8), .ref (ad 9), .ref (ad 10), .ref (ad 11), .ref (ad 12), .ref (ad 13), .ref (ad 14)]))) 13 = _ := (fU_n (by omega)).trans hm13
  have hm14 : (fU M 5 (.inr (7, [.int 0, .int (nI (tHn U)), .int (nI (tPn U)), .int (nI (tEn U)), .ref (ad 6), .ref (ad 7), .ref (ad 8), .ref (ad 9), .ref (ad 10), .ref (ad 11), .ref (ad 12), .ref (ad 13), .ref (ad 14)]))) 14 = _ := (fU_n (by omega)).trans hm14
  have hM : isMo g ad (fU M 5 (.inr (7, [.int 0, .int (nI (tHn U)), .int (nI (tPn U)), .int (nI (tEn U)), .ref (ad 6), .ref (ad 7), .ref (ad 8), .ref (ad 9), .ref (ad 10), .ref (ad 11), .ref (ad 12), .ref (ad 13), .ref (ad 14)]))) 0 U sp ca := ⟨pcs, wa, ht, et, mi, co, as, hMo, ⟨hm6, hm7, hm8, hm9, hm10, hm11, hm12, hm13, hm14⟩, hRel, hCnt⟩
  have hrA : fReg 5 15 ad Mo ad (fU M 5 (.inr (7, [.int 0, .int (nI (tHn U)), .int (nI (tPn U)), .int (nI (tEn U)), .ref (ad 6), .ref (ad 7), .ref (ad 8), .ref (ad 9), .ref (ad 10), .ref (ad 11), .ref (ad 12), .ref (ad 13), .ref (ad 14)]))) := fReg_U hrA (by omega)
  obtain ⟨M5, eM5⟩ : ∃ z, z = (fU M 5 (.inr (7, [.int 0, .int (nI (tHn U)), .int (nI (tPn U)), .int (nI (tEn U)), .ref (ad 6), .ref (ad 7), .ref (ad 8), .ref (ad 9), .ref (ad 10), .ref (ad 11), .ref (ad 12), .ref (ad 13), .ref (ad 14)]))) := ⟨_, rfl⟩
  rw [← eM5] at hM hw hrA
  obtain ⟨pcs, wa, ht, et, mi, co, as, hMo, ⟨hm6, hm7, hm8, hm9, hm10, hm11, hm12, hm13, hm14⟩, hRel, hCnt⟩ := id hM
  obtain ⟨hn1, hn2, hn3⟩ := id hCnt
  have hn1 : tHn U ≤ 30 := hn1
  have hn2 : tPn U ≤ 6 := hn2
  have hn3 : tEn U ≤ 6 := hn3
  have hMo : M5 5 = some (.inr (7, [.int 0, .int (nI (tHn U)), .int (nI (tPn U)), .int (nI (tEn U)), .ref (ad 6), .ref (ad 7), .ref (ad 8), .ref (ad 9), .ref (ad 10), .ref (ad 11), .ref (ad 12), .ref (ad 13), .ref (ad 14)])) := hMo
  obtain ⟨rH, rP, rE, rM⟩ := id hRel
  refine lv_iload_n hx hb dX6_foresee_5 rfl (lv_at hl 1 rfl) ?_
  refine lv_iconst (v := 1) hx hb dX6_foresee_6 (by decide) ?_
  refine lv_bipush (v := 100) hx hb dX6_foresee_7 (by decide) ?_
  refine fk_di (fcS X hw (c_isIn l g ad M5 (nI N) 1 100) wq846 kSX6_isIn ⟨(Nat.le_of_ble_eq_true rfl), (Nat.le_of_ble_eq_true rfl)⟩ rfl hl.1 rfl (Nat.le_of_ble_eq_true rfl) dX6_foresee_9 ⟨(by dsimp only [fR]; omega), (by dsimp only [fR]; omega)⟩) hw (fun H locs hw => ?_)
  refine lv_if_ne (tgt := 21) hx hb dX6_foresee_12 (by decide) (fun c_1 => ?_) (fun c_1 => absurd (bI_f.mp c_1) (by rw [h1]; decide))
  have c_1 := bI_nf.mp c_1
  refine lv_iload_n hx hb dX6_foresee_21 rfl (lv_at hl 2 rfl) ?_
  refine lv_iconst (v := 0) hx hb dX6_foresee_22 (by decide) ?_
  refine lv_iconst (v := 2) hx hb dX6_foresee_23 (by decide) ?_
  refine fk_di (fcS X hw (c_isIn l g ad M5 (w) 0 2) wq846 kSX6_isIn ⟨(Nat.le_of_ble_eq_true rfl), (Nat.le_of_ble_eq_true rfl)⟩ rfl hl.1 rfl (Nat.le_of_ble_eq_true rfl) dX6_foresee_24 ⟨(by dsimp only [fR]; omega), (by dsimp only [fR]; omega)⟩) hw (fun H locs hw => ?_)
  refine lv_if_ne (tgt := 36) hx hb dX6_foresee_27 (by decide) (fun c_2 => ?_) (fun c_2 => absurd (bI_f.mp c_2) (by rw [h2]; decide))
  have c_2 := bI_nf.mp c_2
  refine lv_aload_n hx hb dX6_foresee_36 rfl (lv_at hl 0 rfl) ?_
  refine fk_r (fcV X hw (c_m_kept l g ad M5 hM) hMo rfl wq1025 kVX6_kept ⟨(Nat.le_of_ble_eq_true rfl), (Nat.le_of_ble_eq_true rfl)⟩ rfl hl.1 rfl (Nat.le_of_ble_eq_true rfl) dX6_foresee_37 ⟨(by dsimp only [fR]; omega), (by dsimp only [fR]; omega)⟩) hw (fun q ad1 M1 H locs hp hw => ?_)
  obtain ⟨hq, hK1, hr1⟩ := hp
  refine f_adr (ad := ad1) (lb := 20) hq ?_
  rw [← (hr1 5 (by omega) (by omega)).1] at hl
  have hM1 := isMo_reg hM hr1 (Or.inl (by omega))
  have seg : ∀ (ad : Nat → Nat) (M : fM) (hM : isMo g ad M 0 U sp ca) (hK : isKp g ad M U) (hrB : fReg 5 25 ado Mo ad M) (hA5 : ∀ l, l < 20 → ad l = ado l) (ls : Array Slot) (H : Heap) (locs : List Loc), fw g ad M s H locs → lv_has ls 5 [(0, .ref (ad 5)), (1, .int (nI N)), (2, .int w)] → W p l e (fR 8 190 6 279) s m args below meth c H locs (0 + 5) (0 + 275) Q9 (F0 m 40 ls [.ref (ad 20)]) := by
    intro ad M hM hK hrB hA5 ls H locs hw hl
    obtain ⟨Mn, hMn⟩ : ∃ z, z = Mo := ⟨_, rfl⟩
    obtain ⟨Mo, hMo2⟩ : ∃ z, z = M := ⟨_, rfl⟩
    have hrA : fReg 5 15 ad Mo ad M := by rw [hMo2]; exact fReg_rf
    have hK : isKp g ad Mo U := by rw [hMo2]; exact hK
    rw [← hMn, ← hMo2] at hrB
    obtain ⟨pcs, wa, ht, et, mi, co, as, hMo, ⟨hm6, hm7, hm8, hm9, hm10, hm11, hm12, hm13, hm14⟩, hRel, hCnt⟩ := id hM
    obtain ⟨hn1, hn2, hn3⟩ := id hCnt
    have hn1 : tHn U ≤ 30 := hn1
    have hn2 : tPn U ≤ 6 := hn2
    have hn3 : tEn U ≤ 6 := hn3
    have hMo : M 5 = some (.inr (7, [.int 0, .int (nI (tHn U)), .int (nI (tPn U)), .int (nI (tEn U)), .ref (ad 6), .ref (ad 7), .ref (ad 8), .ref (ad 9), .ref (ad 10), .ref (ad 11), .ref (ad 12), .ref (ad 13), .ref (ad 14)])) := hMo
    obtain ⟨rH, rP, rE, rM⟩ := id hRel
    refine lv_astore_n (lv' := [(3, .ref (ad 20)), (0, .ref (ad 5)), (1, .int (nI N)), (2, .int w)]) hx hb dX6_foresee_40 rfl hl (by decide) rfl (fun ls hl => ?_)
    refine lv_iconst (v := 0) hx hb dX6_foresee_41 (by decide) ?_
    refine lv_istore (lv' := [(4, .int 0), (3, .ref (ad 20)), (0, .ref (ad 5)), (1, .int (nI N)), (2, .int w)]) hx hb dX6_foresee_42 hl (by decide) rfl (fun ls hl => ?_)
    have loop44 : ∀ (n44 k : Nat), k ≤ N → N < k + n44 → ∀ (M : fM) (ca : Nat → Int32) (hM : isMo g ad M 0 ((goU U k).1) sp ca) (hrA : fReg 5 15 ad Mo ad M) (ls : Array Slot) (H : Heap) (locs : List Loc), fw g ad M s H locs → lv_has ls 5 [(4, .int (nI k)), (0, .ref (ad 5)), (1, .int (nI N)), (2, .int w), (3, .ref (ad 20))] → W p l e (fR 8 190 6 279) s m args below meth c H locs (0 + 5) (0 + 275) Q9 (F0 m 44 ls []) := by
      intro n44
      induction n44 with
      | zero => intro k h1 h2; omega
      | succ n44 ih44 =>
        intro k hk_k hn_k M ca hM hrA ls H locs hw hl
        obtain ⟨pcs, wa, ht, et, mi, co, as, hMo, ⟨hm6, hm7, hm8, hm9, hm10, hm11, hm12, hm13, hm14⟩, hRel, hCnt⟩ := id hM
        obtain ⟨hn1, hn2, hn3⟩ := id hCnt
        have hn1 : tHn ((goU U k).1) ≤ 30 := hn1
        have hn2 : tPn ((goU U k).1) ≤ 6 := hn2
        have hn3 : tEn ((goU U k).1) ≤ 6 := hn3
        have hMo : M 5 = some (.inr (7, [.int 0, .int (nI (tHn ((goU U k).1))), .int (nI (tPn ((goU U k).1))), .int (nI (tEn ((goU U k).1))), .ref (ad 6), .ref (ad 7), .ref (ad 8), .ref (ad 9), .ref (ad 10), .ref (ad 11), .ref (ad 12), .ref (ad 13), .ref (ad 14)])) := hMo
        obtain ⟨rH, rP, rE, rM⟩ := id hRel
        refine lv_iload hx hb dX6_foresee_44 (lv_at hl 0 rfl) ?_
        refine lv_iload_n hx hb dX6_foresee_46 rfl (lv_at hl 2 rfl) ?_
        refine lv_icmp_ge (tgt := 61) hx hb dX6_foresee_47 (by decide) (fun c_3 => ?_) (fun c_3 => ?_)
        · have c_3 := nI_le' (a := N) (b := k) c_3 (by omega) (by omega)
          refine lv_iload_n hx hb dX6_foresee_61 rfl (lv_at hl 3 rfl) ?_
          refine lv_if_ne (tgt := 73) hx hb dX6_foresee_62 (by decide) (fun c_4 => ?_) (fun c_4 => ?_)
          · refine lv_iload_n hx hb dX6_foresee_73 rfl (lv_at hl 3 rfl) ?_
            refine lv_iconst (v := 1) hx hb dX6_foresee_74 (by decide) ?_
            refine lv_icmp_ne (tgt := 86) hx hb dX6_foresee_75 (by decide) (fun c_5 => ?_) (fun c_5 => ?_)
            · refine lv_aload_n hx hb dX6_foresee_86 rfl (lv_at hl 1 rfl) ?_
              refine lv_bipush (v := 8) hx hb dX6_foresee_87 (by decide) ?_
              refine fk_di (fcV X hw (c_m_counted l g ad M hM 8) hMo rfl wq1017 kVX6_counted ⟨(Nat.le_of_ble_eq_true rfl), (Nat.le_of_ble_eq_true rfl)⟩ rfl hl.1 rfl (Nat.le_of_ble_eq_true rfl) dX6_foresee_89 ⟨(by dsimp only [fR]; omega), (by dsimp only [fR]; omega)⟩) hw (fun H locs hw => ?_)
              refine lv_istore (lv' := [(4, .int (tTell (goU U k).1 8)), (0, .ref (ad 5)), (1, .int (nI N)), (2, .int w), (3, .ref (ad 20))]) hx hb dX6_foresee_92 hl (by decide) rfl (fun ls hl => ?_)
              refine lv_aload_n hx hb dX6_foresee_94 rfl (lv_at hl 1 rfl) ?_
              refine lv_aload_n hx hb dX6_foresee_95 rfl (lv_at hl 4 rfl) ?_
              refine fk_v (fcV X hw (c_m_back l g ad M hM (K := U) (isKp_reg hK hrA (Or.inr (by omega))) (goU_n U k).1 (goU_n U k).2.1 (goU_n U k).2.2) hMo rfl wq1037 kVX6_bringBack ⟨(Nat.le_of_ble_eq_true rfl), (Nat.le_of_ble_eq_true rfl)⟩ rfl hl.1 rfl (Nat.le_of_ble_eq_true rfl) dX6_foresee_96 ⟨(by dsimp only [fR]; omega), (by dsimp only [fR]; omega)⟩) hw (fun ad2 M2 H locs hp hw => ?_)
              obtain ⟨hM2, hr2⟩ := hp
              refine lv_iload hx hb dX6_foresee_99 (lv_at hl 0 rfl) ?_
              rw [hQ9, ← hMq]
              obtain rfl : k = N := by omega
              rw [hado] at hA5 hrB
              rw [hMn] at hrB
              exact f_iret X hw ⟨⟨_, hM2⟩, fun l a b => ⟨(hr2 l (by omega) b).1.trans ((hrA l (by omega) b).1.trans (hrB l (by omega) b).1), ((hr2 l (by omega) b).2 (by omega)).trans ((hrA l (by omega) b).2.trans (hrB l (by omega) b).2)⟩, fun l a => (hr2 l (by omega) (by omega)).1.trans (hA5 l a), by simp [mFore, c_4, c_5]⟩ (by omega) (by omega) dX6_foresee_101
            · refine lv_aload_n hx hb dX6_foresee_78 rfl (lv_at hl 1 rfl) ?_
              refine lv_iconst (v := 3) hx hb dX6_foresee_79 (by decide) ?_
              refine fk_di (fcV X hw (c_m_with l g ad M hM 3) hMo rfl wq894 kVX6_with ⟨(Nat.le_of_ble_eq_true rfl), (Nat.le_of_ble_eq_true rfl)⟩ rfl hl.1 rfl (Nat.le_of_ble_eq_true rfl) dX6_foresee_80 ⟨(by dsimp only [fR]; omega), (by dsimp only [fR]; omega)⟩) hw (fun H locs hw => ?_)
              refine lv_goto (tgt := 92) hx hb dX6_foresee_83 (by decide) ?_
              refine lv_istore (lv' := [(4, .int (cntH (tH (goU U k).1) 3 (tHn (goU U k).1))), (0, .ref (ad 5)), (1, .int (nI N)), (2, .int w), (3, .ref (ad 20))]) hx hb dX6_foresee_92 hl (by decide) rfl (fun ls hl => ?_)
              refine lv_aload_n hx hb dX6_foresee_94 rfl (lv_at hl 1 rfl) ?_
              refine lv_aload_n hx hb dX6_foresee_95 rfl (lv_at hl 4 rfl) ?_
              refine fk_v (fcV X hw (c_m_back l g ad M hM (K := U) (isKp_reg hK hrA (Or.inr (by omega))) (goU_n U k).1 (goU_n U k).2.1 (goU_n U k).2.2) hMo rfl wq1037 kVX6_bringBack ⟨(Nat.le_of_ble_eq_true rfl), (Nat.le_of_ble_eq_true rfl)⟩ rfl hl.1 rfl (Nat.le_of_ble_eq_true rfl) dX6_foresee_96 ⟨(by dsimp only [fR]; omega), (by dsimp only [fR]; omega)⟩) hw (fun ad2 M2 H locs hp hw => ?_)
              obtain ⟨hM2, hr2⟩ := hp
              refine lv_iload hx hb dX6_foresee_99 (lv_at hl 0 rfl) ?_
              rw [hQ9, ← hMq]
              obtain rfl : k = N := by omega
              rw [hado] at hA5 hrB
              rw [hMn] at hrB
              exact f_iret X hw ⟨⟨_, hM2⟩, fun l a b => ⟨(hr2 l (by omega) b).1.trans ((hrA l (by omega) b).1.trans (hrB l (by omega) b).1), ((hr2 l (by omega) b).2 (by omega)).trans ((hrA l (by omega) b).2.trans (hrB l (by omega) b).2)⟩, fun l a => (hr2 l (by omega) (by omega)).1.trans (hA5 l a), by simp [mFore, c_4, c_5]⟩ (by omega) (by omega) dX6_foresee_101
          · refine lv_aload_n hx hb dX6_foresee_65 rfl (lv_at hl 1 rfl) ?_
            refine lv_iconst (v := 1) hx hb dX6_foresee_66 (by decide) ?_
            refine fk_di (fcV X hw (c_m_with l g ad M hM 1) hMo rfl wq894 kVX6_with ⟨(Nat.le_of_ble_eq_true rfl), (Nat.le_of_ble_eq_true rfl)⟩ rfl hl.1 rfl (Nat.le_of_ble_eq_true rfl) dX6_foresee_67 ⟨(by dsimp only [fR]; omega), (by dsimp only [fR]; omega)⟩) hw (fun H locs hw => ?_)
            refine lv_goto (tgt := 92) hx hb dX6_foresee_70 (by decide) ?_
            refine lv_istore (lv' := [(4, .int (cntH (tH (goU U k).1) 1 (tHn (goU U k).1))), (0, .ref (ad 5)), (1, .int (nI N)), (2, .int w), (3, .ref (ad 20))]) hx hb dX6_foresee_92 hl (by decide) rfl (fun ls hl => ?_)
            refine lv_aload_n hx hb dX6_foresee_94 rfl (lv_at hl 1 rfl) ?_
            refine lv_aload_n hx hb dX6_foresee_95 rfl (lv_at hl 4 rfl) ?_
            refine fk_v (fcV X hw (c_m_back l g ad M hM (K := U) (isKp_reg hK hrA (Or.inr (by omega))) (goU_n U k).1 (goU_n U k).2.1 (goU_n U k).2.2) hMo rfl wq1037 kVX6_bringBack ⟨(Nat.le_of_ble_eq_true rfl), (Nat.le_of_ble_eq_true rfl)⟩ rfl hl.1 rfl (Nat.le_of_ble_eq_true rfl) dX6_foresee_96 ⟨(by dsimp only [fR]; omega), (by dsimp only [fR]; omega)⟩) hw (fun ad2 M2 H locs hp hw => ?_)
            obtain ⟨hM2, hr2⟩ := hp
            refine lv_iload hx hb dX6_foresee_99 (lv_at hl 0 rfl) ?_
            rw [hQ9, ← hMq]
            obtain rfl : k = N := by omega
            rw [hado] at hA5 hrB
            rw [hMn] at hrB
            exact f_iret X hw ⟨⟨_, hM2⟩, fun l a b => ⟨(hr2 l (by omega) b).1.trans ((hrA l (by omega) b).1.trans (hrB l (by omega) b).1), ((hr2 l (by omega) b).2 (by omega)).trans ((hrA l (by omega) b).2.trans (hrB l (by omega) b).2)⟩, fun l a => (hr2 l (by omega) (by omega)).1.trans (hA5 l a), by simp [mFore, c_3, c_4]⟩ (by omega) (by omega) dX6_foresee_101
        · have c_3 := nI_nle' (a := N) (b := k) c_3 (by omega) (by omega)
          refine lv_aload_n hx hb dX6_foresee_50 rfl (lv_at hl 1 rfl) ?_
          refine fk_mx (fcV X hw (c_m_minute l g ad M hM (okHz_go hOk k)) hMo rfl wq991 kVX6_minuteOn ⟨(Nat.le_of_ble_eq_true rfl), (Nat.le_of_ble_eq_true rfl)⟩ rfl hl.1 rfl (Nat.le_of_ble_eq_true rfl) dX6_foresee_51 ⟨(by dsimp only [fR]; omega), (by dsimp only [fR]; omega)⟩) hw (fun M7 ca H locs hM hr7 hw => ?_)
          have hrA := fReg_tr hrA hr7
          refine lv_pop hx hb dX6_foresee_54 rfl ?_
          refine lv_iinc (v := nI (k + 1)) (lv' := [(4, .int (nI (k + 1))), (0, .ref (ad 5)), (1, .int (nI N)), (2, .int w), (3, .ref (ad 20))]) hx hb dX6_foresee_55 hl (k := 0) rfl (nI_1 k) (by decide) rfl (fun ls hl => ?_)
          refine lv_goto (tgt := 44) hx hb dX6_foresee_58 (by decide) ?_
          exact ih44 (k + 1) (by omega) (by omega) M7 _ hM hrA ls _ _ hw (lv_sub hl [0, 1, 2, 3, 4] rfl)
    exact loop44 (N + 1) 0 (by omega) (by omega) M _ hM hrA ls _ _ hw (lv_sub hl [0, 2, 3, 4, 1] rfl)
  exact seg ad1 M1 hM1 hK1 (by rw [hado]; exact fReg_tr (fReg_w hrA (by omega) (by omega)) (fReg_w hr1 (by omega) (by omega))) (fun l a => by rw [hado]; exact (hr1 l (by omega) (by omega)).1) ls _ _ hw hl
set_option maxHeartbeats 4000000 in
set_option maxRecDepth 100000 in
theorem c_m_lasts (l : Launch) (g : fG) (ad : Nat → Nat) (M : fM) {th : Int32} {U : fTn} {sp ca : Nat → Int32} (hM : isMo g ad M th U sp ca) (hOk : okHz U) : fCi l g yX6_lasts cX6_lasts 3 ((some .int)) 8 190 6 279 ad M [.ref (ad 5)] (fMa g ad M (backT (goU U (mLastK U)).1 U) sp (mLast U)) := by
  refine f_body (own := RX6) (by decide +kernel) rfl (Nat.le_of_ble_eq_true rfl) ?_
  intro p e s m args below meth c ls X hw hin hl
  have hx := X.1
  have hb := X.2.1
  have hl : lv_has ls 3 [(0, .ref (ad 5))] := hl
  obtain ⟨pcs, wa, ht, et, mi, co, as, hMo, ⟨hm6, hm7, hm8, hm9, hm10, hm11, hm12, hm13, hm14⟩, hRel, hCnt⟩ := id hM
  obtain ⟨hn1, hn2, hn3⟩ := id hCnt
  have hn1 : tHn U ≤ 30 := hn1
  have hn2 : tPn U ≤ 6 := hn2
  have hn3 : tEn U ≤ 6 := hn3
  have hMo : M 5 = some (.inr (7, [.int th, .int (nI (tHn U)), .int (nI (tPn U)), .int (nI (tEn U)), .ref (ad 6), .ref (ad 7), .ref (ad 8), .ref (ad 9), .ref (ad 10), .ref (ad 11), .ref (ad 12), .ref (ad 13), .ref (ad 14)])) := hMo
  obtain ⟨rH, rP, rE, rM⟩ := id hRel
  obtain ⟨ado, hado⟩ : ∃ z, z = ad := ⟨_, rfl⟩
  obtain ⟨Mo, hMq⟩ : ∃ z, z = M := ⟨_, rfl⟩
  have hrA : fReg 5 15 ad Mo ad M := by rw [hMq]; exact fReg_rf
  obtain ⟨Q9, hQ9⟩ : ∃ z, z = MQ below (fQi g (fMa g ad M (backT (goU U (mLastK U)).1 U) sp (mLast U))) args s 6 279 (fA g) := ⟨_, rfl⟩
  show W p l e (fR 8 190 6 279) s m args below meth c _ _ 0 0 (MQ below (fQi g (fMa g ad M (backT (goU U (mLastK U)).1 U) sp (mLast U))) args s 6 279 (fA g)) (F0 m 0 ls [])
  rw [← hQ9]
  refine lv_aload_n hx hb dX6_lasts_0 rfl (lv_at hl 0 rfl) ?_
  refine lv_iconst (v := 0) hx hb dX6_lasts_1 (by decide) ?_
  refine f_put X hw hMo fc7 0 (by decide) wq794 rfl rfl (v := .int 0) rfl rfl (Nat.le_of_ble_eq_true rfl) dX6_lasts_2 (fun H locs hw => ?_)
  have hw : fw g ad (fU M 5 (.inr (7, [.int 0, .int (nI (tHn U)), .int (nI (tPn U)), .int (nI (tEn U)), .ref (ad 6), .ref (ad 7), .ref (ad 8), .ref (ad 9), .ref (ad 10), .ref (ad 11), .ref (ad 12), .ref (ad 13), .ref (ad 14)]))) s H locs := hw
  have hMo : (fU M 5 (.inr (7, [.int 0, .int (nI (tHn U)), .int (nI (tPn U)), .int (nI (tEn U)), .ref (ad 6), .ref (ad 7), .ref (ad 8), .ref (ad 9), .ref (ad 10), .ref (ad 11), .ref (ad 12), .ref (ad 13), .ref (ad 14)]))) 5 = some (.inr (7, [.int 0, .int (nI (tHn U)), .int (nI (tPn U)), .int (nI (tEn U)), .ref (ad 6), .ref (ad 7), .ref (ad 8), .ref (ad 9), .ref (ad 10), .ref (ad 11), .ref (ad 12), .ref (ad 13), .ref (ad 14)])) := fU_s
  have hm6 : (fU M 5 (.inr (7, [.int 0, .int (nI (tHn U)), .int (nI (tPn U)), .int (nI (tEn U)), .ref (ad 6), .ref (ad 7), .ref (ad 8), .ref (ad 9), .ref (ad 10), .ref (ad 11), .ref (ad 12), .ref (ad 13), .ref (ad 14)]))) 6 = _ := (fU_n (by omega)).trans hm6
  have hm7 : (fU M 5 (.inr (7, [.int 0, .int (nI (tHn U)), .int (nI (tPn U)), .int (nI (tEn U)), .ref (ad 6), .ref (ad 7), .ref (ad 8), .ref (ad 9), .ref (ad 10), .ref (ad 11), .ref (ad 12), .ref (ad 13), .ref (ad 14)]))) 7 = _ := (fU_n (by omega)).trans hm7
  have hm8 : (fU M 5 (.inr (7, [.int 0, .int (nI (tHn U)), .int (nI (tPn U)), .int (nI (tEn U)), .ref (ad 6), .ref (ad 7), .ref (ad 8), .ref (ad 9), .ref (ad 10), .ref (ad 11), .ref (ad 12), .ref (ad 13), .ref (ad 14)]))) 8 = _ := (fU_n (by omega)).trans hm8
  have hm9 : (fU M 5 (.inr (7, [.int 0, .int (nI (tHn U)), .int (nI (tPn U)), .int (nI (tEn U)), .ref (ad 6), .ref (ad 7), .ref (ad 8), .ref (ad 9), .ref (ad 10), .ref (ad 11), .ref (ad 12), .ref (ad 13), .ref (ad 14)]))) 9 = _ := (fU_n (by omega)).trans hm9
  have hm10 : (fU M 5 (.inr (7, [.int 0, .int (nI (tHn U)), .int (nI (tPn U)), .int (nI (tEn U)), .ref (ad 6), .ref (ad 7), .ref (ad 8), .ref (ad 9), .ref (ad 10), .ref (ad 11), .ref (ad 12), .ref (ad 13), .ref (ad 14)]))) 10 = _ := (fU_n (by omega)).trans hm10
  have hm11 : (fU M 5 (.inr (7, [.int 0, .int (nI (tHn U)), .int (nI (tPn U)), .int (nI (tEn U)), .ref (ad 6), .ref (ad 7), .ref (ad 8), .ref (ad 9), .ref (ad 10), .ref (ad 11), .ref (ad 12), .ref (ad 13), .ref (ad 14)]))) 11 = _ := (fU_n (by omega)).trans hm11
  have hm12 : (fU M 5 (.inr (7, [.int 0, .int (nI (tHn U)), .int (nI (tPn U)), .int (nI (tEn U)), .ref (ad 6), .ref (ad 7), .ref (ad 8), .ref (ad 9), .ref (ad 10), .ref (ad 11), .ref (ad 12), .ref (ad 13), .ref (ad 14)]))) 12 = _ := (fU_n (by omega)).trans hm12
  have hm13 : (fU M 5 (.inr (7, [.int 0, .int (nI (tHn U)), .int (nI (tPn U)), .int (nI (tEn U)), .ref (ad 6), .ref (ad 7), .ref (ad 8), .ref (ad 9), .ref (ad 10), .ref (ad 11), .ref (ad 12), .ref (ad 13), .ref (ad 14)]))) 13 = _ := (fU_n (by omega)).trans hm13
  have hm14 : (fU M 5 (.inr (7, [.int 0, .int (nI (tHn U)), .int (nI (tPn U)), .int (nI (tEn U)), .ref (ad 6), .ref (ad 7), .ref (ad 8), .ref (ad 9), .ref (ad 10), .ref (ad 11), .ref (ad 12), .ref (ad 13), .ref (ad 14)]))) 14 = _ := (fU_n (by omega)).trans hm14
  have hM : isMo g ad (fU M 5 (.inr (7, [.int 0, .int (nI (tHn U)), .int (nI (tPn U)), .int (nI (tEn U)), .ref (ad 6), .ref (ad 7), .ref (ad 8), .ref (ad 9), .ref (ad 10), .ref (ad 11), .ref (ad 12), .ref (ad 13), .ref (ad 14)]))) 0 U sp ca := ⟨pcs, wa, ht, et, mi, co, as, hMo, ⟨hm6, hm7, hm8, hm9, hm10, hm11, hm12, hm13, hm14⟩, hRel, hCnt⟩
  have hrA : fReg 5 15 ad Mo ad (fU M 5 (.inr (7, [.int 0, .int (nI (tHn U)), .int (nI (tPn U)), .int (nI (tEn U)), .ref (ad 6), .ref (ad 7), .ref (ad 8), .ref (ad 9), .ref (ad 10), .ref (ad 11), .ref (ad 12), .ref (ad 13), .ref (ad 14)]))) := fReg_U hrA (by omega)
  obtain ⟨M8, eM8⟩ : ∃ z, z = (fU M 5 (.inr (7, [.int 0, .int (nI (tHn U)), .int (nI (tPn U)), .int (nI (tEn U)), .ref (ad 6), .ref (ad 7), .ref (ad 8), .ref (ad 9), .ref (ad 10), .ref (ad 11), .ref (ad 12), .ref (ad 13), .ref (ad 14)]))) := ⟨_, rfl⟩
  rw [← eM8] at hM hw hrA
  obtain ⟨pcs, wa, ht, et, mi, co, as, hMo, ⟨hm6, hm7, hm8, hm9, hm10, hm11, hm12, hm13, hm14⟩, hRel, hCnt⟩ := id hM
  obtain ⟨hn1, hn2, hn3⟩ := id hCnt
  have hn1 : tHn U ≤ 30 := hn1
  have hn2 : tPn U ≤ 6 := hn2
  have hn3 : tEn U ≤ 6 := hn3
  have hMo : M8 5 = some (.inr (7, [.int 0, .int (nI (tHn U)), .int (nI (tPn U)), .int (nI (tEn U)), .ref (ad 6), .ref (ad 7), .ref (ad 8), .ref (ad 9), .ref (ad 10), .ref (ad 11), .ref (ad 12), .ref (ad 13), .ref (ad 14)])) := hMo
  obtain ⟨rH, rP, rE, rM⟩ := id hRel
  refine lv_aload_n hx hb dX6_lasts_5 rfl (lv_at hl 0 rfl) ?_
  refine fk_r (fcV X hw (c_m_kept l g ad M8 hM) hMo rfl wq1025 kVX6_kept ⟨(Nat.le_of_ble_eq_true rfl), (Nat.le_of_ble_eq_true rfl)⟩ rfl hl.1 rfl (Nat.le_of_ble_eq_true rfl) dX6_lasts_6 ⟨(by dsimp only [fR]; omega), (by dsimp only [fR]; omega)⟩) hw (fun q ad1 M1 H locs hp hw => ?_)
  obtain ⟨hq, hK1, hr1⟩ := hp
  refine f_adr (ad := ad1) (lb := 20) hq ?_
  rw [← (hr1 5 (by omega) (by omega)).1] at hl
  have hM1 := isMo_reg hM hr1 (Or.inl (by omega))
  have seg : ∀ (ad : Nat → Nat) (M : fM) (hM : isMo g ad M 0 U sp ca) (hK : isKp g ad M U) (hrB : fReg 5 25 ado Mo ad M) (hA5 : ∀ l, l < 20 → ad l = ado l) (ls : Array Slot) (H : Heap) (locs : List Loc), fw g ad M s H locs → lv_has ls 3 [(0, .ref (ad 5))] → W p l e (fR 8 190 6 279) s m args below meth c H locs (0 + 5) (0 + 275) Q9 (F0 m 9 ls [.ref (ad 20)]) := by
    intro ad M hM hK hrB hA5 ls H locs hw hl
    obtain ⟨Mn, hMn⟩ : ∃ z, z = Mo := ⟨_, rfl⟩
    obtain ⟨Mo, hMo2⟩ : ∃ z, z = M := ⟨_, rfl⟩
    have hrA : fReg 5 15 ad Mo ad M := by rw [hMo2]; exact fReg_rf
    have hK : isKp g ad Mo U := by rw [hMo2]; exact hK
    rw [← hMn, ← hMo2] at hrB
    obtain ⟨pcs, wa, ht, et, mi, co, as, hMo, ⟨hm6, hm7, hm8, hm9, hm10, hm11, hm12, hm13, hm14⟩, hRel, hCnt⟩ := id hM
    obtain ⟨hn1, hn2, hn3⟩ := id hCnt
    have hn1 : tHn U ≤ 30 := hn1
    have hn2 : tPn U ≤ 6 := hn2
    have hn3 : tEn U ≤ 6 := hn3
    have hMo : M 5 = some (.inr (7, [.int 0, .int (nI (tHn U)), .int (nI (tPn U)), .int (nI (tEn U)), .ref (ad 6), .ref (ad 7), .ref (ad 8), .ref (ad 9), .ref (ad 10), .ref (ad 11), .ref (ad 12), .ref (ad 13), .ref (ad 14)])) := hMo
    obtain ⟨rH, rP, rE, rM⟩ := id hRel
    refine lv_astore_n (lv' := [(1, .ref (ad 20)), (0, .ref (ad 5))]) hx hb dX6_lasts_9 rfl hl (by decide) rfl (fun ls hl => ?_)
    refine lv_iconst (v := 0) hx hb dX6_lasts_10 (by decide) ?_
    refine lv_istore_n (lv' := [(2, .int 0), (1, .ref (ad 20)), (0, .ref (ad 5))]) hx hb dX6_lasts_11 rfl hl (by decide) rfl (fun ls hl => ?_)
    have loop12 : ∀ (n12 k : Nat), k ≤ 200 → 200 < k + n12 → ∀ (M : fM) (ca : Nat → Int32) (hM : isMo g ad M 0 ((goU U k).1) sp ca) (hrA : fReg 5 15 ad Mo ad M) (hg : ∀ j, j < k → (fun k => !mRest U k) j = false) (ls : Array Slot) (H : Heap) (locs : List Loc), fw g ad M s H locs → lv_has ls 3 [(2, .int (nI k)), (0, .ref (ad 5)), (1, .ref (ad 20))] → W p l e (fR 8 190 6 279) s m args below meth c H locs (0 + 5) (0 + 275) Q9 (F0 m 12 ls []) := by
      intro n12
      induction n12 with
      | zero => intro k h1 h2; omega
      | succ n12 ih12 =>
        intro k hk_k hn_k M ca hM hrA hg ls H locs hw hl
        obtain ⟨pcs, wa, ht, et, mi, co, as, hMo, ⟨hm6, hm7, hm8, hm9, hm10, hm11, hm12, hm13, hm14⟩, hRel, hCnt⟩ := id hM
        obtain ⟨hn1, hn2, hn3⟩ := id hCnt
        have hn1 : tHn ((goU U k).1) ≤ 30 := hn1
        have hn2 : tPn ((goU U k).1) ≤ 6 := hn2
        have hn3 : tEn ((goU U k).1) ≤ 6 := hn3
        have hMo : M 5 = some (.inr (7, [.int 0, .int (nI (tHn ((goU U k).1))), .int (nI (tPn ((goU U k).1))), .int (nI (tEn ((goU U k).1))), .ref (ad 6), .ref (ad 7), .ref (ad 8), .ref (ad 9), .ref (ad 10), .ref (ad 11), .ref (ad 12), .ref (ad 13), .ref (ad 14)])) := hMo
        obtain ⟨rH, rP, rE, rM⟩ := id hRel
        refine lv_iload_n hx hb dX6_lasts_12 rfl (lv_at hl 0 rfl) ?_
        refine lv_sipush (v := 200) hx hb dX6_lasts_13 (by decide) ?_
        refine lv_icmp_ge (tgt := 38) hx hb dX6_lasts_16 (by decide) (fun c_1 => ?_) (fun c_1 => ?_)
        · have c_1 := nI_le' (a := 200) (b := k) c_1 (by omega) (by omega)
          refine lv_aload_n hx hb dX6_lasts_38 rfl (lv_at hl 1 rfl) ?_
          refine lv_iconst (v := 1) hx hb dX6_lasts_39 (by decide) ?_
          refine fk_di (fcV X hw (c_m_with l g ad M hM 1) hMo rfl wq894 kVX6_with ⟨(Nat.le_of_ble_eq_true rfl), (Nat.le_of_ble_eq_true rfl)⟩ rfl hl.1 rfl (Nat.le_of_ble_eq_true rfl) dX6_lasts_40 ⟨(by dsimp only [fR]; omega), (by dsimp only [fR]; omega)⟩) hw (fun H locs hw => ?_)
          refine lv_if_le (tgt := 48) hx hb dX6_lasts_43 (by decide) (fun c_2 => ?_) (fun c_2 => ?_)
          · refine lv_aload_n hx hb dX6_lasts_48 rfl (lv_at hl 1 rfl) ?_
            refine lv_aload_n hx hb dX6_lasts_49 rfl (lv_at hl 2 rfl) ?_
            refine fk_v (fcV X hw (c_m_back l g ad M hM (K := U) (isKp_reg hK hrA (Or.inr (by omega))) (goU_n U k).1 (goU_n U k).2.1 (goU_n U k).2.2) hMo rfl wq1037 kVX6_bringBack ⟨(Nat.le_of_ble_eq_true rfl), (Nat.le_of_ble_eq_true rfl)⟩ rfl hl.1 rfl (Nat.le_of_ble_eq_true rfl) dX6_lasts_50 ⟨(by dsimp only [fR]; omega), (by dsimp only [fR]; omega)⟩) hw (fun ad2 M2 H locs hp hw => ?_)
            obtain ⟨hM2, hr2⟩ := hp
            refine lv_iload_n hx hb dX6_lasts_53 rfl (lv_at hl 0 rfl) ?_
            rw [hQ9, ← hMq]
            have e9 : firstN (fun k => !mRest U k) 200 = k := by
              by_cases h2 : k = 200
              · rw [h2]; exact firstN_none (fun j hj => hg j (by omega))
              · exact firstN_at (by omega) (by simp [mRest, c_2]) hg
            have hM2 : isMo g ad2 M2 0 (backT (goU U (mLastK U)).1 U) sp ca := by rw [show mLastK U = k from e9]; exact hM2
            rw [hado] at hA5 hrB
            rw [hMn] at hrB
            exact f_iret X hw ⟨⟨_, hM2⟩, fun l a b => ⟨(hr2 l (by omega) b).1.trans ((hrA l (by omega) b).1.trans (hrB l (by omega) b).1), ((hr2 l (by omega) b).2 (by omega)).trans ((hrA l (by omega) b).2.trans (hrB l (by omega) b).2)⟩, fun l a => (hr2 l (by omega) (by omega)).1.trans (hA5 l a), by unfold mLast; rw [show mLastK U = k from e9]; simp [mRest, c_2]⟩ (by omega) (by omega) dX6_lasts_54
          · refine lv_iconst (v := (-1)) hx hb dX6_lasts_46 (by decide) ?_
            refine lv_istore_n (lv' := [(2, .int (-1)), (0, .ref (ad 5)), (1, .ref (ad 20))]) hx hb dX6_lasts_47 rfl hl (by decide) rfl (fun ls hl => ?_)
            refine lv_aload_n hx hb dX6_lasts_48 rfl (lv_at hl 1 rfl) ?_
            refine lv_aload_n hx hb dX6_lasts_49 rfl (lv_at hl 2 rfl) ?_
            refine fk_v (fcV X hw (c_m_back l g ad M hM (K := U) (isKp_reg hK hrA (Or.inr (by omega))) (goU_n U k).1 (goU_n U k).2.1 (goU_n U k).2.2) hMo rfl wq1037 kVX6_bringBack ⟨(Nat.le_of_ble_eq_true rfl), (Nat.le_of_ble_eq_true rfl)⟩ rfl hl.1 rfl (Nat.le_of_ble_eq_true rfl) dX6_lasts_50 ⟨(by dsimp only [fR]; omega), (by dsimp only [fR]; omega)⟩) hw (fun ad2 M2 H locs hp hw => ?_)
            obtain ⟨hM2, hr2⟩ := hp
            refine lv_iload_n hx hb dX6_lasts_53 rfl (lv_at hl 0 rfl) ?_
            rw [hQ9, ← hMq]
            have e9 : firstN (fun k => !mRest U k) 200 = k := by
              rw [show k = 200 by omega]; exact firstN_none (fun j hj => hg j (by omega))
            have hM2 : isMo g ad2 M2 0 (backT (goU U (mLastK U)).1 U) sp ca := by rw [show mLastK U = k from e9]; exact hM2
            rw [hado] at hA5 hrB
            rw [hMn] at hrB
            exact f_iret X hw ⟨⟨_, hM2⟩, fun l a b => ⟨(hr2 l (by omega) b).1.trans ((hrA l (by omega) b).1.trans (hrB l (by omega) b).1), ((hr2 l (by omega) b).2 (by omega)).trans ((hrA l (by omega) b).2.trans (hrB l (by omega) b).2)⟩, fun l a => (hr2 l (by omega) (by omega)).1.trans (hA5 l a), by unfold mLast; rw [show mLastK U = k from e9]; simp [mRest, c_2]⟩ (by omega) (by omega) dX6_lasts_54
        · have c_1 := nI_nle' (a := 200) (b := k) c_1 (by omega) (by omega)
          refine lv_aload_n hx hb dX6_lasts_19 rfl (lv_at hl 1 rfl) ?_
          refine lv_iconst (v := 1) hx hb dX6_lasts_20 (by decide) ?_
          refine fk_di (fcV X hw (c_m_with l g ad M hM 1) hMo rfl wq894 kVX6_with ⟨(Nat.le_of_ble_eq_true rfl), (Nat.le_of_ble_eq_true rfl)⟩ rfl hl.1 rfl (Nat.le_of_ble_eq_true rfl) dX6_lasts_21 ⟨(by dsimp only [fR]; omega), (by dsimp only [fR]; omega)⟩) hw (fun H locs hw => ?_)
          refine lv_if_le (tgt := 38) hx hb dX6_lasts_24 (by decide) (fun c_3 => ?_) (fun c_3 => ?_)
          · refine lv_aload_n hx hb dX6_lasts_38 rfl (lv_at hl 1 rfl) ?_
            refine lv_iconst (v := 1) hx hb dX6_lasts_39 (by decide) ?_
            refine fk_di (fcV X hw (c_m_with l g ad M hM 1) hMo rfl wq894 kVX6_with ⟨(Nat.le_of_ble_eq_true rfl), (Nat.le_of_ble_eq_true rfl)⟩ rfl hl.1 rfl (Nat.le_of_ble_eq_true rfl) dX6_lasts_40 ⟨(by dsimp only [fR]; omega), (by dsimp only [fR]; omega)⟩) hw (fun H locs hw => ?_)
            refine lv_if_le (tgt := 48) hx hb dX6_lasts_43 (by decide) (fun c_4 => ?_) (fun c_4 => absurd c_3 c_4)
            refine lv_aload_n hx hb dX6_lasts_48 rfl (lv_at hl 1 rfl) ?_
            refine lv_aload_n hx hb dX6_lasts_49 rfl (lv_at hl 2 rfl) ?_
            refine fk_v (fcV X hw (c_m_back l g ad M hM (K := U) (isKp_reg hK hrA (Or.inr (by omega))) (goU_n U k).1 (goU_n U k).2.1 (goU_n U k).2.2) hMo rfl wq1037 kVX6_bringBack ⟨(Nat.le_of_ble_eq_true rfl), (Nat.le_of_ble_eq_true rfl)⟩ rfl hl.1 rfl (Nat.le_of_ble_eq_true rfl) dX6_lasts_50 ⟨(by dsimp only [fR]; omega), (by dsimp only [fR]; omega)⟩) hw (fun ad2 M2 H locs hp hw => ?_)
            obtain ⟨hM2, hr2⟩ := hp
            refine lv_iload_n hx hb dX6_lasts_53 rfl (lv_at hl 0 rfl) ?_
            rw [hQ9, ← hMq]
            have e9 : firstN (fun k => !mRest U k) 200 = k := by
              by_cases h2 : k = 200
              · rw [h2]; exact firstN_none (fun j hj => hg j (by omega))
              · exact firstN_at (by omega) (by simp [mRest, c_4]) hg
            have hM2 : isMo g ad2 M2 0 (backT (goU U (mLastK U)).1 U) sp ca := by rw [show mLastK U = k from e9]; exact hM2
            rw [hado] at hA5 hrB
            rw [hMn] at hrB
            exact f_iret X hw ⟨⟨_, hM2⟩, fun l a b => ⟨(hr2 l (by omega) b).1.trans ((hrA l (by omega) b).1.trans (hrB l (by omega) b).1), ((hr2 l (by omega) b).2 (by omega)).trans ((hrA l (by omega) b).2.trans (hrB l (by omega) b).2)⟩, fun l a => (hr2 l (by omega) (by omega)).1.trans (hA5 l a), by unfold mLast; rw [show mLastK U = k from e9]; simp [mRest, c_4]⟩ (by omega) (by omega) dX6_lasts_54
          · refine lv_aload_n hx hb dX6_lasts_27 rfl (lv_at hl 1 rfl) ?_
            refine fk_mx (fcV X hw (c_m_minute l g ad M hM (okHz_go hOk k)) hMo rfl wq991 kVX6_minuteOn ⟨(Nat.le_of_ble_eq_true rfl), (Nat.le_of_ble_eq_true rfl)⟩ rfl hl.1 rfl (Nat.le_of_ble_eq_true rfl) dX6_lasts_28 ⟨(by dsimp only [fR]; omega), (by dsimp only [fR]; omega)⟩) hw (fun M10 ca H locs hM hr10 hw => ?_)
            have hrA := fReg_tr hrA hr10
            refine lv_pop hx hb dX6_lasts_31 rfl ?_
            refine lv_iinc (v := nI (k + 1)) (lv' := [(2, .int (nI (k + 1))), (0, .ref (ad 5)), (1, .ref (ad 20))]) hx hb dX6_lasts_32 hl (k := 0) rfl (nI_1 k) (by decide) rfl (fun ls hl => ?_)
            refine lv_goto (tgt := 12) hx hb dX6_lasts_35 (by decide) ?_
            exact ih12 (k + 1) (by omega) (by omega) M10 _ hM hrA (f_lts hg (by simp [mRest, c_3])) ls _ _ hw (lv_sub hl [0, 1, 2] rfl)
    exact loop12 (200 + 1) 0 (by omega) (by omega) M _ hM hrA (fun j h => absurd h (Nat.not_lt_zero _)) ls _ _ hw (lv_sub hl [0, 2, 1] rfl)
  exact seg ad1 M1 hM1 hK1 (by rw [hado]; exact fReg_tr (fReg_w hrA (by omega) (by omega)) (fReg_w hr1 (by omega) (by omega))) (fun l a => by rw [hado]; exact (hr1 l (by omega) (by omega)).1) ls _ _ hw hl
