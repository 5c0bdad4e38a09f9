/-! setting out, as the reference does it -/
def mOff (x : Int32) (f : Nat → Int32) : Nat → Int32 := if f 7 = x then upd f 7 (-1) else f
def mSet (U : fTn) (j : Nat) (v x : Int32) : fTn := sE (sE (sE U j (upd (tE U j) 5 v)) j (upd (tE (sE U j (upd (tE U j) 5 v)) j) 6 x)) j (upd (tE (sE (sE U j (upd (tE U j) 5 v)) j (upd (tE (sE U j (upd (tE U j) 5 v)) j) 6 x)) j) 7 (-1))
theorem mSet_n (U : fTn) (j : Nat) (v x : Int32) : tHn (mSet U j v x) = tHn U ∧ tPn (mSet U j v x) = tPn U ∧ tEn (mSet U j v x) = tEn U := ⟨rfl, rfl, rfl⟩
theorem mSet_5 (U : fTn) (j : Nat) (v x : Int32) : tE (mSet U j v x) j 5 = v := (sE_col (by decide)).trans ((sE_col (by decide)).trans (tE_at.trans (if_pos rfl)))
theorem mOff_5 {x : Int32} {f : Nat → Int32} : mOff x f 5 = f 5 := by unfold mOff; split <;> rfl
set_option maxHeartbeats 4000000 in
set_option maxRecDepth 100000 in
theorem x_m_drive_1 (l : Launch) (g : fG) (ad : Nat → Nat) (M : fM) {th : Int32} {U : fTn} {sp ca : Nat → Int32} (hM : isMo g ad M th U sp ca) {x0 x y : Int32} (h1 : isIx (tEn U) x0 = false) : fCi l g yX6_drive cX6_drive 6 ((some .int)) 7 170 0 0 ad M [.ref (ad 5), .int x0, .int x, .int y] (fMi g ad M 1 U sp ca 0) := by
  refine f_body (own := RX6) (by decide +kernel) rfl (Nat.le_of_ble_eq_true rfl) ?_
  intro p e s m args below meth c ls X hw hin hl
  have hx := X.1
  have hb := X.2.1
  have hl : lv_has ls 6 [(0, .ref (ad 5)), (1, .int x0), (2, .int x), (3, .int y)] := hl
  obtain ⟨pcs, wa, ht, et, mi, co, as, hMo, ⟨hm6, hm7, hm8, hm9, hm10, hm11, hm12, hm13, hm14⟩, hRel, hCnt⟩ := id hM
  obtain ⟨hn1, hn2, hn3⟩ := id hCnt
  have hn1 : tHn U ≤ 30 := hn1
  have hn2 : tPn U ≤ 6 := hn2
  have hn3 : tEn U ≤ 6 := hn3
  have hMo : M 5 = some (.inr (7, [.int th, .int (nI (tHn U)), .int (nI (tPn U)), .int (nI (tEn U)), .ref (ad 6), .ref (ad 7), .ref (ad 8), .ref (ad 9), .ref (ad 10), .ref (ad 11), .ref (ad 12), .ref (ad 13), .ref (ad 14)])) := hMo
  obtain ⟨rH, rP, rE, rM⟩ := id hRel
  obtain ⟨Mo, hMq⟩ : ∃ z, z = M := ⟨_, rfl⟩
  have hrA : fReg 5 15 ad Mo ad M := by rw [hMq]; exact fReg_rf
  obtain ⟨Q9, hQ9⟩ : ∃ z, z = MQ below (fQi g (fMi g ad M 1 U sp ca 0)) args s 0 0 (fA g) := ⟨_, rfl⟩
  show W p l e (fR 7 170 0 0) s m args below meth c _ _ 0 0 (MQ below (fQi g (fMi g ad M 1 U sp ca 0)) args s 0 0 (fA g)) (F0 m 0 ls [])
  rw [← hQ9]
  refine lv_aload_n hx hb dX6_drive_0 rfl (lv_at hl 0 rfl) ?_
  refine lv_iconst (v := 0) hx hb dX6_drive_1 (by decide) ?_
  refine f_put X hw hMo fc7 0 (by decide) wq794 rfl rfl (v := .int 0) rfl rfl (Nat.le_of_ble_eq_true rfl) dX6_drive_2 (fun H locs hw => ?_)
  have hw : fw g ad (fU M 5 (.inr (7, [.int 0, .int (nI (tHn U)), .int (nI (tPn U)), .int (nI (tEn U)), .ref (ad 6), .ref (ad 7), .ref (ad 8), .ref (ad 9), .ref (ad 10), .ref (ad 11), .ref (ad 12), .ref (ad 13), .ref (ad 14)]))) s H locs := hw
  have hMo : (fU M 5 (.inr (7, [.int 0, .int (nI (tHn U)), .int (nI (tPn U)), .int (nI (tEn U)), .ref (ad 6), .ref (ad 7), .ref (ad 8), .ref (ad 9), .ref (ad 10), .ref (ad 11), .ref (ad 12), .ref (ad 13), .ref (ad 14)]))) 5 = some (.inr (7, [.int 0, .int (nI (tHn U)), .int (nI (tPn U)), .int (nI (tEn U)), .ref (ad 6), .ref (ad 7), .ref (ad 8), .ref (ad 9), .ref (ad 10), .ref (ad 11), .ref (ad 12), .ref (ad 13), .ref (ad 14)])) := fU_s
  have hm6 : (fU M 5 (.inr (7, [.int 0, .int (nI (tHn U)), .int (nI (tPn U)), .int (nI (tEn U)), .ref (ad 6), .ref (ad 7), .ref (ad 8), .ref (ad 9), .ref (ad 10), .ref (ad 11), .ref (ad 12), .ref (ad 13), .ref (ad 14)]))) 6 = _ := (fU_n (by omega)).trans hm6
  have hm7 : (fU M 5 (.inr (7, [.int 0, .int (nI (tHn U)), .int (nI (tPn U)), .int (nI (tEn U)), .ref (ad 6), .ref (ad 7), .ref (ad 8), .ref (ad 9), .ref (ad 10), .ref (ad 11), .ref (ad 12), .ref (ad 13), .ref (ad 14)]))) 7 = _ := (fU_n (by omega)).trans hm7
  have hm8 : (fU M 5 (.inr (7, [.int 0, .int (nI (tHn U)), .int (nI (tPn U)), .int (nI (tEn U)), .ref (ad 6), .ref (ad 7), .ref (ad 8), .ref (ad 9), .ref (ad 10), .ref (ad 11), .ref (ad 12), .ref (ad 13), .ref (ad 14)]))) 8 = _ := (fU_n (by omega)).trans hm8
  have hm9 : (fU M 5 (.inr (7, [.int 0, .int (nI (tHn U)), .int (nI (tPn U)), .int (nI (tEn U)), .ref (ad 6), .ref (ad 7), .ref (ad 8), .ref (ad 9), .ref (ad 10), .ref (ad 11), .ref (ad 12), .ref (ad 13), .ref (ad 14)]))) 9 = _ := (fU_n (by omega)).trans hm9
  have hm10 : (fU M 5 (.inr (7, [.int 0, .int (nI (tHn U)), .int (nI (tPn U)), .int (nI (tEn U)), .ref (ad 6), .ref (ad 7), .ref (ad 8), .ref (ad 9), .ref (ad 10), .ref (ad 11), .ref (ad 12), .ref (ad 13), .ref (ad 14)]))) 10 = _ := (fU_n (by omega)).trans hm10
  have hm11 : (fU M 5 (.inr (7, [.int 0, .int (nI (tHn U)), .int (nI (tPn U)), .int (nI (tEn U)), .ref (ad 6), .ref (ad 7), .ref (ad 8), .ref (ad 9), .ref (ad 10), .ref (ad 11), .ref (ad 12), .ref (ad 13), .ref (ad 14)]))) 11 = _ := (fU_n (by omega)).trans hm11
  have hm12 : (fU M 5 (.inr (7, [.int 0, .int (nI (tHn U)), .int (nI (tPn U)), .int (nI (tEn U)), .ref (ad 6), .ref (ad 7), .ref (ad 8), .ref (ad 9), .ref (ad 10), .ref (ad 11), .ref (ad 12), .ref (ad 13), .ref (ad 14)]))) 12 = _ := (fU_n (by omega)).trans hm12
  have hm13 : (fU M 5 (.inr (7, [.int 0, .int (nI (tHn U)), .int (nI (tPn U)), .int (nI (tEn U)), .ref (ad 6), .ref (ad 7), .ref (ad 8), .ref (ad 9), .ref (ad 10), .ref (ad 11), .ref (ad 12), .ref (ad 13), .ref (ad 14)]))) 13 = _ := (fU_n (by omega)).trans hm13
  have hm14 : (fU M 5 (.inr (7, [.int 0, .int (nI (tHn U)), .int (nI (tPn U)), .int (nI (tEn U)), .ref (ad 6), .ref (ad 7), .ref (ad 8), .ref (ad 9), .ref (ad 10), .ref (ad 11), .ref (ad 12), .ref (ad 13), .ref (ad 14)]))) 14 = _ := (fU_n (by omega)).trans hm14
  have hM : isMo g ad (fU M 5 (.inr (7, [.int 0, .int (nI (tHn U)), .int (nI (tPn U)), .int (nI (tEn U)), .ref (ad 6), .ref (ad 7), .ref (ad 8), .ref (ad 9), .ref (ad 10), .ref (ad 11), .ref (ad 12), .ref (ad 13), .ref (ad 14)]))) 0 U sp ca := ⟨pcs, wa, ht, et, mi, co, as, hMo, ⟨hm6, hm7, hm8, hm9, hm10, hm11, hm12, hm13, hm14⟩, hRel, hCnt⟩
  have hrA : fReg 5 15 ad Mo ad (fU M 5 (.inr (7, [.int 0, .int (nI (tHn U)), .int (nI (tPn U)), .int (nI (tEn U)), .ref (ad 6), .ref (ad 7), .ref (ad 8), .ref (ad 9), .ref (ad 10), .ref (ad 11), .ref (ad 12), .ref (ad 13), .ref (ad 14)]))) := fReg_U hrA (by omega)
  obtain ⟨M1, eM1⟩ : ∃ z, z = (fU M 5 (.inr (7, [.int 0, .int (nI (tHn U)), .int (nI (tPn U)), .int (nI (tEn U)), .ref (ad 6), .ref (ad 7), .ref (ad 8), .ref (ad 9), .ref (ad 10), .ref (ad 11), .ref (ad 12), .ref (ad 13), .ref (ad 14)]))) := ⟨_, rfl⟩
  rw [← eM1] at hM hw hrA
  obtain ⟨pcs, wa, ht, et, mi, co, as, hMo, ⟨hm6, hm7, hm8, hm9, hm10, hm11, hm12, hm13, hm14⟩, hRel, hCnt⟩ := id hM
  obtain ⟨hn1, hn2, hn3⟩ := id hCnt
  have hn1 : tHn U ≤ 30 := hn1
  have hn2 : tPn U ≤ 6 := hn2
  have hn3 : tEn U ≤ 6 := hn3
  have hMo : M1 5 = some (.inr (7, [.int 0, .int (nI (tHn U)), .int (nI (tPn U)), .int (nI (tEn U)), .ref (ad 6), .ref (ad 7), .ref (ad 8), .ref (ad 9), .ref (ad 10), .ref (ad 11), .ref (ad 12), .ref (ad 13), .ref (ad 14)])) := hMo
  obtain ⟨rH, rP, rE, rM⟩ := id hRel
  refine lv_aload_n hx hb dX6_drive_5 rfl (lv_at hl 0 rfl) ?_
  refine lv_iload_n hx hb dX6_drive_6 rfl (lv_at hl 1 rfl) ?_
  refine fk_di (fcV X hw (c_m_isEngine l g ad M1 hM (x0)) hMo rfl wq928 kVX6_isEngine ⟨(Nat.le_of_ble_eq_true rfl), (Nat.le_of_ble_eq_true rfl)⟩ rfl hl.1 rfl (Nat.le_of_ble_eq_true rfl) dX6_drive_7 ⟨Nat.le_refl _, Nat.le_refl _⟩) hw (fun H locs hw => ?_)
  refine lv_if_eq (tgt := 21) hx hb dX6_drive_10 (by decide) (fun c_1 => ?_) (fun c_1 => absurd (bI_nf.mp c_1) (f_false h1))
  have c_1 := bI_f.mp c_1
  refine lv_aload_n hx hb dX6_drive_21 rfl (lv_at hl 0 rfl) ?_
  refine lv_iconst (v := 1) hx hb dX6_drive_22 (by decide) ?_
  refine fk_mi (fcV X hw (c_fail l g ad M1 hM 1) hMo rfl wq849 kVX6_fail ⟨(Nat.le_of_ble_eq_true rfl), (Nat.le_of_ble_eq_true rfl)⟩ rfl hl.1 rfl (Nat.le_of_ble_eq_true rfl) dX6_drive_23 ⟨Nat.le_refl _, Nat.le_refl _⟩) hw (fun M2 H locs hM hr2 hw => ?_)
  have hrA := fReg_tr hrA hr2
  rw [hQ9, ← hMq]
  exact f_iret X hw ⟨rfl, hM, hrA, rfl⟩ (Nat.le_refl _) (Nat.le_refl _) dX6_drive_26
set_option maxHeartbeats 4000000 in
set_option maxRecDepth 100000 in
theorem x_m_drive_2 (l : Launch) (g : fG) (ad : Nat → Nat) (M : fM) {th : Int32} {U : fTn} {sp ca : Nat → Int32} (hM : isMo g ad M th U sp ca) {x y : Int32} {j : Nat} (hj : j < tEn U) (h2 : aOn x y = false) : fCi l g yX6_drive cX6_drive 6 ((some .int)) 7 170 0 0 ad M [.ref (ad 5), .int (nI j), .int x, .int y] (fMi g ad M 1 U sp ca 0) := by
  refine f_body (own := RX6) (by decide +kernel) rfl (Nat.le_of_ble_eq_true rfl) ?_
  intro p e s m args below meth c ls X hw hin hl
  have hx := X.1
  have hb := X.2.1
  have hl : lv_has ls 6 [(0, .ref (ad 5)), (1, .int (nI j)), (2, .int x), (3, .int y)] := hl
  obtain ⟨pcs, wa, ht, et, mi, co, as, hMo, ⟨hm6, hm7, hm8, hm9, hm10, hm11, hm12, hm13, hm14⟩, hRel, hCnt⟩ := id hM
  obtain ⟨hn1, hn2, hn3⟩ := id hCnt
  have hn1 : tHn U ≤ 30 := hn1
  have hn2 : tPn U ≤ 6 := hn2
  have hn3 : tEn U ≤ 6 := hn3
  have hMo : M 5 = some (.inr (7, [.int th, .int (nI (tHn U)), .int (nI (tPn U)), .int (nI (tEn U)), .ref (ad 6), .ref (ad 7), .ref (ad 8), .ref (ad 9), .ref (ad 10), .ref (ad 11), .ref (ad 12), .ref (ad 13), .ref (ad 14)])) := hMo
  obtain ⟨rH, rP, rE, rM⟩ := id hRel
  have hxj : isIx (tEn U) (nI j) = true := isIx_nI hj (by omega)
  obtain ⟨Mo, hMq⟩ : ∃ z, z = M := ⟨_, rfl⟩
  have hrA : fReg 5 15 ad Mo ad M := by rw [hMq]; exact fReg_rf
  obtain ⟨Q9, hQ9⟩ : ∃ z, z = MQ below (fQi g (fMi g ad M 1 U sp ca 0)) args s 0 0 (fA g) := ⟨_, rfl⟩
  show W p l e (fR 7 170 0 0) s m args below meth c _ _ 0 0 (MQ below (fQi g (fMi g ad M 1 U sp ca 0)) args s 0 0 (fA g)) (F0 m 0 ls [])
  rw [← hQ9]
  refine lv_aload_n hx hb dX6_drive_0 rfl (lv_at hl 0 rfl) ?_
  refine lv_iconst (v := 0) hx hb dX6_drive_1 (by decide) ?_
  refine f_put X hw hMo fc7 0 (by decide) wq794 rfl rfl (v := .int 0) rfl rfl (Nat.le_of_ble_eq_true rfl) dX6_drive_2 (fun H locs hw => ?_)
  have hw : fw g ad (fU M 5 (.inr (7, [.int 0, .int (nI (tHn U)), .int (nI (tPn U)), .int (nI (tEn U)), .ref (ad 6), .ref (ad 7), .ref (ad 8), .ref (ad 9), .ref (ad 10), .ref (ad 11), .ref (ad 12), .ref (ad 13), .ref (ad 14)]))) s H locs := hw
  have hMo : (fU M 5 (.inr (7, [.int 0, .int (nI (tHn U)), .int (nI (tPn U)), .int (nI (tEn U)), .ref (ad 6), .ref (ad 7), .ref (ad 8), .ref (ad 9), .ref (ad 10), .ref (ad 11), .ref (ad 12), .ref (ad 13), .ref (ad 14)]))) 5 = some (.inr (7, [.int 0, .int (nI (tHn U)), .int (nI (tPn U)), .int (nI (tEn U)), .ref (ad 6), .ref (ad 7), .ref (ad 8), .ref (ad 9), .ref (ad 10), .ref (ad 11), .ref (ad 12), .ref (ad 13), .ref (ad 14)])) := fU_s
  have hm6 : (fU M 5 (.inr (7, [.int 0, .int (nI (tHn U)), .int (nI (tPn U)), .int (nI (tEn U)), .ref (ad 6), .ref (ad 7), .ref (ad 8), .ref (ad 9), .ref (ad 10), .ref (ad 11), .ref (ad 12), .ref (ad 13), .ref (ad 14)]))) 6 = _ := (fU_n (by omega)).trans hm6
  have hm7 : (fU M 5 (.inr (7, [.int 0, .int (nI (tHn U)), .int (nI (tPn U)), .int (nI (tEn U)), .ref (ad 6), .ref (ad 7), .ref (ad 8), .ref (ad 9), .ref (ad 10), .ref (ad 11), .ref (ad 12), .ref (ad 13), .ref (ad 14)]))) 7 = _ := (fU_n (by omega)).trans hm7
  have hm8 : (fU M 5 (.inr (7, [.int 0, .int (nI (tHn U)), .int (nI (tPn U)), .int (nI (tEn U)), .ref (ad 6), .ref (ad 7), .ref (ad 8), .ref (ad 9), .ref (ad 10), .ref (ad 11), .ref (ad 12), .ref (ad 13), .ref (ad 14)]))) 8 = _ := (fU_n (by omega)).trans hm8
  have hm9 : (fU M 5 (.inr (7, [.int 0, .int (nI (tHn U)), .int (nI (tPn U)), .int (nI (tEn U)), .ref (ad 6), .ref (ad 7), .ref (ad 8), .ref (ad 9), .ref (ad 10), .ref (ad 11), .ref (ad 12), .ref (ad 13), .ref (ad 14)]))) 9 = _ := (fU_n (by omega)).trans hm9
  have hm10 : (fU M 5 (.inr (7, [.int 0, .int (nI (tHn U)), .int (nI (tPn U)), .int (nI (tEn U)), .ref (ad 6), .ref (ad 7), .ref (ad 8), .ref (ad 9), .ref (ad 10), .ref (ad 11), .ref (ad 12), .ref (ad 13), .ref (ad 14)]))) 10 = _ := (fU_n (by omega)).trans hm10
  have hm11 : (fU M 5 (.inr (7, [.int 0, .int (nI (tHn U)), .int (nI (tPn U)), .int (nI (tEn U)), .ref (ad 6), .ref (ad 7), .ref (ad 8), .ref (ad 9), .ref (ad 10), .ref (ad 11), .ref (ad 12), .ref (ad 13), .ref (ad 14)]))) 11 = _ := (fU_n (by omega)).trans hm11
  have hm12 : (fU M 5 (.inr (7, [.int 0, .int (nI (tHn U)), .int (nI (tPn U)), .int (nI (tEn U)), .ref (ad 6), .ref (ad 7), .ref (ad 8), .ref (ad 9), .ref (ad 10), .ref (ad 11), .ref (ad 12), .ref (ad 13), .ref (ad 14)]))) 12 = _ := (fU_n (by omega)).trans hm12
  have hm13 : (fU M 5 (.inr (7, [.int 0, .int (nI (tHn U)), .int (nI (tPn U)), .int (nI (tEn U)), .ref (ad 6), .ref (ad 7), .ref (ad 8), .ref (ad 9), .ref (ad 10), .ref (ad 11), .ref (ad 12), .ref (ad 13), .ref (ad 14)]))) 13 = _ := (fU_n (by omega)).trans hm13
  have hm14 : (fU M 5 (.inr (7, [.int 0, .int (nI (tHn U)), .int (nI (tPn U)), .int (nI (tEn U)), .ref (ad 6), .ref (ad 7), .ref (ad 8), .ref (ad 9), .ref (ad 10), .ref (ad 11), .ref (ad 12), .ref (ad 13), .ref (ad 14)]))) 14 = _ := (fU_n (by omega)).trans hm14
  have hM : isMo g ad (fU M 5 (.inr (7, [.int 0, .int (nI (tHn U)), .int (nI (tPn U)), .int (nI (tEn U)), .ref (ad 6), .ref (ad 7), .ref (ad 8), .ref (ad 9), .ref (ad 10), .ref (ad 11), .ref (ad 12), .ref (ad 13), .ref (ad 14)]))) 0 U sp ca := ⟨pcs, wa, ht, et, mi, co, as, hMo, ⟨hm6, hm7, hm8, hm9, hm10, hm11, hm12, hm13, hm14⟩, hRel, hCnt⟩
  have hrA : fReg 5 15 ad Mo ad (fU M 5 (.inr (7, [.int 0, .int (nI (tHn U)), .int (nI (tPn U)), .int (nI (tEn U)), .ref (ad 6), .ref (ad 7), .ref (ad 8), .ref (ad 9), .ref (ad 10), .ref (ad 11), .ref (ad 12), .ref (ad 13), .ref (ad 14)]))) := fReg_U hrA (by omega)
  obtain ⟨M3, eM3⟩ : ∃ z, z = (fU M 5 (.inr (7, [.int 0, .int (nI (tHn U)), .int (nI (tPn U)), .int (nI (tEn U)), .ref (ad 6), .ref (ad 7), .ref (ad 8), .ref (ad 9), .ref (ad 10), .ref (ad 11), .ref (ad 12), .ref (ad 13), .ref (ad 14)]))) := ⟨_, rfl⟩
  rw [← eM3] at hM hw hrA
  obtain ⟨pcs, wa, ht, et, mi, co, as, hMo, ⟨hm6, hm7, hm8, hm9, hm10, hm11, hm12, hm13, hm14⟩, hRel, hCnt⟩ := id hM
  obtain ⟨hn1, hn2, hn3⟩ := id hCnt
  have hn1 : tHn U ≤ 30 := hn1
  have hn2 : tPn U ≤ 6 := hn2
  have hn3 : tEn U ≤ 6 := hn3
  have hMo : M3 5 = some (.inr (7, [.int 0, .int (nI (tHn U)), .int (nI (tPn U)), .int (nI (tEn U)), .ref (ad 6), .ref (ad 7), .ref (ad 8), .ref (ad 9), .ref (ad 10), .ref (ad 11), .ref (ad 12), .ref (ad 13), .ref (ad 14)])) := hMo
  obtain ⟨rH, rP, rE, rM⟩ := id hRel
  refine lv_aload_n hx hb dX6_drive_5 rfl (lv_at hl 0 rfl) ?_
  refine lv_iload_n hx hb dX6_drive_6 rfl (lv_at hl 1 rfl) ?_
  refine fk_di (fcV X hw (c_m_isEngine l g ad M3 hM (nI j)) hMo rfl wq928 kVX6_isEngine ⟨(Nat.le_of_ble_eq_true rfl), (Nat.le_of_ble_eq_true rfl)⟩ rfl hl.1 rfl (Nat.le_of_ble_eq_true rfl) dX6_drive_7 ⟨Nat.le_refl _, Nat.le_refl _⟩) hw (fun H locs hw => ?_)
  refine lv_if_eq (tgt := 21) hx hb dX6_drive_10 (by decide) (fun c_1 => absurd (bI_f.mp c_1) (by rw [hxj]; decide)) (fun c_1 => ?_)
  have c_1 := bI_nf.mp c_1
  refine lv_iload_n hx hb dX6_drive_13 rfl (lv_at hl 2 rfl) ?_
  refine lv_iload_n hx hb dX6_drive_14 rfl (lv_at hl 3 rfl) ?_
  refine fk_di (fcS X hw (c_isCell l g ad M3 x y) wq843 kSX6_isCell ⟨(Nat.le_of_ble_eq_true rfl), (Nat.le_of_ble_eq_true rfl)⟩ rfl hl.1 rfl (Nat.le_of_ble_eq_true rfl) dX6_drive_15 ⟨Nat.le_refl _, Nat.le_refl _⟩) hw (fun H locs hw => ?_)
  refine lv_if_ne (tgt := 27) hx hb dX6_drive_18 (by decide) (fun c_2 => absurd (bI_nf.mp c_2) (f_false h2)) (fun c_2 => ?_)
  have c_2 := bI_f.mp c_2
  refine lv_aload_n hx hb dX6_drive_21 rfl (lv_at hl 0 rfl) ?_
  refine lv_iconst (v := 1) hx hb dX6_drive_22 (by decide) ?_
  refine fk_mi (fcV X hw (c_fail l g ad M3 hM 1) hMo rfl wq849 kVX6_fail ⟨(Nat.le_of_ble_eq_true rfl), (Nat.le_of_ble_eq_true rfl)⟩ rfl hl.1 rfl (Nat.le_of_ble_eq_true rfl) dX6_drive_23 ⟨Nat.le_refl _, Nat.le_refl _⟩) hw (fun M4 H locs hM hr4 hw => ?_)
  have hrA := fReg_tr hrA hr4
  rw [hQ9, ← hMq]
  exact f_iret X hw ⟨rfl, hM, hrA, rfl⟩ (Nat.le_refl _) (Nat.le_refl _) dX6_drive_26
set_option maxHeartbeats 4000000 in
set_option maxRecDepth 100000 in
theorem x_m_drive_3 (l : Launch) (g : fG) (ad : Nat → Nat) (M : fM) {th : Int32} {U : fTn} {sp ca : Nat → Int32} (hM : isMo g ad M th U sp ca) {x y : Int32} {j jc : Nat} (hj : j < tEn U) (h2 : aOn x y = true) (hjc : jc < 140) (hxy : x + 14 * y = nI jc) (h3 : 0 < tE U j 5) : fCi l g yX6_drive cX6_drive 6 ((some .int)) 7 170 0 0 ad M [.ref (ad 5), .int (nI j), .int x, .int y] (fMi g ad M 2 U sp ca 0) := by
  refine f_body (own := RX6) (by decide +kernel) rfl (Nat.le_of_ble_eq_true rfl) ?_
  intro p e s m args below meth c ls X hw hin hl
  have hx := X.1
  have hb := X.2.1
  have hl : lv_has ls 6 [(0, .ref (ad 5)), (1, .int (nI j)), (2, .int x), (3, .int y)] := hl
  obtain ⟨pcs, wa, ht, et, mi, co, as, hMo, ⟨hm6, hm7, hm8, hm9, hm10, hm11, hm12, hm13, hm14⟩, hRel, hCnt⟩ := id hM
  obtain ⟨hn1, hn2, hn3⟩ := id hCnt
  have hn1 : tHn U ≤ 30 := hn1
  have hn2 : tPn U ≤ 6 := hn2
  have hn3 : tEn U ≤ 6 := hn3
  have hMo : M 5 = some (.inr (7, [.int th, .int (nI (tHn U)), .int (nI (tPn U)), .int (nI (tEn U)), .ref (ad 6), .ref (ad 7), .ref (ad 8), .ref (ad 9), .ref (ad 10), .ref (ad 11), .ref (ad 12), .ref (ad 13), .ref (ad 14)])) := hMo
  obtain ⟨rH, rP, rE, rM⟩ := id hRel
  have hxj : isIx (tEn U) (nI j) = true := isIx_nI hj (by omega)
  obtain ⟨Mo, hMq⟩ : ∃ z, z = M := ⟨_, rfl⟩
  have hrA : fReg 5 15 ad Mo ad M := by rw [hMq]; exact fReg_rf
  obtain ⟨Q9, hQ9⟩ : ∃ z, z = MQ below (fQi g (fMi g ad M 2 U sp ca 0)) args s 0 0 (fA g) := ⟨_, rfl⟩
  show W p l e (fR 7 170 0 0) s m args below meth c _ _ 0 0 (MQ below (fQi g (fMi g ad M 2 U sp ca 0)) args s 0 0 (fA g)) (F0 m 0 ls [])
  rw [← hQ9]
  refine lv_aload_n hx hb dX6_drive_0 rfl (lv_at hl 0 rfl) ?_
  refine lv_iconst (v := 0) hx hb dX6_drive_1 (by decide) ?_
  refine f_put X hw hMo fc7 0 (by decide) wq794 rfl rfl (v := .int 0) rfl rfl (Nat.le_of_ble_eq_true rfl) dX6_drive_2 (fun H locs hw => ?_)
  have hw : fw g ad (fU M 5 (.inr (7, [.int 0, .int (nI (tHn U)), .int (nI (tPn U)), .int (nI (tEn U)), .ref (ad 6), .ref (ad 7), .ref (ad 8), .ref (ad 9), .ref (ad 10), .ref (ad 11), .ref (ad 12), .ref (ad 13), .ref (ad 14)]))) s H locs := hw
  have hMo : (fU M 5 (.inr (7, [.int 0, .int (nI (tHn U)), .int (nI (tPn U)), .int (nI (tEn U)), .ref (ad 6), .ref (ad 7), .ref (ad 8), .ref (ad 9), .ref (ad 10), .ref (ad 11), .ref (ad 12), .ref (ad 13), .ref (ad 14)]))) 5 = some (.inr (7, [.int 0, .int (nI (tHn U)), .int (nI (tPn U)), .int (nI (tEn U)), .ref (ad 6), .ref (ad 7), .ref (ad 8), .ref (ad 9), .ref (ad 10), .ref (ad 11), .ref (ad 12), .ref (ad 13), .ref (ad 14)])) := fU_s
  have hm6 : (fU M 5 (.inr (7, [.int 0, .int (nI (tHn U)), .int (nI (tPn U)), .int (nI (tEn U)), .ref (ad 6), .ref (ad 7), .ref (ad 8), .ref (ad 9), .ref (ad 10), .ref (ad 11), .ref (ad 12), .ref (ad 13), .ref (ad 14)]))) 6 = _ := (fU_n (by omega)).trans hm6
  have hm7 : (fU M 5 (.inr (7, [.int 0, .int (nI (tHn U)), .int (nI (tPn U)), .int (nI (tEn U)), .ref (ad 6), .ref (ad 7), .ref (ad 8), .ref (ad 9), .ref (ad 10), .ref (ad 11), .ref (ad 12), .ref (ad 13), .ref (ad 14)]))) 7 = _ := (fU_n (by omega)).trans hm7
  have hm8 : (fU M 5 (.inr (7, [.int 0, .int (nI (tHn U)), .int (nI (tPn U)), .int (nI (tEn U)), .ref (ad 6), .ref (ad 7), .ref (ad 8), .ref (ad 9), .ref (ad 10), .ref (ad 11), .ref (ad 12), .ref (ad 13), .ref (ad 14)]))) 8 = _ := (fU_n (by omega)).trans hm8
  have hm9 : (fU M 5 (.inr (7, [.int 0, .int (nI (tHn U)), .int (nI (tPn U)), .int (nI (tEn U)), .ref (ad 6), .ref (ad 7), .ref (ad 8), .ref (ad 9), .ref (ad 10), .ref (ad 11), .ref (ad 12), .ref (ad 13), .ref (ad 14)]))) 9 = _ := (fU_n (by omega)).trans hm9
  have hm10 : (fU M 5 (.inr (7, [.int 0, .int (nI (tHn U)), .int (nI (tPn U)), .int (nI (tEn U)), .ref (ad 6), .ref (ad 7), .ref (ad 8), .ref (ad 9), .ref (ad 10), .ref (ad 11), .ref (ad 12), .ref (ad 13), .ref (ad 14)]))) 10 = _ := (fU_n (by omega)).trans hm10
  have hm11 : (fU M 5 (.inr (7, [.int 0, .int (nI (tHn U)), .int (nI (tPn U)), .int (nI (tEn U)), .ref (ad 6), .ref (ad 7), .ref (ad 8), .ref (ad 9), .ref (ad 10), .ref (ad 11), .ref (ad 12), .ref (ad 13), .ref (ad 14)]))) 11 = _ := (fU_n (by omega)).trans hm11
  have hm12 : (fU M 5 (.inr (7, [.int 0, .int (nI (tHn U)), .int (nI (tPn U)), .int (nI (tEn U)), .ref (ad 6), .ref (ad 7), .ref (ad 8), .ref (ad 9), .ref (ad 10), .ref (ad 11), .ref (ad 12), .ref (ad 13), .ref (ad 14)]))) 12 = _ := (fU_n (by omega)).trans hm12
  have hm13 : (fU M 5 (.inr (7, [.int 0, .int (nI (tHn U)), .int (nI (tPn U)), .int (nI (tEn U)), .ref (ad 6), .ref (ad 7), .ref (ad 8), .ref (ad 9), .ref (ad 10), .ref (ad 11), .ref (ad 12), .ref (ad 13), .ref (ad 14)]))) 13 = _ := (fU_n (by omega)).trans hm13
  have hm14 : (fU M 5 (.inr (7, [.int 0, .int (nI (tHn U)), .int (nI (tPn U)), .int (nI (tEn U)), .ref (ad 6), .ref (ad 7), .ref (ad 8), .ref (ad 9), .ref (ad 10), .ref (ad 11), .ref (ad 12), .ref (ad 13), .ref (ad 14)]))) 14 = _ := (fU_n (by omega)).trans hm14
  have hM : isMo g ad (fU M 5 (.inr (7, [.int 0, .int (nI (tHn U)), .int (nI (tPn U)), .int (nI (tEn U)), .ref (ad 6), .ref (ad 7), .ref (ad 8), .ref (ad 9), .ref (ad 10), .ref (ad 11), .ref (ad 12), .ref (ad 13), .ref (ad 14)]))) 0 U sp ca := ⟨pcs, wa, ht, et, mi, co, as, hMo, ⟨hm6, hm7, hm8, hm9, hm10, hm11, hm12, hm13, hm14⟩, hRel, hCnt⟩
  have hrA : fReg 5 15 ad Mo ad (fU M 5 (.inr (7, [.int 0, .int (nI (tHn U)), .int (nI (tPn U)), .int (nI (tEn U)), .ref (ad 6), .ref (ad 7), .ref (ad 8), .ref (ad 9), .ref (ad 10), .ref (ad 11), .ref (ad 12), .ref (ad 13), .ref (ad 14)]))) := fReg_U hrA (by omega)
  obtain ⟨M5, eM5⟩ : ∃ z, z = (fU M 5 (.inr (7, [.int 0, .int (nI (tHn U)), .int (nI (tPn U)), .int (nI (tEn U)), .ref (ad 6), .ref (ad 7), .ref (ad 8), .ref (ad 9), .ref (ad 10), .ref (ad 11), .ref (ad 12), .ref (ad 13), .ref (ad 14)]))) := ⟨_, rfl⟩
  rw [← eM5] at hM hw hrA
  obtain ⟨pcs, wa, ht, et, mi, co, as, hMo, ⟨hm6, hm7, hm8, hm9, hm10, hm11, hm12, hm13, hm14⟩, hRel, hCnt⟩ := id hM
  obtain ⟨hn1, hn2, hn3⟩ := id hCnt
  have hn1 : tHn U ≤ 30 := hn1
  have hn2 : tPn U ≤ 6 := hn2
  have hn3 : tEn U ≤ 6 := hn3
  have hMo : M5 5 = some (.inr (7, [.int 0, .int (nI (tHn U)), .int (nI (tPn U)), .int (nI (tEn U)), .ref (ad 6), .ref (ad 7), .ref (ad 8), .ref (ad 9), .ref (ad 10), .ref (ad 11), .ref (ad 12), .ref (ad 13), .ref (ad 14)])) := hMo
  obtain ⟨rH, rP, rE, rM⟩ := id hRel
  refine lv_aload_n hx hb dX6_drive_5 rfl (lv_at hl 0 rfl) ?_
  refine lv_iload_n hx hb dX6_drive_6 rfl (lv_at hl 1 rfl) ?_
  refine fk_di (fcV X hw (c_m_isEngine l g ad M5 hM (nI j)) hMo rfl wq928 kVX6_isEngine ⟨(Nat.le_of_ble_eq_true rfl), (Nat.le_of_ble_eq_true rfl)⟩ rfl hl.1 rfl (Nat.le_of_ble_eq_true rfl) dX6_drive_7 ⟨Nat.le_refl _, Nat.le_refl _⟩) hw (fun H locs hw => ?_)
  refine lv_if_eq (tgt := 21) hx hb dX6_drive_10 (by decide) (fun c_1 => absurd (bI_f.mp c_1) (by rw [hxj]; decide)) (fun c_1 => ?_)
  have c_1 := bI_nf.mp c_1
  refine lv_iload_n hx hb dX6_drive_13 rfl (lv_at hl 2 rfl) ?_
  refine lv_iload_n hx hb dX6_drive_14 rfl (lv_at hl 3 rfl) ?_
  refine fk_di (fcS X hw (c_isCell l g ad M5 x y) wq843 kSX6_isCell ⟨(Nat.le_of_ble_eq_true rfl), (Nat.le_of_ble_eq_true rfl)⟩ rfl hl.1 rfl (Nat.le_of_ble_eq_true rfl) dX6_drive_15 ⟨Nat.le_refl _, Nat.le_refl _⟩) hw (fun H locs hw => ?_)
  refine lv_if_ne (tgt := 27) hx hb dX6_drive_18 (by decide) (fun c_2 => ?_) (fun c_2 => absurd (bI_f.mp c_2) (by rw [h2]; decide))
  have c_2 := bI_nf.mp c_2
  refine lv_iload_n hx hb dX6_drive_27 rfl (lv_at hl 2 rfl) ?_
  refine lv_bipush (v := 14) hx hb dX6_drive_28 (by decide) ?_
  refine lv_iload_n hx hb dX6_drive_30 rfl (lv_at hl 3 rfl) ?_
  refine lv_imul hx hb dX6_drive_31 ?_
  refine lv_iadd hx hb dX6_drive_32 ?_
  refine f_top (y := nI jc) hxy ?_
  refine lv_istore (lv' := [(4, .int (nI jc)), (0, .ref (ad 5)), (1, .int (nI j)), (2, .int x), (3, .int y)]) hx hb dX6_drive_33 hl (by decide) rfl (fun ls hl => ?_)
  refine lv_aload_n hx hb dX6_drive_35 rfl (lv_at hl 1 rfl) ?_
  refine lv_iload_n hx hb dX6_drive_36 rfl (lv_at hl 2 rfl) ?_
  refine lv_iconst (v := 5) hx hb dX6_drive_37 (by decide) ?_
  refine fk_di (fcV X hw (c_en l g ad M5 hM (e0 := j) (k := 5) hj rfl (by omega)) hMo rfl wq873 kVX6_en ⟨(Nat.le_of_ble_eq_true rfl), (Nat.le_of_ble_eq_true rfl)⟩ rfl hl.1 rfl (Nat.le_of_ble_eq_true rfl) dX6_drive_38 ⟨Nat.le_refl _, Nat.le_refl _⟩) hw (fun H locs hw => ?_)
  refine lv_if_gt (tgt := 71) hx hb dX6_drive_41 (by decide) (fun c_3 => ?_) (fun c_3 => absurd h3 c_3)
  refine lv_aload_n hx hb dX6_drive_71 rfl (lv_at hl 1 rfl) ?_
  refine lv_iconst (v := 2) hx hb dX6_drive_72 (by decide) ?_
  refine fk_mi (fcV X hw (c_fail l g ad M5 hM 2) hMo rfl wq849 kVX6_fail ⟨(Nat.le_of_ble_eq_true rfl), (Nat.le_of_ble_eq_true rfl)⟩ rfl hl.1 rfl (Nat.le_of_ble_eq_true rfl) dX6_drive_73 ⟨Nat.le_refl _, Nat.le_refl _⟩) hw (fun M6 H locs hM hr6 hw => ?_)
  have hrA := fReg_tr hrA hr6
  rw [hQ9, ← hMq]
  exact f_iret X hw ⟨rfl, hM, hrA, rfl⟩ (Nat.le_refl _) (Nat.le_refl _) dX6_drive_76
set_option maxHeartbeats 4000000 in
set_option maxRecDepth 100000 in
theorem x_m_drive_4 (l : Launch) (g : fG) (ad : Nat → Nat) (M : fM) {th : Int32} {U : fTn} {sp ca : Nat → Int32} (hM : isMo g ad M th U sp ca) {x y : Int32} {j jc : Nat} (hj : j < tEn U) (h2 : aOn x y = true) (hjc : jc < 140) (hxy : x + 14 * y = nI jc) {a : Nat} (hea : tE U j 0 = nI a) (ha : a < 140) (h3 : ¬ 0 < tE U j 5) (h4 : a = jc) : fCi l g yX6_drive cX6_drive 6 ((some .int)) 7 170 0 0 ad M [.ref (ad 5), .int (nI j), .int x, .int y] (fMi g ad M 2 U sp ca 0) := by
  refine f_body (own := RX6) (by decide +kernel) rfl (Nat.le_of_ble_eq_true rfl) ?_
  intro p e s m args below meth c ls X hw hin hl
  have hx := X.1
  have hb := X.2.1
  have hl : lv_has ls 6 [(0, .ref (ad 5)), (1, .int (nI j)), (2, .int x), (3, .int y)] := hl
  obtain ⟨pcs, wa, ht, et, mi, co, as, hMo, ⟨hm6, hm7, hm8, hm9, hm10, hm11, hm12, hm13, hm14⟩, hRel, hCnt⟩ := id hM
  obtain ⟨hn1, hn2, hn3⟩ := id hCnt
  have hn1 : tHn U ≤ 30 := hn1
  have hn2 : tPn U ≤ 6 := hn2
  have hn3 : tEn U ≤ 6 := hn3
  have hMo : M 5 = some (.inr (7, [.int th, .int (nI (tHn U)), .int (nI (tPn U)), .int (nI (tEn U)), .ref (ad 6), .ref (ad 7), .ref (ad 8), .ref (ad 9), .ref (ad 10), .ref (ad 11), .ref (ad 12), .ref (ad 13), .ref (ad 14)])) := hMo
  obtain ⟨rH, rP, rE, rM⟩ := id hRel
  have hxj : isIx (tEn U) (nI j) = true := isIx_nI hj (by omega)
  obtain ⟨Mo, hMq⟩ : ∃ z, z = M := ⟨_, rfl⟩
  have hrA : fReg 5 15 ad Mo ad M := by rw [hMq]; exact fReg_rf
  obtain ⟨Q9, hQ9⟩ : ∃ z, z = MQ below (fQi g (fMi g ad M 2 U sp ca 0)) args s 0 0 (fA g) := ⟨_, rfl⟩
  show W p l e (fR 7 170 0 0) s m args below meth c _ _ 0 0 (MQ below (fQi g (fMi g ad M 2 U sp ca 0)) args s 0 0 (fA g)) (F0 m 0 ls [])
  rw [← hQ9]
  refine lv_aload_n hx hb dX6_drive_0 rfl (lv_at hl 0 rfl) ?_
  refine lv_iconst (v := 0) hx hb dX6_drive_1 (by decide) ?_
  refine f_put X hw hMo fc7 0 (by decide) wq794 rfl rfl (v := .int 0) rfl rfl (Nat.le_of_ble_eq_true rfl) dX6_drive_2 (fun H locs hw => ?_)
  have hw : fw g ad (fU M 5 (.inr (7, [.int 0, .int (nI (tHn U)), .int (nI (tPn U)), .int (nI (tEn U)), .ref (ad 6), .ref (ad 7), .ref (ad 8), .ref (ad 9), .ref (ad 10), .ref (ad 11), .ref (ad 12), .ref (ad 13), .ref (ad 14)]))) s H locs := hw
  have hMo : (fU M 5 (.inr (7, [.int 0, .int (nI (tHn U)), .int (nI (tPn U)), .int (nI (tEn U)), .ref (ad 6), .ref (ad 7), .ref (ad 8), .ref (ad 9), .ref (ad 10), .ref (ad 11), .ref (ad 12), .ref (ad 13), .ref (ad 14)]))) 5 = some (.inr (7, [.int 0, .int (nI (tHn U)), .int (nI (tPn U)), .int (nI (tEn U)), .ref (ad 6), .ref (ad 7), .ref (ad 8), .ref (ad 9), .ref (ad 10), .ref (ad 11), .ref (ad 12), .ref (ad 13), .ref (ad 14)])) := fU_s
  have hm6 : (fU M 5 (.inr (7, [.int 0, .int (nI (tHn U)), .int (nI (tPn U)), .int (nI (tEn U)), .ref (ad 6), .ref (ad 7), .ref (ad 8), .ref (ad 9), .ref (ad 10), .ref (ad 11), .ref (ad 12), .ref (ad 13), .ref (ad 14)]))) 6 = _ := (fU_n (by omega)).trans hm6
  have hm7 : (fU M 5 (.inr (7, [.int 0, .int (nI (tHn U)), .int (nI (tPn U)), .int (nI (tEn U)), .ref (ad 6), .ref (ad 7), .ref (ad 8), .ref (ad 9), .ref (ad 10), .ref (ad 11), .ref (ad 12), .ref (ad 13), .ref (ad 14)]))) 7 = _ := (fU_n (by omega)).trans hm7
  have hm8 : (fU M 5 (.inr (7, [.int 0, .int (nI (tHn U)), .int (nI (tPn U)), .int (nI (tEn U)), .ref (ad 6), .ref (ad 7), .ref (ad 8), .ref (ad 9), .ref (ad 10), .ref (ad 11), .ref (ad 12), .ref (ad 13), .ref (ad 14)]))) 8 = _ := (fU_n (by omega)).trans hm8
  have hm9 : (fU M 5 (.inr (7, [.int 0, .int (nI (tHn U)), .int (nI (tPn U)), .int (nI (tEn U)), .ref (ad 6), .ref (ad 7), .ref (ad 8), .ref (ad 9), .ref (ad 10), .ref (ad 11), .ref (ad 12), .ref (ad 13), .ref (ad 14)]))) 9 = _ := (fU_n (by omega)).trans hm9
  have hm10 : (fU M 5 (.inr (7, [.int 0, .int (nI (tHn U)), .int (nI (tPn U)), .int (nI (tEn U)), .ref (ad 6), .ref (ad 7), .ref (ad 8), .ref (ad 9), .ref (ad 10), .ref (ad 11), .ref (ad 12), .ref (ad 13), .ref (ad 14)]))) 10 = _ := (fU_n (by omega)).trans hm10
  have hm11 : (fU M 5 (.inr (7, [.int 0, .int (nI (tHn U)), .int (nI (tPn U)), .int (nI (tEn U)), .ref (ad 6), .ref (ad 7), .ref (ad 8), .ref (ad 9), .ref (ad 10), .ref (ad 11), .ref (ad 12), .ref (ad 13), .ref (ad 14)]))) 11 = _ := (fU_n (by omega)).trans hm11
  have hm12 : (fU M 5 (.inr (7, [.int 0, .int (nI (tHn U)), .int (nI (tPn U)), .int (nI (tEn U)), .ref (ad 6), .ref (ad 7), .ref (ad 8), .ref (ad 9), .ref (ad 10), .ref (ad 11), .ref (ad 12), .ref (ad 13), .ref (ad 14)]))) 12 = _ := (fU_n (by omega)).trans hm12
  have hm13 : (fU M 5 (.inr (7, [.int 0, .int (nI (tHn U)), .int (nI (tPn U)), .int (nI (tEn U)), .ref (ad 6), .ref (ad 7), .ref (ad 8), .ref (ad 9), .ref (ad 10), .ref (ad 11), .ref (ad 12), .ref (ad 13), .ref (ad 14)]))) 13 = _ := (fU_n (by omega)).trans hm13
  have hm14 : (fU M 5 (.inr (7, [.int 0, .int (nI (tHn U)), .int (nI (tPn U)), .int (nI (tEn U)), .ref (ad 6), .ref (ad 7), .ref (ad 8), .ref (ad 9), .ref (ad 10), .ref (ad 11), .ref (ad 12), .ref (ad 13), .ref (ad 14)]))) 14 = _ := (fU_n (by omega)).trans hm14
  have hM : isMo g ad (fU M 5 (.inr (7, [.int 0, .int (nI (tHn U)), .int (nI (tPn U)), .int (nI (tEn U)), .ref (ad 6), .ref (ad 7), .ref (ad 8), .ref (ad 9), .ref (ad 10), .ref (ad 11), .ref (ad 12), .ref (ad 13), .ref (ad 14)]))) 0 U sp ca := ⟨pcs, wa, ht, et, mi, co, as, hMo, ⟨hm6, hm7, hm8, hm9, hm10, hm11, hm12, hm13, hm14⟩, hRel, hCnt⟩
  have hrA : fReg 5 15 ad Mo ad (fU M 5 (.inr (7, [.int 0, .int (nI (tHn U)), .int (nI (tPn U)), .int (nI (tEn U)), .ref (ad 6), .ref (ad 7), .ref (ad 8), .ref (ad 9), .ref (ad 10), .ref (ad 11), .ref (ad 12), .ref (ad 13), .ref (ad 14)]))) := fReg_U hrA (by omega)
  obtain ⟨M7, eM7⟩ : ∃ z, z = (fU M 5 (.inr (7, [.int 0, .int (nI (tHn U)), .int (nI (tPn U)), .int (nI (tEn U)), .ref (ad 6), .ref (ad 7), .ref (ad 8), .ref (ad 9), .ref (ad 10), .ref (ad 11), .ref (ad 12), .ref (ad 13), .ref (ad 14)]))) := ⟨_, rfl⟩
  rw [← eM7] at hM hw hrA
  obtain ⟨pcs, wa, ht, et, mi, co, as, hMo, ⟨hm6, hm7, hm8, hm9, hm10, hm11, hm12, hm13, hm14⟩, hRel, hCnt⟩ := id hM
  obtain ⟨hn1, hn2, hn3⟩ := id hCnt
  have hn1 : tHn U ≤ 30 := hn1
  have hn2 : tPn U ≤ 6 := hn2
  have hn3 : tEn U ≤ 6 := hn3
  have hMo : M7 5 = some (.inr (7, [.int 0, .int (nI (tHn U)), .int (nI (tPn U)), .int (nI (tEn U)), .ref (ad 6), .ref (ad 7), .ref (ad 8), .ref (ad 9), .ref (ad 10), .ref (ad 11), .ref (ad 12), .ref (ad 13), .ref (ad 14)])) := hMo
  obtain ⟨rH, rP, rE, rM⟩ := id hRel
  refine lv_aload_n hx hb dX6_drive_5 rfl (lv_at hl 0 rfl) ?_
  refine lv_iload_n hx hb dX6_drive_6 rfl (lv_at hl 1 rfl) ?_
  refine fk_di (fcV X hw (c_m_isEngine l g ad M7 hM (nI j)) hMo rfl wq928 kVX6_isEngine ⟨(Nat.le_of_ble_eq_true rfl), (Nat.le_of_ble_eq_true rfl)⟩ rfl hl.1 rfl (Nat.le_of_ble_eq_true rfl) dX6_drive_7 ⟨Nat.le_refl _, Nat.le_refl _⟩) hw (fun H locs hw => ?_)
  refine lv_if_eq (tgt := 21) hx hb dX6_drive_10 (by decide) (fun c_1 => absurd (bI_f.mp c_1) (by rw [hxj]; decide)) (fun c_1 => ?_)
  have c_1 := bI_nf.mp c_1
  refine lv_iload_n hx hb dX6_drive_13 rfl (lv_at hl 2 rfl) ?_
  refine lv_iload_n hx hb dX6_drive_14 rfl (lv_at hl 3 rfl) ?_
  refine fk_di (fcS X hw (c_isCell l g ad M7 x y) wq843 kSX6_isCell ⟨(Nat.le_of_ble_eq_true rfl), (Nat.le_of_ble_eq_true rfl)⟩ rfl hl.1 rfl (Nat.le_of_ble_eq_true rfl) dX6_drive_15 ⟨Nat.le_refl _, Nat.le_refl _⟩) hw (fun H locs hw => ?_)
  refine lv_if_ne (tgt := 27) hx hb dX6_drive_18 (by decide) (fun c_2 => ?_) (fun c_2 => absurd (bI_f.mp c_2) (by rw [h2]; decide))
  have c_2 := bI_nf.mp c_2
  refine lv_iload_n hx hb dX6_drive_27 rfl (lv_at hl 2 rfl) ?_
  refine lv_bipush (v := 14) hx hb dX6_drive_28 (by decide) ?_
  refine lv_iload_n hx hb dX6_drive_30 rfl (lv_at hl 3 rfl) ?_
  refine lv_imul hx hb dX6_drive_31 ?_
  refine lv_iadd hx hb dX6_drive_32 ?_
  refine f_top (y := nI jc) hxy ?_
  refine lv_istore (lv' := [(4, .int (nI jc)), (0, .ref (ad 5)), (1, .int (nI j)), (2, .int x), (3, .int y)]) hx hb dX6_drive_33 hl (by decide) rfl (fun ls hl => ?_)
  refine lv_aload_n hx hb dX6_drive_35 rfl (lv_at hl 1 rfl) ?_
  refine lv_iload_n hx hb dX6_drive_36 rfl (lv_at hl 2 rfl) ?_
  refine lv_iconst (v := 5) hx hb dX6_drive_37 (by decide) ?_
  refine fk_di (fcV X hw (c_en l g ad M7 hM (e0 := j) (k := 5) hj rfl (by omega)) hMo rfl wq873 kVX6_en ⟨(Nat.le_of_ble_eq_true rfl), (Nat.le_of_ble_eq_true rfl)⟩ rfl hl.1 rfl (Nat.le_of_ble_eq_true rfl) dX6_drive_38 ⟨Nat.le_refl _, Nat.le_refl _⟩) hw (fun H locs hw => ?_)
  refine lv_if_gt (tgt := 71) hx hb dX6_drive_41 (by decide) (fun c_3 => absurd c_3 h3) (fun c_3 => ?_)
  refine lv_aload_n hx hb dX6_drive_44 rfl (lv_at hl 1 rfl) ?_
  refine lv_iload_n hx hb dX6_drive_45 rfl (lv_at hl 2 rfl) ?_
  refine lv_iconst (v := 0) hx hb dX6_drive_46 (by decide) ?_
  refine fk_di (fcV X hw (c_en l g ad M7 hM (e0 := j) (k := 0) hj rfl (by omega)) hMo rfl wq873 kVX6_en ⟨(Nat.le_of_ble_eq_true rfl), (Nat.le_of_ble_eq_true rfl)⟩ rfl hl.1 rfl (Nat.le_of_ble_eq_true rfl) dX6_drive_47 ⟨Nat.le_refl _, Nat.le_refl _⟩) hw (fun H locs hw => ?_)
  refine f_top (y := nI a) hea ?_
  refine lv_iload hx hb dX6_drive_50 (lv_at hl 0 rfl) ?_
  refine lv_icmp_eq (tgt := 71) hx hb dX6_drive_52 (by decide) (fun c_4 => ?_) (fun c_4 => absurd (by rw [h4]) c_4)
  have c_4 := nI_eq' (a := a) (b := jc) c_4 (by omega) (by omega)
  refine lv_aload_n hx hb dX6_drive_71 rfl (lv_at hl 1 rfl) ?_
  refine lv_iconst (v := 2) hx hb dX6_drive_72 (by decide) ?_
  refine fk_mi (fcV X hw (c_fail l g ad M7 hM 2) hMo rfl wq849 kVX6_fail ⟨(Nat.le_of_ble_eq_true rfl), (Nat.le_of_ble_eq_true rfl)⟩ rfl hl.1 rfl (Nat.le_of_ble_eq_true rfl) dX6_drive_73 ⟨Nat.le_refl _, Nat.le_refl _⟩) hw (fun M8 H locs hM hr8 hw => ?_)
  have hrA := fReg_tr hrA hr8
  rw [hQ9, ← hMq]
  exact f_iret X hw ⟨rfl, hM, hrA, rfl⟩ (Nat.le_refl _) (Nat.le_refl _) dX6_drive_76
set_option maxHeartbeats 4000000 in
set_option maxRecDepth 100000 in
theorem x_m_drive_5 (l : Launch) (g : fG) (ad : Nat → Nat) (M : fM) {th : Int32} {U : fTn} {sp ca : Nat → Int32} (hM : isMo g ad M th U sp ca) {x y : Int32} {j jc : Nat} (hj : j < tEn U) (h2 : aOn x y = true) (hjc : jc < 140) (hxy : x + 14 * y = nI jc) {a : Nat} (hea : tE U j 0 = nI a) (ha : a < 140) (h3 : ¬ 0 < tE U j 5) (h4 : ¬ a = jc) (h5 : wyO U sp a jc 140 jc = -1) : fCi l g yX6_drive cX6_drive 6 ((some .int)) 7 170 0 0 ad M [.ref (ad 5), .int (nI j), .int x, .int y] (fMi g ad M 2 U (wyO U sp a jc 140) ca 0) := by
  refine f_body (own := RX6) (by decide +kernel) rfl (Nat.le_of_ble_eq_true rfl) ?_
  intro p e s m args below meth c ls X hw hin hl
  have hx := X.1
  have hb := X.2.1
  have hl : lv_has ls 6 [(0, .ref (ad 5)), (1, .int (nI j)), (2, .int x), (3, .int y)] := hl
  obtain ⟨pcs, wa, ht, et, mi, co, as, hMo, ⟨hm6, hm7, hm8, hm9, hm10, hm11, hm12, hm13, hm14⟩, hRel, hCnt⟩ := id hM
  obtain ⟨hn1, hn2, hn3⟩ := id hCnt
  have hn1 : tHn U ≤ 30 := hn1
  have hn2 : tPn U ≤ 6 := hn2
  have hn3 : tEn U ≤ 6 := hn3
  have hMo : M 5 = some (.inr (7, [.int th, .int (nI (tHn U)), .int (nI (tPn U)), .int (nI (tEn U)), .ref (ad 6), .ref (ad 7), .ref (ad 8), .ref (ad 9), .ref (ad 10), .ref (ad 11), .ref (ad 12), .ref (ad 13), .ref (ad 14)])) := hMo
  obtain ⟨rH, rP, rE, rM⟩ := id hRel
  have hxj : isIx (tEn U) (nI j) = true := isIx_nI hj (by omega)
  obtain ⟨Mo, hMq⟩ : ∃ z, z = M := ⟨_, rfl⟩
  have hrA : fReg 5 15 ad Mo ad M := by rw [hMq]; exact fReg_rf
  obtain ⟨Q9, hQ9⟩ : ∃ z, z = MQ below (fQi g (fMi g ad M 2 U (wyO U sp a jc 140) ca 0)) args s 0 0 (fA g) := ⟨_, rfl⟩
  show W p l e (fR 7 170 0 0) s m args below meth c _ _ 0 0 (MQ below (fQi g (fMi g ad M 2 U (wyO U sp a jc 140) ca 0)) args s 0 0 (fA g)) (F0 m 0 ls [])
  rw [← hQ9]
  refine lv_aload_n hx hb dX6_drive_0 rfl (lv_at hl 0 rfl) ?_
  refine lv_iconst (v := 0) hx hb dX6_drive_1 (by decide) ?_
  refine f_put X hw hMo fc7 0 (by decide) wq794 rfl rfl (v := .int 0) rfl rfl (Nat.le_of_ble_eq_true rfl) dX6_drive_2 (fun H locs hw => ?_)
  have hw : fw g ad (fU M 5 (.inr (7, [.int 0, .int (nI (tHn U)), .int (nI (tPn U)), .int (nI (tEn U)), .ref (ad 6), .ref (ad 7), .ref (ad 8), .ref (ad 9), .ref (ad 10), .ref (ad 11), .ref (ad 12), .ref (ad 13), .ref (ad 14)]))) s H locs := hw
  have hMo : (fU M 5 (.inr (7, [.int 0, .int (nI (tHn U)), .int (nI (tPn U)), .int (nI (tEn U)), .ref (ad 6), .ref (ad 7), .ref (ad 8), .ref (ad 9), .ref (ad 10), .ref (ad 11), .ref (ad 12), .ref (ad 13), .ref (ad 14)]))) 5 = some (.inr (7, [.int 0, .int (nI (tHn U)), .int (nI (tPn U)), .int (nI (tEn U)), .ref (ad 6), .ref (ad 7), .ref (ad 8), .ref (ad 9), .ref (ad 10), .ref (ad 11), .ref (ad 12), .ref (ad 13), .ref (ad 14)])) := fU_s
  have hm6 : (fU M 5 (.inr (7, [.int 0, .int (nI (tHn U)), .int (nI (tPn U)), .int (nI (tEn U)), .ref (ad 6), .ref (ad 7), .ref (ad 8), .ref (ad 9), .ref (ad 10), .ref (ad 11), .ref (ad 12), .ref (ad 13), .ref (ad 14)]))) 6 = _ := (fU_n (by omega)).trans hm6
  have hm7 : (fU M 5 (.inr (7, [.int 0, .int (nI (tHn U)), .int (nI (tPn U)), .int (nI (tEn U)), .ref (ad 6), .ref (ad 7), .ref (ad 8), .ref (ad 9), .ref (ad 10), .ref (ad 11), .ref (ad 12), .ref (ad 13), .ref (ad 14)]))) 7 = _ := (fU_n (by omega)).trans hm7
  have hm8 : (fU M 5 (.inr (7, [.int 0, .int (nI (tHn U)), .int (nI (tPn U)), .int (nI (tEn U)), .ref (ad 6), .ref (ad 7), .ref (ad 8), .ref (ad 9), .ref (ad 10), .ref (ad 11), .ref (ad 12), .ref (ad 13), .ref (ad 14)]))) 8 = _ := (fU_n (by omega)).trans hm8
  have hm9 : (fU M 5 (.inr (7, [.int 0, .int (nI (tHn U)), .int (nI (tPn U)), .int (nI (tEn U)), .ref (ad 6), .ref (ad 7), .ref (ad 8), .ref (ad 9), .ref (ad 10), .ref (ad 11), .ref (ad 12), .ref (ad 13), .ref (ad 14)]))) 9 = _ := (fU_n (by omega)).trans hm9
  have hm10 : (fU M 5 (.inr (7, [.int 0, .int (nI (tHn U)), .int (nI (tPn U)), .int (nI (tEn U)), .ref (ad 6), .ref (ad 7), .ref (ad 8), .ref (ad 9), .ref (ad 10), .ref (ad 11), .ref (ad 12), .ref (ad 13), .ref (ad 14)]))) 10 = _ := (fU_n (by omega)).trans hm10
  have hm11 : (fU M 5 (.inr (7, [.int 0, .int (nI (tHn U)), .int (nI (tPn U)), .int (nI (tEn U)), .ref (ad 6), .ref (ad 7), .ref (ad 8), .ref (ad 9), .ref (ad 10), .ref (ad 11), .ref (ad 12), .ref (ad 13), .ref (ad 14)]))) 11 = _ := (fU_n (by omega)).trans hm11
  have hm12 : (fU M 5 (.inr (7, [.int 0, .int (nI (tHn U)), .int (nI (tPn U)), .int (nI (tEn U)), .ref (ad 6), .ref (ad 7), .ref (ad 8), .ref (ad 9), .ref (ad 10), .ref (ad 11), .ref (ad 12), .ref (ad 13), .ref (ad 14)]))) 12 = _ := (fU_n (by omega)).trans hm12
  have hm13 : (fU M 5 (.inr (7, [.int 0, .int (nI (tHn U)), .int (nI (tPn U)), .int (nI (tEn U)), .ref (ad 6), .ref (ad 7), .ref (ad 8), .ref (ad 9), .ref (ad 10), .ref (ad 11), .ref (ad 12), .ref (ad 13), .ref (ad 14)]))) 13 = _ := (fU_n (by omega)).trans hm13
  have hm14 : (fU M 5 (.inr (7, [.int 0, .int (nI (tHn U)), .int (nI (tPn U)), .int (nI (tEn U)), .ref (ad 6), .ref (ad 7), .ref (ad 8), .ref (ad 9), .ref (ad 10), .ref (ad 11), .ref (ad 12), .ref (ad 13), .ref (ad 14)]))) 14 = _ := (fU_n (by omega)).trans hm14
  have hM : isMo g ad (fU M 5 (.inr (7, [.int 0, .int (nI (tHn U)), .int (nI (tPn U)), .int (nI (tEn U)), .ref (ad 6), .ref (ad 7), .ref (ad 8), .ref (ad 9), .ref (ad 10), .ref (ad 11), .ref (ad 12), .ref (ad 13), .ref (ad 14)]))) 0 U sp ca := ⟨pcs, wa, ht, et, mi, co, as, hMo, ⟨hm6, hm7, hm8, hm9, hm10, hm11, hm12, hm13, hm14⟩, hRel, hCnt⟩
  have hrA : fReg 5 15 ad Mo ad (fU M 5 (.inr (7, [.int 0, .int (nI (tHn U)), .int (nI (tPn U)), .int (nI (tEn U)), .ref (ad 6), .ref (ad 7), .ref (ad 8), .ref (ad 9), .ref (ad 10), .ref (ad 11), .ref (ad 12), .ref (ad 13), .ref (ad 14)]))) := fReg_U hrA (by omega)
  obtain ⟨M9, eM9⟩ : ∃ z, z = (fU M 5 (.inr (7, [.int 0, .int (nI (tHn U)), .int (nI (tPn U)), .int (nI (tEn U)), .ref (ad 6), .ref (ad 7), .ref (ad 8), .ref (ad 9), .ref (ad 10), .ref (ad 11), .ref (ad 12), .ref (ad 13), .ref (ad 14)]))) := ⟨_, rfl⟩
  rw [← eM9] at hM hw hrA
  obtain ⟨pcs, wa, ht, et, mi, co, as, hMo, ⟨hm6, hm7, hm8, hm9, hm10, hm11, hm12, hm13, hm14⟩, hRel, hCnt⟩ := id hM
  obtain ⟨hn1, hn2, hn3⟩ := id hCnt
  have hn1 : tHn U ≤ 30 := hn1
  have hn2 : tPn U ≤ 6 := hn2
  have hn3 : tEn U ≤ 6 := hn3
  have hMo : M9 5 = some (.inr (7, [.int 0, .int (nI (tHn U)), .int (nI (tPn U)), .int (nI (tEn U)), .ref (ad 6), .ref (ad 7), .ref (ad 8), .ref (ad 9), .ref (ad 10), .ref (ad 11), .ref (ad 12), .ref (ad 13), .ref (ad 14)])) := hMo
  obtain ⟨rH, rP, rE, rM⟩ := id hRel
  refine lv_aload_n hx hb dX6_drive_5 rfl (lv_at hl 0 rfl) ?_
  refine lv_iload_n hx hb dX6_drive_6 rfl (lv_at hl 1 rfl) ?_
  refine fk_di (fcV X hw (c_m_isEngine l g ad M9 hM (nI j)) hMo rfl wq928 kVX6_isEngine ⟨(Nat.le_of_ble_eq_true rfl), (Nat.le_of_ble_eq_true rfl)⟩ rfl hl.1 rfl (Nat.le_of_ble_eq_true rfl) dX6_drive_7 ⟨Nat.le_refl _, Nat.le_refl _⟩) hw (fun H locs hw => ?_)
  refine lv_if_eq (tgt := 21) hx hb dX6_drive_10 (by decide) (fun c_1 => absurd (bI_f.mp c_1) (by rw [hxj]; decide)) (fun c_1 => ?_)
  have c_1 := bI_nf.mp c_1
  refine lv_iload_n hx hb dX6_drive_13 rfl (lv_at hl 2 rfl) ?_
  refine lv_iload_n hx hb dX6_drive_14 rfl (lv_at hl 3 rfl) ?_
  refine fk_di (fcS X hw (c_isCell l g ad M9 x y) wq843 kSX6_isCell ⟨(Nat.le_of_ble_eq_true rfl), (Nat.le_of_ble_eq_true rfl)⟩ rfl hl.1 rfl (Nat.le_of_ble_eq_true rfl) dX6_drive_15 ⟨Nat.le_refl _, Nat.le_refl _⟩) hw (fun H locs hw => ?_)
  refine lv_if_ne (tgt := 27) hx hb dX6_drive_18 (by decide) (fun c_2 => ?_) (fun c_2 => absurd (bI_f.mp c_2) (by rw [h2]; decide))
  have c_2 := bI_nf.mp c_2
  refine lv_iload_n hx hb dX6_drive_27 rfl (lv_at hl 2 rfl) ?_
  refine lv_bipush (v := 14) hx hb dX6_drive_28 (by decide) ?_
  refine lv_iload_n hx hb dX6_drive_30 rfl (lv_at hl 3 rfl) ?_
  refine lv_imul hx hb dX6_drive_31 ?_
  refine lv_iadd hx hb dX6_drive_32 ?_
  refine f_top (y := nI jc) hxy ?_
  refine lv_istore (lv' := [(4, .int (nI jc)), (0, .ref (ad 5)), (1, .int (nI j)), (2, .int x), (3, .int y)]) hx hb dX6_drive_33 hl (by decide) rfl (fun ls hl => ?_)
  refine lv_aload_n hx hb dX6_drive_35 rfl (lv_at hl 1 rfl) ?_
  refine lv_iload_n hx hb dX6_drive_36 rfl (lv_at hl 2 rfl) ?_
  refine lv_iconst (v := 5) hx hb dX6_drive_37 (by decide) ?_
  refine fk_di (fcV X hw (c_en l g ad M9 hM (e0 := j) (k := 5) hj rfl (by omega)) hMo rfl wq873 kVX6_en ⟨(Nat.le_of_ble_eq_true rfl), (Nat.le_of_ble_eq_true rfl)⟩ rfl hl.1 rfl (Nat.le_of_ble_eq_true rfl) dX6_drive_38 ⟨Nat.le_refl _, Nat.le_refl _⟩) hw (fun H locs hw => ?_)
  refine lv_if_gt (tgt := 71) hx hb dX6_drive_41 (by decide) (fun c_3 => absurd c_3 h3) (fun c_3 => ?_)
  refine lv_aload_n hx hb dX6_drive_44 rfl (lv_at hl 1 rfl) ?_
  refine lv_iload_n hx hb dX6_drive_45 rfl (lv_at hl 2 rfl) ?_
  refine lv_iconst (v := 0) hx hb dX6_drive_46 (by decide) ?_
  refine fk_di (fcV X hw (c_en l g ad M9 hM (e0 := j) (k := 0) hj rfl (by omega)) hMo rfl wq873 kVX6_en ⟨(Nat.le_of_ble_eq_true rfl), (Nat.le_of_ble_eq_true rfl)⟩ rfl hl.1 rfl (Nat.le_of_ble_eq_true rfl) dX6_drive_47 ⟨Nat.le_refl _, Nat.le_refl _⟩) hw (fun H locs hw => ?_)
  refine f_top (y := nI a) hea ?_
  refine lv_iload hx hb dX6_drive_50 (lv_at hl 0 rfl) ?_
  refine lv_icmp_eq (tgt := 71) hx hb dX6_drive_52 (by decide) (fun c_4 => absurd (nI_eq' (a := a) (b := jc) c_4 (by omega) (by omega)) h4) (fun c_4 => ?_)
  have c_4 := nI_neq' (a := a) (b := jc) c_4 (by omega) (by omega)
  refine lv_aload_n hx hb dX6_drive_55 rfl (lv_at hl 1 rfl) ?_
  refine lv_aload_n hx hb dX6_drive_56 rfl (lv_at hl 1 rfl) ?_
  refine lv_iload_n hx hb dX6_drive_57 rfl (lv_at hl 2 rfl) ?_
  refine lv_iconst (v := 0) hx hb dX6_drive_58 (by decide) ?_
  refine fk_di (fcV X hw (c_en l g ad M9 hM (e0 := j) (k := 0) hj rfl (by omega)) hMo rfl wq873 kVX6_en ⟨(Nat.le_of_ble_eq_true rfl), (Nat.le_of_ble_eq_true rfl)⟩ rfl hl.1 rfl (Nat.le_of_ble_eq_true rfl) dX6_drive_59 ⟨Nat.le_refl _, Nat.le_refl _⟩) hw (fun H locs hw => ?_)
  refine f_top (y := nI a) hea ?_
  refine lv_iload hx hb dX6_drive_62 (lv_at hl 0 rfl) ?_
  refine fk_mi (fcV X hw (c_m_way l g ad M9 hM ha hjc) hMo rfl wq940 kVX6_way ⟨(Nat.le_of_ble_eq_true rfl), (Nat.le_of_ble_eq_true rfl)⟩ rfl hl.1 rfl (Nat.le_of_ble_eq_true rfl) dX6_drive_64 ⟨Nat.le_refl _, Nat.le_refl _⟩) hw (fun M10 H locs hM hr10 hw => ?_)
  have hrA := fReg_tr hrA hr10
  obtain ⟨sp9, hsp⟩ : ∃ z, z = wyO U sp a jc 140 := ⟨_, rfl⟩
  rw [← hsp] at hM
  obtain ⟨pcs, wa, ht, et, mi, co, as, hMo, ⟨hm6, hm7, hm8, hm9, hm10, hm11, hm12, hm13, hm14⟩, hRel, hCnt⟩ := id hM
  obtain ⟨hn1, hn2, hn3⟩ := id hCnt
  have hn1 : tHn U ≤ 30 := hn1
  have hn2 : tPn U ≤ 6 := hn2
  have hn3 : tEn U ≤ 6 := hn3
  have hMo : M10 5 = some (.inr (7, [.int 0, .int (nI (tHn U)), .int (nI (tPn U)), .int (nI (tEn U)), .ref (ad 6), .ref (ad 7), .ref (ad 8), .ref (ad 9), .ref (ad 10), .ref (ad 11), .ref (ad 12), .ref (ad 13), .ref (ad 14)])) := hMo
  obtain ⟨rH, rP, rE, rM⟩ := id hRel
  refine lv_iconst (v := (-1)) hx hb dX6_drive_67 (by decide) ?_
  refine lv_icmp_ne (tgt := 77) hx hb dX6_drive_68 (by decide) (fun c_5 => absurd h5 c_5) (fun c_5 => ?_)
  refine lv_aload_n hx hb dX6_drive_71 rfl (lv_at hl 1 rfl) ?_
  refine lv_iconst (v := 2) hx hb dX6_drive_72 (by decide) ?_
  refine fk_mi (fcV X hw (c_fail l g ad M10 hM 2) hMo rfl wq849 kVX6_fail ⟨(Nat.le_of_ble_eq_true rfl), (Nat.le_of_ble_eq_true rfl)⟩ rfl hl.1 rfl (Nat.le_of_ble_eq_true rfl) dX6_drive_73 ⟨Nat.le_refl _, Nat.le_refl _⟩) hw (fun M11 H locs hM hr11 hw => ?_)
  have hrA := fReg_tr hrA hr11
  rw [hQ9, ← hMq]
  exact f_iret X hw ⟨rfl, by rw [← hsp]; exact hM, hrA, rfl⟩ (Nat.le_refl _) (Nat.le_refl _) dX6_drive_76
set_option maxHeartbeats 4000000 in
set_option maxRecDepth 100000 in
theorem c_m_drive (l : Launch) (g : fG) (ad : Nat → Nat) (M : fM) {th : Int32} {U : fTn} {sp ca : Nat → Int32} (hM : isMo g ad M th U sp ca) {x y : Int32} {j jc : Nat} (hj : j < tEn U) (h2 : aOn x y = true) (hjc : jc < 140) (hxy : x + 14 * y = nI jc) {a : Nat} (hea : tE U j 0 = nI a) (ha : a < 140) (h3 : ¬ 0 < tE U j 5) (h4 : ¬ a = jc) (h5 : ¬ wyO U sp a jc 140 jc = -1) : fCi l g yX6_drive cX6_drive 6 ((some .int)) 7 170 0 0 ad M [.ref (ad 5), .int (nI j), .int x, .int y] (fMi g ad M 0 (mE (mOff (nI j)) (tEn U) (mSet U j (wyO U sp a jc 140 jc * (5 - tE U j 1)) (nI jc))) (wyO U sp a jc 140) ca (wyO U sp a jc 140 jc * (5 - tE U j 1))) := by
  refine f_body (own := RX6) (by decide +kernel) rfl (Nat.le_of_ble_eq_true rfl) ?_
  intro p e s m args below meth c ls X hw hin hl
  have hx := X.1
  have hb := X.2.1
  have hl : lv_has ls 6 [(0, .ref (ad 5)), (1, .int (nI j)), (2, .int x), (3, .int y)] := hl
  obtain ⟨pcs, wa, ht, et, mi, co, as, hMo, ⟨hm6, hm7, hm8, hm9, hm10, hm11, hm12, hm13, hm14⟩, hRel, hCnt⟩ := id hM
  obtain ⟨hn1, hn2, hn3⟩ := id hCnt
  have hn1 : tHn U ≤ 30 := hn1
  have hn2 : tPn U ≤ 6 := hn2
  have hn3 : tEn U ≤ 6 := hn3
  have hMo : M 5 = some (.inr (7, [.int th, .int (nI (tHn U)), .int (nI (tPn U)), .int (nI (tEn U)), .ref (ad 6), .ref (ad 7), .ref (ad 8), .ref (ad 9), .ref (ad 10), .ref (ad 11), .ref (ad 12), .ref (ad 13), .ref (ad 14)])) := hMo
  obtain ⟨rH, rP, rE, rM⟩ := id hRel
  have hxj : isIx (tEn U) (nI j) = true := isIx_nI hj (by omega)
  obtain ⟨Mo, hMq⟩ : ∃ z, z = M := ⟨_, rfl⟩
  have hrA : fReg 5 15 ad Mo ad M := by rw [hMq]; exact fReg_rf
  obtain ⟨Q9, hQ9⟩ : ∃ z, z = MQ below (fQi g (fMi g ad M 0 (mE (mOff (nI j)) (tEn U) (mSet U j (wyO U sp a jc 140 jc * (5 - tE U j 1)) (nI jc))) (wyO U sp a jc 140) ca (wyO U sp a jc 140 jc * (5 - tE U j 1)))) args s 0 0 (fA g) := ⟨_, rfl⟩
  show W p l e (fR 7 170 0 0) s m args below meth c _ _ 0 0 (MQ below (fQi g (fMi g ad M 0 (mE (mOff (nI j)) (tEn U) (mSet U j (wyO U sp a jc 140 jc * (5 - tE U j 1)) (nI jc))) (wyO U sp a jc 140) ca (wyO U sp a jc 140 jc * (5 - tE U j 1)))) args s 0 0 (fA g)) (F0 m 0 ls [])
  rw [← hQ9]
  refine lv_aload_n hx hb dX6_drive_0 rfl (lv_at hl 0 rfl) ?_
  refine lv_iconst (v := 0) hx hb dX6_drive_1 (by decide) ?_
  refine f_put X hw hMo fc7 0 (by decide) wq794 rfl rfl (v := .int 0) rfl rfl (Nat.le_of_ble_eq_true rfl) dX6_drive_2 (fun H locs hw => ?_)
  have hw : fw g ad (fU M 5 (.inr (7, [.int 0, .int (nI (tHn U)), .int (nI (tPn U)), .int (nI (tEn U)), .ref (ad 6), .ref (ad 7), .ref (ad 8), .ref (ad 9), .ref (ad 10), .ref (ad 11), .ref (ad 12), .ref (ad 13), .ref (ad 14)]))) s H locs := hw
  have hMo : (fU M 5 (.inr (7, [.int 0, .int (nI (tHn U)), .int (nI (tPn U)), .int (nI (tEn U)), .ref (ad 6), .ref (ad 7), .ref (ad 8), .ref (ad 9), .ref (ad 10), .ref (ad 11), .ref (ad 12), .ref (ad 13), .ref (ad 14)]))) 5 = some (.inr (7, [.int 0, .int (nI (tHn U)), .int (nI (tPn U)), .int (nI (tEn U)), .ref (ad 6), .ref (ad 7), .ref (ad 8), .ref (ad 9), .ref (ad 10), .ref (ad 11), .ref (ad 12), .ref (ad 13), .ref (ad 14)])) := fU_s
  have hm6 : (fU M 5 (.inr (7, [.int 0, .int (nI (tHn U)), .int (nI (tPn U)), .int (nI (tEn U)), .ref (ad 6), .ref (ad 7), .ref (ad 8), .ref (ad 9), .ref (ad 10), .ref (ad 11), .ref (ad 12), .ref (ad 13), .ref (ad 14)]))) 6 = _ := (fU_n (by omega)).trans hm6
  have hm7 : (fU M 5 (.inr (7, [.int 0, .int (nI (tHn U)), .int (nI (tPn U)), .int (nI (tEn U)), .ref (ad 6), .ref (ad 7), .ref (ad 8), .ref (ad 9), .ref (ad 10), .ref (ad 11), .ref (ad 12), .ref (ad 13), .ref (ad 14)]))) 7 = _ := (fU_n (by omega)).trans hm7
  have hm8 : (fU M 5 (.inr (7, [.int 0, .int (nI (tHn U)), .int (nI (tPn U)), .int (nI (tEn U)), .ref (ad 6), .ref (ad 7), .ref (ad 8), .ref (ad 9), .ref (ad 10), .ref (ad 11), .ref (ad 12), .ref (ad 13), .ref (ad 14)]))) 8 = _ := (fU_n (by omega)).trans hm8
  have hm9 : (fU M 5 (.inr (7, [.int 0, .int (nI (tHn U)), .int (nI (tPn U)), .int (nI (tEn U)), .ref (ad 6), .ref (ad 7), .ref (ad 8), .ref (ad 9), .ref (ad 10), .ref (ad 11), .ref (ad 12), .ref (ad 13), .ref (ad 14)]))) 9 = _ := (fU_n (by omega)).trans hm9
  have hm10 : (fU M 5 (.inr (7, [.int 0, .int (nI (tHn U)), .int (nI (tPn U)), .int (nI (tEn U)), .ref (ad 6), .ref (ad 7), .ref (ad 8), .ref (ad 9), .ref (ad 10), .ref (ad 11), .ref (ad 12), .ref (ad 13), .ref (ad 14)]))) 10 = _ := (fU_n (by omega)).trans hm10
  have hm11 : (fU M 5 (.inr (7, [.int 0, .int (nI (tHn U)), .int (nI (tPn U)), .int (nI (tEn U)), .ref (ad 6), .ref (ad 7), .ref (ad 8), .ref (ad 9), .ref (ad 10), .ref (ad 11), .ref (ad 12), .ref (ad 13), .ref (ad 14)]))) 11 = _ := (fU_n (by omega)).trans hm11
  have hm12 : (fU M 5 (.inr (7, [.int 0, .int (nI (tHn U)), .int (nI (tPn U)), .int (nI (tEn U)), .ref (ad 6), .ref (ad 7), .ref (ad 8), .ref (ad 9), .ref (ad 10), .ref (ad 11), .ref (ad 12), .ref (ad 13), .ref (ad 14)]))) 12 = _ := (fU_n (by omega)).trans hm12
  have hm13 : (fU M 5 (.inr (7, [.int 0, .int (nI (tHn U)), .int (nI (tPn U)), .int (nI (tEn U)), .ref (ad 6), .ref (ad 7), .ref (ad 8), .ref (ad 9), .ref (ad 10), .ref (ad 11), .ref (ad 12), .ref (ad 13), .ref (ad 14)]))) 13 = _ := (fU_n (by omega)).trans hm13
  have hm14 : (fU M 5 (.inr (7, [.int 0, .int (nI (tHn U)), .int (nI (tPn U)), .int (nI (tEn U)), .ref (ad 6), .ref (ad 7), .ref (ad 8), .ref (ad 9), .ref (ad 10), .ref (ad 11), .ref (ad 12), .ref (ad 13), .ref (ad 14)]))) 14 = _ := (fU_n (by omega)).trans hm14
  have hM : isMo g ad (fU M 5 (.inr (7, [.int 0, .int (nI (tHn U)), .int (nI (tPn U)), .int (nI (tEn U)), .ref (ad 6), .ref (ad 7), .ref (ad 8), .ref (ad 9), .ref (ad 10), .ref (ad 11), .ref (ad 12), .ref (ad 13), .ref (ad 14)]))) 0 U sp ca := ⟨pcs, wa, ht, et, mi, co, as, hMo, ⟨hm6, hm7, hm8, hm9, hm10, hm11, hm12, hm13, hm14⟩, hRel, hCnt⟩
  have hrA : fReg 5 15 ad Mo ad (fU M 5 (.inr (7, [.int 0, .int (nI (tHn U)), .int (nI (tPn U)), .int (nI (tEn U)), .ref (ad 6), .ref (ad 7), .ref (ad 8), .ref (ad 9), .ref (ad 10), .ref (ad 11), .ref (ad 12), .ref (ad 13), .ref (ad 14)]))) := fReg_U hrA (by omega)
  obtain ⟨M12, eM12⟩ : ∃ z, z = (fU M 5 (.inr (7, [.int 0, .int (nI (tHn U)), .int (nI (tPn U)), .int (nI (tEn U)), .ref (ad 6), .ref (ad 7), .ref (ad 8), .ref (ad 9), .ref (ad 10), .ref (ad 11), .ref (ad 12), .ref (ad 13), .ref (ad 14)]))) := ⟨_, rfl⟩
  rw [← eM12] at hM hw hrA
  obtain ⟨pcs, wa, ht, et, mi, co, as, hMo, ⟨hm6, hm7, hm8, hm9, hm10, hm11, hm12, hm13, hm14⟩, hRel, hCnt⟩ := id hM
  obtain ⟨hn1, hn2, hn3⟩ := id hCnt
  have hn1 : tHn U ≤ 30 := hn1
  have hn2 : tPn U ≤ 6 := hn2
  have hn3 : tEn U ≤ 6 := hn3
  have hMo : M12 5 = some (.inr (7, [.int 0, .int (nI (tHn U)), .int (nI (tPn U)), .int (nI (tEn U)), .ref (ad 6), .ref (ad 7), .ref (ad 8), .ref (ad 9), .ref (ad 10), .ref (ad 11), .ref (ad 12), .ref (ad 13), .ref (ad 14)])) := hMo
  obtain ⟨rH, rP, rE, rM⟩ := id hRel
  refine lv_aload_n hx hb dX6_drive_5 rfl (lv_at hl 0 rfl) ?_
  refine lv_iload_n hx hb dX6_drive_6 rfl (lv_at hl 1 rfl) ?_
  refine fk_di (fcV X hw (c_m_isEngine l g ad M12 hM (nI j)) hMo rfl wq928 kVX6_isEngine ⟨(Nat.le_of_ble_eq_true rfl), (Nat.le_of_ble_eq_true rfl)⟩ rfl hl.1 rfl (Nat.le_of_ble_eq_true rfl) dX6_drive_7 ⟨Nat.le_refl _, Nat.le_refl _⟩) hw (fun H locs hw => ?_)
  refine lv_if_eq (tgt := 21) hx hb dX6_drive_10 (by decide) (fun c_1 => absurd (bI_f.mp c_1) (by rw [hxj]; decide)) (fun c_1 => ?_)
  have c_1 := bI_nf.mp c_1
  refine lv_iload_n hx hb dX6_drive_13 rfl (lv_at hl 2 rfl) ?_
  refine lv_iload_n hx hb dX6_drive_14 rfl (lv_at hl 3 rfl) ?_
  refine fk_di (fcS X hw (c_isCell l g ad M12 x y) wq843 kSX6_isCell ⟨(Nat.le_of_ble_eq_true rfl), (Nat.le_of_ble_eq_true rfl)⟩ rfl hl.1 rfl (Nat.le_of_ble_eq_true rfl) dX6_drive_15 ⟨Nat.le_refl _, Nat.le_refl _⟩) hw (fun H locs hw => ?_)
  refine lv_if_ne (tgt := 27) hx hb dX6_drive_18 (by decide) (fun c_2 => ?_) (fun c_2 => absurd (bI_f.mp c_2) (by rw [h2]; decide))
  have c_2 := bI_nf.mp c_2
  refine lv_iload_n hx hb dX6_drive_27 rfl (lv_at hl 2 rfl) ?_
  refine lv_bipush (v := 14) hx hb dX6_drive_28 (by decide) ?_
  refine lv_iload_n hx hb dX6_drive_30 rfl (lv_at hl 3 rfl) ?_
  refine lv_imul hx hb dX6_drive_31 ?_
  refine lv_iadd hx hb dX6_drive_32 ?_
  refine f_top (y := nI jc) hxy ?_
  refine lv_istore (lv' := [(4, .int (nI jc)), (0, .ref (ad 5)), (1, .int (nI j)), (2, .int x), (3, .int y)]) hx hb dX6_drive_33 hl (by decide) rfl (fun ls hl => ?_)
  refine lv_aload_n hx hb dX6_drive_35 rfl (lv_at hl 1 rfl) ?_
  refine lv_iload_n hx hb dX6_drive_36 rfl (lv_at hl 2 rfl) ?_
  refine lv_iconst (v := 5) hx hb dX6_drive_37 (by decide) ?_
  refine fk_di (fcV X hw (c_en l g ad M12 hM (e0 := j) (k := 5) hj rfl (by omega)) hMo rfl wq873 kVX6_en ⟨(Nat.le_of_ble_eq_true rfl), (Nat.le_of_ble_eq_true rfl)⟩ rfl hl.1 rfl (Nat.le_of_ble_eq_true rfl) dX6_drive_38 ⟨Nat.le_refl _, Nat.le_refl _⟩) hw (fun H locs hw => ?_)
  refine lv_if_gt (tgt := 71) hx hb dX6_drive_41 (by decide) (fun c_3 => absurd c_3 h3) (fun c_3 => ?_)
  refine lv_aload_n hx hb dX6_drive_44 rfl (lv_at hl 1 rfl) ?_
  refine lv_iload_n hx hb dX6_drive_45 rfl (lv_at hl 2 rfl) ?_
  refine lv_iconst (v := 0) hx hb dX6_drive_46 (by decide) ?_
  refine fk_di (fcV X hw (c_en l g ad M12 hM (e0 := j) (k := 0) hj rfl (by omega)) hMo rfl wq873 kVX6_en ⟨(Nat.le_of_ble_eq_true rfl), (Nat.le_of_ble_eq_true rfl)⟩ rfl hl.1 rfl (Nat.le_of_ble_eq_true rfl) dX6_drive_47 ⟨Nat.le_refl _, Nat.le_refl _⟩) hw (fun H locs hw => ?_)
  refine f_top (y := nI a) hea ?_
  refine lv_iload hx hb dX6_drive_50 (lv_at hl 0 rfl) ?_
  refine lv_icmp_eq (tgt := 71) hx hb dX6_drive_52 (by decide) (fun c_4 => absurd (nI_eq' (a := a) (b := jc) c_4 (by omega) (by omega)) h4) (fun c_4 => ?_)
  have c_4 := nI_neq' (a := a) (b := jc) c_4 (by omega) (by omega)
  refine lv_aload_n hx hb dX6_drive_55 rfl (lv_at hl 1 rfl) ?_
  refine lv_aload_n hx hb dX6_drive_56 rfl (lv_at hl 1 rfl) ?_
  refine lv_iload_n hx hb dX6_drive_57 rfl (lv_at hl 2 rfl) ?_
  refine lv_iconst (v := 0) hx hb dX6_drive_58 (by decide) ?_
  refine fk_di (fcV X hw (c_en l g ad M12 hM (e0 := j) (k := 0) hj rfl (by omega)) hMo rfl wq873 kVX6_en ⟨(Nat.le_of_ble_eq_true rfl), (Nat.le_of_ble_eq_true rfl)⟩ rfl hl.1 rfl (Nat.le_of_ble_eq_true rfl) dX6_drive_59 ⟨Nat.le_refl _, Nat.le_refl _⟩) hw (fun H locs hw => ?_)
  refine f_top (y := nI a) hea ?_
  refine lv_iload hx hb dX6_drive_62 (lv_at hl 0 rfl) ?_
  refine fk_mi (fcV X hw (c_m_way l g ad M12 hM ha hjc) hMo rfl wq940 kVX6_way ⟨(Nat.le_of_ble_eq_true rfl), (Nat.le_of_ble_eq_true rfl)⟩ rfl hl.1 rfl (Nat.le_of_ble_eq_true rfl) dX6_drive_64 ⟨Nat.le_refl _, Nat.le_refl _⟩) hw (fun M13 H locs hM hr13 hw => ?_)
  have hrA := fReg_tr hrA hr13
  obtain ⟨sp9, hsp⟩ : ∃ z, z = wyO U sp a jc 140 := ⟨_, rfl⟩
  rw [← hsp] at hM
  obtain ⟨pcs, wa, ht, et, mi, co, as, hMo, ⟨hm6, hm7, hm8, hm9, hm10, hm11, hm12, hm13, hm14⟩, hRel, hCnt⟩ := id hM
  obtain ⟨hn1, hn2, hn3⟩ := id hCnt
  have hn1 : tHn U ≤ 30 := hn1
  have hn2 : tPn U ≤ 6 := hn2
  have hn3 : tEn U ≤ 6 := hn3
  have hMo : M13 5 = some (.inr (7, [.int 0, .int (nI (tHn U)), .int (nI (tPn U)), .int (nI (tEn U)), .ref (ad 6), .ref (ad 7), .ref (ad 8), .ref (ad 9), .ref (ad 10), .ref (ad 11), .ref (ad 12), .ref (ad 13), .ref (ad 14)])) := hMo
  obtain ⟨rH, rP, rE, rM⟩ := id hRel
  refine lv_iconst (v := (-1)) hx hb dX6_drive_67 (by decide) ?_
  refine lv_icmp_ne (tgt := 77) hx hb dX6_drive_68 (by decide) (fun c_5 => ?_) (fun c_5 => absurd c_5 h5)
  refine lv_aload_n hx hb dX6_drive_77 rfl (lv_at hl 1 rfl) ?_
  refine lv_iload_n hx hb dX6_drive_78 rfl (lv_at hl 2 rfl) ?_
  refine lv_iconst (v := 5) hx hb dX6_drive_79 (by decide) ?_
  refine lv_aload_n hx hb dX6_drive_80 rfl (lv_at hl 1 rfl) ?_
  refine f_get X hw hMo fc7 11 (by decide) wq805 rfl (v := .ref (ad 13)) rfl dX6_drive_81 ?_
  refine lv_iload hx hb dX6_drive_84 (lv_at hl 0 rfl) ?_
  refine f_iald X hw hm13 (vp_in_nI (n := jc) (by omega) (by omega)) dX6_drive_86 ?_
  rw [nI_clamp (n := jc) (by omega)]
  refine lv_iconst (v := 5) hx hb dX6_drive_87 (by decide) ?_
  refine lv_aload_n hx hb dX6_drive_88 rfl (lv_at hl 1 rfl) ?_
  refine lv_iload_n hx hb dX6_drive_89 rfl (lv_at hl 2 rfl) ?_
  refine lv_iconst (v := 1) hx hb dX6_drive_90 (by decide) ?_
  refine fk_di (fcV X hw (c_en l g ad M13 hM (e0 := j) (k := 1) hj rfl (by omega)) hMo rfl wq873 kVX6_en ⟨(Nat.le_of_ble_eq_true rfl), (Nat.le_of_ble_eq_true rfl)⟩ rfl hl.1 rfl (Nat.le_of_ble_eq_true rfl) dX6_drive_91 ⟨Nat.le_refl _, Nat.le_refl _⟩) hw (fun H locs hw => ?_)
  refine lv_isub hx hb dX6_drive_94 ?_
  refine lv_imul hx hb dX6_drive_95 ?_
  obtain ⟨v9, hv9⟩ : ∃ z, z = sp9 jc * (5 - tE U j 1) := ⟨_, rfl⟩
  refine f_top (y := v9) hv9.symm ?_
  refine fk_mv (fcV X hw (c_setEn l g ad M13 hM (e0 := j) (k := 5) hj rfl (by omega) v9) hMo rfl wq932 kVX6_setEn ⟨(Nat.le_of_ble_eq_true rfl), (Nat.le_of_ble_eq_true rfl)⟩ rfl hl.1 rfl (Nat.le_of_ble_eq_true rfl) dX6_drive_96 ⟨Nat.le_refl _, Nat.le_refl _⟩) hw (fun M14 H locs hM hr14 hw => ?_)
  have hrA := fReg_tr hrA hr14
  obtain ⟨pcs, wa, ht, et, mi, co, as, hMo, ⟨hm6, hm7, hm8, hm9, hm10, hm11, hm12, hm13, hm14⟩, hRel, hCnt⟩ := id hM
  obtain ⟨hn1, hn2, hn3⟩ := id hCnt
  have hn1 : tHn U ≤ 30 := hn1
  have hn2 : tPn U ≤ 6 := hn2
  have hn3 : tEn U ≤ 6 := hn3
  have hMo : M14 5 = some (.inr (7, [.int 0, .int (nI (tHn U)), .int (nI (tPn U)), .int (nI (tEn U)), .ref (ad 6), .ref (ad 7), .ref (ad 8), .ref (ad 9), .ref (ad 10), .ref (ad 11), .ref (ad 12), .ref (ad 13), .ref (ad 14)])) := hMo
  obtain ⟨rH, rP, rE, rM⟩ := id hRel
  refine lv_aload_n hx hb dX6_drive_99 rfl (lv_at hl 1 rfl) ?_
  refine lv_iload_n hx hb dX6_drive_100 rfl (lv_at hl 2 rfl) ?_
  refine lv_bipush (v := 6) hx hb dX6_drive_101 (by decide) ?_
  refine lv_iload hx hb dX6_drive_103 (lv_at hl 0 rfl) ?_
  refine fk_mv (fcV X hw (c_setEn l g ad M14 hM (e0 := j) (k := 6) hj rfl (by omega) (nI jc)) hMo rfl wq932 kVX6_setEn ⟨(Nat.le_of_ble_eq_true rfl), (Nat.le_of_ble_eq_true rfl)⟩ rfl hl.1 rfl (Nat.le_of_ble_eq_true rfl) dX6_drive_105 ⟨Nat.le_refl _, Nat.le_refl _⟩) hw (fun M15 H locs hM hr15 hw => ?_)
  have hrA := fReg_tr hrA hr15
  obtain ⟨pcs, wa, ht, et, mi, co, as, hMo, ⟨hm6, hm7, hm8, hm9, hm10, hm11, hm12, hm13, hm14⟩, hRel, hCnt⟩ := id hM
  obtain ⟨hn1, hn2, hn3⟩ := id hCnt
  have hn1 : tHn U ≤ 30 := hn1
  have hn2 : tPn U ≤ 6 := hn2
  have hn3 : tEn U ≤ 6 := hn3
  have hMo : M15 5 = some (.inr (7, [.int 0, .int (nI (tHn U)), .int (nI (tPn U)), .int (nI (tEn U)), .ref (ad 6), .ref (ad 7), .ref (ad 8), .ref (ad 9), .ref (ad 10), .ref (ad 11), .ref (ad 12), .ref (ad 13), .ref (ad 14)])) := hMo
  obtain ⟨rH, rP, rE, rM⟩ := id hRel
  refine lv_aload_n hx hb dX6_drive_108 rfl (lv_at hl 1 rfl) ?_
  refine lv_iload_n hx hb dX6_drive_109 rfl (lv_at hl 2 rfl) ?_
  refine lv_bipush (v := 7) hx hb dX6_drive_110 (by decide) ?_
  refine lv_iconst (v := (-1)) hx hb dX6_drive_112 (by decide) ?_
  refine fk_mv (fcV X hw (c_setEn l g ad M15 hM (e0 := j) (k := 7) hj rfl (by omega) (-1)) hMo rfl wq932 kVX6_setEn ⟨(Nat.le_of_ble_eq_true rfl), (Nat.le_of_ble_eq_true rfl)⟩ rfl hl.1 rfl (Nat.le_of_ble_eq_true rfl) dX6_drive_113 ⟨Nat.le_refl _, Nat.le_refl _⟩) hw (fun M16 H locs hM hr16 hw => ?_)
  have hrA := fReg_tr hrA hr16
  obtain ⟨V9, hV9⟩ : ∃ z, z = mSet U j v9 (nI jc) := ⟨_, rfl⟩
  have hM : isMo g ad M16 0 V9 sp9 ca := by rw [hV9]; exact hM
  have hj9 : j < tEn V9 := by rw [hV9]; exact hj
  obtain ⟨pcs, wa, ht, et, mi, co, as, hMo, ⟨hm6, hm7, hm8, hm9, hm10, hm11, hm12, hm13, hm14⟩, hRel, hCnt⟩ := id hM
  obtain ⟨hn1, hn2, hn3⟩ := id hCnt
  have hn1 : tHn V9 ≤ 30 := hn1
  have hn2 : tPn V9 ≤ 6 := hn2
  have hn3 : tEn V9 ≤ 6 := hn3
  have hMo : M16 5 = some (.inr (7, [.int 0, .int (nI (tHn V9)), .int (nI (tPn V9)), .int (nI (tEn V9)), .ref (ad 6), .ref (ad 7), .ref (ad 8), .ref (ad 9), .ref (ad 10), .ref (ad 11), .ref (ad 12), .ref (ad 13), .ref (ad 14)])) := hMo
  obtain ⟨rH, rP, rE, rM⟩ := id hRel
  refine lv_iconst (v := 0) hx hb dX6_drive_116 (by decide) ?_
  refine lv_istore (lv' := [(5, .int 0), (4, .int (nI jc)), (0, .ref (ad 5)), (1, .int (nI j)), (2, .int x), (3, .int y)]) hx hb dX6_drive_117 hl (by decide) rfl (fun ls hl => ?_)
  have loop119 : ∀ (n119 k : Nat), k ≤ tEn V9 → tEn V9 < k + n119 → ∀ (M : fM) (hM : isMo g ad M 0 (mE (mOff (nI j)) k V9) sp9 ca) (hrA : fReg 5 15 ad Mo ad M) (ls : Array Slot) (H : Heap) (locs : List Loc), fw g ad M s H locs → lv_has ls 6 [(5, .int (nI k)), (0, .ref (ad 5)), (1, .int (nI j))] → W p l e (fR 7 170 0 0) s m args below meth c H locs 0 0 Q9 (F0 m 119 ls []) := by
    intro n119
    induction n119 with
    | zero => intro k h1 h2; omega
    | succ n119 ih119 =>
      intro k hk_k hn_k M hM hrA ls H locs hw hl
      obtain ⟨pcs, wa, ht, et, mi, co, as, hMo, ⟨hm6, hm7, hm8, hm9, hm10, hm11, hm12, hm13, hm14⟩, hRel, hCnt⟩ := id hM
      obtain ⟨hn1, hn2, hn3⟩ := id hCnt
      have hn1 : tHn V9 ≤ 30 := hn1
      have hn2 : tPn V9 ≤ 6 := hn2
      have hn3 : tEn V9 ≤ 6 := hn3
      have hMo : M 5 = some (.inr (7, [.int 0, .int (nI (tHn V9)), .int (nI (tPn V9)), .int (nI (tEn V9)), .ref (ad 6), .ref (ad 7), .ref (ad 8), .ref (ad 9), .ref (ad 10), .ref (ad 11), .ref (ad 12), .ref (ad 13), .ref (ad 14)])) := hMo
      obtain ⟨rH, rP, rE, rM⟩ := id hRel
      refine lv_iload hx hb dX6_drive_119 (lv_at hl 0 rfl) ?_
      refine lv_aload_n hx hb dX6_drive_121 rfl (lv_at hl 1 rfl) ?_
      refine f_get X hw hMo fc7 3 (by decide) wq797 rfl (v := .int (nI (tEn V9))) rfl dX6_drive_122 ?_
      refine lv_icmp_ge (tgt := 155) hx hb dX6_drive_125 (by decide) (fun c_6 => ?_) (fun c_6 => ?_)
      · have c_6 := nI_le' (a := (tEn V9)) (b := k) c_6 (by omega) (by omega)
        refine lv_aload_n hx hb dX6_drive_155 rfl (lv_at hl 1 rfl) ?_
        refine lv_iload_n hx hb dX6_drive_156 rfl (lv_at hl 2 rfl) ?_
        refine lv_iconst (v := 5) hx hb dX6_drive_157 (by decide) ?_
        refine fk_di (fcV X hw (c_en l g ad M hM (e0 := j) (k := 5) (show j < tEn V9 by omega) rfl (by omega)) hMo rfl wq873 kVX6_en ⟨(Nat.le_of_ble_eq_true rfl), (Nat.le_of_ble_eq_true rfl)⟩ rfl hl.1 rfl (Nat.le_of_ble_eq_true rfl) dX6_drive_158 ⟨Nat.le_refl _, Nat.le_refl _⟩) hw (fun H locs hw => ?_)
        refine f_top (y := v9) ((mE_col (F := mOff (nI j)) (U := V9) (fun f => mOff_5)).trans (by rw [hV9]; exact mSet_5 _ _ _ _)) ?_
        rw [hQ9, ← hMq]
        exact f_iret X hw ⟨rfl, by rw [← hsp, ← hv9, ← hV9, show tEn U = k by rw [show tEn U = tEn V9 from by rw [hV9]; rfl]; omega]; exact hM, hrA, by rw [← hsp]; exact hv9⟩ (Nat.le_refl _) (Nat.le_refl _) dX6_drive_161
      · have c_6 := nI_nle' (a := (tEn V9)) (b := k) c_6 (by omega) (by omega)
        refine lv_aload_n hx hb dX6_drive_128 rfl (lv_at hl 1 rfl) ?_
        refine lv_iload hx hb dX6_drive_129 (lv_at hl 0 rfl) ?_
        refine lv_bipush (v := 7) hx hb dX6_drive_131 (by decide) ?_
        refine fk_di (fcV X hw (c_en l g ad M hM (e0 := k) (k := 7) (show k < tEn V9 by omega) rfl (by omega)) hMo rfl wq873 kVX6_en ⟨(Nat.le_of_ble_eq_true rfl), (Nat.le_of_ble_eq_true rfl)⟩ rfl hl.1 rfl (Nat.le_of_ble_eq_true rfl) dX6_drive_133 ⟨Nat.le_refl _, Nat.le_refl _⟩) hw (fun H locs hw => ?_)
        refine lv_iload_n hx hb dX6_drive_136 rfl (lv_at hl 2 rfl) ?_
        refine lv_icmp_ne (tgt := 149) hx hb dX6_drive_137 (by decide) (fun c_7 => ?_) (fun c_7 => ?_)
        · refine lv_iinc (v := nI (k + 1)) (lv' := [(5, .int (nI (k + 1))), (0, .ref (ad 5)), (1, .int (nI j))]) hx hb dX6_drive_149 hl (k := 0) rfl (nI_1 k) (by decide) rfl (fun ls hl => ?_)
          refine lv_goto (tgt := 119) hx hb dX6_drive_152 (by decide) ?_
          rw [mE_ge (Nat.le_refl k)] at c_7
          have hM : isMo g ad M 0 (mE (mOff (nI j)) (k + 1) V9) sp9 ca := by rw [← mE_step, show mOff (nI j) (tE V9 k) = tE V9 k from if_neg c_7, show sE (mE (mOff (nI j)) k V9) k (tE V9 k) = mE (mOff (nI j)) k V9 from by rw [← mE_ge (F := mOff (nI j)) (T := V9) (Nat.le_refl k)]; exact sE_same]; exact hM
          exact ih119 (k + 1) (by omega) (by omega) M hM hrA ls _ _ hw (lv_sub hl [0, 1, 2] rfl)
        · refine lv_aload_n hx hb dX6_drive_140 rfl (lv_at hl 1 rfl) ?_
          refine lv_iload hx hb dX6_drive_141 (lv_at hl 0 rfl) ?_
          refine lv_bipush (v := 7) hx hb dX6_drive_143 (by decide) ?_
          refine lv_iconst (v := (-1)) hx hb dX6_drive_145 (by decide) ?_
          refine fk_mv (fcV X hw (c_setEn l g ad M hM (e0 := k) (k := 7) (show k < tEn V9 by omega) rfl (by omega) (-1)) hMo rfl wq932 kVX6_setEn ⟨(Nat.le_of_ble_eq_true rfl), (Nat.le_of_ble_eq_true rfl)⟩ rfl hl.1 rfl (Nat.le_of_ble_eq_true rfl) dX6_drive_146 ⟨Nat.le_refl _, Nat.le_refl _⟩) hw (fun M17 H locs hM hr17 hw => ?_)
          have hrA := fReg_tr hrA hr17
          obtain ⟨pcs, wa, ht, et, mi, co, as, hMo, ⟨hm6, hm7, hm8, hm9, hm10, hm11, hm12, hm13, hm14⟩, hRel, hCnt⟩ := id hM
          obtain ⟨hn1, hn2, hn3⟩ := id hCnt
          have hn1 : tHn V9 ≤ 30 := hn1
          have hn2 : tPn V9 ≤ 6 := hn2
          have hn3 : tEn V9 ≤ 6 := hn3
          have hMo : M17 5 = some (.inr (7, [.int 0, .int (nI (tHn V9)), .int (nI (tPn V9)), .int (nI (tEn V9)), .ref (ad 6), .ref (ad 7), .ref (ad 8), .ref (ad 9), .ref (ad 10), .ref (ad 11), .ref (ad 12), .ref (ad 13), .ref (ad 14)])) := hMo
          obtain ⟨rH, rP, rE, rM⟩ := id hRel
          refine lv_iinc (v := nI (k + 1)) (lv' := [(5, .int (nI (k + 1))), (0, .ref (ad 5)), (1, .int (nI j))]) hx hb dX6_drive_149 hl (k := 0) rfl (nI_1 k) (by decide) rfl (fun ls hl => ?_)
          refine lv_goto (tgt := 119) hx hb dX6_drive_152 (by decide) ?_
          rw [mE_ge (Nat.le_refl k)] at c_7
          rw [show sE (mE (mOff (nI j)) k V9) k (upd (tE (mE (mOff (nI j)) k V9) k) 7 (-1)) = mE (mOff (nI j)) (k + 1) V9 from by rw [mE_ge (Nat.le_refl k), ← mE_step, show mOff (nI j) (tE V9 k) = _ from if_pos c_7]] at hM
          exact ih119 (k + 1) (by omega) (by omega) M17 hM hrA ls _ _ hw (lv_sub hl [0, 1, 2] rfl)
  have hM : isMo g ad M16 0 (mE (mOff (nI j)) 0 V9) sp9 ca := by rw [mE_0]; exact hM
  exact loop119 (tEn V9 + 1) 0 (by omega) (by omega) M16 hM hrA ls _ _ hw (lv_sub hl [0, 2, 3] rfl)
