theorem mRel_addP {U : fTn} {pcs wa ht et mi co as : Nat → Int32} {c w : Int32} (h : mRel U pcs wa ht et mi co as) : mRel (addP U (newP c w)) (upd pcs (tPn U) c) (upd wa (tPn U) w) ht et mi co as := by
  obtain ⟨r1, r2, r3, r4⟩ := h
  refine ⟨r1, fun i hi => ?_, r3, r4⟩
  have hi : i < tPn U + 1 := hi
  show upd pcs (tPn U) c i = (if i = tPn U then newP c w else tP U i) 0 ∧ upd wa (tPn U) w i = (if i = tPn U then newP c w else tP U i) 1
  by_cases e : i = tPn U
  · rw [if_pos e, e, upd_at, upd_at]
    exact ⟨rfl, rfl⟩
  · rw [if_neg e, upd_ne e, upd_ne e]
    exact r2 i (by omega)
theorem nI_sub1 {n : Nat} (h : n < 1000) : nI (n + 1) - 1 = nI n := by
  have e : nI (n + 1) - nI 1 = nI (n + 1 - 1) := pk_sub (by omega)
  rw [show (1 : Int32) = nI 1 from rfl, e, Nat.add_sub_cancel]
set_option maxHeartbeats 4000000 in
set_option maxRecDepth 100000 in
theorem x_m_dig_1 (l : Launch) (g : fG) (ad : Nat → Nat) (M : fM) {th : Int32} {U : fTn} {sp ca : Nat → Int32} (hM : isMo g ad M th U sp ca) {x y w : Int32} (h1 : aOn x y = false) : fCi l g yX6_dig cX6_dig 4 ((some .int)) 7 170 0 0 ad M [.ref (ad 5), .int x, .int y, .int w] (fMi g ad M 1 U sp ca 0) := by
  refine f_body (own := RX6) (by decide +kernel) rfl (Nat.le_of_ble_eq_true rfl) ?_
  intro p e s m args below meth c ls X hw hin hl
  have hx := X.1
  have hb := X.2.1
  have hl : lv_has ls 4 [(0, .ref (ad 5)), (1, .int x), (2, .int y), (3, .int w)] := hl
  obtain ⟨pcs, wa, ht, et, mi, co, as, hMo, ⟨hm6, hm7, hm8, hm9, hm10, hm11, hm12, hm13, hm14⟩, hRel, hCnt⟩ := id hM
  obtain ⟨hn1, hn2, hn3⟩ := id hCnt
  have hn1 : tHn U ≤ 30 := hn1
  have hn2 : tPn U ≤ 6 := hn2
  have hn3 : tEn U ≤ 6 := hn3
  have hMo : M 5 = some (.inr (7, [.int th, .int (nI (tHn U)), .int (nI (tPn U)), .int (nI (tEn U)), .ref (ad 6), .ref (ad 7), .ref (ad 8), .ref (ad 9), .ref (ad 10), .ref (ad 11), .ref (ad 12), .ref (ad 13), .ref (ad 14)])) := hMo
  obtain ⟨rH, rP, rE, rM⟩ := id hRel
  obtain ⟨Mo, hMq⟩ : ∃ z, z = M := ⟨_, rfl⟩
  have hrA : fReg 5 15 ad Mo ad M := by rw [hMq]; exact fReg_rf
  obtain ⟨Q9, hQ9⟩ : ∃ z, z = MQ below (fQi g (fMi g ad M 1 U sp ca 0)) args s 0 0 (fA g) := ⟨_, rfl⟩
  show W p l e (fR 7 170 0 0) s m args below meth c _ _ 0 0 (MQ below (fQi g (fMi g ad M 1 U sp ca 0)) args s 0 0 (fA g)) (F0 m 0 ls [])
  rw [← hQ9]
  refine lv_aload_n hx hb dX6_dig_0 rfl (lv_at hl 0 rfl) ?_
  refine lv_iconst (v := 0) hx hb dX6_dig_1 (by decide) ?_
  refine f_put X hw hMo fc7 0 (by decide) wq794 rfl rfl (v := .int 0) rfl rfl (Nat.le_of_ble_eq_true rfl) dX6_dig_2 (fun H locs hw => ?_)
  have hw : fw g ad (fU M 5 (.inr (7, [.int 0, .int (nI (tHn U)), .int (nI (tPn U)), .int (nI (tEn U)), .ref (ad 6), .ref (ad 7), .ref (ad 8), .ref (ad 9), .ref (ad 10), .ref (ad 11), .ref (ad 12), .ref (ad 13), .ref (ad 14)]))) s H locs := hw
  have hMo : (fU M 5 (.inr (7, [.int 0, .int (nI (tHn U)), .int (nI (tPn U)), .int (nI (tEn U)), .ref (ad 6), .ref (ad 7), .ref (ad 8), .ref (ad 9), .ref (ad 10), .ref (ad 11), .ref (ad 12), .ref (ad 13), .ref (ad 14)]))) 5 = some (.inr (7, [.int 0, .int (nI (tHn U)), .int (nI (tPn U)), .int (nI (tEn U)), .ref (ad 6), .ref (ad 7), .ref (ad 8), .ref (ad 9), .ref (ad 10), .ref (ad 11), .ref (ad 12), .ref (ad 13), .ref (ad 14)])) := fU_s
  have hm6 : (fU M 5 (.inr (7, [.int 0, .int (nI (tHn U)), .int (nI (tPn U)), .int (nI (tEn U)), .ref (ad 6), .ref (ad 7), .ref (ad 8), .ref (ad 9), .ref (ad 10), .ref (ad 11), .ref (ad 12), .ref (ad 13), .ref (ad 14)]))) 6 = _ := (fU_n (by omega)).trans hm6
  have hm7 : (fU M 5 (.inr (7, [.int 0, .int (nI (tHn U)), .int (nI (tPn U)), .int (nI (tEn U)), .ref (ad 6), .ref (ad 7), .ref (ad 8), .ref (ad 9), .ref (ad 10), .ref (ad 11), .ref (ad 12), .ref (ad 13), .ref (ad 14)]))) 7 = _ := (fU_n (by omega)).trans hm7
  have hm8 : (fU M 5 (.inr (7, [.int 0, .int (nI (tHn U)), .int (nI (tPn U)), .int (nI (tEn U)), .ref (ad 6), .ref (ad 7), .ref (ad 8), .ref (ad 9), .ref (ad 10), .ref (ad 11), .ref (ad 12), .ref (ad 13), .ref (ad 14)]))) 8 = _ := (fU_n (by omega)).trans hm8
  have hm9 : (fU M 5 (.inr (7, [.int 0, .int (nI (tHn U)), .int (nI (tPn U)), .int (nI (tEn U)), .ref (ad 6), .ref (ad 7), .ref (ad 8), .ref (ad 9), .ref (ad 10), .ref (ad 11), .ref (ad 12), .ref (ad 13), .ref (ad 14)]))) 9 = _ := (fU_n (by omega)).trans hm9
  have hm10 : (fU M 5 (.inr (7, [.int 0, .int (nI (tHn U)), .int (nI (tPn U)), .int (nI (tEn U)), .ref (ad 6), .ref (ad 7), .ref (ad 8), .ref (ad 9), .ref (ad 10), .ref (ad 11), .ref (ad 12), .ref (ad 13), .ref (ad 14)]))) 10 = _ := (fU_n (by omega)).trans hm10
  have hm11 : (fU M 5 (.inr (7, [.int 0, .int (nI (tHn U)), .int (nI (tPn U)), .int (nI (tEn U)), .ref (ad 6), .ref (ad 7), .ref (ad 8), .ref (ad 9), .ref (ad 10), .ref (ad 11), .ref (ad 12), .ref (ad 13), .ref (ad 14)]))) 11 = _ := (fU_n (by omega)).trans hm11
  have hm12 : (fU M 5 (.inr (7, [.int 0, .int (nI (tHn U)), .int (nI (tPn U)), .int (nI (tEn U)), .ref (ad 6), .ref (ad 7), .ref (ad 8), .ref (ad 9), .ref (ad 10), .ref (ad 11), .ref (ad 12), .ref (ad 13), .ref (ad 14)]))) 12 = _ := (fU_n (by omega)).trans hm12
  have hm13 : (fU M 5 (.inr (7, [.int 0, .int (nI (tHn U)), .int (nI (tPn U)), .int (nI (tEn U)), .ref (ad 6), .ref (ad 7), .ref (ad 8), .ref (ad 9), .ref (ad 10), .ref (ad 11), .ref (ad 12), .ref (ad 13), .ref (ad 14)]))) 13 = _ := (fU_n (by omega)).trans hm13
  have hm14 : (fU M 5 (.inr (7, [.int 0, .int (nI (tHn U)), .int (nI (tPn U)), .int (nI (tEn U)), .ref (ad 6), .ref (ad 7), .ref (ad 8), .ref (ad 9), .ref (ad 10), .ref (ad 11), .ref (ad 12), .ref (ad 13), .ref (ad 14)]))) 14 = _ := (fU_n (by omega)).trans hm14
  have hM : isMo g ad (fU M 5 (.inr (7, [.int 0, .int (nI (tHn U)), .int (nI (tPn U)), .int (nI (tEn U)), .ref (ad 6), .ref (ad 7), .ref (ad 8), .ref (ad 9), .ref (ad 10), .ref (ad 11), .ref (ad 12), .ref (ad 13), .ref (ad 14)]))) 0 U sp ca := ⟨pcs, wa, ht, et, mi, co, as, hMo, ⟨hm6, hm7, hm8, hm9, hm10, hm11, hm12, hm13, hm14⟩, hRel, hCnt⟩
  have hrA : fReg 5 15 ad Mo ad (fU M 5 (.inr (7, [.int 0, .int (nI (tHn U)), .int (nI (tPn U)), .int (nI (tEn U)), .ref (ad 6), .ref (ad 7), .ref (ad 8), .ref (ad 9), .ref (ad 10), .ref (ad 11), .ref (ad 12), .ref (ad 13), .ref (ad 14)]))) := fReg_U hrA (by omega)
  obtain ⟨M1, eM1⟩ : ∃ z, z = (fU M 5 (.inr (7, [.int 0, .int (nI (tHn U)), .int (nI (tPn U)), .int (nI (tEn U)), .ref (ad 6), .ref (ad 7), .ref (ad 8), .ref (ad 9), .ref (ad 10), .ref (ad 11), .ref (ad 12), .ref (ad 13), .ref (ad 14)]))) := ⟨_, rfl⟩
  rw [← eM1] at hM hw hrA
  obtain ⟨pcs, wa, ht, et, mi, co, as, hMo, ⟨hm6, hm7, hm8, hm9, hm10, hm11, hm12, hm13, hm14⟩, hRel, hCnt⟩ := id hM
  obtain ⟨hn1, hn2, hn3⟩ := id hCnt
  have hn1 : tHn U ≤ 30 := hn1
  have hn2 : tPn U ≤ 6 := hn2
  have hn3 : tEn U ≤ 6 := hn3
  have hMo : M1 5 = some (.inr (7, [.int 0, .int (nI (tHn U)), .int (nI (tPn U)), .int (nI (tEn U)), .ref (ad 6), .ref (ad 7), .ref (ad 8), .ref (ad 9), .ref (ad 10), .ref (ad 11), .ref (ad 12), .ref (ad 13), .ref (ad 14)])) := hMo
  obtain ⟨rH, rP, rE, rM⟩ := id hRel
  refine lv_iload_n hx hb dX6_dig_5 rfl (lv_at hl 1 rfl) ?_
  refine lv_iload_n hx hb dX6_dig_6 rfl (lv_at hl 2 rfl) ?_
  refine fk_di (fcS X hw (c_isCell l g ad M1 x y) wq843 kSX6_isCell ⟨(Nat.le_of_ble_eq_true rfl), (Nat.le_of_ble_eq_true rfl)⟩ rfl hl.1 rfl (Nat.le_of_ble_eq_true rfl) dX6_dig_7 ⟨Nat.le_refl _, Nat.le_refl _⟩) hw (fun H locs hw => ?_)
  refine lv_if_ne (tgt := 19) hx hb dX6_dig_10 (by decide) (fun c_1 => absurd (bI_nf.mp c_1) (f_false h1)) (fun c_1 => ?_)
  have c_1 := bI_f.mp c_1
  refine lv_aload_n hx hb dX6_dig_13 rfl (lv_at hl 0 rfl) ?_
  refine lv_iconst (v := 1) hx hb dX6_dig_14 (by decide) ?_
  refine fk_mi (fcV X hw (c_fail l g ad M1 hM 1) hMo rfl wq849 kVX6_fail ⟨(Nat.le_of_ble_eq_true rfl), (Nat.le_of_ble_eq_true rfl)⟩ rfl hl.1 rfl (Nat.le_of_ble_eq_true rfl) dX6_dig_15 ⟨Nat.le_refl _, Nat.le_refl _⟩) hw (fun M2 H locs hM hr2 hw => ?_)
  have hrA := fReg_tr hrA hr2
  rw [hQ9, ← hMq]
  exact f_iret X hw ⟨rfl, hM, hrA, rfl⟩ (Nat.le_refl _) (Nat.le_refl _) dX6_dig_18
set_option maxHeartbeats 4000000 in
set_option maxRecDepth 100000 in
theorem x_m_dig_2 (l : Launch) (g : fG) (ad : Nat → Nat) (M : fM) {th : Int32} {U : fTn} {sp ca : Nat → Int32} (hM : isMo g ad M th U sp ca) {x y w : Int32} (h1 : aOn x y = true) (h2 : inR w 0 5000 = false) : fCi l g yX6_dig cX6_dig 4 ((some .int)) 7 170 0 0 ad M [.ref (ad 5), .int x, .int y, .int w] (fMi g ad M 2 U sp ca 0) := by
  refine f_body (own := RX6) (by decide +kernel) rfl (Nat.le_of_ble_eq_true rfl) ?_
  intro p e s m args below meth c ls X hw hin hl
  have hx := X.1
  have hb := X.2.1
  have hl : lv_has ls 4 [(0, .ref (ad 5)), (1, .int x), (2, .int y), (3, .int w)] := hl
  obtain ⟨pcs, wa, ht, et, mi, co, as, hMo, ⟨hm6, hm7, hm8, hm9, hm10, hm11, hm12, hm13, hm14⟩, hRel, hCnt⟩ := id hM
  obtain ⟨hn1, hn2, hn3⟩ := id hCnt
  have hn1 : tHn U ≤ 30 := hn1
  have hn2 : tPn U ≤ 6 := hn2
  have hn3 : tEn U ≤ 6 := hn3
  have hMo : M 5 = some (.inr (7, [.int th, .int (nI (tHn U)), .int (nI (tPn U)), .int (nI (tEn U)), .ref (ad 6), .ref (ad 7), .ref (ad 8), .ref (ad 9), .ref (ad 10), .ref (ad 11), .ref (ad 12), .ref (ad 13), .ref (ad 14)])) := hMo
  obtain ⟨rH, rP, rE, rM⟩ := id hRel
  obtain ⟨Mo, hMq⟩ : ∃ z, z = M := ⟨_, rfl⟩
  have hrA : fReg 5 15 ad Mo ad M := by rw [hMq]; exact fReg_rf
  obtain ⟨Q9, hQ9⟩ : ∃ z, z = MQ below (fQi g (fMi g ad M 2 U sp ca 0)) args s 0 0 (fA g) := ⟨_, rfl⟩
  show W p l e (fR 7 170 0 0) s m args below meth c _ _ 0 0 (MQ below (fQi g (fMi g ad M 2 U sp ca 0)) args s 0 0 (fA g)) (F0 m 0 ls [])
  rw [← hQ9]
  refine lv_aload_n hx hb dX6_dig_0 rfl (lv_at hl 0 rfl) ?_
  refine lv_iconst (v := 0) hx hb dX6_dig_1 (by decide) ?_
  refine f_put X hw hMo fc7 0 (by decide) wq794 rfl rfl (v := .int 0) rfl rfl (Nat.le_of_ble_eq_true rfl) dX6_dig_2 (fun H locs hw => ?_)
  have hw : fw g ad (fU M 5 (.inr (7, [.int 0, .int (nI (tHn U)), .int (nI (tPn U)), .int (nI (tEn U)), .ref (ad 6), .ref (ad 7), .ref (ad 8), .ref (ad 9), .ref (ad 10), .ref (ad 11), .ref (ad 12), .ref (ad 13), .ref (ad 14)]))) s H locs := hw
  have hMo : (fU M 5 (.inr (7, [.int 0, .int (nI (tHn U)), .int (nI (tPn U)), .int (nI (tEn U)), .ref (ad 6), .ref (ad 7), .ref (ad 8), .ref (ad 9), .ref (ad 10), .ref (ad 11), .ref (ad 12), .ref (ad 13), .ref (ad 14)]))) 5 = some (.inr (7, [.int 0, .int (nI (tHn U)), .int (nI (tPn U)), .int (nI (tEn U)), .ref (ad 6), .ref (ad 7), .ref (ad 8), .ref (ad 9), .ref (ad 10), .ref (ad 11), .ref (ad 12), .ref (ad 13), .ref (ad 14)])) := fU_s
  have hm6 : (fU M 5 (.inr (7, [.int 0, .int (nI (tHn U)), .int (nI (tPn U)), .int (nI (tEn U)), .ref (ad 6), .ref (ad 7), .ref (ad 8), .ref (ad 9), .ref (ad 10), .ref (ad 11), .ref (ad 12), .ref (ad 13), .ref (ad 14)]))) 6 = _ := (fU_n (by omega)).trans hm6
  have hm7 : (fU M 5 (.inr (7, [.int 0, .int (nI (tHn U)), .int (nI (tPn U)), .int (nI (tEn U)), .ref (ad 6), .ref (ad 7), .ref (ad 8), .ref (ad 9), .ref (ad 10), .ref (ad 11), .ref (ad 12), .ref (ad 13), .ref (ad 14)]))) 7 = _ := (fU_n (by omega)).trans hm7
  have hm8 : (fU M 5 (.inr (7, [.int 0, .int (nI (tHn U)), .int (nI (tPn U)), .int (nI (tEn U)), .ref (ad 6), .ref (ad 7), .ref (ad 8), .ref (ad 9), .ref (ad 10), .ref (ad 11), .ref (ad 12), .ref (ad 13), .ref (ad 14)]))) 8 = _ := (fU_n (by omega)).trans hm8
  have hm9 : (fU M 5 (.inr (7, [.int 0, .int (nI (tHn U)), .int (nI (tPn U)), .int (nI (tEn U)), .ref (ad 6), .ref (ad 7), .ref (ad 8), .ref (ad 9), .ref (ad 10), .ref (ad 11), .ref (ad 12), .ref (ad 13), .ref (ad 14)]))) 9 = _ := (fU_n (by omega)).trans hm9
  have hm10 : (fU M 5 (.inr (7, [.int 0, .int (nI (tHn U)), .int (nI (tPn U)), .int (nI (tEn U)), .ref (ad 6), .ref (ad 7), .ref (ad 8), .ref (ad 9), .ref (ad 10), .ref (ad 11), .ref (ad 12), .ref (ad 13), .ref (ad 14)]))) 10 = _ := (fU_n (by omega)).trans hm10
  have hm11 : (fU M 5 (.inr (7, [.int 0, .int (nI (tHn U)), .int (nI (tPn U)), .int (nI (tEn U)), .ref (ad 6), .ref (ad 7), .ref (ad 8), .ref (ad 9), .ref (ad 10), .ref (ad 11), .ref (ad 12), .ref (ad 13), .ref (ad 14)]))) 11 = _ := (fU_n (by omega)).trans hm11
  have hm12 : (fU M 5 (.inr (7, [.int 0, .int (nI (tHn U)), .int (nI (tPn U)), .int (nI (tEn U)), .ref (ad 6), .ref (ad 7), .ref (ad 8), .ref (ad 9), .ref (ad 10), .ref (ad 11), .ref (ad 12), .ref (ad 13), .ref (ad 14)]))) 12 = _ := (fU_n (by omega)).trans hm12
  have hm13 : (fU M 5 (.inr (7, [.int 0, .int (nI (tHn U)), .int (nI (tPn U)), .int (nI (tEn U)), .ref (ad 6), .ref (ad 7), .ref (ad 8), .ref (ad 9), .ref (ad 10), .ref (ad 11), .ref (ad 12), .ref (ad 13), .ref (ad 14)]))) 13 = _ := (fU_n (by omega)).trans hm13
  have hm14 : (fU M 5 (.inr (7, [.int 0, .int (nI (tHn U)), .int (nI (tPn U)), .int (nI (tEn U)), .ref (ad 6), .ref (ad 7), .ref (ad 8), .ref (ad 9), .ref (ad 10), .ref (ad 11), .ref (ad 12), .ref (ad 13), .ref (ad 14)]))) 14 = _ := (fU_n (by omega)).trans hm14
  have hM : isMo g ad (fU M 5 (.inr (7, [.int 0, .int (nI (tHn U)), .int (nI (tPn U)), .int (nI (tEn U)), .ref (ad 6), .ref (ad 7), .ref (ad 8), .ref (ad 9), .ref (ad 10), .ref (ad 11), .ref (ad 12), .ref (ad 13), .ref (ad 14)]))) 0 U sp ca := ⟨pcs, wa, ht, et, mi, co, as, hMo, ⟨hm6, hm7, hm8, hm9, hm10, hm11, hm12, hm13, hm14⟩, hRel, hCnt⟩
  have hrA : fReg 5 15 ad Mo ad (fU M 5 (.inr (7, [.int 0, .int (nI (tHn U)), .int (nI (tPn U)), .int (nI (tEn U)), .ref (ad 6), .ref (ad 7), .ref (ad 8), .ref (ad 9), .ref (ad 10), .ref (ad 11), .ref (ad 12), .ref (ad 13), .ref (ad 14)]))) := fReg_U hrA (by omega)
  obtain ⟨M3, eM3⟩ : ∃ z, z = (fU M 5 (.inr (7, [.int 0, .int (nI (tHn U)), .int (nI (tPn U)), .int (nI (tEn U)), .ref (ad 6), .ref (ad 7), .ref (ad 8), .ref (ad 9), .ref (ad 10), .ref (ad 11), .ref (ad 12), .ref (ad 13), .ref (ad 14)]))) := ⟨_, rfl⟩
  rw [← eM3] at hM hw hrA
  obtain ⟨pcs, wa, ht, et, mi, co, as, hMo, ⟨hm6, hm7, hm8, hm9, hm10, hm11, hm12, hm13, hm14⟩, hRel, hCnt⟩ := id hM
  obtain ⟨hn1, hn2, hn3⟩ := id hCnt
  have hn1 : tHn U ≤ 30 := hn1
  have hn2 : tPn U ≤ 6 := hn2
  have hn3 : tEn U ≤ 6 := hn3
  have hMo : M3 5 = some (.inr (7, [.int 0, .int (nI (tHn U)), .int (nI (tPn U)), .int (nI (tEn U)), .ref (ad 6), .ref (ad 7), .ref (ad 8), .ref (ad 9), .ref (ad 10), .ref (ad 11), .ref (ad 12), .ref (ad 13), .ref (ad 14)])) := hMo
  obtain ⟨rH, rP, rE, rM⟩ := id hRel
  refine lv_iload_n hx hb dX6_dig_5 rfl (lv_at hl 1 rfl) ?_
  refine lv_iload_n hx hb dX6_dig_6 rfl (lv_at hl 2 rfl) ?_
  refine fk_di (fcS X hw (c_isCell l g ad M3 x y) wq843 kSX6_isCell ⟨(Nat.le_of_ble_eq_true rfl), (Nat.le_of_ble_eq_true rfl)⟩ rfl hl.1 rfl (Nat.le_of_ble_eq_true rfl) dX6_dig_7 ⟨Nat.le_refl _, Nat.le_refl _⟩) hw (fun H locs hw => ?_)
  refine lv_if_ne (tgt := 19) hx hb dX6_dig_10 (by decide) (fun c_1 => ?_) (fun c_1 => absurd (bI_f.mp c_1) (by rw [h1]; decide))
  have c_1 := bI_nf.mp c_1
  refine lv_iload_n hx hb dX6_dig_19 rfl (lv_at hl 3 rfl) ?_
  refine lv_iconst (v := 0) hx hb dX6_dig_20 (by decide) ?_
  refine lv_sipush (v := 5000) hx hb dX6_dig_21 (by decide) ?_
  refine fk_di (fcS X hw (c_isIn l g ad M3 (w) 0 5000) wq846 kSX6_isIn ⟨(Nat.le_of_ble_eq_true rfl), (Nat.le_of_ble_eq_true rfl)⟩ rfl hl.1 rfl (Nat.le_of_ble_eq_true rfl) dX6_dig_24 ⟨Nat.le_refl _, Nat.le_refl _⟩) hw (fun H locs hw => ?_)
  refine lv_if_ne (tgt := 36) hx hb dX6_dig_27 (by decide) (fun c_2 => absurd (bI_nf.mp c_2) (f_false h2)) (fun c_2 => ?_)
  have c_2 := bI_f.mp c_2
  refine lv_aload_n hx hb dX6_dig_30 rfl (lv_at hl 0 rfl) ?_
  refine lv_iconst (v := 2) hx hb dX6_dig_31 (by decide) ?_
  refine fk_mi (fcV X hw (c_fail l g ad M3 hM 2) hMo rfl wq849 kVX6_fail ⟨(Nat.le_of_ble_eq_true rfl), (Nat.le_of_ble_eq_true rfl)⟩ rfl hl.1 rfl (Nat.le_of_ble_eq_true rfl) dX6_dig_32 ⟨Nat.le_refl _, Nat.le_refl _⟩) hw (fun M4 H locs hM hr4 hw => ?_)
  have hrA := fReg_tr hrA hr4
  rw [hQ9, ← hMq]
  exact f_iret X hw ⟨rfl, hM, hrA, rfl⟩ (Nat.le_refl _) (Nat.le_refl _) dX6_dig_35
set_option maxHeartbeats 4000000 in
set_option maxRecDepth 100000 in
theorem x_m_dig_3 (l : Launch) (g : fG) (ad : Nat → Nat) (M : fM) {th : Int32} {U : fTn} {sp ca : Nat → Int32} (hM : isMo g ad M th U sp ca) {x y w : Int32} (h1 : aOn x y = true) (h2 : inR w 0 5000 = true) (h3 : (decide (¬ tPn U = 6) && frF U (x + 14 * y) (tEn U)) = false) : fCi l g yX6_dig cX6_dig 4 ((some .int)) 7 170 0 0 ad M [.ref (ad 5), .int x, .int y, .int w] (fMi g ad M 3 U sp ca 0) := by
  refine f_body (own := RX6) (by decide +kernel) rfl (Nat.le_of_ble_eq_true rfl) ?_
  intro p e s m args below meth c ls X hw hin hl
  have hx := X.1
  have hb := X.2.1
  have hl : lv_has ls 4 [(0, .ref (ad 5)), (1, .int x), (2, .int y), (3, .int w)] := hl
  obtain ⟨pcs, wa, ht, et, mi, co, as, hMo, ⟨hm6, hm7, hm8, hm9, hm10, hm11, hm12, hm13, hm14⟩, hRel, hCnt⟩ := id hM
  obtain ⟨hn1, hn2, hn3⟩ := id hCnt
  have hn1 : tHn U ≤ 30 := hn1
  have hn2 : tPn U ≤ 6 := hn2
  have hn3 : tEn U ≤ 6 := hn3
  have hMo : M 5 = some (.inr (7, [.int th, .int (nI (tHn U)), .int (nI (tPn U)), .int (nI (tEn U)), .ref (ad 6), .ref (ad 7), .ref (ad 8), .ref (ad 9), .ref (ad 10), .ref (ad 11), .ref (ad 12), .ref (ad 13), .ref (ad 14)])) := hMo
  obtain ⟨rH, rP, rE, rM⟩ := id hRel
  obtain ⟨Mo, hMq⟩ : ∃ z, z = M := ⟨_, rfl⟩
  have hrA : fReg 5 15 ad Mo ad M := by rw [hMq]; exact fReg_rf
  obtain ⟨Q9, hQ9⟩ : ∃ z, z = MQ below (fQi g (fMi g ad M 3 U sp ca 0)) args s 0 0 (fA g) := ⟨_, rfl⟩
  show W p l e (fR 7 170 0 0) s m args below meth c _ _ 0 0 (MQ below (fQi g (fMi g ad M 3 U sp ca 0)) args s 0 0 (fA g)) (F0 m 0 ls [])
  rw [← hQ9]
  refine lv_aload_n hx hb dX6_dig_0 rfl (lv_at hl 0 rfl) ?_
  refine lv_iconst (v := 0) hx hb dX6_dig_1 (by decide) ?_
  refine f_put X hw hMo fc7 0 (by decide) wq794 rfl rfl (v := .int 0) rfl rfl (Nat.le_of_ble_eq_true rfl) dX6_dig_2 (fun H locs hw => ?_)
  have hw : fw g ad (fU M 5 (.inr (7, [.int 0, .int (nI (tHn U)), .int (nI (tPn U)), .int (nI (tEn U)), .ref (ad 6), .ref (ad 7), .ref (ad 8), .ref (ad 9), .ref (ad 10), .ref (ad 11), .ref (ad 12), .ref (ad 13), .ref (ad 14)]))) s H locs := hw
  have hMo : (fU M 5 (.inr (7, [.int 0, .int (nI (tHn U)), .int (nI (tPn U)), .int (nI (tEn U)), .ref (ad 6), .ref (ad 7), .ref (ad 8), .ref (ad 9), .ref (ad 10), .ref (ad 11), .ref (ad 12), .ref (ad 13), .ref (ad 14)]))) 5 = some (.inr (7, [.int 0, .int (nI (tHn U)), .int (nI (tPn U)), .int (nI (tEn U)), .ref (ad 6), .ref (ad 7), .ref (ad 8), .ref (ad 9), .ref (ad 10), .ref (ad 11), .ref (ad 12), .ref (ad 13), .ref (ad 14)])) := fU_s
  have hm6 : (fU M 5 (.inr (7, [.int 0, .int (nI (tHn U)), .int (nI (tPn U)), .int (nI (tEn U)), .ref (ad 6), .ref (ad 7), .ref (ad 8), .ref (ad 9), .ref (ad 10), .ref (ad 11), .ref (ad 12), .ref (ad 13), .ref (ad 14)]))) 6 = _ := (fU_n (by omega)).trans hm6
  have hm7 : (fU M 5 (.inr (7, [.int 0, .int (nI (tHn U)), .int (nI (tPn U)), .int (nI (tEn U)), .ref (ad 6), .ref (ad 7), .ref (ad 8), .ref (ad 9), .ref (ad 10), .ref (ad 11), .ref (ad 12), .ref (ad 13), .ref (ad 14)]))) 7 = _ := (fU_n (by omega)).trans hm7
  have hm8 : (fU M 5 (.inr (7, [.int 0, .int (nI (tHn U)), .int (nI (tPn U)), .int (nI (tEn U)), .ref (ad 6), .ref (ad 7), .ref (ad 8), .ref (ad 9), .ref (ad 10), .ref (ad 11), .ref (ad 12), .ref (ad 13), .ref (ad 14)]))) 8 = _ := (fU_n (by omega)).trans hm8
  have hm9 : (fU M 5 (.inr (7, [.int 0, .int (nI (tHn U)), .int (nI (tPn U)), .int (nI (tEn U)), .ref (ad 6), .ref (ad 7), .ref (ad 8), .ref (ad 9), .ref (ad 10), .ref (ad 11), .ref (ad 12), .ref (ad 13), .ref (ad 14)]))) 9 = _ := (fU_n (by omega)).trans hm9
  have hm10 : (fU M 5 (.inr (7, [.int 0, .int (nI (tHn U)), .int (nI (tPn U)), .int (nI (tEn U)), .ref (ad 6), .ref (ad 7), .ref (ad 8), .ref (ad 9), .ref (ad 10), .ref (ad 11), .ref (ad 12), .ref (ad 13), .ref (ad 14)]))) 10 = _ := (fU_n (by omega)).trans hm10
  have hm11 : (fU M 5 (.inr (7, [.int 0, .int (nI (tHn U)), .int (nI (tPn U)), .int (nI (tEn U)), .ref (ad 6), .ref (ad 7), .ref (ad 8), .ref (ad 9), .ref (ad 10), .ref (ad 11), .ref (ad 12), .ref (ad 13), .ref (ad 14)]))) 11 = _ := (fU_n (by omega)).trans hm11
  have hm12 : (fU M 5 (.inr (7, [.int 0, .int (nI (tHn U)), .int (nI (tPn U)), .int (nI (tEn U)), .ref (ad 6), .ref (ad 7), .ref (ad 8), .ref (ad 9), .ref (ad 10), .ref (ad 11), .ref (ad 12), .ref (ad 13), .ref (ad 14)]))) 12 = _ := (fU_n (by omega)).trans hm12
  have hm13 : (fU M 5 (.inr (7, [.int 0, .int (nI (tHn U)), .int (nI (tPn U)), .int (nI (tEn U)), .ref (ad 6), .ref (ad 7), .ref (ad 8), .ref (ad 9), .ref (ad 10), .ref (ad 11), .ref (ad 12), .ref (ad 13), .ref (ad 14)]))) 13 = _ := (fU_n (by omega)).trans hm13
  have hm14 : (fU M 5 (.inr (7, [.int 0, .int (nI (tHn U)), .int (nI (tPn U)), .int (nI (tEn U)), .ref (ad 6), .ref (ad 7), .ref (ad 8), .ref (ad 9), .ref (ad 10), .ref (ad 11), .ref (ad 12), .ref (ad 13), .ref (ad 14)]))) 14 = _ := (fU_n (by omega)).trans hm14
  have hM : isMo g ad (fU M 5 (.inr (7, [.int 0, .int (nI (tHn U)), .int (nI (tPn U)), .int (nI (tEn U)), .ref (ad 6), .ref (ad 7), .ref (ad 8), .ref (ad 9), .ref (ad 10), .ref (ad 11), .ref (ad 12), .ref (ad 13), .ref (ad 14)]))) 0 U sp ca := ⟨pcs, wa, ht, et, mi, co, as, hMo, ⟨hm6, hm7, hm8, hm9, hm10, hm11, hm12, hm13, hm14⟩, hRel, hCnt⟩
  have hrA : fReg 5 15 ad Mo ad (fU M 5 (.inr (7, [.int 0, .int (nI (tHn U)), .int (nI (tPn U)), .int (nI (tEn U)), .ref (ad 6), .ref (ad 7), .ref (ad 8), .ref (ad 9), .ref (ad 10), .ref (ad 11), .ref (ad 12), .ref (ad 13), .ref (ad 14)]))) := fReg_U hrA (by omega)
  obtain ⟨M5, eM5⟩ : ∃ z, z = (fU M 5 (.inr (7, [.int 0, .int (nI (tHn U)), .int (nI (tPn U)), .int (nI (tEn U)), .ref (ad 6), .ref (ad 7), .ref (ad 8), .ref (ad 9), .ref (ad 10), .ref (ad 11), .ref (ad 12), .ref (ad 13), .ref (ad 14)]))) := ⟨_, rfl⟩
  rw [← eM5] at hM hw hrA
  obtain ⟨pcs, wa, ht, et, mi, co, as, hMo, ⟨hm6, hm7, hm8, hm9, hm10, hm11, hm12, hm13, hm14⟩, hRel, hCnt⟩ := id hM
  obtain ⟨hn1, hn2, hn3⟩ := id hCnt
  have hn1 : tHn U ≤ 30 := hn1
  have hn2 : tPn U ≤ 6 := hn2
  have hn3 : tEn U ≤ 6 := hn3
  have hMo : M5 5 = some (.inr (7, [.int 0, .int (nI (tHn U)), .int (nI (tPn U)), .int (nI (tEn U)), .ref (ad 6), .ref (ad 7), .ref (ad 8), .ref (ad 9), .ref (ad 10), .ref (ad 11), .ref (ad 12), .ref (ad 13), .ref (ad 14)])) := hMo
  obtain ⟨rH, rP, rE, rM⟩ := id hRel
  refine lv_iload_n hx hb dX6_dig_5 rfl (lv_at hl 1 rfl) ?_
  refine lv_iload_n hx hb dX6_dig_6 rfl (lv_at hl 2 rfl) ?_
  refine fk_di (fcS X hw (c_isCell l g ad M5 x y) wq843 kSX6_isCell ⟨(Nat.le_of_ble_eq_true rfl), (Nat.le_of_ble_eq_true rfl)⟩ rfl hl.1 rfl (Nat.le_of_ble_eq_true rfl) dX6_dig_7 ⟨Nat.le_refl _, Nat.le_refl _⟩) hw (fun H locs hw => ?_)
  refine lv_if_ne (tgt := 19) hx hb dX6_dig_10 (by decide) (fun c_1 => ?_) (fun c_1 => absurd (bI_f.mp c_1) (by rw [h1]; decide))
  have c_1 := bI_nf.mp c_1
  refine lv_iload_n hx hb dX6_dig_19 rfl (lv_at hl 3 rfl) ?_
  refine lv_iconst (v := 0) hx hb dX6_dig_20 (by decide) ?_
  refine lv_sipush (v := 5000) hx hb dX6_dig_21 (by decide) ?_
  refine fk_di (fcS X hw (c_isIn l g ad M5 (w) 0 5000) wq846 kSX6_isIn ⟨(Nat.le_of_ble_eq_true rfl), (Nat.le_of_ble_eq_true rfl)⟩ rfl hl.1 rfl (Nat.le_of_ble_eq_true rfl) dX6_dig_24 ⟨Nat.le_refl _, Nat.le_refl _⟩) hw (fun H locs hw => ?_)
  refine lv_if_ne (tgt := 36) hx hb dX6_dig_27 (by decide) (fun c_2 => ?_) (fun c_2 => absurd (bI_f.mp c_2) (by rw [h2]; decide))
  have c_2 := bI_nf.mp c_2
  refine lv_aload_n hx hb dX6_dig_36 rfl (lv_at hl 0 rfl) ?_
  refine f_get X hw hMo fc7 2 (by decide) wq796 rfl (v := .int (nI (tPn U))) rfl dX6_dig_37 ?_
  refine lv_bipush (v := 6) hx hb dX6_dig_40 (by decide) ?_
  refine lv_icmp_eq (tgt := 58) hx hb dX6_dig_42 (by decide) (fun c_3 => ?_) (fun c_3 => ?_)
  · have c_3 := nI_eq' (a := (tPn U)) (b := 6) c_3 (by omega) (by omega)
    refine lv_aload_n hx hb dX6_dig_58 rfl (lv_at hl 0 rfl) ?_
    refine lv_iconst (v := 3) hx hb dX6_dig_59 (by decide) ?_
    refine fk_mi (fcV X hw (c_fail l g ad M5 hM 3) hMo rfl wq849 kVX6_fail ⟨(Nat.le_of_ble_eq_true rfl), (Nat.le_of_ble_eq_true rfl)⟩ rfl hl.1 rfl (Nat.le_of_ble_eq_true rfl) dX6_dig_60 ⟨Nat.le_refl _, Nat.le_refl _⟩) hw (fun M6 H locs hM hr6 hw => ?_)
    have hrA := fReg_tr hrA hr6
    rw [hQ9, ← hMq]
    exact f_iret X hw ⟨rfl, hM, hrA, rfl⟩ (Nat.le_refl _) (Nat.le_refl _) dX6_dig_63
  · have c_3 := nI_neq' (a := (tPn U)) (b := 6) c_3 (by omega) (by omega)
    refine lv_aload_n hx hb dX6_dig_45 rfl (lv_at hl 0 rfl) ?_
    refine lv_iload_n hx hb dX6_dig_46 rfl (lv_at hl 1 rfl) ?_
    refine lv_bipush (v := 14) hx hb dX6_dig_47 (by decide) ?_
    refine lv_iload_n hx hb dX6_dig_49 rfl (lv_at hl 2 rfl) ?_
    refine lv_imul hx hb dX6_dig_50 ?_
    refine lv_iadd hx hb dX6_dig_51 ?_
    refine fk_di (fcV X hw (c_m_isFree l g ad M5 hM (x + 14 * y)) hMo rfl wq853 kVX6_isFree ⟨(Nat.le_of_ble_eq_true rfl), (Nat.le_of_ble_eq_true rfl)⟩ rfl hl.1 rfl (Nat.le_of_ble_eq_true rfl) dX6_dig_52 ⟨Nat.le_refl _, Nat.le_refl _⟩) hw (fun H locs hw => ?_)
    refine lv_if_ne (tgt := 64) hx hb dX6_dig_55 (by decide) (fun c_4 => ?_) (fun c_4 => ?_)
    · have c_4 := bI_nf.mp c_4
      exact absurd h3 (by simp [c_1, c_2, c_3, c_4])
    · have c_4 := bI_f.mp c_4
      refine lv_aload_n hx hb dX6_dig_58 rfl (lv_at hl 0 rfl) ?_
      refine lv_iconst (v := 3) hx hb dX6_dig_59 (by decide) ?_
      refine fk_mi (fcV X hw (c_fail l g ad M5 hM 3) hMo rfl wq849 kVX6_fail ⟨(Nat.le_of_ble_eq_true rfl), (Nat.le_of_ble_eq_true rfl)⟩ rfl hl.1 rfl (Nat.le_of_ble_eq_true rfl) dX6_dig_60 ⟨Nat.le_refl _, Nat.le_refl _⟩) hw (fun M7 H locs hM hr7 hw => ?_)
      have hrA := fReg_tr hrA hr7
      rw [hQ9, ← hMq]
      exact f_iret X hw ⟨rfl, hM, hrA, rfl⟩ (Nat.le_refl _) (Nat.le_refl _) dX6_dig_63
set_option maxHeartbeats 4000000 in
set_option maxRecDepth 100000 in
theorem c_m_dig (l : Launch) (g : fG) (ad : Nat → Nat) (M : fM) {th : Int32} {U : fTn} {sp ca : Nat → Int32} (hM : isMo g ad M th U sp ca) {x y w : Int32} (h1 : aOn x y = true) (h2 : inR w 0 5000 = true) (h4 : ¬ tPn U = 6) (h3 : frF U (x + 14 * y) (tEn U) = true) : fCi l g yX6_dig cX6_dig 4 ((some .int)) 7 170 0 0 ad M [.ref (ad 5), .int x, .int y, .int w] (fMi g ad M 0 (addP U (newP (x + 14 * y) w)) sp ca (nI (tPn U))) := by
  refine f_body (own := RX6) (by decide +kernel) rfl (Nat.le_of_ble_eq_true rfl) ?_
  intro p e s m args below meth c ls X hw hin hl
  have hx := X.1
  have hb := X.2.1
  have hl : lv_has ls 4 [(0, .ref (ad 5)), (1, .int x), (2, .int y), (3, .int w)] := hl
  obtain ⟨pcs, wa, ht, et, mi, co, as, hMo, ⟨hm6, hm7, hm8, hm9, hm10, hm11, hm12, hm13, hm14⟩, hRel, hCnt⟩ := id hM
  obtain ⟨hn1, hn2, hn3⟩ := id hCnt
  have hn1 : tHn U ≤ 30 := hn1
  have hn2 : tPn U ≤ 6 := hn2
  have hn3 : tEn U ≤ 6 := hn3
  have hMo : M 5 = some (.inr (7, [.int th, .int (nI (tHn U)), .int (nI (tPn U)), .int (nI (tEn U)), .ref (ad 6), .ref (ad 7), .ref (ad 8), .ref (ad 9), .ref (ad 10), .ref (ad 11), .ref (ad 12), .ref (ad 13), .ref (ad 14)])) := hMo
  obtain ⟨rH, rP, rE, rM⟩ := id hRel
  obtain ⟨Mo, hMq⟩ : ∃ z, z = M := ⟨_, rfl⟩
  have hrA : fReg 5 15 ad Mo ad M := by rw [hMq]; exact fReg_rf
  obtain ⟨Q9, hQ9⟩ : ∃ z, z = MQ below (fQi g (fMi g ad M 0 (addP U (newP (x + 14 * y) w)) sp ca (nI (tPn U)))) args s 0 0 (fA g) := ⟨_, rfl⟩
  show W p l e (fR 7 170 0 0) s m args below meth c _ _ 0 0 (MQ below (fQi g (fMi g ad M 0 (addP U (newP (x + 14 * y) w)) sp ca (nI (tPn U)))) args s 0 0 (fA g)) (F0 m 0 ls [])
  rw [← hQ9]
  refine lv_aload_n hx hb dX6_dig_0 rfl (lv_at hl 0 rfl) ?_
  refine lv_iconst (v := 0) hx hb dX6_dig_1 (by decide) ?_
  refine f_put X hw hMo fc7 0 (by decide) wq794 rfl rfl (v := .int 0) rfl rfl (Nat.le_of_ble_eq_true rfl) dX6_dig_2 (fun H locs hw => ?_)
  have hw : fw g ad (fU M 5 (.inr (7, [.int 0, .int (nI (tHn U)), .int (nI (tPn U)), .int (nI (tEn U)), .ref (ad 6), .ref (ad 7), .ref (ad 8), .ref (ad 9), .ref (ad 10), .ref (ad 11), .ref (ad 12), .ref (ad 13), .ref (ad 14)]))) s H locs := hw
  have hMo : (fU M 5 (.inr (7, [.int 0, .int (nI (tHn U)), .int (nI (tPn U)), .int (nI (tEn U)), .ref (ad 6), .ref (ad 7), .ref (ad 8), .ref (ad 9), .ref (ad 10), .ref (ad 11), .ref (ad 12), .ref (ad 13), .ref (ad 14)]))) 5 = some (.inr (7, [.int 0, .int (nI (tHn U)), .int (nI (tPn U)), .int (nI (tEn U)), .ref (ad 6), .ref (ad 7), .ref (ad 8), .ref (ad 9), .ref (ad 10), .ref (ad 11), .ref (ad 12), .ref (ad 13), .ref (ad 14)])) := fU_s
  have hm6 : (fU M 5 (.inr (7, [.int 0, .int (nI (tHn U)), .int (nI (tPn U)), .int (nI (tEn U)), .ref (ad 6), .ref (ad 7), .ref (ad 8), .ref (ad 9), .ref (ad 10), .ref (ad 11), .ref (ad 12), .ref (ad 13), .ref (ad 14)]))) 6 = _ := (fU_n (by omega)).trans hm6
  have hm7 : (fU M 5 (.inr (7, [.int 0, .int (nI (tHn U)), .int (nI (tPn U)), .int (nI (tEn U)), .ref (ad 6), .ref (ad 7), .ref (ad 8), .ref (ad 9), .ref (ad 10), .ref (ad 11), .ref (ad 12), .ref (ad 13), .ref (ad 14)]))) 7 = _ := (fU_n (by omega)).trans hm7
  have hm8 : (fU M 5 (.inr (7, [.int 0, .int (nI (tHn U)), .int (nI (tPn U)), .int (nI (tEn U)), .ref (ad 6), .ref (ad 7), .ref (ad 8), .ref (ad 9), .ref (ad 10), .ref (ad 11), .ref (ad 12), .ref (ad 13), .ref (ad 14)]))) 8 = _ := (fU_n (by omega)).trans hm8
  have hm9 : (fU M 5 (.inr (7, [.int 0, .int (nI (tHn U)), .int (nI (tPn U)), .int (nI (tEn U)), .ref (ad 6), .ref (ad 7), .ref (ad 8), .ref (ad 9), .ref (ad 10), .ref (ad 11), .ref (ad 12), .ref (ad 13), .ref (ad 14)]))) 9 = _ := (fU_n (by omega)).trans hm9
  have hm10 : (fU M 5 (.inr (7, [.int 0, .int (nI (tHn U)), .int (nI (tPn U)), .int (nI (tEn U)), .ref (ad 6), .ref (ad 7), .ref (ad 8), .ref (ad 9), .ref (ad 10), .ref (ad 11), .ref (ad 12), .ref (ad 13), .ref (ad 14)]))) 10 = _ := (fU_n (by omega)).trans hm10
  have hm11 : (fU M 5 (.inr (7, [.int 0, .int (nI (tHn U)), .int (nI (tPn U)), .int (nI (tEn U)), .ref (ad 6), .ref (ad 7), .ref (ad 8), .ref (ad 9), .ref (ad 10), .ref (ad 11), .ref (ad 12), .ref (ad 13), .ref (ad 14)]))) 11 = _ := (fU_n (by omega)).trans hm11
  have hm12 : (fU M 5 (.inr (7, [.int 0, .int (nI (tHn U)), .int (nI (tPn U)), .int (nI (tEn U)), .ref (ad 6), .ref (ad 7), .ref (ad 8), .ref (ad 9), .ref (ad 10), .ref (ad 11), .ref (ad 12), .ref (ad 13), .ref (ad 14)]))) 12 = _ := (fU_n (by omega)).trans hm12
  have hm13 : (fU M 5 (.inr (7, [.int 0, .int (nI (tHn U)), .int (nI (tPn U)), .int (nI (tEn U)), .ref (ad 6), .ref (ad 7), .ref (ad 8), .ref (ad 9), .ref (ad 10), .ref (ad 11), .ref (ad 12), .ref (ad 13), .ref (ad 14)]))) 13 = _ := (fU_n (by omega)).trans hm13
  have hm14 : (fU M 5 (.inr (7, [.int 0, .int (nI (tHn U)), .int (nI (tPn U)), .int (nI (tEn U)), .ref (ad 6), .ref (ad 7), .ref (ad 8), .ref (ad 9), .ref (ad 10), .ref (ad 11), .ref (ad 12), .ref (ad 13), .ref (ad 14)]))) 14 = _ := (fU_n (by omega)).trans hm14
  have hM : isMo g ad (fU M 5 (.inr (7, [.int 0, .int (nI (tHn U)), .int (nI (tPn U)), .int (nI (tEn U)), .ref (ad 6), .ref (ad 7), .ref (ad 8), .ref (ad 9), .ref (ad 10), .ref (ad 11), .ref (ad 12), .ref (ad 13), .ref (ad 14)]))) 0 U sp ca := ⟨pcs, wa, ht, et, mi, co, as, hMo, ⟨hm6, hm7, hm8, hm9, hm10, hm11, hm12, hm13, hm14⟩, hRel, hCnt⟩
  have hrA : fReg 5 15 ad Mo ad (fU M 5 (.inr (7, [.int 0, .int (nI (tHn U)), .int (nI (tPn U)), .int (nI (tEn U)), .ref (ad 6), .ref (ad 7), .ref (ad 8), .ref (ad 9), .ref (ad 10), .ref (ad 11), .ref (ad 12), .ref (ad 13), .ref (ad 14)]))) := fReg_U hrA (by omega)
  obtain ⟨M8, eM8⟩ : ∃ z, z = (fU M 5 (.inr (7, [.int 0, .int (nI (tHn U)), .int (nI (tPn U)), .int (nI (tEn U)), .ref (ad 6), .ref (ad 7), .ref (ad 8), .ref (ad 9), .ref (ad 10), .ref (ad 11), .ref (ad 12), .ref (ad 13), .ref (ad 14)]))) := ⟨_, rfl⟩
  rw [← eM8] at hM hw hrA
  obtain ⟨pcs, wa, ht, et, mi, co, as, hMo, ⟨hm6, hm7, hm8, hm9, hm10, hm11, hm12, hm13, hm14⟩, hRel, hCnt⟩ := id hM
  obtain ⟨hn1, hn2, hn3⟩ := id hCnt
  have hn1 : tHn U ≤ 30 := hn1
  have hn2 : tPn U ≤ 6 := hn2
  have hn3 : tEn U ≤ 6 := hn3
  have hMo : M8 5 = some (.inr (7, [.int 0, .int (nI (tHn U)), .int (nI (tPn U)), .int (nI (tEn U)), .ref (ad 6), .ref (ad 7), .ref (ad 8), .ref (ad 9), .ref (ad 10), .ref (ad 11), .ref (ad 12), .ref (ad 13), .ref (ad 14)])) := hMo
  obtain ⟨rH, rP, rE, rM⟩ := id hRel
  refine lv_iload_n hx hb dX6_dig_5 rfl (lv_at hl 1 rfl) ?_
  refine lv_iload_n hx hb dX6_dig_6 rfl (lv_at hl 2 rfl) ?_
  refine fk_di (fcS X hw (c_isCell l g ad M8 x y) wq843 kSX6_isCell ⟨(Nat.le_of_ble_eq_true rfl), (Nat.le_of_ble_eq_true rfl)⟩ rfl hl.1 rfl (Nat.le_of_ble_eq_true rfl) dX6_dig_7 ⟨Nat.le_refl _, Nat.le_refl _⟩) hw (fun H locs hw => ?_)
  refine lv_if_ne (tgt := 19) hx hb dX6_dig_10 (by decide) (fun c_1 => ?_) (fun c_1 => absurd (bI_f.mp c_1) (by rw [h1]; decide))
  have c_1 := bI_nf.mp c_1
  refine lv_iload_n hx hb dX6_dig_19 rfl (lv_at hl 3 rfl) ?_
  refine lv_iconst (v := 0) hx hb dX6_dig_20 (by decide) ?_
  refine lv_sipush (v := 5000) hx hb dX6_dig_21 (by decide) ?_
  refine fk_di (fcS X hw (c_isIn l g ad M8 (w) 0 5000) wq846 kSX6_isIn ⟨(Nat.le_of_ble_eq_true rfl), (Nat.le_of_ble_eq_true rfl)⟩ rfl hl.1 rfl (Nat.le_of_ble_eq_true rfl) dX6_dig_24 ⟨Nat.le_refl _, Nat.le_refl _⟩) hw (fun H locs hw => ?_)
  refine lv_if_ne (tgt := 36) hx hb dX6_dig_27 (by decide) (fun c_2 => ?_) (fun c_2 => absurd (bI_f.mp c_2) (by rw [h2]; decide))
  have c_2 := bI_nf.mp c_2
  refine lv_aload_n hx hb dX6_dig_36 rfl (lv_at hl 0 rfl) ?_
  refine f_get X hw hMo fc7 2 (by decide) wq796 rfl (v := .int (nI (tPn U))) rfl dX6_dig_37 ?_
  refine lv_bipush (v := 6) hx hb dX6_dig_40 (by decide) ?_
  refine lv_icmp_eq (tgt := 58) hx hb dX6_dig_42 (by decide) (fun c_3 => absurd (nI_eq' (a := tPn U) (b := 6) c_3 (by omega) (by omega)) h4) (fun c_3 => ?_)
  have c_3 := nI_neq' (a := (tPn U)) (b := 6) c_3 (by omega) (by omega)
  refine lv_aload_n hx hb dX6_dig_45 rfl (lv_at hl 0 rfl) ?_
  refine lv_iload_n hx hb dX6_dig_46 rfl (lv_at hl 1 rfl) ?_
  refine lv_bipush (v := 14) hx hb dX6_dig_47 (by decide) ?_
  refine lv_iload_n hx hb dX6_dig_49 rfl (lv_at hl 2 rfl) ?_
  refine lv_imul hx hb dX6_dig_50 ?_
  refine lv_iadd hx hb dX6_dig_51 ?_
  refine fk_di (fcV X hw (c_m_isFree l g ad M8 hM (x + 14 * y)) hMo rfl wq853 kVX6_isFree ⟨(Nat.le_of_ble_eq_true rfl), (Nat.le_of_ble_eq_true rfl)⟩ rfl hl.1 rfl (Nat.le_of_ble_eq_true rfl) dX6_dig_52 ⟨Nat.le_refl _, Nat.le_refl _⟩) hw (fun H locs hw => ?_)
  refine lv_if_ne (tgt := 64) hx hb dX6_dig_55 (by decide) (fun c_4 => ?_) (fun c_4 => absurd (bI_f.mp c_4) (by rw [h3]; decide))
  have c_4 := bI_nf.mp c_4
  refine lv_aload_n hx hb dX6_dig_64 rfl (lv_at hl 0 rfl) ?_
  refine f_get X hw hMo fc7 4 (by decide) wq798 rfl (v := .ref (ad 6)) rfl dX6_dig_65 ?_
  refine lv_aload_n hx hb dX6_dig_68 rfl (lv_at hl 0 rfl) ?_
  refine f_get X hw hMo fc7 2 (by decide) wq796 rfl (v := .int (nI (tPn U))) rfl dX6_dig_69 ?_
  refine lv_iload_n hx hb dX6_dig_72 rfl (lv_at hl 1 rfl) ?_
  refine lv_bipush (v := 14) hx hb dX6_dig_73 (by decide) ?_
  refine lv_iload_n hx hb dX6_dig_75 rfl (lv_at hl 2 rfl) ?_
  refine lv_imul hx hb dX6_dig_76 ?_
  refine lv_iadd hx hb dX6_dig_77 ?_
  refine f_iast X hw hm6 (vp_in_nI (n := (tPn U)) (by omega) (by omega)) dX6_dig_78 (fun H locs hw => ?_)
  rw [nI_clamp (n := (tPn U)) (by omega)] at hw
  have hw : fw g ad (fU M8 6 (.inl (gI g, 6, .inl (upd pcs (tPn U) (x + (14 * y)))))) s H locs := hw
  have hMo : (fU M8 6 (.inl (gI g, 6, .inl (upd pcs (tPn U) (x + (14 * y)))))) 5 = some (.inr (7, [.int 0, .int (nI (tHn U)), .int (nI (tPn U)), .int (nI (tEn U)), .ref (ad 6), .ref (ad 7), .ref (ad 8), .ref (ad 9), .ref (ad 10), .ref (ad 11), .ref (ad 12), .ref (ad 13), .ref (ad 14)])) := (fU_n (by omega)).trans hMo
  have hm7 : (fU M8 6 (.inl (gI g, 6, .inl (upd pcs (tPn U) (x + (14 * y)))))) 7 = some (.inl (gI g, 6, .inl wa)) := (fU_n (by omega)).trans hm7
  have hm8 : (fU M8 6 (.inl (gI g, 6, .inl (upd pcs (tPn U) (x + (14 * y)))))) 8 = some (.inl (gI g, 210, .inl ht)) := (fU_n (by omega)).trans hm8
  have hm9 : (fU M8 6 (.inl (gI g, 6, .inl (upd pcs (tPn U) (x + (14 * y)))))) 9 = some (.inl (gI g, 54, .inl et)) := (fU_n (by omega)).trans hm9
  have hm10 : (fU M8 6 (.inl (gI g, 6, .inl (upd pcs (tPn U) (x + (14 * y)))))) 10 = some (.inl (gI g, 1, .inl mi)) := (fU_n (by omega)).trans hm10
  have hm11 : (fU M8 6 (.inl (gI g, 6, .inl (upd pcs (tPn U) (x + (14 * y)))))) 11 = some (.inl (gI g, 6, .inl co)) := (fU_n (by omega)).trans hm11
  have hm12 : (fU M8 6 (.inl (gI g, 6, .inl (upd pcs (tPn U) (x + (14 * y)))))) 12 = some (.inl (gZ g, 6, .inl as)) := (fU_n (by omega)).trans hm12
  have hm13 : (fU M8 6 (.inl (gI g, 6, .inl (upd pcs (tPn U) (x + (14 * y)))))) 13 = some (.inl (gI g, 140, .inl sp)) := (fU_n (by omega)).trans hm13
  have hm14 : (fU M8 6 (.inl (gI g, 6, .inl (upd pcs (tPn U) (x + (14 * y)))))) 14 = some (.inl (gZ g, 30, .inl ca)) := (fU_n (by omega)).trans hm14
  have hm6 : (fU M8 6 (.inl (gI g, 6, .inl (upd pcs (tPn U) (x + (14 * y)))))) 6 = some (.inl (gI g, 6, .inl (upd pcs (tPn U) (x + (14 * y))))) := fU_s
  refine lv_aload_n hx hb dX6_dig_79 rfl (lv_at hl 0 rfl) ?_
  refine f_get X hw hMo fc7 5 (by decide) wq799 rfl (v := .ref (ad 7)) rfl dX6_dig_80 ?_
  refine lv_aload_n hx hb dX6_dig_83 rfl (lv_at hl 0 rfl) ?_
  refine f_get X hw hMo fc7 2 (by decide) wq796 rfl (v := .int (nI (tPn U))) rfl dX6_dig_84 ?_
  refine lv_iload_n hx hb dX6_dig_87 rfl (lv_at hl 3 rfl) ?_
  refine f_iast X hw hm7 (vp_in_nI (n := (tPn U)) (by omega) (by omega)) dX6_dig_88 (fun H locs hw => ?_)
  rw [nI_clamp (n := (tPn U)) (by omega)] at hw
  have hw : fw g ad (fU (fU M8 6 (.inl (gI g, 6, .inl (upd pcs (tPn U) (x + (14 * y)))))) 7 (.inl (gI g, 6, .inl (upd wa (tPn U) w)))) s H locs := hw
  have hMo : (fU (fU M8 6 (.inl (gI g, 6, .inl (upd pcs (tPn U) (x + (14 * y)))))) 7 (.inl (gI g, 6, .inl (upd wa (tPn U) w)))) 5 = some (.inr (7, [.int 0, .int (nI (tHn U)), .int (nI (tPn U)), .int (nI (tEn U)), .ref (ad 6), .ref (ad 7), .ref (ad 8), .ref (ad 9), .ref (ad 10), .ref (ad 11), .ref (ad 12), .ref (ad 13), .ref (ad 14)])) := (fU_n (by omega)).trans hMo
  have hm6 : (fU (fU M8 6 (.inl (gI g, 6, .inl (upd pcs (tPn U) (x + (14 * y)))))) 7 (.inl (gI g, 6, .inl (upd wa (tPn U) w)))) 6 = some (.inl (gI g, 6, .inl (upd pcs (tPn U) (x + (14 * y))))) := (fU_n (by omega)).trans hm6
  have hm8 : (fU (fU M8 6 (.inl (gI g, 6, .inl (upd pcs (tPn U) (x + (14 * y)))))) 7 (.inl (gI g, 6, .inl (upd wa (tPn U) w)))) 8 = some (.inl (gI g, 210, .inl ht)) := (fU_n (by omega)).trans hm8
  have hm9 : (fU (fU M8 6 (.inl (gI g, 6, .inl (upd pcs (tPn U) (x + (14 * y)))))) 7 (.inl (gI g, 6, .inl (upd wa (tPn U) w)))) 9 = some (.inl (gI g, 54, .inl et)) := (fU_n (by omega)).trans hm9
  have hm10 : (fU (fU M8 6 (.inl (gI g, 6, .inl (upd pcs (tPn U) (x + (14 * y)))))) 7 (.inl (gI g, 6, .inl (upd wa (tPn U) w)))) 10 = some (.inl (gI g, 1, .inl mi)) := (fU_n (by omega)).trans hm10
  have hm11 : (fU (fU M8 6 (.inl (gI g, 6, .inl (upd pcs (tPn U) (x + (14 * y)))))) 7 (.inl (gI g, 6, .inl (upd wa (tPn U) w)))) 11 = some (.inl (gI g, 6, .inl co)) := (fU_n (by omega)).trans hm11
  have hm12 : (fU (fU M8 6 (.inl (gI g, 6, .inl (upd pcs (tPn U) (x + (14 * y)))))) 7 (.inl (gI g, 6, .inl (upd wa (tPn U) w)))) 12 = some (.inl (gZ g, 6, .inl as)) := (fU_n (by omega)).trans hm12
  have hm13 : (fU (fU M8 6 (.inl (gI g, 6, .inl (upd pcs (tPn U) (x + (14 * y)))))) 7 (.inl (gI g, 6, .inl (upd wa (tPn U) w)))) 13 = some (.inl (gI g, 140, .inl sp)) := (fU_n (by omega)).trans hm13
  have hm14 : (fU (fU M8 6 (.inl (gI g, 6, .inl (upd pcs (tPn U) (x + (14 * y)))))) 7 (.inl (gI g, 6, .inl (upd wa (tPn U) w)))) 14 = some (.inl (gZ g, 30, .inl ca)) := (fU_n (by omega)).trans hm14
  have hm7 : (fU (fU M8 6 (.inl (gI g, 6, .inl (upd pcs (tPn U) (x + (14 * y)))))) 7 (.inl (gI g, 6, .inl (upd wa (tPn U) w)))) 7 = some (.inl (gI g, 6, .inl (upd wa (tPn U) w))) := fU_s
  refine lv_aload_n hx hb dX6_dig_89 rfl (lv_at hl 0 rfl) ?_
  refine lv_dup hx hb dX6_dig_90 rfl ?_
  refine f_get X hw hMo fc7 2 (by decide) wq796 rfl (v := .int (nI (tPn U))) rfl dX6_dig_91 ?_
  refine lv_iconst (v := 1) hx hb dX6_dig_94 (by decide) ?_
  refine lv_iadd hx hb dX6_dig_95 ?_
  refine f_top (y := nI (tPn U + 1)) (nI_1 (tPn U)) ?_
  refine f_put X hw hMo fc7 2 (by decide) wq796 rfl rfl (v := .int (nI (tPn U + 1))) rfl rfl (Nat.le_of_ble_eq_true rfl) dX6_dig_96 (fun H locs hw => ?_)
  have hw : fw g ad (fU (fU (fU M8 6 (.inl (gI g, 6, .inl (upd pcs (tPn U) (x + (14 * y)))))) 7 (.inl (gI g, 6, .inl (upd wa (tPn U) w)))) 5 (.inr (7, [.int 0, .int (nI (tHn U)), .int (nI (tPn U + 1)), .int (nI (tEn U)), .ref (ad 6), .ref (ad 7), .ref (ad 8), .ref (ad 9), .ref (ad 10), .ref (ad 11), .ref (ad 12), .ref (ad 13), .ref (ad 14)]))) s H locs := hw
  have hm6 : (fU (fU (fU M8 6 (.inl (gI g, 6, .inl (upd pcs (tPn U) (x + (14 * y)))))) 7 (.inl (gI g, 6, .inl (upd wa (tPn U) w)))) 5 (.inr (7, [.int 0, .int (nI (tHn U)), .int (nI (tPn U + 1)), .int (nI (tEn U)), .ref (ad 6), .ref (ad 7), .ref (ad 8), .ref (ad 9), .ref (ad 10), .ref (ad 11), .ref (ad 12), .ref (ad 13), .ref (ad 14)]))) 6 = some (.inl (gI g, 6, .inl (upd pcs (tPn U) (x + (14 * y))))) := (fU_n (by omega)).trans hm6
  have hm7 : (fU (fU (fU M8 6 (.inl (gI g, 6, .inl (upd pcs (tPn U) (x + (14 * y)))))) 7 (.inl (gI g, 6, .inl (upd wa (tPn U) w)))) 5 (.inr (7, [.int 0, .int (nI (tHn U)), .int (nI (tPn U + 1)), .int (nI (tEn U)), .ref (ad 6), .ref (ad 7), .ref (ad 8), .ref (ad 9), .ref (ad 10), .ref (ad 11), .ref (ad 12), .ref (ad 13), .ref (ad 14)]))) 7 = some (.inl (gI g, 6, .inl (upd wa (tPn U) w))) := (fU_n (by omega)).trans hm7
  have hm8 : (fU (fU (fU M8 6 (.inl (gI g, 6, .inl (upd pcs (tPn U) (x + (14 * y)))))) 7 (.inl (gI g, 6, .inl (upd wa (tPn U) w)))) 5 (.inr (7, [.int 0, .int (nI (tHn U)), .int (nI (tPn U + 1)), .int (nI (tEn U)), .ref (ad 6), .ref (ad 7), .ref (ad 8), .ref (ad 9), .ref (ad 10), .ref (ad 11), .ref (ad 12), .ref (ad 13), .ref (ad 14)]))) 8 = some (.inl (gI g, 210, .inl ht)) := (fU_n (by omega)).trans hm8
  have hm9 : (fU (fU (fU M8 6 (.inl (gI g, 6, .inl (upd pcs (tPn U) (x + (14 * y)))))) 7 (.inl (gI g, 6, .inl (upd wa (tPn U) w)))) 5 (.inr (7, [.int 0, .int (nI (tHn U)), .int (nI (tPn U + 1)), .int (nI (tEn U)), .ref (ad 6), .ref (ad 7), .ref (ad 8), .ref (ad 9), .ref (ad 10), .ref (ad 11), .ref (ad 12), .ref (ad 13), .ref (ad 14)]))) 9 = some (.inl (gI g, 54, .inl et)) := (fU_n (by omega)).trans hm9
  have hm10 : (fU (fU (fU M8 6 (.inl (gI g, 6, .inl (upd pcs (tPn U) (x + (14 * y)))))) 7 (.inl (gI g, 6, .inl (upd wa (tPn U) w)))) 5 (.inr (7, [.int 0, .int (nI (tHn U)), .int (nI (tPn U + 1)), .int (nI (tEn U)), .ref (ad 6), .ref (ad 7), .ref (ad 8), .ref (ad 9), .ref (ad 10), .ref (ad 11), .ref (ad 12), .ref (ad 13), .ref (ad 14)]))) 10 = some (.inl (gI g, 1, .inl mi)) := (fU_n (by omega)).trans hm10
  have hm11 : (fU (fU (fU M8 6 (.inl (gI g, 6, .inl (upd pcs (tPn U) (x + (14 * y)))))) 7 (.inl (gI g, 6, .inl (upd wa (tPn U) w)))) 5 (.inr (7, [.int 0, .int (nI (tHn U)), .int (nI (tPn U + 1)), .int (nI (tEn U)), .ref (ad 6), .ref (ad 7), .ref (ad 8), .ref (ad 9), .ref (ad 10), .ref (ad 11), .ref (ad 12), .ref (ad 13), .ref (ad 14)]))) 11 = some (.inl (gI g, 6, .inl co)) := (fU_n (by omega)).trans hm11
  have hm12 : (fU (fU (fU M8 6 (.inl (gI g, 6, .inl (upd pcs (tPn U) (x + (14 * y)))))) 7 (.inl (gI g, 6, .inl (upd wa (tPn U) w)))) 5 (.inr (7, [.int 0, .int (nI (tHn U)), .int (nI (tPn U + 1)), .int (nI (tEn U)), .ref (ad 6), .ref (ad 7), .ref (ad 8), .ref (ad 9), .ref (ad 10), .ref (ad 11), .ref (ad 12), .ref (ad 13), .ref (ad 14)]))) 12 = some (.inl (gZ g, 6, .inl as)) := (fU_n (by omega)).trans hm12
  have hm13 : (fU (fU (fU M8 6 (.inl (gI g, 6, .inl (upd pcs (tPn U) (x + (14 * y)))))) 7 (.inl (gI g, 6, .inl (upd wa (tPn U) w)))) 5 (.inr (7, [.int 0, .int (nI (tHn U)), .int (nI (tPn U + 1)), .int (nI (tEn U)), .ref (ad 6), .ref (ad 7), .ref (ad 8), .ref (ad 9), .ref (ad 10), .ref (ad 11), .ref (ad 12), .ref (ad 13), .ref (ad 14)]))) 13 = some (.inl (gI g, 140, .inl sp)) := (fU_n (by omega)).trans hm13
  have hm14 : (fU (fU (fU M8 6 (.inl (gI g, 6, .inl (upd pcs (tPn U) (x + (14 * y)))))) 7 (.inl (gI g, 6, .inl (upd wa (tPn U) w)))) 5 (.inr (7, [.int 0, .int (nI (tHn U)), .int (nI (tPn U + 1)), .int (nI (tEn U)), .ref (ad 6), .ref (ad 7), .ref (ad 8), .ref (ad 9), .ref (ad 10), .ref (ad 11), .ref (ad 12), .ref (ad 13), .ref (ad 14)]))) 14 = some (.inl (gZ g, 30, .inl ca)) := (fU_n (by omega)).trans hm14
  have hMo : (fU (fU (fU M8 6 (.inl (gI g, 6, .inl (upd pcs (tPn U) (x + (14 * y)))))) 7 (.inl (gI g, 6, .inl (upd wa (tPn U) w)))) 5 (.inr (7, [.int 0, .int (nI (tHn U)), .int (nI (tPn U + 1)), .int (nI (tEn U)), .ref (ad 6), .ref (ad 7), .ref (ad 8), .ref (ad 9), .ref (ad 10), .ref (ad 11), .ref (ad 12), .ref (ad 13), .ref (ad 14)]))) 5 = some (.inr (7, [.int 0, .int (nI (tHn U)), .int (nI (tPn U + 1)), .int (nI (tEn U)), .ref (ad 6), .ref (ad 7), .ref (ad 8), .ref (ad 9), .ref (ad 10), .ref (ad 11), .ref (ad 12), .ref (ad 13), .ref (ad 14)])) := fU_s
  refine lv_aload_n hx hb dX6_dig_99 rfl (lv_at hl 0 rfl) ?_
  refine f_get X hw hMo fc7 2 (by decide) wq796 rfl (v := .int (nI (tPn U + 1))) rfl dX6_dig_100 ?_
  refine lv_iconst (v := 1) hx hb dX6_dig_103 (by decide) ?_
  refine lv_isub hx hb dX6_dig_104 ?_
  refine f_top (y := nI (tPn U)) (nI_sub1 (by omega)) ?_
  rw [hQ9, ← hMq]
  have hCnt : mCnt (addP U (newP (x + 14 * y) w)) := ⟨hn1, (by show tPn U + 1 ≤ 6; omega), hn3⟩
  have hMz : isMo g ad (fU (fU (fU M8 6 (.inl (gI g, 6, .inl (upd pcs (tPn U) (x + (14 * y)))))) 7 (.inl (gI g, 6, .inl (upd wa (tPn U) w)))) 5 (.inr (7, [.int 0, .int (nI (tHn U)), .int (nI (tPn U + 1)), .int (nI (tEn U)), .ref (ad 6), .ref (ad 7), .ref (ad 8), .ref (ad 9), .ref (ad 10), .ref (ad 11), .ref (ad 12), .ref (ad 13), .ref (ad 14)]))) 0 (addP U (newP (x + 14 * y) w)) sp ca := ⟨_, _, _, _, _, _, _, fU_s, ⟨(fU_n (by omega)).trans ((fU_n (by omega)).trans (fU_s)), (fU_n (by omega)).trans (fU_s), (fU_n (by omega)).trans ((fU_n (by omega)).trans ((fU_n (by omega)).trans (hm8))), (fU_n (by omega)).trans ((fU_n (by omega)).trans ((fU_n (by omega)).trans (hm9))), (fU_n (by omega)).trans ((fU_n (by omega)).trans ((fU_n (by omega)).trans (hm10))), (fU_n (by omega)).trans ((fU_n (by omega)).trans ((fU_n (by omega)).trans (hm11))), (fU_n (by omega)).trans ((fU_n (by omega)).trans ((fU_n (by omega)).trans (hm12))), (fU_n (by omega)).trans ((fU_n (by omega)).trans ((fU_n (by omega)).trans (hm13))), (fU_n (by omega)).trans ((fU_n (by omega)).trans ((fU_n (by omega)).trans (hm14)))⟩, mRel_addP hRel, hCnt⟩
  exact f_iret X hw ⟨rfl, hMz, fReg_U (fReg_U (fReg_U hrA (by omega)) (by omega)) (by omega), rfl⟩ (Nat.le_refl _) (Nat.le_refl _) dX6_dig_105
theorem mRel_addH {U : fTn} {pcs wa ht et mi co as said : Nat → Int32} {f : Nat → Int32} (h : mRel U pcs wa ht et mi co as) (hs : ∀ k, k < 7 → said k = f k) : mRel (addH U f) pcs wa (va_cpy said ht 0 (7 * tHn U) 7) et mi co as := by
  obtain ⟨r1, r2, r3, r4⟩ := h
  refine ⟨fun i hi k hk => ?_, r2, r3, r4⟩
  have hi : i < tHn U + 1 := hi
  show (if 7 * tHn U ≤ 7 * i + k ∧ 7 * i + k < 7 * tHn U + 7 then said (0 + (7 * i + k - 7 * tHn U)) else ht (7 * i + k)) = (if i = tHn U then f else tH U i) k
  by_cases e : i = tHn U
  · rw [if_pos e, if_pos (by omega), show 0 + (7 * i + k - 7 * tHn U) = k by omega]
    exact hs k hk
  · rw [if_neg e, if_neg (by omega)]
    exact r1 i (by omega) k hk
theorem ix70 {h : Nat} : 7 * nI h = nI (7 * h) := by rw [show (7 : Int32) = nI 7 from rfl, pk_mul]
theorem ix90 {h : Nat} : 9 * nI h = nI (9 * h) := by rw [show (9 : Int32) = nI 9 from rfl, pk_mul]
abbrev fMn (g : fG) (ad : Nat → Nat) (M : fM) (U : fTn) (sp ca : Nat → Int32) (v : Int32) : Int32 → (Nat → Nat) → fM → Prop := fun r ad1 M1 => isMo g ad1 M1 0 U sp ca ∧ fReg 5 31 ad M ad1 M1 ∧ (∀ l, l ≠ 30 → ad1 l = ad l) ∧ r = v
set_option maxHeartbeats 4000000 in
set_option maxRecDepth 100000 in
theorem x_m_build_1 (l : Launch) (g : fG) (ad : Nat → Nat) (M : fM) {th : Int32} {U : fTn} {sp ca : Nat → Int32} (hM : isMo g ad M th U sp ca) {x y wood wls : Int32} (h1 : aOn x y = false) : fCi l g yX6_build cX6_build 6 ((some .int)) 7 170 0 0 ad M [.ref (ad 5), .int x, .int y, .int wood, .int wls] (fMi g ad M 1 U sp ca 0) := by
  refine f_body (own := RX6) (by decide +kernel) rfl (Nat.le_of_ble_eq_true rfl) ?_
  intro p e s m args below meth c ls X hw hin hl
  have hx := X.1
  have hb := X.2.1
  have hl : lv_has ls 6 [(0, .ref (ad 5)), (1, .int x), (2, .int y), (3, .int wood), (4, .int wls)] := hl
  obtain ⟨pcs, wa, ht, et, mi, co, as, hMo, ⟨hm6, hm7, hm8, hm9, hm10, hm11, hm12, hm13, hm14⟩, hRel, hCnt⟩ := id hM
  obtain ⟨hn1, hn2, hn3⟩ := id hCnt
  have hn1 : tHn U ≤ 30 := hn1
  have hn2 : tPn U ≤ 6 := hn2
  have hn3 : tEn U ≤ 6 := hn3
  have hMo : M 5 = some (.inr (7, [.int th, .int (nI (tHn U)), .int (nI (tPn U)), .int (nI (tEn U)), .ref (ad 6), .ref (ad 7), .ref (ad 8), .ref (ad 9), .ref (ad 10), .ref (ad 11), .ref (ad 12), .ref (ad 13), .ref (ad 14)])) := hMo
  obtain ⟨rH, rP, rE, rM⟩ := id hRel
  obtain ⟨Mo, hMq⟩ : ∃ z, z = M := ⟨_, rfl⟩
  have hrA : fReg 5 15 ad Mo ad M := by rw [hMq]; exact fReg_rf
  obtain ⟨Q9, hQ9⟩ : ∃ z, z = MQ below (fQi g (fMi g ad M 1 U sp ca 0)) args s 0 0 (fA g) := ⟨_, rfl⟩
  show W p l e (fR 7 170 0 0) s m args below meth c _ _ 0 0 (MQ below (fQi g (fMi g ad M 1 U sp ca 0)) args s 0 0 (fA g)) (F0 m 0 ls [])
  rw [← hQ9]
  refine lv_aload_n hx hb dX6_build_0 rfl (lv_at hl 0 rfl) ?_
  refine lv_iconst (v := 0) hx hb dX6_build_1 (by decide) ?_
  refine f_put X hw hMo fc7 0 (by decide) wq794 rfl rfl (v := .int 0) rfl rfl (Nat.le_of_ble_eq_true rfl) dX6_build_2 (fun H locs hw => ?_)
  have hw : fw g ad (fU M 5 (.inr (7, [.int 0, .int (nI (tHn U)), .int (nI (tPn U)), .int (nI (tEn U)), .ref (ad 6), .ref (ad 7), .ref (ad 8), .ref (ad 9), .ref (ad 10), .ref (ad 11), .ref (ad 12), .ref (ad 13), .ref (ad 14)]))) s H locs := hw
  have hMo : (fU M 5 (.inr (7, [.int 0, .int (nI (tHn U)), .int (nI (tPn U)), .int (nI (tEn U)), .ref (ad 6), .ref (ad 7), .ref (ad 8), .ref (ad 9), .ref (ad 10), .ref (ad 11), .ref (ad 12), .ref (ad 13), .ref (ad 14)]))) 5 = some (.inr (7, [.int 0, .int (nI (tHn U)), .int (nI (tPn U)), .int (nI (tEn U)), .ref (ad 6), .ref (ad 7), .ref (ad 8), .ref (ad 9), .ref (ad 10), .ref (ad 11), .ref (ad 12), .ref (ad 13), .ref (ad 14)])) := fU_s
  have hm6 : (fU M 5 (.inr (7, [.int 0, .int (nI (tHn U)), .int (nI (tPn U)), .int (nI (tEn U)), .ref (ad 6), .ref (ad 7), .ref (ad 8), .ref (ad 9), .ref (ad 10), .ref (ad 11), .ref (ad 12), .ref (ad 13), .ref (ad 14)]))) 6 = _ := (fU_n (by omega)).trans hm6
  have hm7 : (fU M 5 (.inr (7, [.int 0, .int (nI (tHn U)), .int (nI (tPn U)), .int (nI (tEn U)), .ref (ad 6), .ref (ad 7), .ref (ad 8), .ref (ad 9), .ref (ad 10), .ref (ad 11), .ref (ad 12), .ref (ad 13), .ref (ad 14)]))) 7 = _ := (fU_n (by omega)).trans hm7
  have hm8 : (fU M 5 (.inr (7, [.int 0, .int (nI (tHn U)), .int (nI (tPn U)), .int (nI (tEn U)), .ref (ad 6), .ref (ad 7), .ref (ad 8), .ref (ad 9), .ref (ad 10), .ref (ad 11), .ref (ad 12), .ref (ad 13), .ref (ad 14)]))) 8 = _ := (fU_n (by omega)).trans hm8
  have hm9 : (fU M 5 (.inr (7, [.int 0, .int (nI (tHn U)), .int (nI (tPn U)), .int (nI (tEn U)), .ref (ad 6), .ref (ad 7), .ref (ad 8), .ref (ad 9), .ref (ad 10), .ref (ad 11), .ref (ad 12), .ref (ad 13), .ref (ad 14)]))) 9 = _ := (fU_n (by omega)).trans hm9
  have hm10 : (fU M 5 (.inr (7, [.int 0, .int (nI (tHn U)), .int (nI (tPn U)), .int (nI (tEn U)), .ref (ad 6), .ref (ad 7), .ref (ad 8), .ref (ad 9), .ref (ad 10), .ref (ad 11), .ref (ad 12), .ref (ad 13), .ref (ad 14)]))) 10 = _ := (fU_n (by omega)).trans hm10
  have hm11 : (fU M 5 (.inr (7, [.int 0, .int (nI (tHn U)), .int (nI (tPn U)), .int (nI (tEn U)), .ref (ad 6), .ref (ad 7), .ref (ad 8), .ref (ad 9), .ref (ad 10), .ref (ad 11), .ref (ad 12), .ref (ad 13), .ref (ad 14)]))) 11 = _ := (fU_n (by omega)).trans hm11
  have hm12 : (fU M 5 (.inr (7, [.int 0, .int (nI (tHn U)), .int (nI (tPn U)), .int (nI (tEn U)), .ref (ad 6), .ref (ad 7), .ref (ad 8), .ref (ad 9), .ref (ad 10), .ref (ad 11), .ref (ad 12), .ref (ad 13), .ref (ad 14)]))) 12 = _ := (fU_n (by omega)).trans hm12
  have hm13 : (fU M 5 (.inr (7, [.int 0, .int (nI (tHn U)), .int (nI (tPn U)), .int (nI (tEn U)), .ref (ad 6), .ref (ad 7), .ref (ad 8), .ref (ad 9), .ref (ad 10), .ref (ad 11), .ref (ad 12), .ref (ad 13), .ref (ad 14)]))) 13 = _ := (fU_n (by omega)).trans hm13
  have hm14 : (fU M 5 (.inr (7, [.int 0, .int (nI (tHn U)), .int (nI (tPn U)), .int (nI (tEn U)), .ref (ad 6), .ref (ad 7), .ref (ad 8), .ref (ad 9), .ref (ad 10), .ref (ad 11), .ref (ad 12), .ref (ad 13), .ref (ad 14)]))) 14 = _ := (fU_n (by omega)).trans hm14
  have hM : isMo g ad (fU M 5 (.inr (7, [.int 0, .int (nI (tHn U)), .int (nI (tPn U)), .int (nI (tEn U)), .ref (ad 6), .ref (ad 7), .ref (ad 8), .ref (ad 9), .ref (ad 10), .ref (ad 11), .ref (ad 12), .ref (ad 13), .ref (ad 14)]))) 0 U sp ca := ⟨pcs, wa, ht, et, mi, co, as, hMo, ⟨hm6, hm7, hm8, hm9, hm10, hm11, hm12, hm13, hm14⟩, hRel, hCnt⟩
  have hrA : fReg 5 15 ad Mo ad (fU M 5 (.inr (7, [.int 0, .int (nI (tHn U)), .int (nI (tPn U)), .int (nI (tEn U)), .ref (ad 6), .ref (ad 7), .ref (ad 8), .ref (ad 9), .ref (ad 10), .ref (ad 11), .ref (ad 12), .ref (ad 13), .ref (ad 14)]))) := fReg_U hrA (by omega)
  obtain ⟨M9, eM9⟩ : ∃ z, z = (fU M 5 (.inr (7, [.int 0, .int (nI (tHn U)), .int (nI (tPn U)), .int (nI (tEn U)), .ref (ad 6), .ref (ad 7), .ref (ad 8), .ref (ad 9), .ref (ad 10), .ref (ad 11), .ref (ad 12), .ref (ad 13), .ref (ad 14)]))) := ⟨_, rfl⟩
  rw [← eM9] at hM hw hrA
  obtain ⟨pcs, wa, ht, et, mi, co, as, hMo, ⟨hm6, hm7, hm8, hm9, hm10, hm11, hm12, hm13, hm14⟩, hRel, hCnt⟩ := id hM
  obtain ⟨hn1, hn2, hn3⟩ := id hCnt
  have hn1 : tHn U ≤ 30 := hn1
  have hn2 : tPn U ≤ 6 := hn2
  have hn3 : tEn U ≤ 6 := hn3
  have hMo : M9 5 = some (.inr (7, [.int 0, .int (nI (tHn U)), .int (nI (tPn U)), .int (nI (tEn U)), .ref (ad 6), .ref (ad 7), .ref (ad 8), .ref (ad 9), .ref (ad 10), .ref (ad 11), .ref (ad 12), .ref (ad 13), .ref (ad 14)])) := hMo
  obtain ⟨rH, rP, rE, rM⟩ := id hRel
  refine lv_iload_n hx hb dX6_build_5 rfl (lv_at hl 1 rfl) ?_
  refine lv_iload_n hx hb dX6_build_6 rfl (lv_at hl 2 rfl) ?_
  refine fk_di (fcS X hw (c_isCell l g ad M9 x y) wq843 kSX6_isCell ⟨(Nat.le_of_ble_eq_true rfl), (Nat.le_of_ble_eq_true rfl)⟩ rfl hl.1 rfl (Nat.le_of_ble_eq_true rfl) dX6_build_7 ⟨Nat.le_refl _, Nat.le_refl _⟩) hw (fun H locs hw => ?_)
  refine lv_if_ne (tgt := 19) hx hb dX6_build_10 (by decide) (fun c_1 => absurd (bI_nf.mp c_1) (f_false h1)) (fun c_1 => ?_)
  have c_1 := bI_f.mp c_1
  refine lv_aload_n hx hb dX6_build_13 rfl (lv_at hl 0 rfl) ?_
  refine lv_iconst (v := 1) hx hb dX6_build_14 (by decide) ?_
  refine fk_mi (fcV X hw (c_fail l g ad M9 hM 1) hMo rfl wq849 kVX6_fail ⟨(Nat.le_of_ble_eq_true rfl), (Nat.le_of_ble_eq_true rfl)⟩ rfl hl.1 rfl (Nat.le_of_ble_eq_true rfl) dX6_build_15 ⟨Nat.le_refl _, Nat.le_refl _⟩) hw (fun M10 H locs hM hr10 hw => ?_)
  have hrA := fReg_tr hrA hr10
  rw [hQ9, ← hMq]
  exact f_iret X hw ⟨rfl, hM, hrA, rfl⟩ (Nat.le_refl _) (Nat.le_refl _) dX6_build_18
set_option maxHeartbeats 4000000 in
set_option maxRecDepth 100000 in
theorem x_m_build_2 (l : Launch) (g : fG) (ad : Nat → Nat) (M : fM) {th : Int32} {U : fTn} {sp ca : Nat → Int32} (hM : isMo g ad M th U sp ca) {x y wood wls : Int32} (h1 : aOn x y = true) (h2 : (inR wood 1 9 && inR wls 1 60) = false) : fCi l g yX6_build cX6_build 6 ((some .int)) 7 170 0 0 ad M [.ref (ad 5), .int x, .int y, .int wood, .int wls] (fMi g ad M 2 U sp ca 0) := by
  refine f_body (own := RX6) (by decide +kernel) rfl (Nat.le_of_ble_eq_true rfl) ?_
  intro p e s m args below meth c ls X hw hin hl
  have hx := X.1
  have hb := X.2.1
  have hl : lv_has ls 6 [(0, .ref (ad 5)), (1, .int x), (2, .int y), (3, .int wood), (4, .int wls)] := hl
  obtain ⟨pcs, wa, ht, et, mi, co, as, hMo, ⟨hm6, hm7, hm8, hm9, hm10, hm11, hm12, hm13, hm14⟩, hRel, hCnt⟩ := id hM
  obtain ⟨hn1, hn2, hn3⟩ := id hCnt
  have hn1 : tHn U ≤ 30 := hn1
  have hn2 : tPn U ≤ 6 := hn2
  have hn3 : tEn U ≤ 6 := hn3
  have hMo : M 5 = some (.inr (7, [.int th, .int (nI (tHn U)), .int (nI (tPn U)), .int (nI (tEn U)), .ref (ad 6), .ref (ad 7), .ref (ad 8), .ref (ad 9), .ref (ad 10), .ref (ad 11), .ref (ad 12), .ref (ad 13), .ref (ad 14)])) := hMo
  obtain ⟨rH, rP, rE, rM⟩ := id hRel
  obtain ⟨Mo, hMq⟩ : ∃ z, z = M := ⟨_, rfl⟩
  have hrA : fReg 5 15 ad Mo ad M := by rw [hMq]; exact fReg_rf
  obtain ⟨Q9, hQ9⟩ : ∃ z, z = MQ below (fQi g (fMi g ad M 2 U sp ca 0)) args s 0 0 (fA g) := ⟨_, rfl⟩
  show W p l e (fR 7 170 0 0) s m args below meth c _ _ 0 0 (MQ below (fQi g (fMi g ad M 2 U sp ca 0)) args s 0 0 (fA g)) (F0 m 0 ls [])
  rw [← hQ9]
  refine lv_aload_n hx hb dX6_build_0 rfl (lv_at hl 0 rfl) ?_
  refine lv_iconst (v := 0) hx hb dX6_build_1 (by decide) ?_
  refine f_put X hw hMo fc7 0 (by decide) wq794 rfl rfl (v := .int 0) rfl rfl (Nat.le_of_ble_eq_true rfl) dX6_build_2 (fun H locs hw => ?_)
  have hw : fw g ad (fU M 5 (.inr (7, [.int 0, .int (nI (tHn U)), .int (nI (tPn U)), .int (nI (tEn U)), .ref (ad 6), .ref (ad 7), .ref (ad 8), .ref (ad 9), .ref (ad 10), .ref (ad 11), .ref (ad 12), .ref (ad 13), .ref (ad 14)]))) s H locs := hw
  have hMo : (fU M 5 (.inr (7, [.int 0, .int (nI (tHn U)), .int (nI (tPn U)), .int (nI (tEn U)), .ref (ad 6), .ref (ad 7), .ref (ad 8), .ref (ad 9), .ref (ad 10), .ref (ad 11), .ref (ad 12), .ref (ad 13), .ref (ad 14)]))) 5 = some (.inr (7, [.int 0, .int (nI (tHn U)), .int (nI (tPn U)), .int (nI (tEn U)), .ref (ad 6), .ref (ad 7), .ref (ad 8), .ref (ad 9), .ref (ad 10), .ref (ad 11), .ref (ad 12), .ref (ad 13), .ref (ad 14)])) := fU_s
  have hm6 : (fU M 5 (.inr (7, [.int 0, .int (nI (tHn U)), .int (nI (tPn U)), .int (nI (tEn U)), .ref (ad 6), .ref (ad 7), .ref (ad 8), .ref (ad 9), .ref (ad 10), .ref (ad 11), .ref (ad 12), .ref (ad 13), .ref (ad 14)]))) 6 = _ := (fU_n (by omega)).trans hm6
  have hm7 : (fU M 5 (.inr (7, [.int 0, .int (nI (tHn U)), .int (nI (tPn U)), .int (nI (tEn U)), .ref (ad 6), .ref (ad 7), .ref (ad 8), .ref (ad 9), .ref (ad 10), .ref (ad 11), .ref (ad 12), .ref (ad 13), .ref (ad 14)]))) 7 = _ := (fU_n (by omega)).trans hm7
  have hm8 : (fU M 5 (.inr (7, [.int 0, .int (nI (tHn U)), .int (nI (tPn U)), .int (nI (tEn U)), .ref (ad 6), .ref (ad 7), .ref (ad 8), .ref (ad 9), .ref (ad 10), .ref (ad 11), .ref (ad 12), .ref (ad 13), .ref (ad 14)]))) 8 = _ := (fU_n (by omega)).trans hm8
  have hm9 : (fU M 5 (.inr (7, [.int 0, .int (nI (tHn U)), .int (nI (tPn U)), .int (nI (tEn U)), .ref (ad 6), .ref (ad 7), .ref (ad 8), .ref (ad 9), .ref (ad 10), .ref (ad 11), .ref (ad 12), .ref (ad 13), .ref (ad 14)]))) 9 = _ := (fU_n (by omega)).trans hm9
  have hm10 : (fU M 5 (.inr (7, [.int 0, .int (nI (tHn U)), .int (nI (tPn U)), .int (nI (tEn U)), .ref (ad 6), .ref (ad 7), .ref (ad 8), .ref (ad 9), .ref (ad 10), .ref (ad 11), .ref (ad 12), .ref (ad 13), .ref (ad 14)]))) 10 = _ := (fU_n (by omega)).trans hm10
  have hm11 : (fU M 5 (.inr (7, [.int 0, .int (nI (tHn U)), .int (nI (tPn U)), .int (nI (tEn U)), .ref (ad 6), .ref (ad 7), .ref (ad 8), .ref (ad 9), .ref (ad 10), .ref (ad 11), .ref (ad 12), .ref (ad 13), .ref (ad 14)]))) 11 = _ := (fU_n (by omega)).trans hm11
  have hm12 : (fU M 5 (.inr (7, [.int 0, .int (nI (tHn U)), .int (nI (tPn U)), .int (nI (tEn U)), .ref (ad 6), .ref (ad 7), .ref (ad 8), .ref (ad 9), .ref (ad 10), .ref (ad 11), .ref (ad 12), .ref (ad 13), .ref (ad 14)]))) 12 = _ := (fU_n (by omega)).trans hm12
  have hm13 : (fU M 5 (.inr (7, [.int 0, .int (nI (tHn U)), .int (nI (tPn U)), .int (nI (tEn U)), .ref (ad 6), .ref (ad 7), .ref (ad 8), .ref (ad 9), .ref (ad 10), .ref (ad 11), .ref (ad 12), .ref (ad 13), .ref (ad 14)]))) 13 = _ := (fU_n (by omega)).trans hm13
  have hm14 : (fU M 5 (.inr (7, [.int 0, .int (nI (tHn U)), .int (nI (tPn U)), .int (nI (tEn U)), .ref (ad 6), .ref (ad 7), .ref (ad 8), .ref (ad 9), .ref (ad 10), .ref (ad 11), .ref (ad 12), .ref (ad 13), .ref (ad 14)]))) 14 = _ := (fU_n (by omega)).trans hm14
  have hM : isMo g ad (fU M 5 (.inr (7, [.int 0, .int (nI (tHn U)), .int (nI (tPn U)), .int (nI (tEn U)), .ref (ad 6), .ref (ad 7), .ref (ad 8), .ref (ad 9), .ref (ad 10), .ref (ad 11), .ref (ad 12), .ref (ad 13), .ref (ad 14)]))) 0 U sp ca := ⟨pcs, wa, ht, et, mi, co, as, hMo, ⟨hm6, hm7, hm8, hm9, hm10, hm11, hm12, hm13, hm14⟩, hRel, hCnt⟩
  have hrA : fReg 5 15 ad Mo ad (fU M 5 (.inr (7, [.int 0, .int (nI (tHn U)), .int (nI (tPn U)), .int (nI (tEn U)), .ref (ad 6), .ref (ad 7), .ref (ad 8), .ref (ad 9), .ref (ad 10), .ref (ad 11), .ref (ad 12), .ref (ad 13), .ref (ad 14)]))) := fReg_U hrA (by omega)
  obtain ⟨M11, eM11⟩ : ∃ z, z = (fU M 5 (.inr (7, [.int 0, .int (nI (tHn U)), .int (nI (tPn U)), .int (nI (tEn U)), .ref (ad 6), .ref (ad 7), .ref (ad 8), .ref (ad 9), .ref (ad 10), .ref (ad 11), .ref (ad 12), .ref (ad 13), .ref (ad 14)]))) := ⟨_, rfl⟩
  rw [← eM11] at hM hw hrA
  obtain ⟨pcs, wa, ht, et, mi, co, as, hMo, ⟨hm6, hm7, hm8, hm9, hm10, hm11, hm12, hm13, hm14⟩, hRel, hCnt⟩ := id hM
  obtain ⟨hn1, hn2, hn3⟩ := id hCnt
  have hn1 : tHn U ≤ 30 := hn1
  have hn2 : tPn U ≤ 6 := hn2
  have hn3 : tEn U ≤ 6 := hn3
  have hMo : M11 5 = some (.inr (7, [.int 0, .int (nI (tHn U)), .int (nI (tPn U)), .int (nI (tEn U)), .ref (ad 6), .ref (ad 7), .ref (ad 8), .ref (ad 9), .ref (ad 10), .ref (ad 11), .ref (ad 12), .ref (ad 13), .ref (ad 14)])) := hMo
  obtain ⟨rH, rP, rE, rM⟩ := id hRel
  refine lv_iload_n hx hb dX6_build_5 rfl (lv_at hl 1 rfl) ?_
  refine lv_iload_n hx hb dX6_build_6 rfl (lv_at hl 2 rfl) ?_
  refine fk_di (fcS X hw (c_isCell l g ad M11 x y) wq843 kSX6_isCell ⟨(Nat.le_of_ble_eq_true rfl), (Nat.le_of_ble_eq_true rfl)⟩ rfl hl.1 rfl (Nat.le_of_ble_eq_true rfl) dX6_build_7 ⟨Nat.le_refl _, Nat.le_refl _⟩) hw (fun H locs hw => ?_)
  refine lv_if_ne (tgt := 19) hx hb dX6_build_10 (by decide) (fun c_1 => ?_) (fun c_1 => absurd (bI_f.mp c_1) (by rw [h1]; decide))
  have c_1 := bI_nf.mp c_1
  refine lv_iload_n hx hb dX6_build_19 rfl (lv_at hl 3 rfl) ?_
  refine lv_iconst (v := 1) hx hb dX6_build_20 (by decide) ?_
  refine lv_bipush (v := 9) hx hb dX6_build_21 (by decide) ?_
  refine fk_di (fcS X hw (c_isIn l g ad M11 (wood) 1 9) wq846 kSX6_isIn ⟨(Nat.le_of_ble_eq_true rfl), (Nat.le_of_ble_eq_true rfl)⟩ rfl hl.1 rfl (Nat.le_of_ble_eq_true rfl) dX6_build_23 ⟨Nat.le_refl _, Nat.le_refl _⟩) hw (fun H locs hw => ?_)
  refine lv_if_eq (tgt := 40) hx hb dX6_build_26 (by decide) (fun c_2 => ?_) (fun c_2 => ?_)
  · have c_2 := bI_f.mp c_2
    refine lv_aload_n hx hb dX6_build_40 rfl (lv_at hl 0 rfl) ?_
    refine lv_iconst (v := 2) hx hb dX6_build_41 (by decide) ?_
    refine fk_mi (fcV X hw (c_fail l g ad M11 hM 2) hMo rfl wq849 kVX6_fail ⟨(Nat.le_of_ble_eq_true rfl), (Nat.le_of_ble_eq_true rfl)⟩ rfl hl.1 rfl (Nat.le_of_ble_eq_true rfl) dX6_build_42 ⟨Nat.le_refl _, Nat.le_refl _⟩) hw (fun M12 H locs hM hr12 hw => ?_)
    have hrA := fReg_tr hrA hr12
    rw [hQ9, ← hMq]
    exact f_iret X hw ⟨rfl, hM, hrA, rfl⟩ (Nat.le_refl _) (Nat.le_refl _) dX6_build_45
  · have c_2 := bI_nf.mp c_2
    refine lv_iload hx hb dX6_build_29 (lv_at hl 4 rfl) ?_
    refine lv_iconst (v := 1) hx hb dX6_build_31 (by decide) ?_
    refine lv_bipush (v := 60) hx hb dX6_build_32 (by decide) ?_
    refine fk_di (fcS X hw (c_isIn l g ad M11 (wls) 1 60) wq846 kSX6_isIn ⟨(Nat.le_of_ble_eq_true rfl), (Nat.le_of_ble_eq_true rfl)⟩ rfl hl.1 rfl (Nat.le_of_ble_eq_true rfl) dX6_build_34 ⟨Nat.le_refl _, Nat.le_refl _⟩) hw (fun H locs hw => ?_)
    refine lv_if_ne (tgt := 46) hx hb dX6_build_37 (by decide) (fun c_3 => ?_) (fun c_3 => ?_)
    · have c_3 := bI_nf.mp c_3
      exact absurd h2 (by simp [c_1, c_2, c_3])
    · have c_3 := bI_f.mp c_3
      refine lv_aload_n hx hb dX6_build_40 rfl (lv_at hl 0 rfl) ?_
      refine lv_iconst (v := 2) hx hb dX6_build_41 (by decide) ?_
      refine fk_mi (fcV X hw (c_fail l g ad M11 hM 2) hMo rfl wq849 kVX6_fail ⟨(Nat.le_of_ble_eq_true rfl), (Nat.le_of_ble_eq_true rfl)⟩ rfl hl.1 rfl (Nat.le_of_ble_eq_true rfl) dX6_build_42 ⟨Nat.le_refl _, Nat.le_refl _⟩) hw (fun M13 H locs hM hr13 hw => ?_)
      have hrA := fReg_tr hrA hr13
      rw [hQ9, ← hMq]
      exact f_iret X hw ⟨rfl, hM, hrA, rfl⟩ (Nat.le_refl _) (Nat.le_refl _) dX6_build_45
set_option maxHeartbeats 4000000 in
set_option maxRecDepth 100000 in
theorem x_m_build_3 (l : Launch) (g : fG) (ad : Nat → Nat) (M : fM) {th : Int32} {U : fTn} {sp ca : Nat → Int32} (hM : isMo g ad M th U sp ca) {x y wood wls : Int32} (h1 : aOn x y = true) (h2 : inR wood 1 9 = true) (h2b : inR wls 1 60 = true) (h3 : (decide (¬ tHn U = 30) && frF U (x + 14 * y) (tEn U)) = false) : fCi l g yX6_build cX6_build 6 ((some .int)) 7 170 0 0 ad M [.ref (ad 5), .int x, .int y, .int wood, .int wls] (fMi g ad M 3 U sp ca 0) := by
  refine f_body (own := RX6) (by decide +kernel) rfl (Nat.le_of_ble_eq_true rfl) ?_
  intro p e s m args below meth c ls X hw hin hl
  have hx := X.1
  have hb := X.2.1
  have hl : lv_has ls 6 [(0, .ref (ad 5)), (1, .int x), (2, .int y), (3, .int wood), (4, .int wls)] := hl
  obtain ⟨pcs, wa, ht, et, mi, co, as, hMo, ⟨hm6, hm7, hm8, hm9, hm10, hm11, hm12, hm13, hm14⟩, hRel, hCnt⟩ := id hM
  obtain ⟨hn1, hn2, hn3⟩ := id hCnt
  have hn1 : tHn U ≤ 30 := hn1
  have hn2 : tPn U ≤ 6 := hn2
  have hn3 : tEn U ≤ 6 := hn3
  have hMo : M 5 = some (.inr (7, [.int th, .int (nI (tHn U)), .int (nI (tPn U)), .int (nI (tEn U)), .ref (ad 6), .ref (ad 7), .ref (ad 8), .ref (ad 9), .ref (ad 10), .ref (ad 11), .ref (ad 12), .ref (ad 13), .ref (ad 14)])) := hMo
  obtain ⟨rH, rP, rE, rM⟩ := id hRel
  obtain ⟨Mo, hMq⟩ : ∃ z, z = M := ⟨_, rfl⟩
  have hrA : fReg 5 15 ad Mo ad M := by rw [hMq]; exact fReg_rf
  obtain ⟨Q9, hQ9⟩ : ∃ z, z = MQ below (fQi g (fMi g ad M 3 U sp ca 0)) args s 0 0 (fA g) := ⟨_, rfl⟩
  show W p l e (fR 7 170 0 0) s m args below meth c _ _ 0 0 (MQ below (fQi g (fMi g ad M 3 U sp ca 0)) args s 0 0 (fA g)) (F0 m 0 ls [])
  rw [← hQ9]
  refine lv_aload_n hx hb dX6_build_0 rfl (lv_at hl 0 rfl) ?_
  refine lv_iconst (v := 0) hx hb dX6_build_1 (by decide) ?_
  refine f_put X hw hMo fc7 0 (by decide) wq794 rfl rfl (v := .int 0) rfl rfl (Nat.le_of_ble_eq_true rfl) dX6_build_2 (fun H locs hw => ?_)
  have hw : fw g ad (fU M 5 (.inr (7, [.int 0, .int (nI (tHn U)), .int (nI (tPn U)), .int (nI (tEn U)), .ref (ad 6), .ref (ad 7), .ref (ad 8), .ref (ad 9), .ref (ad 10), .ref (ad 11), .ref (ad 12), .ref (ad 13), .ref (ad 14)]))) s H locs := hw
  have hMo : (fU M 5 (.inr (7, [.int 0, .int (nI (tHn U)), .int (nI (tPn U)), .int (nI (tEn U)), .ref (ad 6), .ref (ad 7), .ref (ad 8), .ref (ad 9), .ref (ad 10), .ref (ad 11), .ref (ad 12), .ref (ad 13), .ref (ad 14)]))) 5 = some (.inr (7, [.int 0, .int (nI (tHn U)), .int (nI (tPn U)), .int (nI (tEn U)), .ref (ad 6), .ref (ad 7), .ref (ad 8), .ref (ad 9), .ref (ad 10), .ref (ad 11), .ref (ad 12), .ref (ad 13), .ref (ad 14)])) := fU_s
  have hm6 : (fU M 5 (.inr (7, [.int 0, .int (nI (tHn U)), .int (nI (tPn U)), .int (nI (tEn U)), .ref (ad 6), .ref (ad 7), .ref (ad 8), .ref (ad 9), .ref (ad 10), .ref (ad 11), .ref (ad 12), .ref (ad 13), .ref (ad 14)]))) 6 = _ := (fU_n (by omega)).trans hm6
  have hm7 : (fU M 5 (.inr (7, [.int 0, .int (nI (tHn U)), .int (nI (tPn U)), .int (nI (tEn U)), .ref (ad 6), .ref (ad 7), .ref (ad 8), .ref (ad 9), .ref (ad 10), .ref (ad 11), .ref (ad 12), .ref (ad 13), .ref (ad 14)]))) 7 = _ := (fU_n (by omega)).trans hm7
  have hm8 : (fU M 5 (.inr (7, [.int 0, .int (nI (tHn U)), .int (nI (tPn U)), .int (nI (tEn U)), .ref (ad 6), .ref (ad 7), .ref (ad 8), .ref (ad 9), .ref (ad 10), .ref (ad 11), .ref (ad 12), .ref (ad 13), .ref (ad 14)]))) 8 = _ := (fU_n (by omega)).trans hm8
  have hm9 : (fU M 5 (.inr (7, [.int 0, .int (nI (tHn U)), .int (nI (tPn U)), .int (nI (tEn U)), .ref (ad 6), .ref (ad 7), .ref (ad 8), .ref (ad 9), .ref (ad 10), .ref (ad 11), .ref (ad 12), .ref (ad 13), .ref (ad 14)]))) 9 = _ := (fU_n (by omega)).trans hm9
  have hm10 : (fU M 5 (.inr (7, [.int 0, .int (nI (tHn U)), .int (nI (tPn U)), .int (nI (tEn U)), .ref (ad 6), .ref (ad 7), .ref (ad 8), .ref (ad 9), .ref (ad 10), .ref (ad 11), .ref (ad 12), .ref (ad 13), .ref (ad 14)]))) 10 = _ := (fU_n (by omega)).trans hm10
  have hm11 : (fU M 5 (.inr (7, [.int 0, .int (nI (tHn U)), .int (nI (tPn U)), .int (nI (tEn U)), .ref (ad 6), .ref (ad 7), .ref (ad 8), .ref (ad 9), .ref (ad 10), .ref (ad 11), .ref (ad 12), .ref (ad 13), .ref (ad 14)]))) 11 = _ := (fU_n (by omega)).trans hm11
  have hm12 : (fU M 5 (.inr (7, [.int 0, .int (nI (tHn U)), .int (nI (tPn U)), .int (nI (tEn U)), .ref (ad 6), .ref (ad 7), .ref (ad 8), .ref (ad 9), .ref (ad 10), .ref (ad 11), .ref (ad 12), .ref (ad 13), .ref (ad 14)]))) 12 = _ := (fU_n (by omega)).trans hm12
  have hm13 : (fU M 5 (.inr (7, [.int 0, .int (nI (tHn U)), .int (nI (tPn U)), .int (nI (tEn U)), .ref (ad 6), .ref (ad 7), .ref (ad 8), .ref (ad 9), .ref (ad 10), .ref (ad 11), .ref (ad 12), .ref (ad 13), .ref (ad 14)]))) 13 = _ := (fU_n (by omega)).trans hm13
  have hm14 : (fU M 5 (.inr (7, [.int 0, .int (nI (tHn U)), .int (nI (tPn U)), .int (nI (tEn U)), .ref (ad 6), .ref (ad 7), .ref (ad 8), .ref (ad 9), .ref (ad 10), .ref (ad 11), .ref (ad 12), .ref (ad 13), .ref (ad 14)]))) 14 = _ := (fU_n (by omega)).trans hm14
  have hM : isMo g ad (fU M 5 (.inr (7, [.int 0, .int (nI (tHn U)), .int (nI (tPn U)), .int (nI (tEn U)), .ref (ad 6), .ref (ad 7), .ref (ad 8), .ref (ad 9), .ref (ad 10), .ref (ad 11), .ref (ad 12), .ref (ad 13), .ref (ad 14)]))) 0 U sp ca := ⟨pcs, wa, ht, et, mi, co, as, hMo, ⟨hm6, hm7, hm8, hm9, hm10, hm11, hm12, hm13, hm14⟩, hRel, hCnt⟩
  have hrA : fReg 5 15 ad Mo ad (fU M 5 (.inr (7, [.int 0, .int (nI (tHn U)), .int (nI (tPn U)), .int (nI (tEn U)), .ref (ad 6), .ref (ad 7), .ref (ad 8), .ref (ad 9), .ref (ad 10), .ref (ad 11), .ref (ad 12), .ref (ad 13), .ref (ad 14)]))) := fReg_U hrA (by omega)
  obtain ⟨M14, eM14⟩ : ∃ z, z = (fU M 5 (.inr (7, [.int 0, .int (nI (tHn U)), .int (nI (tPn U)), .int (nI (tEn U)), .ref (ad 6), .ref (ad 7), .ref (ad 8), .ref (ad 9), .ref (ad 10), .ref (ad 11), .ref (ad 12), .ref (ad 13), .ref (ad 14)]))) := ⟨_, rfl⟩
  rw [← eM14] at hM hw hrA
  obtain ⟨pcs, wa, ht, et, mi, co, as, hMo, ⟨hm6, hm7, hm8, hm9, hm10, hm11, hm12, hm13, hm14⟩, hRel, hCnt⟩ := id hM
  obtain ⟨hn1, hn2, hn3⟩ := id hCnt
  have hn1 : tHn U ≤ 30 := hn1
  have hn2 : tPn U ≤ 6 := hn2
  have hn3 : tEn U ≤ 6 := hn3
  have hMo : M14 5 = some (.inr (7, [.int 0, .int (nI (tHn U)), .int (nI (tPn U)), .int (nI (tEn U)), .ref (ad 6), .ref (ad 7), .ref (ad 8), .ref (ad 9), .ref (ad 10), .ref (ad 11), .ref (ad 12), .ref (ad 13), .ref (ad 14)])) := hMo
  obtain ⟨rH, rP, rE, rM⟩ := id hRel
  refine lv_iload_n hx hb dX6_build_5 rfl (lv_at hl 1 rfl) ?_
  refine lv_iload_n hx hb dX6_build_6 rfl (lv_at hl 2 rfl) ?_
  refine fk_di (fcS X hw (c_isCell l g ad M14 x y) wq843 kSX6_isCell ⟨(Nat.le_of_ble_eq_true rfl), (Nat.le_of_ble_eq_true rfl)⟩ rfl hl.1 rfl (Nat.le_of_ble_eq_true rfl) dX6_build_7 ⟨Nat.le_refl _, Nat.le_refl _⟩) hw (fun H locs hw => ?_)
  refine lv_if_ne (tgt := 19) hx hb dX6_build_10 (by decide) (fun c_1 => ?_) (fun c_1 => absurd (bI_f.mp c_1) (by rw [h1]; decide))
  have c_1 := bI_nf.mp c_1
  refine lv_iload_n hx hb dX6_build_19 rfl (lv_at hl 3 rfl) ?_
  refine lv_iconst (v := 1) hx hb dX6_build_20 (by decide) ?_
  refine lv_bipush (v := 9) hx hb dX6_build_21 (by decide) ?_
  refine fk_di (fcS X hw (c_isIn l g ad M14 (wood) 1 9) wq846 kSX6_isIn ⟨(Nat.le_of_ble_eq_true rfl), (Nat.le_of_ble_eq_true rfl)⟩ rfl hl.1 rfl (Nat.le_of_ble_eq_true rfl) dX6_build_23 ⟨Nat.le_refl _, Nat.le_refl _⟩) hw (fun H locs hw => ?_)
  refine lv_if_eq (tgt := 40) hx hb dX6_build_26 (by decide) (fun c_2 => absurd (bI_f.mp c_2) (by rw [h2]; decide)) (fun c_2 => ?_)
  have c_2 := bI_nf.mp c_2
  refine lv_iload hx hb dX6_build_29 (lv_at hl 4 rfl) ?_
  refine lv_iconst (v := 1) hx hb dX6_build_31 (by decide) ?_
  refine lv_bipush (v := 60) hx hb dX6_build_32 (by decide) ?_
  refine fk_di (fcS X hw (c_isIn l g ad M14 (wls) 1 60) wq846 kSX6_isIn ⟨(Nat.le_of_ble_eq_true rfl), (Nat.le_of_ble_eq_true rfl)⟩ rfl hl.1 rfl (Nat.le_of_ble_eq_true rfl) dX6_build_34 ⟨Nat.le_refl _, Nat.le_refl _⟩) hw (fun H locs hw => ?_)
  refine lv_if_ne (tgt := 46) hx hb dX6_build_37 (by decide) (fun c_3 => ?_) (fun c_3 => absurd (bI_f.mp c_3) (by rw [h2b]; decide))
  have c_3 := bI_nf.mp c_3
  refine lv_aload_n hx hb dX6_build_46 rfl (lv_at hl 0 rfl) ?_
  refine f_get X hw hMo fc7 1 (by decide) wq795 rfl (v := .int (nI (tHn U))) rfl dX6_build_47 ?_
  refine lv_bipush (v := 30) hx hb dX6_build_50 (by decide) ?_
  refine lv_icmp_eq (tgt := 68) hx hb dX6_build_52 (by decide) (fun c_4 => ?_) (fun c_4 => ?_)
  · have c_4 := nI_eq' (a := (tHn U)) (b := 30) c_4 (by omega) (by omega)
    refine lv_aload_n hx hb dX6_build_68 rfl (lv_at hl 0 rfl) ?_
    refine lv_iconst (v := 3) hx hb dX6_build_69 (by decide) ?_
    refine fk_mi (fcV X hw (c_fail l g ad M14 hM 3) hMo rfl wq849 kVX6_fail ⟨(Nat.le_of_ble_eq_true rfl), (Nat.le_of_ble_eq_true rfl)⟩ rfl hl.1 rfl (Nat.le_of_ble_eq_true rfl) dX6_build_70 ⟨Nat.le_refl _, Nat.le_refl _⟩) hw (fun M15 H locs hM hr15 hw => ?_)
    have hrA := fReg_tr hrA hr15
    rw [hQ9, ← hMq]
    exact f_iret X hw ⟨rfl, hM, hrA, rfl⟩ (Nat.le_refl _) (Nat.le_refl _) dX6_build_73
  · have c_4 := nI_neq' (a := (tHn U)) (b := 30) c_4 (by omega) (by omega)
    refine lv_aload_n hx hb dX6_build_55 rfl (lv_at hl 0 rfl) ?_
    refine lv_iload_n hx hb dX6_build_56 rfl (lv_at hl 1 rfl) ?_
    refine lv_bipush (v := 14) hx hb dX6_build_57 (by decide) ?_
    refine lv_iload_n hx hb dX6_build_59 rfl (lv_at hl 2 rfl) ?_
    refine lv_imul hx hb dX6_build_60 ?_
    refine lv_iadd hx hb dX6_build_61 ?_
    refine fk_di (fcV X hw (c_m_isFree l g ad M14 hM (x + 14 * y)) hMo rfl wq853 kVX6_isFree ⟨(Nat.le_of_ble_eq_true rfl), (Nat.le_of_ble_eq_true rfl)⟩ rfl hl.1 rfl (Nat.le_of_ble_eq_true rfl) dX6_build_62 ⟨Nat.le_refl _, Nat.le_refl _⟩) hw (fun H locs hw => ?_)
    refine lv_if_ne (tgt := 74) hx hb dX6_build_65 (by decide) (fun c_5 => ?_) (fun c_5 => ?_)
    · have c_5 := bI_nf.mp c_5
      exact absurd h3 (by simp [c_1, c_2, c_3, c_4, c_5])
    · have c_5 := bI_f.mp c_5
      refine lv_aload_n hx hb dX6_build_68 rfl (lv_at hl 0 rfl) ?_
      refine lv_iconst (v := 3) hx hb dX6_build_69 (by decide) ?_
      refine fk_mi (fcV X hw (c_fail l g ad M14 hM 3) hMo rfl wq849 kVX6_fail ⟨(Nat.le_of_ble_eq_true rfl), (Nat.le_of_ble_eq_true rfl)⟩ rfl hl.1 rfl (Nat.le_of_ble_eq_true rfl) dX6_build_70 ⟨Nat.le_refl _, Nat.le_refl _⟩) hw (fun M16 H locs hM hr16 hw => ?_)
      have hrA := fReg_tr hrA hr16
      rw [hQ9, ← hMq]
      exact f_iret X hw ⟨rfl, hM, hrA, rfl⟩ (Nat.le_refl _) (Nat.le_refl _) dX6_build_73
set_option maxHeartbeats 4000000 in
set_option maxRecDepth 100000 in
theorem c_m_build (l : Launch) (g : fG) (ad : Nat → Nat) (M : fM) {th : Int32} {U : fTn} {sp ca : Nat → Int32} (hM : isMo g ad M th U sp ca) {x y wood wls : Int32} (h1 : aOn x y = true) (h2 : inR wood 1 9 = true) (h2b : inR wls 1 60 = true) (h4 : ¬ tHn U = 30) (h3 : frF U (x + 14 * y) (tEn U) = true) : fCi l g yX6_build cX6_build 6 ((some .int)) 7 170 1 7 ad M [.ref (ad 5), .int x, .int y, .int wood, .int wls] (fMn g ad M (addH U (newH (x + 14 * y) wood wls)) sp ca (nI (tHn U))) := by
  refine f_body (own := RX6) (by decide +kernel) rfl (Nat.le_of_ble_eq_true rfl) ?_
  intro p e s m args below meth c ls X hw hin hl
  have hx := X.1
  have hb := X.2.1
  have hl : lv_has ls 6 [(0, .ref (ad 5)), (1, .int x), (2, .int y), (3, .int wood), (4, .int wls)] := hl
  obtain ⟨pcs, wa, ht, et, mi, co, as, hMo, ⟨hm6, hm7, hm8, hm9, hm10, hm11, hm12, hm13, hm14⟩, hRel, hCnt⟩ := id hM
  obtain ⟨hn1, hn2, hn3⟩ := id hCnt
  have hn1 : tHn U ≤ 30 := hn1
  have hn2 : tPn U ≤ 6 := hn2
  have hn3 : tEn U ≤ 6 := hn3
  have hMo : M 5 = some (.inr (7, [.int th, .int (nI (tHn U)), .int (nI (tPn U)), .int (nI (tEn U)), .ref (ad 6), .ref (ad 7), .ref (ad 8), .ref (ad 9), .ref (ad 10), .ref (ad 11), .ref (ad 12), .ref (ad 13), .ref (ad 14)])) := hMo
  obtain ⟨rH, rP, rE, rM⟩ := id hRel
  obtain ⟨Mo, hMq⟩ : ∃ z, z = M := ⟨_, rfl⟩
  have hrA : fReg 5 15 ad Mo ad M := by rw [hMq]; exact fReg_rf
  obtain ⟨Q9, hQ9⟩ : ∃ z, z = MQ below (fQi g (fMn g ad M (addH U (newH (x + 14 * y) wood wls)) sp ca (nI (tHn U)))) args s 1 7 (fA g) := ⟨_, rfl⟩
  show W p l e (fR 7 170 1 7) s m args below meth c _ _ 0 0 (MQ below (fQi g (fMn g ad M (addH U (newH (x + 14 * y) wood wls)) sp ca (nI (tHn U)))) args s 1 7 (fA g)) (F0 m 0 ls [])
  rw [← hQ9]
  refine lv_aload_n hx hb dX6_build_0 rfl (lv_at hl 0 rfl) ?_
  refine lv_iconst (v := 0) hx hb dX6_build_1 (by decide) ?_
  refine f_put X hw hMo fc7 0 (by decide) wq794 rfl rfl (v := .int 0) rfl rfl (Nat.le_of_ble_eq_true rfl) dX6_build_2 (fun H locs hw => ?_)
  have hw : fw g ad (fU M 5 (.inr (7, [.int 0, .int (nI (tHn U)), .int (nI (tPn U)), .int (nI (tEn U)), .ref (ad 6), .ref (ad 7), .ref (ad 8), .ref (ad 9), .ref (ad 10), .ref (ad 11), .ref (ad 12), .ref (ad 13), .ref (ad 14)]))) s H locs := hw
  have hMo : (fU M 5 (.inr (7, [.int 0, .int (nI (tHn U)), .int (nI (tPn U)), .int (nI (tEn U)), .ref (ad 6), .ref (ad 7), .ref (ad 8), .ref (ad 9), .ref (ad 10), .ref (ad 11), .ref (ad 12), .ref (ad 13), .ref (ad 14)]))) 5 = some (.inr (7, [.int 0, .int (nI (tHn U)), .int (nI (tPn U)), .int (nI (tEn U)), .ref (ad 6), .ref (ad 7), .ref (ad 8), .ref (ad 9), .ref (ad 10), .ref (ad 11), .ref (ad 12), .ref (ad 13), .ref (ad 14)])) := fU_s
  have hm6 : (fU M 5 (.inr (7, [.int 0, .int (nI (tHn U)), .int (nI (tPn U)), .int (nI (tEn U)), .ref (ad 6), .ref (ad 7), .ref (ad 8), .ref (ad 9), .ref (ad 10), .ref (ad 11), .ref (ad 12), .ref (ad 13), .ref (ad 14)]))) 6 = _ := (fU_n (by omega)).trans hm6
  have hm7 : (fU M 5 (.inr (7, [.int 0, .int (nI (tHn U)), .int (nI (tPn U)), .int (nI (tEn U)), .ref (ad 6), .ref (ad 7), .ref (ad 8), .ref (ad 9), .ref (ad 10), .ref (ad 11), .ref (ad 12), .ref (ad 13), .ref (ad 14)]))) 7 = _ := (fU_n (by omega)).trans hm7
  have hm8 : (fU M 5 (.inr (7, [.int 0, .int (nI (tHn U)), .int (nI (tPn U)), .int (nI (tEn U)), .ref (ad 6), .ref (ad 7), .ref (ad 8), .ref (ad 9), .ref (ad 10), .ref (ad 11), .ref (ad 12), .ref (ad 13), .ref (ad 14)]))) 8 = _ := (fU_n (by omega)).trans hm8
  have hm9 : (fU M 5 (.inr (7, [.int 0, .int (nI (tHn U)), .int (nI (tPn U)), .int (nI (tEn U)), .ref (ad 6), .ref (ad 7), .ref (ad 8), .ref (ad 9), .ref (ad 10), .ref (ad 11), .ref (ad 12), .ref (ad 13), .ref (ad 14)]))) 9 = _ := (fU_n (by omega)).trans hm9
  have hm10 : (fU M 5 (.inr (7, [.int 0, .int (nI (tHn U)), .int (nI (tPn U)), .int (nI (tEn U)), .ref (ad 6), .ref (ad 7), .ref (ad 8), .ref (ad 9), .ref (ad 10), .ref (ad 11), .ref (ad 12), .ref (ad 13), .ref (ad 14)]))) 10 = _ := (fU_n (by omega)).trans hm10
  have hm11 : (fU M 5 (.inr (7, [.int 0, .int (nI (tHn U)), .int (nI (tPn U)), .int (nI (tEn U)), .ref (ad 6), .ref (ad 7), .ref (ad 8), .ref (ad 9), .ref (ad 10), .ref (ad 11), .ref (ad 12), .ref (ad 13), .ref (ad 14)]))) 11 = _ := (fU_n (by omega)).trans hm11
  have hm12 : (fU M 5 (.inr (7, [.int 0, .int (nI (tHn U)), .int (nI (tPn U)), .int (nI (tEn U)), .ref (ad 6), .ref (ad 7), .ref (ad 8), .ref (ad 9), .ref (ad 10), .ref (ad 11), .ref (ad 12), .ref (ad 13), .ref (ad 14)]))) 12 = _ := (fU_n (by omega)).trans hm12
  have hm13 : (fU M 5 (.inr (7, [.int 0, .int (nI (tHn U)), .int (nI (tPn U)), .int (nI (tEn U)), .ref (ad 6), .ref (ad 7), .ref (ad 8), .ref (ad 9), .ref (ad 10), .ref (ad 11), .ref (ad 12), .ref (ad 13), .ref (ad 14)]))) 13 = _ := (fU_n (by omega)).trans hm13
  have hm14 : (fU M 5 (.inr (7, [.int 0, .int (nI (tHn U)), .int (nI (tPn U)), .int (nI (tEn U)), .ref (ad 6), .ref (ad 7), .ref (ad 8), .ref (ad 9), .ref (ad 10), .ref (ad 11), .ref (ad 12), .ref (ad 13), .ref (ad 14)]))) 14 = _ := (fU_n (by omega)).trans hm14
  have hM : isMo g ad (fU M 5 (.inr (7, [.int 0, .int (nI (tHn U)), .int (nI (tPn U)), .int (nI (tEn U)), .ref (ad 6), .ref (ad 7), .ref (ad 8), .ref (ad 9), .ref (ad 10), .ref (ad 11), .ref (ad 12), .ref (ad 13), .ref (ad 14)]))) 0 U sp ca := ⟨pcs, wa, ht, et, mi, co, as, hMo, ⟨hm6, hm7, hm8, hm9, hm10, hm11, hm12, hm13, hm14⟩, hRel, hCnt⟩
  have hrA : fReg 5 15 ad Mo ad (fU M 5 (.inr (7, [.int 0, .int (nI (tHn U)), .int (nI (tPn U)), .int (nI (tEn U)), .ref (ad 6), .ref (ad 7), .ref (ad 8), .ref (ad 9), .ref (ad 10), .ref (ad 11), .ref (ad 12), .ref (ad 13), .ref (ad 14)]))) := fReg_U hrA (by omega)
  obtain ⟨M17, eM17⟩ : ∃ z, z = (fU M 5 (.inr (7, [.int 0, .int (nI (tHn U)), .int (nI (tPn U)), .int (nI (tEn U)), .ref (ad 6), .ref (ad 7), .ref (ad 8), .ref (ad 9), .ref (ad 10), .ref (ad 11), .ref (ad 12), .ref (ad 13), .ref (ad 14)]))) := ⟨_, rfl⟩
  rw [← eM17] at hM hw hrA
  obtain ⟨pcs, wa, ht, et, mi, co, as, hMo, ⟨hm6, hm7, hm8, hm9, hm10, hm11, hm12, hm13, hm14⟩, hRel, hCnt⟩ := id hM
  obtain ⟨hn1, hn2, hn3⟩ := id hCnt
  have hn1 : tHn U ≤ 30 := hn1
  have hn2 : tPn U ≤ 6 := hn2
  have hn3 : tEn U ≤ 6 := hn3
  have hMo : M17 5 = some (.inr (7, [.int 0, .int (nI (tHn U)), .int (nI (tPn U)), .int (nI (tEn U)), .ref (ad 6), .ref (ad 7), .ref (ad 8), .ref (ad 9), .ref (ad 10), .ref (ad 11), .ref (ad 12), .ref (ad 13), .ref (ad 14)])) := hMo
  obtain ⟨rH, rP, rE, rM⟩ := id hRel
  refine lv_iload_n hx hb dX6_build_5 rfl (lv_at hl 1 rfl) ?_
  refine lv_iload_n hx hb dX6_build_6 rfl (lv_at hl 2 rfl) ?_
  refine fk_di (fcS X hw (c_isCell l g ad M17 x y) wq843 kSX6_isCell ⟨(Nat.le_of_ble_eq_true rfl), (Nat.le_of_ble_eq_true rfl)⟩ rfl hl.1 rfl (Nat.le_of_ble_eq_true rfl) dX6_build_7 ⟨(by dsimp only [fR]; omega), (by dsimp only [fR]; omega)⟩) hw (fun H locs hw => ?_)
  refine lv_if_ne (tgt := 19) hx hb dX6_build_10 (by decide) (fun c_1 => ?_) (fun c_1 => absurd (bI_f.mp c_1) (by rw [h1]; decide))
  have c_1 := bI_nf.mp c_1
  refine lv_iload_n hx hb dX6_build_19 rfl (lv_at hl 3 rfl) ?_
  refine lv_iconst (v := 1) hx hb dX6_build_20 (by decide) ?_
  refine lv_bipush (v := 9) hx hb dX6_build_21 (by decide) ?_
  refine fk_di (fcS X hw (c_isIn l g ad M17 (wood) 1 9) wq846 kSX6_isIn ⟨(Nat.le_of_ble_eq_true rfl), (Nat.le_of_ble_eq_true rfl)⟩ rfl hl.1 rfl (Nat.le_of_ble_eq_true rfl) dX6_build_23 ⟨(by dsimp only [fR]; omega), (by dsimp only [fR]; omega)⟩) hw (fun H locs hw => ?_)
  refine lv_if_eq (tgt := 40) hx hb dX6_build_26 (by decide) (fun c_2 => absurd (bI_f.mp c_2) (by rw [h2]; decide)) (fun c_2 => ?_)
  have c_2 := bI_nf.mp c_2
  refine lv_iload hx hb dX6_build_29 (lv_at hl 4 rfl) ?_
  refine lv_iconst (v := 1) hx hb dX6_build_31 (by decide) ?_
  refine lv_bipush (v := 60) hx hb dX6_build_32 (by decide) ?_
  refine fk_di (fcS X hw (c_isIn l g ad M17 (wls) 1 60) wq846 kSX6_isIn ⟨(Nat.le_of_ble_eq_true rfl), (Nat.le_of_ble_eq_true rfl)⟩ rfl hl.1 rfl (Nat.le_of_ble_eq_true rfl) dX6_build_34 ⟨(by dsimp only [fR]; omega), (by dsimp only [fR]; omega)⟩) hw (fun H locs hw => ?_)
  refine lv_if_ne (tgt := 46) hx hb dX6_build_37 (by decide) (fun c_3 => ?_) (fun c_3 => absurd (bI_f.mp c_3) (by rw [h2b]; decide))
  have c_3 := bI_nf.mp c_3
  refine lv_aload_n hx hb dX6_build_46 rfl (lv_at hl 0 rfl) ?_
  refine f_get X hw hMo fc7 1 (by decide) wq795 rfl (v := .int (nI (tHn U))) rfl dX6_build_47 ?_
  refine lv_bipush (v := 30) hx hb dX6_build_50 (by decide) ?_
  refine lv_icmp_eq (tgt := 68) hx hb dX6_build_52 (by decide) (fun c_4 => absurd (nI_eq' (a := tHn U) (b := 30) c_4 (by omega) (by omega)) h4) (fun c_4 => ?_)
  have c_4 := nI_neq' (a := (tHn U)) (b := 30) c_4 (by omega) (by omega)
  refine lv_aload_n hx hb dX6_build_55 rfl (lv_at hl 0 rfl) ?_
  refine lv_iload_n hx hb dX6_build_56 rfl (lv_at hl 1 rfl) ?_
  refine lv_bipush (v := 14) hx hb dX6_build_57 (by decide) ?_
  refine lv_iload_n hx hb dX6_build_59 rfl (lv_at hl 2 rfl) ?_
  refine lv_imul hx hb dX6_build_60 ?_
  refine lv_iadd hx hb dX6_build_61 ?_
  refine fk_di (fcV X hw (c_m_isFree l g ad M17 hM (x + 14 * y)) hMo rfl wq853 kVX6_isFree ⟨(Nat.le_of_ble_eq_true rfl), (Nat.le_of_ble_eq_true rfl)⟩ rfl hl.1 rfl (Nat.le_of_ble_eq_true rfl) dX6_build_62 ⟨(by dsimp only [fR]; omega), (by dsimp only [fR]; omega)⟩) hw (fun H locs hw => ?_)
  refine lv_if_ne (tgt := 74) hx hb dX6_build_65 (by decide) (fun c_5 => ?_) (fun c_5 => absurd (bI_f.mp c_5) (by rw [h3]; decide))
  have c_5 := bI_nf.mp c_5
  refine lv_bipush (v := 7) hx hb dX6_build_74 (by decide) ?_
  refine f_newI X hw 30 (by omega) wq47 (N' := 7) (by decide) (by rfl) (by decide) (by dsimp only [fR]; omega) (by dsimp only [fR]; omega) dX6_build_76 (fun q1 H hw => ?_)
  obtain ⟨ad1, ea1⟩ : ∃ z, z = fV ad 30 q1 := ⟨_, rfl⟩
  have eq1 : ad1 30 = q1 := by rw [ea1]; exact fV_s
  have eA1 : ∀ l, l ≠ 30 → ad1 l = ad l := fun l h => by rw [ea1]; exact fV_n h
  rw [← ea1] at hw
  obtain ⟨Mn1, em1⟩ : ∃ z, z = fU M17 30 (.inl (gI g, 7, .inl (fun _ => 0))) := ⟨_, rfl⟩
  have eM1 : ∀ l, l ≠ 30 → Mn1 l = M17 l := fun l h => by rw [em1]; exact fU_n h
  have eS1 : Mn1 30 = some (.inl (gI g, 7, .inl (fun _ => 0))) := by rw [em1]; exact fU_s
  rw [← em1] at hw
  have hMo : Mn1 5 = some (.inr (7, [.int 0, .int (nI (tHn U)), .int (nI (tPn U)), .int (nI (tEn U)), .ref (ad 6), .ref (ad 7), .ref (ad 8), .ref (ad 9), .ref (ad 10), .ref (ad 11), .ref (ad 12), .ref (ad 13), .ref (ad 14)])) := (eM1 _ (by omega)).trans hMo
  have hm6 : Mn1 6 = some (.inl (gI g, 6, .inl pcs)) := (eM1 _ (by omega)).trans hm6
  have hm7 : Mn1 7 = some (.inl (gI g, 6, .inl wa)) := (eM1 _ (by omega)).trans hm7
  have hm8 : Mn1 8 = some (.inl (gI g, 210, .inl ht)) := (eM1 _ (by omega)).trans hm8
  have hm9 : Mn1 9 = some (.inl (gI g, 54, .inl et)) := (eM1 _ (by omega)).trans hm9
  have hm10 : Mn1 10 = some (.inl (gI g, 1, .inl mi)) := (eM1 _ (by omega)).trans hm10
  have hm11 : Mn1 11 = some (.inl (gI g, 6, .inl co)) := (eM1 _ (by omega)).trans hm11
  have hm12 : Mn1 12 = some (.inl (gZ g, 6, .inl as)) := (eM1 _ (by omega)).trans hm12
  have hm13 : Mn1 13 = some (.inl (gI g, 140, .inl sp)) := (eM1 _ (by omega)).trans hm13
  have hm14 : Mn1 14 = some (.inl (gZ g, 30, .inl ca)) := (eM1 _ (by omega)).trans hm14
  refine lv_dup hx hb dX6_build_78 rfl ?_
  refine lv_iconst (v := 0) hx hb dX6_build_79 (by decide) ?_
  refine lv_iload_n hx hb dX6_build_80 rfl (lv_at hl 1 rfl) ?_
  refine lv_bipush (v := 14) hx hb dX6_build_81 (by decide) ?_
  refine lv_iload_n hx hb dX6_build_83 rfl (lv_at hl 2 rfl) ?_
  refine lv_imul hx hb dX6_build_84 ?_
  refine lv_iadd hx hb dX6_build_85 ?_
  refine f_adr3 (ad := ad1) (lb := 30) eq1 ?_
  refine f_iast X hw eS1 (by unfold vp_in; decide) dX6_build_86 (fun H locs hw => ?_)
  rw [show (0 : Int32).toNatClampNeg = 0 from rfl] at hw
  have hw : fw g ad1 (fU Mn1 30 (.inl (gI g, 7, .inl (upd (fun _ => 0) 0 (x + (14 * y)))))) s H locs := hw
  have hMo : (fU Mn1 30 (.inl (gI g, 7, .inl (upd (fun _ => 0) 0 (x + (14 * y)))))) 5 = some (.inr (7, [.int 0, .int (nI (tHn U)), .int (nI (tPn U)), .int (nI (tEn U)), .ref (ad 6), .ref (ad 7), .ref (ad 8), .ref (ad 9), .ref (ad 10), .ref (ad 11), .ref (ad 12), .ref (ad 13), .ref (ad 14)])) := (fU_n (by omega)).trans hMo
  have hm6 : (fU Mn1 30 (.inl (gI g, 7, .inl (upd (fun _ => 0) 0 (x + (14 * y)))))) 6 = some (.inl (gI g, 6, .inl pcs)) := (fU_n (by omega)).trans hm6
  have hm7 : (fU Mn1 30 (.inl (gI g, 7, .inl (upd (fun _ => 0) 0 (x + (14 * y)))))) 7 = some (.inl (gI g, 6, .inl wa)) := (fU_n (by omega)).trans hm7
  have hm8 : (fU Mn1 30 (.inl (gI g, 7, .inl (upd (fun _ => 0) 0 (x + (14 * y)))))) 8 = some (.inl (gI g, 210, .inl ht)) := (fU_n (by omega)).trans hm8
  have hm9 : (fU Mn1 30 (.inl (gI g, 7, .inl (upd (fun _ => 0) 0 (x + (14 * y)))))) 9 = some (.inl (gI g, 54, .inl et)) := (fU_n (by omega)).trans hm9
  have hm10 : (fU Mn1 30 (.inl (gI g, 7, .inl (upd (fun _ => 0) 0 (x + (14 * y)))))) 10 = some (.inl (gI g, 1, .inl mi)) := (fU_n (by omega)).trans hm10
  have hm11 : (fU Mn1 30 (.inl (gI g, 7, .inl (upd (fun _ => 0) 0 (x + (14 * y)))))) 11 = some (.inl (gI g, 6, .inl co)) := (fU_n (by omega)).trans hm11
  have hm12 : (fU Mn1 30 (.inl (gI g, 7, .inl (upd (fun _ => 0) 0 (x + (14 * y)))))) 12 = some (.inl (gZ g, 6, .inl as)) := (fU_n (by omega)).trans hm12
  have hm13 : (fU Mn1 30 (.inl (gI g, 7, .inl (upd (fun _ => 0) 0 (x + (14 * y)))))) 13 = some (.inl (gI g, 140, .inl sp)) := (fU_n (by omega)).trans hm13
  have hm14 : (fU Mn1 30 (.inl (gI g, 7, .inl (upd (fun _ => 0) 0 (x + (14 * y)))))) 14 = some (.inl (gZ g, 30, .inl ca)) := (fU_n (by omega)).trans hm14
  have eS1 : (fU Mn1 30 (.inl (gI g, 7, .inl (upd (fun _ => 0) 0 (x + (14 * y)))))) 30 = some (.inl (gI g, 7, .inl (upd (fun _ => 0) 0 (x + (14 * y))))) := fU_s
  refine lv_dup hx hb dX6_build_87 rfl ?_
  refine lv_iconst (v := 1) hx hb dX6_build_88 (by decide) ?_
  refine lv_iload_n hx hb dX6_build_89 rfl (lv_at hl 3 rfl) ?_
  refine f_adr3 (ad := ad1) (lb := 30) eq1 ?_
  refine f_iast X hw eS1 (by unfold vp_in; decide) dX6_build_90 (fun H locs hw => ?_)
  rw [show (1 : Int32).toNatClampNeg = 1 from rfl] at hw
  have hw : fw g ad1 (fU (fU Mn1 30 (.inl (gI g, 7, .inl (upd (fun _ => 0) 0 (x + (14 * y)))))) 30 (.inl (gI g, 7, .inl (upd (upd (fun _ => 0) 0 (x + (14 * y))) 1 wood)))) s H locs := hw
  rw [fU_U] at hw
  have hMo : (fU Mn1 30 (.inl (gI g, 7, .inl (upd (upd (fun _ => 0) 0 (x + (14 * y))) 1 wood)))) 5 = some (.inr (7, [.int 0, .int (nI (tHn U)), .int (nI (tPn U)), .int (nI (tEn U)), .ref (ad 6), .ref (ad 7), .ref (ad 8), .ref (ad 9), .ref (ad 10), .ref (ad 11), .ref (ad 12), .ref (ad 13), .ref (ad 14)])) := ((fU_n (by omega)).trans (fU_n (by omega)).symm).trans hMo
  have hm6 : (fU Mn1 30 (.inl (gI g, 7, .inl (upd (upd (fun _ => 0) 0 (x + (14 * y))) 1 wood)))) 6 = some (.inl (gI g, 6, .inl pcs)) := ((fU_n (by omega)).trans (fU_n (by omega)).symm).trans hm6
  have hm7 : (fU Mn1 30 (.inl (gI g, 7, .inl (upd (upd (fun _ => 0) 0 (x + (14 * y))) 1 wood)))) 7 = some (.inl (gI g, 6, .inl wa)) := ((fU_n (by omega)).trans (fU_n (by omega)).symm).trans hm7
  have hm8 : (fU Mn1 30 (.inl (gI g, 7, .inl (upd (upd (fun _ => 0) 0 (x + (14 * y))) 1 wood)))) 8 = some (.inl (gI g, 210, .inl ht)) := ((fU_n (by omega)).trans (fU_n (by omega)).symm).trans hm8
  have hm9 : (fU Mn1 30 (.inl (gI g, 7, .inl (upd (upd (fun _ => 0) 0 (x + (14 * y))) 1 wood)))) 9 = some (.inl (gI g, 54, .inl et)) := ((fU_n (by omega)).trans (fU_n (by omega)).symm).trans hm9
  have hm10 : (fU Mn1 30 (.inl (gI g, 7, .inl (upd (upd (fun _ => 0) 0 (x + (14 * y))) 1 wood)))) 10 = some (.inl (gI g, 1, .inl mi)) := ((fU_n (by omega)).trans (fU_n (by omega)).symm).trans hm10
  have hm11 : (fU Mn1 30 (.inl (gI g, 7, .inl (upd (upd (fun _ => 0) 0 (x + (14 * y))) 1 wood)))) 11 = some (.inl (gI g, 6, .inl co)) := ((fU_n (by omega)).trans (fU_n (by omega)).symm).trans hm11
  have hm12 : (fU Mn1 30 (.inl (gI g, 7, .inl (upd (upd (fun _ => 0) 0 (x + (14 * y))) 1 wood)))) 12 = some (.inl (gZ g, 6, .inl as)) := ((fU_n (by omega)).trans (fU_n (by omega)).symm).trans hm12
  have hm13 : (fU Mn1 30 (.inl (gI g, 7, .inl (upd (upd (fun _ => 0) 0 (x + (14 * y))) 1 wood)))) 13 = some (.inl (gI g, 140, .inl sp)) := ((fU_n (by omega)).trans (fU_n (by omega)).symm).trans hm13
  have hm14 : (fU Mn1 30 (.inl (gI g, 7, .inl (upd (upd (fun _ => 0) 0 (x + (14 * y))) 1 wood)))) 14 = some (.inl (gZ g, 30, .inl ca)) := ((fU_n (by omega)).trans (fU_n (by omega)).symm).trans hm14
  have eS1 : (fU Mn1 30 (.inl (gI g, 7, .inl (upd (upd (fun _ => 0) 0 (x + (14 * y))) 1 wood)))) 30 = some (.inl (gI g, 7, .inl (upd (upd (fun _ => 0) 0 (x + (14 * y))) 1 wood))) := fU_s
  refine lv_dup hx hb dX6_build_91 rfl ?_
  refine lv_iconst (v := 2) hx hb dX6_build_92 (by decide) ?_
  refine lv_iload hx hb dX6_build_93 (lv_at hl 4 rfl) ?_
  refine f_adr3 (ad := ad1) (lb := 30) eq1 ?_
  refine f_iast X hw eS1 (by unfold vp_in; decide) dX6_build_95 (fun H locs hw => ?_)
  rw [show (2 : Int32).toNatClampNeg = 2 from rfl] at hw
  have hw : fw g ad1 (fU (fU Mn1 30 (.inl (gI g, 7, .inl (upd (upd (fun _ => 0) 0 (x + (14 * y))) 1 wood)))) 30 (.inl (gI g, 7, .inl (upd (upd (upd (fun _ => 0) 0 (x + (14 * y))) 1 wood) 2 wls)))) s H locs := hw
  rw [fU_U] at hw
  have hMo : (fU Mn1 30 (.inl (gI g, 7, .inl (upd (upd (upd (fun _ => 0) 0 (x + (14 * y))) 1 wood) 2 wls)))) 5 = some (.inr (7, [.int 0, .int (nI (tHn U)), .int (nI (tPn U)), .int (nI (tEn U)), .ref (ad 6), .ref (ad 7), .ref (ad 8), .ref (ad 9), .ref (ad 10), .ref (ad 11), .ref (ad 12), .ref (ad 13), .ref (ad 14)])) := ((fU_n (by omega)).trans (fU_n (by omega)).symm).trans hMo
  have hm6 : (fU Mn1 30 (.inl (gI g, 7, .inl (upd (upd (upd (fun _ => 0) 0 (x + (14 * y))) 1 wood) 2 wls)))) 6 = some (.inl (gI g, 6, .inl pcs)) := ((fU_n (by omega)).trans (fU_n (by omega)).symm).trans hm6
  have hm7 : (fU Mn1 30 (.inl (gI g, 7, .inl (upd (upd (upd (fun _ => 0) 0 (x + (14 * y))) 1 wood) 2 wls)))) 7 = some (.inl (gI g, 6, .inl wa)) := ((fU_n (by omega)).trans (fU_n (by omega)).symm).trans hm7
  have hm8 : (fU Mn1 30 (.inl (gI g, 7, .inl (upd (upd (upd (fun _ => 0) 0 (x + (14 * y))) 1 wood) 2 wls)))) 8 = some (.inl (gI g, 210, .inl ht)) := ((fU_n (by omega)).trans (fU_n (by omega)).symm).trans hm8
  have hm9 : (fU Mn1 30 (.inl (gI g, 7, .inl (upd (upd (upd (fun _ => 0) 0 (x + (14 * y))) 1 wood) 2 wls)))) 9 = some (.inl (gI g, 54, .inl et)) := ((fU_n (by omega)).trans (fU_n (by omega)).symm).trans hm9
  have hm10 : (fU Mn1 30 (.inl (gI g, 7, .inl (upd (upd (upd (fun _ => 0) 0 (x + (14 * y))) 1 wood) 2 wls)))) 10 = some (.inl (gI g, 1, .inl mi)) := ((fU_n (by omega)).trans (fU_n (by omega)).symm).trans hm10
  have hm11 : (fU Mn1 30 (.inl (gI g, 7, .inl (upd (upd (upd (fun _ => 0) 0 (x + (14 * y))) 1 wood) 2 wls)))) 11 = some (.inl (gI g, 6, .inl co)) := ((fU_n (by omega)).trans (fU_n (by omega)).symm).trans hm11
  have hm12 : (fU Mn1 30 (.inl (gI g, 7, .inl (upd (upd (upd (fun _ => 0) 0 (x + (14 * y))) 1 wood) 2 wls)))) 12 = some (.inl (gZ g, 6, .inl as)) := ((fU_n (by omega)).trans (fU_n (by omega)).symm).trans hm12
  have hm13 : (fU Mn1 30 (.inl (gI g, 7, .inl (upd (upd (upd (fun _ => 0) 0 (x + (14 * y))) 1 wood) 2 wls)))) 13 = some (.inl (gI g, 140, .inl sp)) := ((fU_n (by omega)).trans (fU_n (by omega)).symm).trans hm13
  have hm14 : (fU Mn1 30 (.inl (gI g, 7, .inl (upd (upd (upd (fun _ => 0) 0 (x + (14 * y))) 1 wood) 2 wls)))) 14 = some (.inl (gZ g, 30, .inl ca)) := ((fU_n (by omega)).trans (fU_n (by omega)).symm).trans hm14
  have eS1 : (fU Mn1 30 (.inl (gI g, 7, .inl (upd (upd (upd (fun _ => 0) 0 (x + (14 * y))) 1 wood) 2 wls)))) 30 = some (.inl (gI g, 7, .inl (upd (upd (upd (fun _ => 0) 0 (x + (14 * y))) 1 wood) 2 wls))) := fU_s
  refine lv_dup hx hb dX6_build_96 rfl ?_
  refine lv_iconst (v := 3) hx hb dX6_build_97 (by decide) ?_
  refine lv_iconst (v := 0) hx hb dX6_build_98 (by decide) ?_
  refine f_adr3 (ad := ad1) (lb := 30) eq1 ?_
  refine f_iast X hw eS1 (by unfold vp_in; decide) dX6_build_99 (fun H locs hw => ?_)
  rw [show (3 : Int32).toNatClampNeg = 3 from rfl] at hw
  have hw : fw g ad1 (fU (fU Mn1 30 (.inl (gI g, 7, .inl (upd (upd (upd (fun _ => 0) 0 (x + (14 * y))) 1 wood) 2 wls)))) 30 (.inl (gI g, 7, .inl (upd (upd (upd (upd (fun _ => 0) 0 (x + (14 * y))) 1 wood) 2 wls) 3 0)))) s H locs := hw
  rw [fU_U] at hw
  have hMo : (fU Mn1 30 (.inl (gI g, 7, .inl (upd (upd (upd (upd (fun _ => 0) 0 (x + (14 * y))) 1 wood) 2 wls) 3 0)))) 5 = some (.inr (7, [.int 0, .int (nI (tHn U)), .int (nI (tPn U)), .int (nI (tEn U)), .ref (ad 6), .ref (ad 7), .ref (ad 8), .ref (ad 9), .ref (ad 10), .ref (ad 11), .ref (ad 12), .ref (ad 13), .ref (ad 14)])) := ((fU_n (by omega)).trans (fU_n (by omega)).symm).trans hMo
  have hm6 : (fU Mn1 30 (.inl (gI g, 7, .inl (upd (upd (upd (upd (fun _ => 0) 0 (x + (14 * y))) 1 wood) 2 wls) 3 0)))) 6 = some (.inl (gI g, 6, .inl pcs)) := ((fU_n (by omega)).trans (fU_n (by omega)).symm).trans hm6
  have hm7 : (fU Mn1 30 (.inl (gI g, 7, .inl (upd (upd (upd (upd (fun _ => 0) 0 (x + (14 * y))) 1 wood) 2 wls) 3 0)))) 7 = some (.inl (gI g, 6, .inl wa)) := ((fU_n (by omega)).trans (fU_n (by omega)).symm).trans hm7
  have hm8 : (fU Mn1 30 (.inl (gI g, 7, .inl (upd (upd (upd (upd (fun _ => 0) 0 (x + (14 * y))) 1 wood) 2 wls) 3 0)))) 8 = some (.inl (gI g, 210, .inl ht)) := ((fU_n (by omega)).trans (fU_n (by omega)).symm).trans hm8
  have hm9 : (fU Mn1 30 (.inl (gI g, 7, .inl (upd (upd (upd (upd (fun _ => 0) 0 (x + (14 * y))) 1 wood) 2 wls) 3 0)))) 9 = some (.inl (gI g, 54, .inl et)) := ((fU_n (by omega)).trans (fU_n (by omega)).symm).trans hm9
  have hm10 : (fU Mn1 30 (.inl (gI g, 7, .inl (upd (upd (upd (upd (fun _ => 0) 0 (x + (14 * y))) 1 wood) 2 wls) 3 0)))) 10 = some (.inl (gI g, 1, .inl mi)) := ((fU_n (by omega)).trans (fU_n (by omega)).symm).trans hm10
  have hm11 : (fU Mn1 30 (.inl (gI g, 7, .inl (upd (upd (upd (upd (fun _ => 0) 0 (x + (14 * y))) 1 wood) 2 wls) 3 0)))) 11 = some (.inl (gI g, 6, .inl co)) := ((fU_n (by omega)).trans (fU_n (by omega)).symm).trans hm11
  have hm12 : (fU Mn1 30 (.inl (gI g, 7, .inl (upd (upd (upd (upd (fun _ => 0) 0 (x + (14 * y))) 1 wood) 2 wls) 3 0)))) 12 = some (.inl (gZ g, 6, .inl as)) := ((fU_n (by omega)).trans (fU_n (by omega)).symm).trans hm12
  have hm13 : (fU Mn1 30 (.inl (gI g, 7, .inl (upd (upd (upd (upd (fun _ => 0) 0 (x + (14 * y))) 1 wood) 2 wls) 3 0)))) 13 = some (.inl (gI g, 140, .inl sp)) := ((fU_n (by omega)).trans (fU_n (by omega)).symm).trans hm13
  have hm14 : (fU Mn1 30 (.inl (gI g, 7, .inl (upd (upd (upd (upd (fun _ => 0) 0 (x + (14 * y))) 1 wood) 2 wls) 3 0)))) 14 = some (.inl (gZ g, 30, .inl ca)) := ((fU_n (by omega)).trans (fU_n (by omega)).symm).trans hm14
  have eS1 : (fU Mn1 30 (.inl (gI g, 7, .inl (upd (upd (upd (upd (fun _ => 0) 0 (x + (14 * y))) 1 wood) 2 wls) 3 0)))) 30 = some (.inl (gI g, 7, .inl (upd (upd (upd (upd (fun _ => 0) 0 (x + (14 * y))) 1 wood) 2 wls) 3 0))) := fU_s
  refine lv_dup hx hb dX6_build_100 rfl ?_
  refine lv_iconst (v := 4) hx hb dX6_build_101 (by decide) ?_
  refine lv_iconst (v := 0) hx hb dX6_build_102 (by decide) ?_
  refine f_adr3 (ad := ad1) (lb := 30) eq1 ?_
  refine f_iast X hw eS1 (by unfold vp_in; decide) dX6_build_103 (fun H locs hw => ?_)
  rw [show (4 : Int32).toNatClampNeg = 4 from rfl] at hw
  have hw : fw g ad1 (fU (fU Mn1 30 (.inl (gI g, 7, .inl (upd (upd (upd (upd (fun _ => 0) 0 (x + (14 * y))) 1 wood) 2 wls) 3 0)))) 30 (.inl (gI g, 7, .inl (upd (upd (upd (upd (upd (fun _ => 0) 0 (x + (14 * y))) 1 wood) 2 wls) 3 0) 4 0)))) s H locs := hw
  rw [fU_U] at hw
  have hMo : (fU Mn1 30 (.inl (gI g, 7, .inl (upd (upd (upd (upd (upd (fun _ => 0) 0 (x + (14 * y))) 1 wood) 2 wls) 3 0) 4 0)))) 5 = some (.inr (7, [.int 0, .int (nI (tHn U)), .int (nI (tPn U)), .int (nI (tEn U)), .ref (ad 6), .ref (ad 7), .ref (ad 8), .ref (ad 9), .ref (ad 10), .ref (ad 11), .ref (ad 12), .ref (ad 13), .ref (ad 14)])) := ((fU_n (by omega)).trans (fU_n (by omega)).symm).trans hMo
  have hm6 : (fU Mn1 30 (.inl (gI g, 7, .inl (upd (upd (upd (upd (upd (fun _ => 0) 0 (x + (14 * y))) 1 wood) 2 wls) 3 0) 4 0)))) 6 = some (.inl (gI g, 6, .inl pcs)) := ((fU_n (by omega)).trans (fU_n (by omega)).symm).trans hm6
  have hm7 : (fU Mn1 30 (.inl (gI g, 7, .inl (upd (upd (upd (upd (upd (fun _ => 0) 0 (x + (14 * y))) 1 wood) 2 wls) 3 0) 4 0)))) 7 = some (.inl (gI g, 6, .inl wa)) := ((fU_n (by omega)).trans (fU_n (by omega)).symm).trans hm7
  have hm8 : (fU Mn1 30 (.inl (gI g, 7, .inl (upd (upd (upd (upd (upd (fun _ => 0) 0 (x + (14 * y))) 1 wood) 2 wls) 3 0) 4 0)))) 8 = some (.inl (gI g, 210, .inl ht)) := ((fU_n (by omega)).trans (fU_n (by omega)).symm).trans hm8
  have hm9 : (fU Mn1 30 (.inl (gI g, 7, .inl (upd (upd (upd (upd (upd (fun _ => 0) 0 (x + (14 * y))) 1 wood) 2 wls) 3 0) 4 0)))) 9 = some (.inl (gI g, 54, .inl et)) := ((fU_n (by omega)).trans (fU_n (by omega)).symm).trans hm9
  have hm10 : (fU Mn1 30 (.inl (gI g, 7, .inl (upd (upd (upd (upd (upd (fun _ => 0) 0 (x + (14 * y))) 1 wood) 2 wls) 3 0) 4 0)))) 10 = some (.inl (gI g, 1, .inl mi)) := ((fU_n (by omega)).trans (fU_n (by omega)).symm).trans hm10
  have hm11 : (fU Mn1 30 (.inl (gI g, 7, .inl (upd (upd (upd (upd (upd (fun _ => 0) 0 (x + (14 * y))) 1 wood) 2 wls) 3 0) 4 0)))) 11 = some (.inl (gI g, 6, .inl co)) := ((fU_n (by omega)).trans (fU_n (by omega)).symm).trans hm11
  have hm12 : (fU Mn1 30 (.inl (gI g, 7, .inl (upd (upd (upd (upd (upd (fun _ => 0) 0 (x + (14 * y))) 1 wood) 2 wls) 3 0) 4 0)))) 12 = some (.inl (gZ g, 6, .inl as)) := ((fU_n (by omega)).trans (fU_n (by omega)).symm).trans hm12
  have hm13 : (fU Mn1 30 (.inl (gI g, 7, .inl (upd (upd (upd (upd (upd (fun _ => 0) 0 (x + (14 * y))) 1 wood) 2 wls) 3 0) 4 0)))) 13 = some (.inl (gI g, 140, .inl sp)) := ((fU_n (by omega)).trans (fU_n (by omega)).symm).trans hm13
  have hm14 : (fU Mn1 30 (.inl (gI g, 7, .inl (upd (upd (upd (upd (upd (fun _ => 0) 0 (x + (14 * y))) 1 wood) 2 wls) 3 0) 4 0)))) 14 = some (.inl (gZ g, 30, .inl ca)) := ((fU_n (by omega)).trans (fU_n (by omega)).symm).trans hm14
  have eS1 : (fU Mn1 30 (.inl (gI g, 7, .inl (upd (upd (upd (upd (upd (fun _ => 0) 0 (x + (14 * y))) 1 wood) 2 wls) 3 0) 4 0)))) 30 = some (.inl (gI g, 7, .inl (upd (upd (upd (upd (upd (fun _ => 0) 0 (x + (14 * y))) 1 wood) 2 wls) 3 0) 4 0))) := fU_s
  refine lv_dup hx hb dX6_build_104 rfl ?_
  refine lv_iconst (v := 5) hx hb dX6_build_105 (by decide) ?_
  refine lv_iconst (v := 0) hx hb dX6_build_106 (by decide) ?_
  refine f_adr3 (ad := ad1) (lb := 30) eq1 ?_
  refine f_iast X hw eS1 (by unfold vp_in; decide) dX6_build_107 (fun H locs hw => ?_)
  rw [show (5 : Int32).toNatClampNeg = 5 from rfl] at hw
  have hw : fw g ad1 (fU (fU Mn1 30 (.inl (gI g, 7, .inl (upd (upd (upd (upd (upd (fun _ => 0) 0 (x + (14 * y))) 1 wood) 2 wls) 3 0) 4 0)))) 30 (.inl (gI g, 7, .inl (upd (upd (upd (upd (upd (upd (fun _ => 0) 0 (x + (14 * y))) 1 wood) 2 wls) 3 0) 4 0) 5 0)))) s H locs := hw
  rw [fU_U] at hw
  have hMo : (fU Mn1 30 (.inl (gI g, 7, .inl (upd (upd (upd (upd (upd (upd (fun _ => 0) 0 (x + (14 * y))) 1 wood) 2 wls) 3 0) 4 0) 5 0)))) 5 = some (.inr (7, [.int 0, .int (nI (tHn U)), .int (nI (tPn U)), .int (nI (tEn U)), .ref (ad 6), .ref (ad 7), .ref (ad 8), .ref (ad 9), .ref (ad 10), .ref (ad 11), .ref (ad 12), .ref (ad 13), .ref (ad 14)])) := ((fU_n (by omega)).trans (fU_n (by omega)).symm).trans hMo
  have hm6 : (fU Mn1 30 (.inl (gI g, 7, .inl (upd (upd (upd (upd (upd (upd (fun _ => 0) 0 (x + (14 * y))) 1 wood) 2 wls) 3 0) 4 0) 5 0)))) 6 = some (.inl (gI g, 6, .inl pcs)) := ((fU_n (by omega)).trans (fU_n (by omega)).symm).trans hm6
  have hm7 : (fU Mn1 30 (.inl (gI g, 7, .inl (upd (upd (upd (upd (upd (upd (fun _ => 0) 0 (x + (14 * y))) 1 wood) 2 wls) 3 0) 4 0) 5 0)))) 7 = some (.inl (gI g, 6, .inl wa)) := ((fU_n (by omega)).trans (fU_n (by omega)).symm).trans hm7
  have hm8 : (fU Mn1 30 (.inl (gI g, 7, .inl (upd (upd (upd (upd (upd (upd (fun _ => 0) 0 (x + (14 * y))) 1 wood) 2 wls) 3 0) 4 0) 5 0)))) 8 = some (.inl (gI g, 210, .inl ht)) := ((fU_n (by omega)).trans (fU_n (by omega)).symm).trans hm8
  have hm9 : (fU Mn1 30 (.inl (gI g, 7, .inl (upd (upd (upd (upd (upd (upd (fun _ => 0) 0 (x + (14 * y))) 1 wood) 2 wls) 3 0) 4 0) 5 0)))) 9 = some (.inl (gI g, 54, .inl et)) := ((fU_n (by omega)).trans (fU_n (by omega)).symm).trans hm9
  have hm10 : (fU Mn1 30 (.inl (gI g, 7, .inl (upd (upd (upd (upd (upd (upd (fun _ => 0) 0 (x + (14 * y))) 1 wood) 2 wls) 3 0) 4 0) 5 0)))) 10 = some (.inl (gI g, 1, .inl mi)) := ((fU_n (by omega)).trans (fU_n (by omega)).symm).trans hm10
  have hm11 : (fU Mn1 30 (.inl (gI g, 7, .inl (upd (upd (upd (upd (upd (upd (fun _ => 0) 0 (x + (14 * y))) 1 wood) 2 wls) 3 0) 4 0) 5 0)))) 11 = some (.inl (gI g, 6, .inl co)) := ((fU_n (by omega)).trans (fU_n (by omega)).symm).trans hm11
  have hm12 : (fU Mn1 30 (.inl (gI g, 7, .inl (upd (upd (upd (upd (upd (upd (fun _ => 0) 0 (x + (14 * y))) 1 wood) 2 wls) 3 0) 4 0) 5 0)))) 12 = some (.inl (gZ g, 6, .inl as)) := ((fU_n (by omega)).trans (fU_n (by omega)).symm).trans hm12
  have hm13 : (fU Mn1 30 (.inl (gI g, 7, .inl (upd (upd (upd (upd (upd (upd (fun _ => 0) 0 (x + (14 * y))) 1 wood) 2 wls) 3 0) 4 0) 5 0)))) 13 = some (.inl (gI g, 140, .inl sp)) := ((fU_n (by omega)).trans (fU_n (by omega)).symm).trans hm13
  have hm14 : (fU Mn1 30 (.inl (gI g, 7, .inl (upd (upd (upd (upd (upd (upd (fun _ => 0) 0 (x + (14 * y))) 1 wood) 2 wls) 3 0) 4 0) 5 0)))) 14 = some (.inl (gZ g, 30, .inl ca)) := ((fU_n (by omega)).trans (fU_n (by omega)).symm).trans hm14
  have eS1 : (fU Mn1 30 (.inl (gI g, 7, .inl (upd (upd (upd (upd (upd (upd (fun _ => 0) 0 (x + (14 * y))) 1 wood) 2 wls) 3 0) 4 0) 5 0)))) 30 = some (.inl (gI g, 7, .inl (upd (upd (upd (upd (upd (upd (fun _ => 0) 0 (x + (14 * y))) 1 wood) 2 wls) 3 0) 4 0) 5 0))) := fU_s
  refine lv_dup hx hb dX6_build_108 rfl ?_
  refine lv_bipush (v := 6) hx hb dX6_build_109 (by decide) ?_
  refine lv_iconst (v := 0) hx hb dX6_build_111 (by decide) ?_
  refine f_adr3 (ad := ad1) (lb := 30) eq1 ?_
  refine f_iast X hw eS1 (by unfold vp_in; decide) dX6_build_112 (fun H locs hw => ?_)
  rw [show (6 : Int32).toNatClampNeg = 6 from rfl] at hw
  have hw : fw g ad1 (fU (fU Mn1 30 (.inl (gI g, 7, .inl (upd (upd (upd (upd (upd (upd (fun _ => 0) 0 (x + (14 * y))) 1 wood) 2 wls) 3 0) 4 0) 5 0)))) 30 (.inl (gI g, 7, .inl (upd (upd (upd (upd (upd (upd (upd (fun _ => 0) 0 (x + (14 * y))) 1 wood) 2 wls) 3 0) 4 0) 5 0) 6 0)))) s H locs := hw
  rw [fU_U] at hw
  have hMo : (fU Mn1 30 (.inl (gI g, 7, .inl (upd (upd (upd (upd (upd (upd (upd (fun _ => 0) 0 (x + (14 * y))) 1 wood) 2 wls) 3 0) 4 0) 5 0) 6 0)))) 5 = some (.inr (7, [.int 0, .int (nI (tHn U)), .int (nI (tPn U)), .int (nI (tEn U)), .ref (ad 6), .ref (ad 7), .ref (ad 8), .ref (ad 9), .ref (ad 10), .ref (ad 11), .ref (ad 12), .ref (ad 13), .ref (ad 14)])) := ((fU_n (by omega)).trans (fU_n (by omega)).symm).trans hMo
  have hm6 : (fU Mn1 30 (.inl (gI g, 7, .inl (upd (upd (upd (upd (upd (upd (upd (fun _ => 0) 0 (x + (14 * y))) 1 wood) 2 wls) 3 0) 4 0) 5 0) 6 0)))) 6 = some (.inl (gI g, 6, .inl pcs)) := ((fU_n (by omega)).trans (fU_n (by omega)).symm).trans hm6
  have hm7 : (fU Mn1 30 (.inl (gI g, 7, .inl (upd (upd (upd (upd (upd (upd (upd (fun _ => 0) 0 (x + (14 * y))) 1 wood) 2 wls) 3 0) 4 0) 5 0) 6 0)))) 7 = some (.inl (gI g, 6, .inl wa)) := ((fU_n (by omega)).trans (fU_n (by omega)).symm).trans hm7
  have hm8 : (fU Mn1 30 (.inl (gI g, 7, .inl (upd (upd (upd (upd (upd (upd (upd (fun _ => 0) 0 (x + (14 * y))) 1 wood) 2 wls) 3 0) 4 0) 5 0) 6 0)))) 8 = some (.inl (gI g, 210, .inl ht)) := ((fU_n (by omega)).trans (fU_n (by omega)).symm).trans hm8
  have hm9 : (fU Mn1 30 (.inl (gI g, 7, .inl (upd (upd (upd (upd (upd (upd (upd (fun _ => 0) 0 (x + (14 * y))) 1 wood) 2 wls) 3 0) 4 0) 5 0) 6 0)))) 9 = some (.inl (gI g, 54, .inl et)) := ((fU_n (by omega)).trans (fU_n (by omega)).symm).trans hm9
  have hm10 : (fU Mn1 30 (.inl (gI g, 7, .inl (upd (upd (upd (upd (upd (upd (upd (fun _ => 0) 0 (x + (14 * y))) 1 wood) 2 wls) 3 0) 4 0) 5 0) 6 0)))) 10 = some (.inl (gI g, 1, .inl mi)) := ((fU_n (by omega)).trans (fU_n (by omega)).symm).trans hm10
  have hm11 : (fU Mn1 30 (.inl (gI g, 7, .inl (upd (upd (upd (upd (upd (upd (upd (fun _ => 0) 0 (x + (14 * y))) 1 wood) 2 wls) 3 0) 4 0) 5 0) 6 0)))) 11 = some (.inl (gI g, 6, .inl co)) := ((fU_n (by omega)).trans (fU_n (by omega)).symm).trans hm11
  have hm12 : (fU Mn1 30 (.inl (gI g, 7, .inl (upd (upd (upd (upd (upd (upd (upd (fun _ => 0) 0 (x + (14 * y))) 1 wood) 2 wls) 3 0) 4 0) 5 0) 6 0)))) 12 = some (.inl (gZ g, 6, .inl as)) := ((fU_n (by omega)).trans (fU_n (by omega)).symm).trans hm12
  have hm13 : (fU Mn1 30 (.inl (gI g, 7, .inl (upd (upd (upd (upd (upd (upd (upd (fun _ => 0) 0 (x + (14 * y))) 1 wood) 2 wls) 3 0) 4 0) 5 0) 6 0)))) 13 = some (.inl (gI g, 140, .inl sp)) := ((fU_n (by omega)).trans (fU_n (by omega)).symm).trans hm13
  have hm14 : (fU Mn1 30 (.inl (gI g, 7, .inl (upd (upd (upd (upd (upd (upd (upd (fun _ => 0) 0 (x + (14 * y))) 1 wood) 2 wls) 3 0) 4 0) 5 0) 6 0)))) 14 = some (.inl (gZ g, 30, .inl ca)) := ((fU_n (by omega)).trans (fU_n (by omega)).symm).trans hm14
  have eS1 : (fU Mn1 30 (.inl (gI g, 7, .inl (upd (upd (upd (upd (upd (upd (upd (fun _ => 0) 0 (x + (14 * y))) 1 wood) 2 wls) 3 0) 4 0) 5 0) 6 0)))) 30 = some (.inl (gI g, 7, .inl (upd (upd (upd (upd (upd (upd (upd (fun _ => 0) 0 (x + (14 * y))) 1 wood) 2 wls) 3 0) 4 0) 5 0) 6 0))) := fU_s
  refine lv_astore (lv' := [(5, .ref q1), (0, .ref (ad 5)), (1, .int x), (2, .int y), (3, .int wood), (4, .int wls)]) hx hb dX6_build_113 hl (by decide) rfl (fun ls hl => ?_)
  refine lv_aload hx hb dX6_build_115 (lv_at hl 0 rfl) ?_
  refine lv_iconst (v := 0) hx hb dX6_build_117 (by decide) ?_
  refine lv_aload_n hx hb dX6_build_118 rfl (lv_at hl 1 rfl) ?_
  refine f_adr (ad := ad1) (lb := 5) (eA1 5 (by omega)) ?_
  refine f_get X hw hMo fc7 6 (by decide) wq800 rfl (v := .ref (ad 8)) rfl dX6_build_119 ?_
  refine lv_bipush (v := 7) hx hb dX6_build_122 (by decide) ?_
  refine lv_aload_n hx hb dX6_build_124 rfl (lv_at hl 1 rfl) ?_
  refine f_adr (ad := ad1) (lb := 5) (eA1 5 (by omega)) ?_
  refine f_get X hw hMo fc7 1 (by decide) wq795 rfl (v := .int (nI (tHn U))) rfl dX6_build_125 ?_
  refine lv_imul hx hb dX6_build_128 ?_
  refine lv_bipush (v := 7) hx hb dX6_build_129 (by decide) ?_
  refine f_top (y := nI 7) rfl ?_
  refine f_top2 (y := nI (7 * tHn U)) ix70 ?_
  refine f_adr3 (ad := ad1) (lb := 8) (eA1 8 (by omega)) ?_
  refine f_adr5 (ad := ad1) (lb := 30) eq1 ?_
  refine f_copyI X hl.1 hw (k := 7) (dp := 7 * tHn U) eS1 hm8 wq877 wq208 wq207 wq20 (by omega) (by omega) (by omega) (by omega) (Nat.le_of_ble_eq_true rfl) (Nat.le_of_ble_eq_true rfl) dX6_build_131 (fun H locs hw => ?_)
  have hw : fw g ad1 (fU (fU Mn1 30 (.inl (gI g, 7, .inl (upd (upd (upd (upd (upd (upd (upd (fun _ => 0) 0 (x + (14 * y))) 1 wood) 2 wls) 3 0) 4 0) 5 0) 6 0)))) 8 (.inl (gI g, 210, .inl (va_cpy (upd (upd (upd (upd (upd (upd (upd (fun _ => 0) 0 (x + (14 * y))) 1 wood) 2 wls) 3 0) 4 0) 5 0) 6 0) ht 0 (7 * tHn U) 7)))) s H locs := hw
  have hMo : (fU (fU Mn1 30 (.inl (gI g, 7, .inl (upd (upd (upd (upd (upd (upd (upd (fun _ => 0) 0 (x + (14 * y))) 1 wood) 2 wls) 3 0) 4 0) 5 0) 6 0)))) 8 (.inl (gI g, 210, .inl (va_cpy (upd (upd (upd (upd (upd (upd (upd (fun _ => 0) 0 (x + (14 * y))) 1 wood) 2 wls) 3 0) 4 0) 5 0) 6 0) ht 0 (7 * tHn U) 7)))) 5 = some (.inr (7, [.int 0, .int (nI (tHn U)), .int (nI (tPn U)), .int (nI (tEn U)), .ref (ad 6), .ref (ad 7), .ref (ad 8), .ref (ad 9), .ref (ad 10), .ref (ad 11), .ref (ad 12), .ref (ad 13), .ref (ad 14)])) := (fU_n (by omega)).trans hMo
  have hm6 : (fU (fU Mn1 30 (.inl (gI g, 7, .inl (upd (upd (upd (upd (upd (upd (upd (fun _ => 0) 0 (x + (14 * y))) 1 wood) 2 wls) 3 0) 4 0) 5 0) 6 0)))) 8 (.inl (gI g, 210, .inl (va_cpy (upd (upd (upd (upd (upd (upd (upd (fun _ => 0) 0 (x + (14 * y))) 1 wood) 2 wls) 3 0) 4 0) 5 0) 6 0) ht 0 (7 * tHn U) 7)))) 6 = some (.inl (gI g, 6, .inl pcs)) := (fU_n (by omega)).trans hm6
  have hm7 : (fU (fU Mn1 30 (.inl (gI g, 7, .inl (upd (upd (upd (upd (upd (upd (upd (fun _ => 0) 0 (x + (14 * y))) 1 wood) 2 wls) 3 0) 4 0) 5 0) 6 0)))) 8 (.inl (gI g, 210, .inl (va_cpy (upd (upd (upd (upd (upd (upd (upd (fun _ => 0) 0 (x + (14 * y))) 1 wood) 2 wls) 3 0) 4 0) 5 0) 6 0) ht 0 (7 * tHn U) 7)))) 7 = some (.inl (gI g, 6, .inl wa)) := (fU_n (by omega)).trans hm7
  have hm9 : (fU (fU Mn1 30 (.inl (gI g, 7, .inl (upd (upd (upd (upd (upd (upd (upd (fun _ => 0) 0 (x + (14 * y))) 1 wood) 2 wls) 3 0) 4 0) 5 0) 6 0)))) 8 (.inl (gI g, 210, .inl (va_cpy (upd (upd (upd (upd (upd (upd (upd (fun _ => 0) 0 (x + (14 * y))) 1 wood) 2 wls) 3 0) 4 0) 5 0) 6 0) ht 0 (7 * tHn U) 7)))) 9 = some (.inl (gI g, 54, .inl et)) := (fU_n (by omega)).trans hm9
  have hm10 : (fU (fU Mn1 30 (.inl (gI g, 7, .inl (upd (upd (upd (upd (upd (upd (upd (fun _ => 0) 0 (x + (14 * y))) 1 wood) 2 wls) 3 0) 4 0) 5 0) 6 0)))) 8 (.inl (gI g, 210, .inl (va_cpy (upd (upd (upd (upd (upd (upd (upd (fun _ => 0) 0 (x + (14 * y))) 1 wood) 2 wls) 3 0) 4 0) 5 0) 6 0) ht 0 (7 * tHn U) 7)))) 10 = some (.inl (gI g, 1, .inl mi)) := (fU_n (by omega)).trans hm10
  have hm11 : (fU (fU Mn1 30 (.inl (gI g, 7, .inl (upd (upd (upd (upd (upd (upd (upd (fun _ => 0) 0 (x + (14 * y))) 1 wood) 2 wls) 3 0) 4 0) 5 0) 6 0)))) 8 (.inl (gI g, 210, .inl (va_cpy (upd (upd (upd (upd (upd (upd (upd (fun _ => 0) 0 (x + (14 * y))) 1 wood) 2 wls) 3 0) 4 0) 5 0) 6 0) ht 0 (7 * tHn U) 7)))) 11 = some (.inl (gI g, 6, .inl co)) := (fU_n (by omega)).trans hm11
  have hm12 : (fU (fU Mn1 30 (.inl (gI g, 7, .inl (upd (upd (upd (upd (upd (upd (upd (fun _ => 0) 0 (x + (14 * y))) 1 wood) 2 wls) 3 0) 4 0) 5 0) 6 0)))) 8 (.inl (gI g, 210, .inl (va_cpy (upd (upd (upd (upd (upd (upd (upd (fun _ => 0) 0 (x + (14 * y))) 1 wood) 2 wls) 3 0) 4 0) 5 0) 6 0) ht 0 (7 * tHn U) 7)))) 12 = some (.inl (gZ g, 6, .inl as)) := (fU_n (by omega)).trans hm12
  have hm13 : (fU (fU Mn1 30 (.inl (gI g, 7, .inl (upd (upd (upd (upd (upd (upd (upd (fun _ => 0) 0 (x + (14 * y))) 1 wood) 2 wls) 3 0) 4 0) 5 0) 6 0)))) 8 (.inl (gI g, 210, .inl (va_cpy (upd (upd (upd (upd (upd (upd (upd (fun _ => 0) 0 (x + (14 * y))) 1 wood) 2 wls) 3 0) 4 0) 5 0) 6 0) ht 0 (7 * tHn U) 7)))) 13 = some (.inl (gI g, 140, .inl sp)) := (fU_n (by omega)).trans hm13
  have hm14 : (fU (fU Mn1 30 (.inl (gI g, 7, .inl (upd (upd (upd (upd (upd (upd (upd (fun _ => 0) 0 (x + (14 * y))) 1 wood) 2 wls) 3 0) 4 0) 5 0) 6 0)))) 8 (.inl (gI g, 210, .inl (va_cpy (upd (upd (upd (upd (upd (upd (upd (fun _ => 0) 0 (x + (14 * y))) 1 wood) 2 wls) 3 0) 4 0) 5 0) 6 0) ht 0 (7 * tHn U) 7)))) 14 = some (.inl (gZ g, 30, .inl ca)) := (fU_n (by omega)).trans hm14
  have eS1 : (fU (fU Mn1 30 (.inl (gI g, 7, .inl (upd (upd (upd (upd (upd (upd (upd (fun _ => 0) 0 (x + (14 * y))) 1 wood) 2 wls) 3 0) 4 0) 5 0) 6 0)))) 8 (.inl (gI g, 210, .inl (va_cpy (upd (upd (upd (upd (upd (upd (upd (fun _ => 0) 0 (x + (14 * y))) 1 wood) 2 wls) 3 0) 4 0) 5 0) 6 0) ht 0 (7 * tHn U) 7)))) 30 = some (.inl (gI g, 7, .inl (upd (upd (upd (upd (upd (upd (upd (fun _ => 0) 0 (x + (14 * y))) 1 wood) 2 wls) 3 0) 4 0) 5 0) 6 0))) := (fU_n (by omega)).trans eS1
  have hm8 : (fU (fU Mn1 30 (.inl (gI g, 7, .inl (upd (upd (upd (upd (upd (upd (upd (fun _ => 0) 0 (x + (14 * y))) 1 wood) 2 wls) 3 0) 4 0) 5 0) 6 0)))) 8 (.inl (gI g, 210, .inl (va_cpy (upd (upd (upd (upd (upd (upd (upd (fun _ => 0) 0 (x + (14 * y))) 1 wood) 2 wls) 3 0) 4 0) 5 0) 6 0) ht 0 (7 * tHn U) 7)))) 8 = some (.inl (gI g, 210, .inl (va_cpy (upd (upd (upd (upd (upd (upd (upd (fun _ => 0) 0 (x + (14 * y))) 1 wood) 2 wls) 3 0) 4 0) 5 0) 6 0) ht 0 (7 * tHn U) 7))) := fU_s
  refine lv_aload_n hx hb dX6_build_134 rfl (lv_at hl 1 rfl) ?_
  refine lv_dup hx hb dX6_build_135 rfl ?_
  refine f_adr (ad := ad1) (lb := 5) (eA1 5 (by omega)) ?_
  refine f_get X hw hMo fc7 1 (by decide) wq795 rfl (v := .int (nI (tHn U))) rfl dX6_build_136 ?_
  refine lv_iconst (v := 1) hx hb dX6_build_139 (by decide) ?_
  refine lv_iadd hx hb dX6_build_140 ?_
  refine f_top (y := nI (tHn U + 1)) (nI_1 (tHn U)) ?_
  refine f_adr2 (ad := ad1) (lb := 5) (eA1 5 (by omega)) ?_
  refine f_put X hw hMo fc7 1 (by decide) wq795 rfl rfl (v := .int (nI (tHn U + 1))) rfl rfl (Nat.le_of_ble_eq_true rfl) dX6_build_141 (fun H locs hw => ?_)
  have hw : fw g ad1 (fU (fU (fU Mn1 30 (.inl (gI g, 7, .inl (upd (upd (upd (upd (upd (upd (upd (fun _ => 0) 0 (x + (14 * y))) 1 wood) 2 wls) 3 0) 4 0) 5 0) 6 0)))) 8 (.inl (gI g, 210, .inl (va_cpy (upd (upd (upd (upd (upd (upd (upd (fun _ => 0) 0 (x + (14 * y))) 1 wood) 2 wls) 3 0) 4 0) 5 0) 6 0) ht 0 (7 * tHn U) 7)))) 5 (.inr (7, [.int 0, .int (nI (tHn U + 1)), .int (nI (tPn U)), .int (nI (tEn U)), .ref (ad 6), .ref (ad 7), .ref (ad 8), .ref (ad 9), .ref (ad 10), .ref (ad 11), .ref (ad 12), .ref (ad 13), .ref (ad 14)]))) s H locs := hw
  have hm6 : (fU (fU (fU Mn1 30 (.inl (gI g, 7, .inl (upd (upd (upd (upd (upd (upd (upd (fun _ => 0) 0 (x + (14 * y))) 1 wood) 2 wls) 3 0) 4 0) 5 0) 6 0)))) 8 (.inl (gI g, 210, .inl (va_cpy (upd (upd (upd (upd (upd (upd (upd (fun _ => 0) 0 (x + (14 * y))) 1 wood) 2 wls) 3 0) 4 0) 5 0) 6 0) ht 0 (7 * tHn U) 7)))) 5 (.inr (7, [.int 0, .int (nI (tHn U + 1)), .int (nI (tPn U)), .int (nI (tEn U)), .ref (ad 6), .ref (ad 7), .ref (ad 8), .ref (ad 9), .ref (ad 10), .ref (ad 11), .ref (ad 12), .ref (ad 13), .ref (ad 14)]))) 6 = some (.inl (gI g, 6, .inl pcs)) := (fU_n (by omega)).trans hm6
  have hm7 : (fU (fU (fU Mn1 30 (.inl (gI g, 7, .inl (upd (upd (upd (upd (upd (upd (upd (fun _ => 0) 0 (x + (14 * y))) 1 wood) 2 wls) 3 0) 4 0) 5 0) 6 0)))) 8 (.inl (gI g, 210, .inl (va_cpy (upd (upd (upd (upd (upd (upd (upd (fun _ => 0) 0 (x + (14 * y))) 1 wood) 2 wls) 3 0) 4 0) 5 0) 6 0) ht 0 (7 * tHn U) 7)))) 5 (.inr (7, [.int 0, .int (nI (tHn U + 1)), .int (nI (tPn U)), .int (nI (tEn U)), .ref (ad 6), .ref (ad 7), .ref (ad 8), .ref (ad 9), .ref (ad 10), .ref (ad 11), .ref (ad 12), .ref (ad 13), .ref (ad 14)]))) 7 = some (.inl (gI g, 6, .inl wa)) := (fU_n (by omega)).trans hm7
  have hm8 : (fU (fU (fU Mn1 30 (.inl (gI g, 7, .inl (upd (upd (upd (upd (upd (upd (upd (fun _ => 0) 0 (x + (14 * y))) 1 wood) 2 wls) 3 0) 4 0) 5 0) 6 0)))) 8 (.inl (gI g, 210, .inl (va_cpy (upd (upd (upd (upd (upd (upd (upd (fun _ => 0) 0 (x + (14 * y))) 1 wood) 2 wls) 3 0) 4 0) 5 0) 6 0) ht 0 (7 * tHn U) 7)))) 5 (.inr (7, [.int 0, .int (nI (tHn U + 1)), .int (nI (tPn U)), .int (nI (tEn U)), .ref (ad 6), .ref (ad 7), .ref (ad 8), .ref (ad 9), .ref (ad 10), .ref (ad 11), .ref (ad 12), .ref (ad 13), .ref (ad 14)]))) 8 = some (.inl (gI g, 210, .inl (va_cpy (upd (upd (upd (upd (upd (upd (upd (fun _ => 0) 0 (x + (14 * y))) 1 wood) 2 wls) 3 0) 4 0) 5 0) 6 0) ht 0 (7 * tHn U) 7))) := (fU_n (by omega)).trans hm8
  have hm9 : (fU (fU (fU Mn1 30 (.inl (gI g, 7, .inl (upd (upd (upd (upd (upd (upd (upd (fun _ => 0) 0 (x + (14 * y))) 1 wood) 2 wls) 3 0) 4 0) 5 0) 6 0)))) 8 (.inl (gI g, 210, .inl (va_cpy (upd (upd (upd (upd (upd (upd (upd (fun _ => 0) 0 (x + (14 * y))) 1 wood) 2 wls) 3 0) 4 0) 5 0) 6 0) ht 0 (7 * tHn U) 7)))) 5 (.inr (7, [.int 0, .int (nI (tHn U + 1)), .int (nI (tPn U)), .int (nI (tEn U)), .ref (ad 6), .ref (ad 7), .ref (ad 8), .ref (ad 9), .ref (ad 10), .ref (ad 11), .ref (ad 12), .ref (ad 13), .ref (ad 14)]))) 9 = some (.inl (gI g, 54, .inl et)) := (fU_n (by omega)).trans hm9
  have hm10 : (fU (fU (fU Mn1 30 (.inl (gI g, 7, .inl (upd (upd (upd (upd (upd (upd (upd (fun _ => 0) 0 (x + (14 * y))) 1 wood) 2 wls) 3 0) 4 0) 5 0) 6 0)))) 8 (.inl (gI g, 210, .inl (va_cpy (upd (upd (upd (upd (upd (upd (upd (fun _ => 0) 0 (x + (14 * y))) 1 wood) 2 wls) 3 0) 4 0) 5 0) 6 0) ht 0 (7 * tHn U) 7)))) 5 (.inr (7, [.int 0, .int (nI (tHn U + 1)), .int (nI (tPn U)), .int (nI (tEn U)), .ref (ad 6), .ref (ad 7), .ref (ad 8), .ref (ad 9), .ref (ad 10), .ref (ad 11), .ref (ad 12), .ref (ad 13), .ref (ad 14)]))) 10 = some (.inl (gI g, 1, .inl mi)) := (fU_n (by omega)).trans hm10
  have hm11 : (fU (fU (fU Mn1 30 (.inl (gI g, 7, .inl (upd (upd (upd (upd (upd (upd (upd (fun _ => 0) 0 (x + (14 * y))) 1 wood) 2 wls) 3 0) 4 0) 5 0) 6 0)))) 8 (.inl (gI g, 210, .inl (va_cpy (upd (upd (upd (upd (upd (upd (upd (fun _ => 0) 0 (x + (14 * y))) 1 wood) 2 wls) 3 0) 4 0) 5 0) 6 0) ht 0 (7 * tHn U) 7)))) 5 (.inr (7, [.int 0, .int (nI (tHn U + 1)), .int (nI (tPn U)), .int (nI (tEn U)), .ref (ad 6), .ref (ad 7), .ref (ad 8), .ref (ad 9), .ref (ad 10), .ref (ad 11), .ref (ad 12), .ref (ad 13), .ref (ad 14)]))) 11 = some (.inl (gI g, 6, .inl co)) := (fU_n (by omega)).trans hm11
  have hm12 : (fU (fU (fU Mn1 30 (.inl (gI g, 7, .inl (upd (upd (upd (upd (upd (upd (upd (fun _ => 0) 0 (x + (14 * y))) 1 wood) 2 wls) 3 0) 4 0) 5 0) 6 0)))) 8 (.inl (gI g, 210, .inl (va_cpy (upd (upd (upd (upd (upd (upd (upd (fun _ => 0) 0 (x + (14 * y))) 1 wood) 2 wls) 3 0) 4 0) 5 0) 6 0) ht 0 (7 * tHn U) 7)))) 5 (.inr (7, [.int 0, .int (nI (tHn U + 1)), .int (nI (tPn U)), .int (nI (tEn U)), .ref (ad 6), .ref (ad 7), .ref (ad 8), .ref (ad 9), .ref (ad 10), .ref (ad 11), .ref (ad 12), .ref (ad 13), .ref (ad 14)]))) 12 = some (.inl (gZ g, 6, .inl as)) := (fU_n (by omega)).trans hm12
  have hm13 : (fU (fU (fU Mn1 30 (.inl (gI g, 7, .inl (upd (upd (upd (upd (upd (upd (upd (fun _ => 0) 0 (x + (14 * y))) 1 wood) 2 wls) 3 0) 4 0) 5 0) 6 0)))) 8 (.inl (gI g, 210, .inl (va_cpy (upd (upd (upd (upd (upd (upd (upd (fun _ => 0) 0 (x + (14 * y))) 1 wood) 2 wls) 3 0) 4 0) 5 0) 6 0) ht 0 (7 * tHn U) 7)))) 5 (.inr (7, [.int 0, .int (nI (tHn U + 1)), .int (nI (tPn U)), .int (nI (tEn U)), .ref (ad 6), .ref (ad 7), .ref (ad 8), .ref (ad 9), .ref (ad 10), .ref (ad 11), .ref (ad 12), .ref (ad 13), .ref (ad 14)]))) 13 = some (.inl (gI g, 140, .inl sp)) := (fU_n (by omega)).trans hm13
  have hm14 : (fU (fU (fU Mn1 30 (.inl (gI g, 7, .inl (upd (upd (upd (upd (upd (upd (upd (fun _ => 0) 0 (x + (14 * y))) 1 wood) 2 wls) 3 0) 4 0) 5 0) 6 0)))) 8 (.inl (gI g, 210, .inl (va_cpy (upd (upd (upd (upd (upd (upd (upd (fun _ => 0) 0 (x + (14 * y))) 1 wood) 2 wls) 3 0) 4 0) 5 0) 6 0) ht 0 (7 * tHn U) 7)))) 5 (.inr (7, [.int 0, .int (nI (tHn U + 1)), .int (nI (tPn U)), .int (nI (tEn U)), .ref (ad 6), .ref (ad 7), .ref (ad 8), .ref (ad 9), .ref (ad 10), .ref (ad 11), .ref (ad 12), .ref (ad 13), .ref (ad 14)]))) 14 = some (.inl (gZ g, 30, .inl ca)) := (fU_n (by omega)).trans hm14
  have eS1 : (fU (fU (fU Mn1 30 (.inl (gI g, 7, .inl (upd (upd (upd (upd (upd (upd (upd (fun _ => 0) 0 (x + (14 * y))) 1 wood) 2 wls) 3 0) 4 0) 5 0) 6 0)))) 8 (.inl (gI g, 210, .inl (va_cpy (upd (upd (upd (upd (upd (upd (upd (fun _ => 0) 0 (x + (14 * y))) 1 wood) 2 wls) 3 0) 4 0) 5 0) 6 0) ht 0 (7 * tHn U) 7)))) 5 (.inr (7, [.int 0, .int (nI (tHn U + 1)), .int (nI (tPn U)), .int (nI (tEn U)), .ref (ad 6), .ref (ad 7), .ref (ad 8), .ref (ad 9), .ref (ad 10), .ref (ad 11), .ref (ad 12), .ref (ad 13), .ref (ad 14)]))) 30 = some (.inl (gI g, 7, .inl (upd (upd (upd (upd (upd (upd (upd (fun _ => 0) 0 (x + (14 * y))) 1 wood) 2 wls) 3 0) 4 0) 5 0) 6 0))) := (fU_n (by omega)).trans eS1
  have hMo : (fU (fU (fU Mn1 30 (.inl (gI g, 7, .inl (upd (upd (upd (upd (upd (upd (upd (fun _ => 0) 0 (x + (14 * y))) 1 wood) 2 wls) 3 0) 4 0) 5 0) 6 0)))) 8 (.inl (gI g, 210, .inl (va_cpy (upd (upd (upd (upd (upd (upd (upd (fun _ => 0) 0 (x + (14 * y))) 1 wood) 2 wls) 3 0) 4 0) 5 0) 6 0) ht 0 (7 * tHn U) 7)))) 5 (.inr (7, [.int 0, .int (nI (tHn U + 1)), .int (nI (tPn U)), .int (nI (tEn U)), .ref (ad 6), .ref (ad 7), .ref (ad 8), .ref (ad 9), .ref (ad 10), .ref (ad 11), .ref (ad 12), .ref (ad 13), .ref (ad 14)]))) 5 = some (.inr (7, [.int 0, .int (nI (tHn U + 1)), .int (nI (tPn U)), .int (nI (tEn U)), .ref (ad 6), .ref (ad 7), .ref (ad 8), .ref (ad 9), .ref (ad 10), .ref (ad 11), .ref (ad 12), .ref (ad 13), .ref (ad 14)])) := fU_s
  refine lv_aload_n hx hb dX6_build_144 rfl (lv_at hl 1 rfl) ?_
  refine f_adr (ad := ad1) (lb := 5) (eA1 5 (by omega)) ?_
  refine f_get X hw hMo fc7 1 (by decide) wq795 rfl (v := .int (nI (tHn U + 1))) rfl dX6_build_145 ?_
  refine lv_iconst (v := 1) hx hb dX6_build_148 (by decide) ?_
  refine lv_isub hx hb dX6_build_149 ?_
  refine f_top (y := nI (tHn U)) (nI_sub1 (by omega)) ?_
  rw [hQ9, ← hMq]
  have hCnt : mCnt (addH U (newH (x + 14 * y) wood wls)) := ⟨(by show tHn U + 1 ≤ 30; omega), hn2, hn3⟩
  have hMz : isMo g ad1 (fU (fU (fU Mn1 30 (.inl (gI g, 7, .inl (upd (upd (upd (upd (upd (upd (upd (fun _ => 0) 0 (x + (14 * y))) 1 wood) 2 wls) 3 0) 4 0) 5 0) 6 0)))) 8 (.inl (gI g, 210, .inl (va_cpy (upd (upd (upd (upd (upd (upd (upd (fun _ => 0) 0 (x + (14 * y))) 1 wood) 2 wls) 3 0) 4 0) 5 0) 6 0) ht 0 (7 * tHn U) 7)))) 5 (.inr (7, [.int 0, .int (nI (tHn U + 1)), .int (nI (tPn U)), .int (nI (tEn U)), .ref (ad 6), .ref (ad 7), .ref (ad 8), .ref (ad 9), .ref (ad 10), .ref (ad 11), .ref (ad 12), .ref (ad 13), .ref (ad 14)]))) 0 (addH U (newH (x + 14 * y) wood wls)) sp ca := ⟨_, _, _, _, _, _, _, (by unfold mObj; rw [hMo]; simp only [eA1 6 (by omega), eA1 7 (by omega), eA1 8 (by omega), eA1 9 (by omega), eA1 10 (by omega), eA1 11 (by omega), eA1 12 (by omega), eA1 13 (by omega), eA1 14 (by omega)]), ⟨hm6, hm7, hm8, hm9, hm10, hm11, hm12, hm13, hm14⟩, mRel_addH hRel (fun k hk => by rcases (show k = 0 ∨ k = 1 ∨ k = 2 ∨ k = 3 ∨ k = 4 ∨ k = 5 ∨ k = 6 by omega) with rfl | rfl | rfl | rfl | rfl | rfl | rfl <;> rfl), hCnt⟩
  refine f_iret X hw ⟨hMz, fun l a b => ⟨eA1 l (by omega), ?_⟩, fun l a => eA1 l a, rfl⟩ (by omega) (by omega) dX6_build_150
  rw [fU_n (show l ≠ 5 by omega), fU_n (show l ≠ 8 by omega), fU_n (show l ≠ 30 by omega), eM1 l (by omega)]
  exact (hrA l (by omega) b).2
theorem mRel_addE {U : fTn} {pcs wa ht et mi co as said : Nat → Int32} {f : Nat → Int32} (h : mRel U pcs wa ht et mi co as) (hs : ∀ k, k < 8 → said k = f k) (h9 : said 8 = f 9) (h8 : f 8 = co (tEn U)) (h10 : f 10 = as (tEn U)) : mRel (addE U f) pcs wa ht (va_cpy said et 0 (9 * tEn U) 9) mi co as := by
  obtain ⟨r1, r2, r3, r4⟩ := h
  refine ⟨r1, r2, fun j hj => ?_, r4⟩
  have hj : j < tEn U + 1 := hj
  show (∀ k, k < 8 → (if 9 * tEn U ≤ 9 * j + k ∧ 9 * j + k < 9 * tEn U + 9 then said (0 + (9 * j + k - 9 * tEn U)) else et (9 * j + k)) = (if j = tEn U then f else tE U j) k) ∧ (if 9 * tEn U ≤ 9 * j + 8 ∧ 9 * j + 8 < 9 * tEn U + 9 then said (0 + (9 * j + 8 - 9 * tEn U)) else et (9 * j + 8)) = (if j = tEn U then f else tE U j) 9 ∧ co j = (if j = tEn U then f else tE U j) 8 ∧ as j = (if j = tEn U then f else tE U j) 10 ∧ True
  by_cases e : j = tEn U
  · rw [if_pos e]
    refine ⟨fun k hk => ?_, ?_, by rw [e]; exact h8.symm, by rw [e]; exact h10.symm, trivial⟩
    · rw [if_pos (by omega), show 0 + (9 * j + k - 9 * tEn U) = k by omega]
      exact hs k hk
    · rw [if_pos (by omega), show 0 + (9 * j + 8 - 9 * tEn U) = 8 by omega]
      exact h9
  · obtain ⟨a1, a2, a3, a4, -⟩ := r3 j (by omega)
    rw [if_neg e]
    refine ⟨fun k hk => ?_, ?_, a3, a4, trivial⟩
    · rw [if_neg (by omega)]; exact a1 k hk
    · rw [if_neg (by omega)]; exact a2
abbrev fMe (g : fG) (ad : Nat → Nat) (M : fM) (U : fTn) (ne : Nat → Int32) (sp ca : Nat → Int32) (v : Int32) : Int32 → (Nat → Nat) → fM → Prop := fun r ad1 M1 => (∃ f : Nat → Int32, (∀ k, k ≠ 8 → k ≠ 10 → f k = ne k) ∧ isMo g ad1 M1 0 (addE U f) sp ca) ∧ fReg 5 31 ad M ad1 M1 ∧ (∀ l, l ≠ 30 → ad1 l = ad l) ∧ r = v
set_option maxHeartbeats 4000000 in
set_option maxRecDepth 100000 in
theorem x_m_addEngine_1 (l : Launch) (g : fG) (ad : Nat → Nat) (M : fM) {th : Int32} {U : fTn} {sp ca : Nat → Int32} (hM : isMo g ad M th U sp ca) {x y hor pow : Int32} (h1 : aOn x y = false) : fCi l g yX6_addEngine cX6_addEngine 6 ((some .int)) 7 170 0 0 ad M [.ref (ad 5), .int x, .int y, .int hor, .int pow] (fMi g ad M 1 U sp ca 0) := by
  refine f_body (own := RX6) (by decide +kernel) rfl (Nat.le_of_ble_eq_true rfl) ?_
  intro p e s m args below meth c ls X hw hin hl
  have hx := X.1
  have hb := X.2.1
  have hl : lv_has ls 6 [(0, .ref (ad 5)), (1, .int x), (2, .int y), (3, .int hor), (4, .int pow)] := hl
  obtain ⟨pcs, wa, ht, et, mi, co, as, hMo, ⟨hm6, hm7, hm8, hm9, hm10, hm11, hm12, hm13, hm14⟩, hRel, hCnt⟩ := id hM
  obtain ⟨hn1, hn2, hn3⟩ := id hCnt
  have hn1 : tHn U ≤ 30 := hn1
  have hn2 : tPn U ≤ 6 := hn2
  have hn3 : tEn U ≤ 6 := hn3
  have hMo : M 5 = some (.inr (7, [.int th, .int (nI (tHn U)), .int (nI (tPn U)), .int (nI (tEn U)), .ref (ad 6), .ref (ad 7), .ref (ad 8), .ref (ad 9), .ref (ad 10), .ref (ad 11), .ref (ad 12), .ref (ad 13), .ref (ad 14)])) := hMo
  obtain ⟨rH, rP, rE, rM⟩ := id hRel
  obtain ⟨Mo, hMq⟩ : ∃ z, z = M := ⟨_, rfl⟩
  have hrA : fReg 5 15 ad Mo ad M := by rw [hMq]; exact fReg_rf
  obtain ⟨Q9, hQ9⟩ : ∃ z, z = MQ below (fQi g (fMi g ad M 1 U sp ca 0)) args s 0 0 (fA g) := ⟨_, rfl⟩
  show W p l e (fR 7 170 0 0) s m args below meth c _ _ 0 0 (MQ below (fQi g (fMi g ad M 1 U sp ca 0)) args s 0 0 (fA g)) (F0 m 0 ls [])
  rw [← hQ9]
  refine lv_aload_n hx hb dX6_addEngine_0 rfl (lv_at hl 0 rfl) ?_
  refine lv_iconst (v := 0) hx hb dX6_addEngine_1 (by decide) ?_
  refine f_put X hw hMo fc7 0 (by decide) wq794 rfl rfl (v := .int 0) rfl rfl (Nat.le_of_ble_eq_true rfl) dX6_addEngine_2 (fun H locs hw => ?_)
  have hw : fw g ad (fU M 5 (.inr (7, [.int 0, .int (nI (tHn U)), .int (nI (tPn U)), .int (nI (tEn U)), .ref (ad 6), .ref (ad 7), .ref (ad 8), .ref (ad 9), .ref (ad 10), .ref (ad 11), .ref (ad 12), .ref (ad 13), .ref (ad 14)]))) s H locs := hw
  have hMo : (fU M 5 (.inr (7, [.int 0, .int (nI (tHn U)), .int (nI (tPn U)), .int (nI (tEn U)), .ref (ad 6), .ref (ad 7), .ref (ad 8), .ref (ad 9), .ref (ad 10), .ref (ad 11), .ref (ad 12), .ref (ad 13), .ref (ad 14)]))) 5 = some (.inr (7, [.int 0, .int (nI (tHn U)), .int (nI (tPn U)), .int (nI (tEn U)), .ref (ad 6), .ref (ad 7), .ref (ad 8), .ref (ad 9), .ref (ad 10), .ref (ad 11), .ref (ad 12), .ref (ad 13), .ref (ad 14)])) := fU_s
  have hm6 : (fU M 5 (.inr (7, [.int 0, .int (nI (tHn U)), .int (nI (tPn U)), .int (nI (tEn U)), .ref (ad 6), .ref (ad 7), .ref (ad 8), .ref (ad 9), .ref (ad 10), .ref (ad 11), .ref (ad 12), .ref (ad 13), .ref (ad 14)]))) 6 = _ := (fU_n (by omega)).trans hm6
  have hm7 : (fU M 5 (.inr (7, [.int 0, .int (nI (tHn U)), .int (nI (tPn U)), .int (nI (tEn U)), .ref (ad 6), .ref (ad 7), .ref (ad 8), .ref (ad 9), .ref (ad 10), .ref (ad 11), .ref (ad 12), .ref (ad 13), .ref (ad 14)]))) 7 = _ := (fU_n (by omega)).trans hm7
  have hm8 : (fU M 5 (.inr (7, [.int 0, .int (nI (tHn U)), .int (nI (tPn U)), .int (nI (tEn U)), .ref (ad 6), .ref (ad 7), .ref (ad 8), .ref (ad 9), .ref (ad 10), .ref (ad 11), .ref (ad 12), .ref (ad 13), .ref (ad 14)]))) 8 = _ := (fU_n (by omega)).trans hm8
  have hm9 : (fU M 5 (.inr (7, [.int 0, .int (nI (tHn U)), .int (nI (tPn U)), .int (nI (tEn U)), .ref (ad 6), .ref (ad 7), .ref (ad 8), .ref (ad 9), .ref (ad 10), .ref (ad 11), .ref (ad 12), .ref (ad 13), .ref (ad 14)]))) 9 = _ := (fU_n (by omega)).trans hm9
  have hm10 : (fU M 5 (.inr (7, [.int 0, .int (nI (tHn U)), .int (nI (tPn U)), .int (nI (tEn U)), .ref (ad 6), .ref (ad 7), .ref (ad 8), .ref (ad 9), .ref (ad 10), .ref (ad 11), .ref (ad 12), .ref (ad 13), .ref (ad 14)]))) 10 = _ := (fU_n (by omega)).trans hm10
  have hm11 : (fU M 5 (.inr (7, [.int 0, .int (nI (tHn U)), .int (nI (tPn U)), .int (nI (tEn U)), .ref (ad 6), .ref (ad 7), .ref (ad 8), .ref (ad 9), .ref (ad 10), .ref (ad 11), .ref (ad 12), .ref (ad 13), .ref (ad 14)]))) 11 = _ := (fU_n (by omega)).trans hm11
  have hm12 : (fU M 5 (.inr (7, [.int 0, .int (nI (tHn U)), .int (nI (tPn U)), .int (nI (tEn U)), .ref (ad 6), .ref (ad 7), .ref (ad 8), .ref (ad 9), .ref (ad 10), .ref (ad 11), .ref (ad 12), .ref (ad 13), .ref (ad 14)]))) 12 = _ := (fU_n (by omega)).trans hm12
  have hm13 : (fU M 5 (.inr (7, [.int 0, .int (nI (tHn U)), .int (nI (tPn U)), .int (nI (tEn U)), .ref (ad 6), .ref (ad 7), .ref (ad 8), .ref (ad 9), .ref (ad 10), .ref (ad 11), .ref (ad 12), .ref (ad 13), .ref (ad 14)]))) 13 = _ := (fU_n (by omega)).trans hm13
  have hm14 : (fU M 5 (.inr (7, [.int 0, .int (nI (tHn U)), .int (nI (tPn U)), .int (nI (tEn U)), .ref (ad 6), .ref (ad 7), .ref (ad 8), .ref (ad 9), .ref (ad 10), .ref (ad 11), .ref (ad 12), .ref (ad 13), .ref (ad 14)]))) 14 = _ := (fU_n (by omega)).trans hm14
  have hM : isMo g ad (fU M 5 (.inr (7, [.int 0, .int (nI (tHn U)), .int (nI (tPn U)), .int (nI (tEn U)), .ref (ad 6), .ref (ad 7), .ref (ad 8), .ref (ad 9), .ref (ad 10), .ref (ad 11), .ref (ad 12), .ref (ad 13), .ref (ad 14)]))) 0 U sp ca := ⟨pcs, wa, ht, et, mi, co, as, hMo, ⟨hm6, hm7, hm8, hm9, hm10, hm11, hm12, hm13, hm14⟩, hRel, hCnt⟩
  have hrA : fReg 5 15 ad Mo ad (fU M 5 (.inr (7, [.int 0, .int (nI (tHn U)), .int (nI (tPn U)), .int (nI (tEn U)), .ref (ad 6), .ref (ad 7), .ref (ad 8), .ref (ad 9), .ref (ad 10), .ref (ad 11), .ref (ad 12), .ref (ad 13), .ref (ad 14)]))) := fReg_U hrA (by omega)
  obtain ⟨M18, eM18⟩ : ∃ z, z = (fU M 5 (.inr (7, [.int 0, .int (nI (tHn U)), .int (nI (tPn U)), .int (nI (tEn U)), .ref (ad 6), .ref (ad 7), .ref (ad 8), .ref (ad 9), .ref (ad 10), .ref (ad 11), .ref (ad 12), .ref (ad 13), .ref (ad 14)]))) := ⟨_, rfl⟩
  rw [← eM18] at hM hw hrA
  obtain ⟨pcs, wa, ht, et, mi, co, as, hMo, ⟨hm6, hm7, hm8, hm9, hm10, hm11, hm12, hm13, hm14⟩, hRel, hCnt⟩ := id hM
  obtain ⟨hn1, hn2, hn3⟩ := id hCnt
  have hn1 : tHn U ≤ 30 := hn1
  have hn2 : tPn U ≤ 6 := hn2
  have hn3 : tEn U ≤ 6 := hn3
  have hMo : M18 5 = some (.inr (7, [.int 0, .int (nI (tHn U)), .int (nI (tPn U)), .int (nI (tEn U)), .ref (ad 6), .ref (ad 7), .ref (ad 8), .ref (ad 9), .ref (ad 10), .ref (ad 11), .ref (ad 12), .ref (ad 13), .ref (ad 14)])) := hMo
  obtain ⟨rH, rP, rE, rM⟩ := id hRel
  refine lv_iload_n hx hb dX6_addEngine_5 rfl (lv_at hl 1 rfl) ?_
  refine lv_iload_n hx hb dX6_addEngine_6 rfl (lv_at hl 2 rfl) ?_
  refine fk_di (fcS X hw (c_isCell l g ad M18 x y) wq843 kSX6_isCell ⟨(Nat.le_of_ble_eq_true rfl), (Nat.le_of_ble_eq_true rfl)⟩ rfl hl.1 rfl (Nat.le_of_ble_eq_true rfl) dX6_addEngine_7 ⟨Nat.le_refl _, Nat.le_refl _⟩) hw (fun H locs hw => ?_)
  refine lv_if_ne (tgt := 19) hx hb dX6_addEngine_10 (by decide) (fun c_1 => absurd (bI_nf.mp c_1) (f_false h1)) (fun c_1 => ?_)
  have c_1 := bI_f.mp c_1
  refine lv_aload_n hx hb dX6_addEngine_13 rfl (lv_at hl 0 rfl) ?_
  refine lv_iconst (v := 1) hx hb dX6_addEngine_14 (by decide) ?_
  refine fk_mi (fcV X hw (c_fail l g ad M18 hM 1) hMo rfl wq849 kVX6_fail ⟨(Nat.le_of_ble_eq_true rfl), (Nat.le_of_ble_eq_true rfl)⟩ rfl hl.1 rfl (Nat.le_of_ble_eq_true rfl) dX6_addEngine_15 ⟨Nat.le_refl _, Nat.le_refl _⟩) hw (fun M19 H locs hM hr19 hw => ?_)
  have hrA := fReg_tr hrA hr19
  rw [hQ9, ← hMq]
  exact f_iret X hw ⟨rfl, hM, hrA, rfl⟩ (Nat.le_refl _) (Nat.le_refl _) dX6_addEngine_18
set_option maxHeartbeats 4000000 in
set_option maxRecDepth 100000 in
theorem x_m_addEngine_2 (l : Launch) (g : fG) (ad : Nat → Nat) (M : fM) {th : Int32} {U : fTn} {sp ca : Nat → Int32} (hM : isMo g ad M th U sp ca) {x y hor pow : Int32} (h1 : aOn x y = true) (h2 : (inR hor 1 4 && inR pow 1 20) = false) : fCi l g yX6_addEngine cX6_addEngine 6 ((some .int)) 7 170 0 0 ad M [.ref (ad 5), .int x, .int y, .int hor, .int pow] (fMi g ad M 2 U sp ca 0) := by
  refine f_body (own := RX6) (by decide +kernel) rfl (Nat.le_of_ble_eq_true rfl) ?_
  intro p e s m args below meth c ls X hw hin hl
  have hx := X.1
  have hb := X.2.1
  have hl : lv_has ls 6 [(0, .ref (ad 5)), (1, .int x), (2, .int y), (3, .int hor), (4, .int pow)] := hl
  obtain ⟨pcs, wa, ht, et, mi, co, as, hMo, ⟨hm6, hm7, hm8, hm9, hm10, hm11, hm12, hm13, hm14⟩, hRel, hCnt⟩ := id hM
  obtain ⟨hn1, hn2, hn3⟩ := id hCnt
  have hn1 : tHn U ≤ 30 := hn1
  have hn2 : tPn U ≤ 6 := hn2
  have hn3 : tEn U ≤ 6 := hn3
  have hMo : M 5 = some (.inr (7, [.int th, .int (nI (tHn U)), .int (nI (tPn U)), .int (nI (tEn U)), .ref (ad 6), .ref (ad 7), .ref (ad 8), .ref (ad 9), .ref (ad 10), .ref (ad 11), .ref (ad 12), .ref (ad 13), .ref (ad 14)])) := hMo
  obtain ⟨rH, rP, rE, rM⟩ := id hRel
  obtain ⟨Mo, hMq⟩ : ∃ z, z = M := ⟨_, rfl⟩
  have hrA : fReg 5 15 ad Mo ad M := by rw [hMq]; exact fReg_rf
  obtain ⟨Q9, hQ9⟩ : ∃ z, z = MQ below (fQi g (fMi g ad M 2 U sp ca 0)) args s 0 0 (fA g) := ⟨_, rfl⟩
  show W p l e (fR 7 170 0 0) s m args below meth c _ _ 0 0 (MQ below (fQi g (fMi g ad M 2 U sp ca 0)) args s 0 0 (fA g)) (F0 m 0 ls [])
  rw [← hQ9]
  refine lv_aload_n hx hb dX6_addEngine_0 rfl (lv_at hl 0 rfl) ?_
  refine lv_iconst (v := 0) hx hb dX6_addEngine_1 (by decide) ?_
  refine f_put X hw hMo fc7 0 (by decide) wq794 rfl rfl (v := .int 0) rfl rfl (Nat.le_of_ble_eq_true rfl) dX6_addEngine_2 (fun H locs hw => ?_)
  have hw : fw g ad (fU M 5 (.inr (7, [.int 0, .int (nI (tHn U)), .int (nI (tPn U)), .int (nI (tEn U)), .ref (ad 6), .ref (ad 7), .ref (ad 8), .ref (ad 9), .ref (ad 10), .ref (ad 11), .ref (ad 12), .ref (ad 13), .ref (ad 14)]))) s H locs := hw
  have hMo : (fU M 5 (.inr (7, [.int 0, .int (nI (tHn U)), .int (nI (tPn U)), .int (nI (tEn U)), .ref (ad 6), .ref (ad 7), .ref (ad 8), .ref (ad 9), .ref (ad 10), .ref (ad 11), .ref (ad 12), .ref (ad 13), .ref (ad 14)]))) 5 = some (.inr (7, [.int 0, .int (nI (tHn U)), .int (nI (tPn U)), .int (nI (tEn U)), .ref (ad 6), .ref (ad 7), .ref (ad 8), .ref (ad 9), .ref (ad 10), .ref (ad 11), .ref (ad 12), .ref (ad 13), .ref (ad 14)])) := fU_s
  have hm6 : (fU M 5 (.inr (7, [.int 0, .int (nI (tHn U)), .int (nI (tPn U)), .int (nI (tEn U)), .ref (ad 6), .ref (ad 7), .ref (ad 8), .ref (ad 9), .ref (ad 10), .ref (ad 11), .ref (ad 12), .ref (ad 13), .ref (ad 14)]))) 6 = _ := (fU_n (by omega)).trans hm6
  have hm7 : (fU M 5 (.inr (7, [.int 0, .int (nI (tHn U)), .int (nI (tPn U)), .int (nI (tEn U)), .ref (ad 6), .ref (ad 7), .ref (ad 8), .ref (ad 9), .ref (ad 10), .ref (ad 11), .ref (ad 12), .ref (ad 13), .ref (ad 14)]))) 7 = _ := (fU_n (by omega)).trans hm7
  have hm8 : (fU M 5 (.inr (7, [.int 0, .int (nI (tHn U)), .int (nI (tPn U)), .int (nI (tEn U)), .ref (ad 6), .ref (ad 7), .ref (ad 8), .ref (ad 9), .ref (ad 10), .ref (ad 11), .ref (ad 12), .ref (ad 13), .ref (ad 14)]))) 8 = _ := (fU_n (by omega)).trans hm8
  have hm9 : (fU M 5 (.inr (7, [.int 0, .int (nI (tHn U)), .int (nI (tPn U)), .int (nI (tEn U)), .ref (ad 6), .ref (ad 7), .ref (ad 8), .ref (ad 9), .ref (ad 10), .ref (ad 11), .ref (ad 12), .ref (ad 13), .ref (ad 14)]))) 9 = _ := (fU_n (by omega)).trans hm9
  have hm10 : (fU M 5 (.inr (7, [.int 0, .int (nI (tHn U)), .int (nI (tPn U)), .int (nI (tEn U)), .ref (ad 6), .ref (ad 7), .ref (ad 8), .ref (ad 9), .ref (ad 10), .ref (ad 11), .ref (ad 12), .ref (ad 13), .ref (ad 14)]))) 10 = _ := (fU_n (by omega)).trans hm10
  have hm11 : (fU M 5 (.inr (7, [.int 0, .int (nI (tHn U)), .int (nI (tPn U)), .int (nI (tEn U)), .ref (ad 6), .ref (ad 7), .ref (ad 8), .ref (ad 9), .ref (ad 10), .ref (ad 11), .ref (ad 12), .ref (ad 13), .ref (ad 14)]))) 11 = _ := (fU_n (by omega)).trans hm11
  have hm12 : (fU M 5 (.inr (7, [.int 0, .int (nI (tHn U)), .int (nI (tPn U)), .int (nI (tEn U)), .ref (ad 6), .ref (ad 7), .ref (ad 8), .ref (ad 9), .ref (ad 10), .ref (ad 11), .ref (ad 12), .ref (ad 13), .ref (ad 14)]))) 12 = _ := (fU_n (by omega)).trans hm12
  have hm13 : (fU M 5 (.inr (7, [.int 0, .int (nI (tHn U)), .int (nI (tPn U)), .int (nI (tEn U)), .ref (ad 6), .ref (ad 7), .ref (ad 8), .ref (ad 9), .ref (ad 10), .ref (ad 11), .ref (ad 12), .ref (ad 13), .ref (ad 14)]))) 13 = _ := (fU_n (by omega)).trans hm13
  have hm14 : (fU M 5 (.inr (7, [.int 0, .int (nI (tHn U)), .int (nI (tPn U)), .int (nI (tEn U)), .ref (ad 6), .ref (ad 7), .ref (ad 8), .ref (ad 9), .ref (ad 10), .ref (ad 11), .ref (ad 12), .ref (ad 13), .ref (ad 14)]))) 14 = _ := (fU_n (by omega)).trans hm14
  have hM : isMo g ad (fU M 5 (.inr (7, [.int 0, .int (nI (tHn U)), .int (nI (tPn U)), .int (nI (tEn U)), .ref (ad 6), .ref (ad 7), .ref (ad 8), .ref (ad 9), .ref (ad 10), .ref (ad 11), .ref (ad 12), .ref (ad 13), .ref (ad 14)]))) 0 U sp ca := ⟨pcs, wa, ht, et, mi, co, as, hMo, ⟨hm6, hm7, hm8, hm9, hm10, hm11, hm12, hm13, hm14⟩, hRel, hCnt⟩
  have hrA : fReg 5 15 ad Mo ad (fU M 5 (.inr (7, [.int 0, .int (nI (tHn U)), .int (nI (tPn U)), .int (nI (tEn U)), .ref (ad 6), .ref (ad 7), .ref (ad 8), .ref (ad 9), .ref (ad 10), .ref (ad 11), .ref (ad 12), .ref (ad 13), .ref (ad 14)]))) := fReg_U hrA (by omega)
  obtain ⟨M20, eM20⟩ : ∃ z, z = (fU M 5 (.inr (7, [.int 0, .int (nI (tHn U)), .int (nI (tPn U)), .int (nI (tEn U)), .ref (ad 6), .ref (ad 7), .ref (ad 8), .ref (ad 9), .ref (ad 10), .ref (ad 11), .ref (ad 12), .ref (ad 13), .ref (ad 14)]))) := ⟨_, rfl⟩
  rw [← eM20] at hM hw hrA
  obtain ⟨pcs, wa, ht, et, mi, co, as, hMo, ⟨hm6, hm7, hm8, hm9, hm10, hm11, hm12, hm13, hm14⟩, hRel, hCnt⟩ := id hM
  obtain ⟨hn1, hn2, hn3⟩ := id hCnt
  have hn1 : tHn U ≤ 30 := hn1
  have hn2 : tPn U ≤ 6 := hn2
  have hn3 : tEn U ≤ 6 := hn3
  have hMo : M20 5 = some (.inr (7, [.int 0, .int (nI (tHn U)), .int (nI (tPn U)), .int (nI (tEn U)), .ref (ad 6), .ref (ad 7), .ref (ad 8), .ref (ad 9), .ref (ad 10), .ref (ad 11), .ref (ad 12), .ref (ad 13), .ref (ad 14)])) := hMo
  obtain ⟨rH, rP, rE, rM⟩ := id hRel
  refine lv_iload_n hx hb dX6_addEngine_5 rfl (lv_at hl 1 rfl) ?_
  refine lv_iload_n hx hb dX6_addEngine_6 rfl (lv_at hl 2 rfl) ?_
  refine fk_di (fcS X hw (c_isCell l g ad M20 x y) wq843 kSX6_isCell ⟨(Nat.le_of_ble_eq_true rfl), (Nat.le_of_ble_eq_true rfl)⟩ rfl hl.1 rfl (Nat.le_of_ble_eq_true rfl) dX6_addEngine_7 ⟨Nat.le_refl _, Nat.le_refl _⟩) hw (fun H locs hw => ?_)
  refine lv_if_ne (tgt := 19) hx hb dX6_addEngine_10 (by decide) (fun c_1 => ?_) (fun c_1 => absurd (bI_f.mp c_1) (by rw [h1]; decide))
  have c_1 := bI_nf.mp c_1
  refine lv_iload_n hx hb dX6_addEngine_19 rfl (lv_at hl 3 rfl) ?_
  refine lv_iconst (v := 1) hx hb dX6_addEngine_20 (by decide) ?_
  refine lv_iconst (v := 4) hx hb dX6_addEngine_21 (by decide) ?_
  refine fk_di (fcS X hw (c_isIn l g ad M20 (hor) 1 4) wq846 kSX6_isIn ⟨(Nat.le_of_ble_eq_true rfl), (Nat.le_of_ble_eq_true rfl)⟩ rfl hl.1 rfl (Nat.le_of_ble_eq_true rfl) dX6_addEngine_22 ⟨Nat.le_refl _, Nat.le_refl _⟩) hw (fun H locs hw => ?_)
  refine lv_if_eq (tgt := 39) hx hb dX6_addEngine_25 (by decide) (fun c_2 => ?_) (fun c_2 => ?_)
  · have c_2 := bI_f.mp c_2
    refine lv_aload_n hx hb dX6_addEngine_39 rfl (lv_at hl 0 rfl) ?_
    refine lv_iconst (v := 2) hx hb dX6_addEngine_40 (by decide) ?_
    refine fk_mi (fcV X hw (c_fail l g ad M20 hM 2) hMo rfl wq849 kVX6_fail ⟨(Nat.le_of_ble_eq_true rfl), (Nat.le_of_ble_eq_true rfl)⟩ rfl hl.1 rfl (Nat.le_of_ble_eq_true rfl) dX6_addEngine_41 ⟨Nat.le_refl _, Nat.le_refl _⟩) hw (fun M21 H locs hM hr21 hw => ?_)
    have hrA := fReg_tr hrA hr21
    rw [hQ9, ← hMq]
    exact f_iret X hw ⟨rfl, hM, hrA, rfl⟩ (Nat.le_refl _) (Nat.le_refl _) dX6_addEngine_44
  · have c_2 := bI_nf.mp c_2
    refine lv_iload hx hb dX6_addEngine_28 (lv_at hl 4 rfl) ?_
    refine lv_iconst (v := 1) hx hb dX6_addEngine_30 (by decide) ?_
    refine lv_bipush (v := 20) hx hb dX6_addEngine_31 (by decide) ?_
    refine fk_di (fcS X hw (c_isIn l g ad M20 (pow) 1 20) wq846 kSX6_isIn ⟨(Nat.le_of_ble_eq_true rfl), (Nat.le_of_ble_eq_true rfl)⟩ rfl hl.1 rfl (Nat.le_of_ble_eq_true rfl) dX6_addEngine_33 ⟨Nat.le_refl _, Nat.le_refl _⟩) hw (fun H locs hw => ?_)
    refine lv_if_ne (tgt := 45) hx hb dX6_addEngine_36 (by decide) (fun c_3 => ?_) (fun c_3 => ?_)
    · have c_3 := bI_nf.mp c_3
      exact absurd h2 (by simp [c_1, c_2, c_3])
    · have c_3 := bI_f.mp c_3
      refine lv_aload_n hx hb dX6_addEngine_39 rfl (lv_at hl 0 rfl) ?_
      refine lv_iconst (v := 2) hx hb dX6_addEngine_40 (by decide) ?_
      refine fk_mi (fcV X hw (c_fail l g ad M20 hM 2) hMo rfl wq849 kVX6_fail ⟨(Nat.le_of_ble_eq_true rfl), (Nat.le_of_ble_eq_true rfl)⟩ rfl hl.1 rfl (Nat.le_of_ble_eq_true rfl) dX6_addEngine_41 ⟨Nat.le_refl _, Nat.le_refl _⟩) hw (fun M22 H locs hM hr22 hw => ?_)
      have hrA := fReg_tr hrA hr22
      rw [hQ9, ← hMq]
      exact f_iret X hw ⟨rfl, hM, hrA, rfl⟩ (Nat.le_refl _) (Nat.le_refl _) dX6_addEngine_44
set_option maxHeartbeats 4000000 in
set_option maxRecDepth 100000 in
theorem x_m_addEngine_3 (l : Launch) (g : fG) (ad : Nat → Nat) (M : fM) {th : Int32} {U : fTn} {sp ca : Nat → Int32} (hM : isMo g ad M th U sp ca) {x y hor pow : Int32} (h1 : aOn x y = true) (h2 : inR hor 1 4 = true) (h2b : inR pow 1 20 = true) (h3 : (decide (¬ tEn U = 6) && mSt U (x + 14 * y)) = false) : fCi l g yX6_addEngine cX6_addEngine 6 ((some .int)) 7 170 0 0 ad M [.ref (ad 5), .int x, .int y, .int hor, .int pow] (fMi g ad M 3 U sp ca 0) := by
  refine f_body (own := RX6) (by decide +kernel) rfl (Nat.le_of_ble_eq_true rfl) ?_
  intro p e s m args below meth c ls X hw hin hl
  have hx := X.1
  have hb := X.2.1
  have hl : lv_has ls 6 [(0, .ref (ad 5)), (1, .int x), (2, .int y), (3, .int hor), (4, .int pow)] := hl
  obtain ⟨pcs, wa, ht, et, mi, co, as, hMo, ⟨hm6, hm7, hm8, hm9, hm10, hm11, hm12, hm13, hm14⟩, hRel, hCnt⟩ := id hM
  obtain ⟨hn1, hn2, hn3⟩ := id hCnt
  have hn1 : tHn U ≤ 30 := hn1
  have hn2 : tPn U ≤ 6 := hn2
  have hn3 : tEn U ≤ 6 := hn3
  have hMo : M 5 = some (.inr (7, [.int th, .int (nI (tHn U)), .int (nI (tPn U)), .int (nI (tEn U)), .ref (ad 6), .ref (ad 7), .ref (ad 8), .ref (ad 9), .ref (ad 10), .ref (ad 11), .ref (ad 12), .ref (ad 13), .ref (ad 14)])) := hMo
  obtain ⟨rH, rP, rE, rM⟩ := id hRel
  obtain ⟨Mo, hMq⟩ : ∃ z, z = M := ⟨_, rfl⟩
  have hrA : fReg 5 15 ad Mo ad M := by rw [hMq]; exact fReg_rf
  obtain ⟨Q9, hQ9⟩ : ∃ z, z = MQ below (fQi g (fMi g ad M 3 U sp ca 0)) args s 0 0 (fA g) := ⟨_, rfl⟩
  show W p l e (fR 7 170 0 0) s m args below meth c _ _ 0 0 (MQ below (fQi g (fMi g ad M 3 U sp ca 0)) args s 0 0 (fA g)) (F0 m 0 ls [])
  rw [← hQ9]
  refine lv_aload_n hx hb dX6_addEngine_0 rfl (lv_at hl 0 rfl) ?_
  refine lv_iconst (v := 0) hx hb dX6_addEngine_1 (by decide) ?_
  refine f_put X hw hMo fc7 0 (by decide) wq794 rfl rfl (v := .int 0) rfl rfl (Nat.le_of_ble_eq_true rfl) dX6_addEngine_2 (fun H locs hw => ?_)
  have hw : fw g ad (fU M 5 (.inr (7, [.int 0, .int (nI (tHn U)), .int (nI (tPn U)), .int (nI (tEn U)), .ref (ad 6), .ref (ad 7), .ref (ad 8), .ref (ad 9), .ref (ad 10), .ref (ad 11), .ref (ad 12), .ref (ad 13), .ref (ad 14)]))) s H locs := hw
  have hMo : (fU M 5 (.inr (7, [.int 0, .int (nI (tHn U)), .int (nI (tPn U)), .int (nI (tEn U)), .ref (ad 6), .ref (ad 7), .ref (ad 8), .ref (ad 9), .ref (ad 10), .ref (ad 11), .ref (ad 12), .ref (ad 13), .ref (ad 14)]))) 5 = some (.inr (7, [.int 0, .int (nI (tHn U)), .int (nI (tPn U)), .int (nI (tEn U)), .ref (ad 6), .ref (ad 7), .ref (ad 8), .ref (ad 9), .ref (ad 10), .ref (ad 11), .ref (ad 12), .ref (ad 13), .ref (ad 14)])) := fU_s
  have hm6 : (fU M 5 (.inr (7, [.int 0, .int (nI (tHn U)), .int (nI (tPn U)), .int (nI (tEn U)), .ref (ad 6), .ref (ad 7), .ref (ad 8), .ref (ad 9), .ref (ad 10), .ref (ad 11), .ref (ad 12), .ref (ad 13), .ref (ad 14)]))) 6 = _ := (fU_n (by omega)).trans hm6
  have hm7 : (fU M 5 (.inr (7, [.int 0, .int (nI (tHn U)), .int (nI (tPn U)), .int (nI (tEn U)), .ref (ad 6), .ref (ad 7), .ref (ad 8), .ref (ad 9), .ref (ad 10), .ref (ad 11), .ref (ad 12), .ref (ad 13), .ref (ad 14)]))) 7 = _ := (fU_n (by omega)).trans hm7
  have hm8 : (fU M 5 (.inr (7, [.int 0, .int (nI (tHn U)), .int (nI (tPn U)), .int (nI (tEn U)), .ref (ad 6), .ref (ad 7), .ref (ad 8), .ref (ad 9), .ref (ad 10), .ref (ad 11), .ref (ad 12), .ref (ad 13), .ref (ad 14)]))) 8 = _ := (fU_n (by omega)).trans hm8
  have hm9 : (fU M 5 (.inr (7, [.int 0, .int (nI (tHn U)), .int (nI (tPn U)), .int (nI (tEn U)), .ref (ad 6), .ref (ad 7), .ref (ad 8), .ref (ad 9), .ref (ad 10), .ref (ad 11), .ref (ad 12), .ref (ad 13), .ref (ad 14)]))) 9 = _ := (fU_n (by omega)).trans hm9
  have hm10 : (fU M 5 (.inr (7, [.int 0, .int (nI (tHn U)), .int (nI (tPn U)), .int (nI (tEn U)), .ref (ad 6), .ref (ad 7), .ref (ad 8), .ref (ad 9), .ref (ad 10), .ref (ad 11), .ref (ad 12), .ref (ad 13), .ref (ad 14)]))) 10 = _ := (fU_n (by omega)).trans hm10
  have hm11 : (fU M 5 (.inr (7, [.int 0, .int (nI (tHn U)), .int (nI (tPn U)), .int (nI (tEn U)), .ref (ad 6), .ref (ad 7), .ref (ad 8), .ref (ad 9), .ref (ad 10), .ref (ad 11), .ref (ad 12), .ref (ad 13), .ref (ad 14)]))) 11 = _ := (fU_n (by omega)).trans hm11
  have hm12 : (fU M 5 (.inr (7, [.int 0, .int (nI (tHn U)), .int (nI (tPn U)), .int (nI (tEn U)), .ref (ad 6), .ref (ad 7), .ref (ad 8), .ref (ad 9), .ref (ad 10), .ref (ad 11), .ref (ad 12), .ref (ad 13), .ref (ad 14)]))) 12 = _ := (fU_n (by omega)).trans hm12
  have hm13 : (fU M 5 (.inr (7, [.int 0, .int (nI (tHn U)), .int (nI (tPn U)), .int (nI (tEn U)), .ref (ad 6), .ref (ad 7), .ref (ad 8), .ref (ad 9), .ref (ad 10), .ref (ad 11), .ref (ad 12), .ref (ad 13), .ref (ad 14)]))) 13 = _ := (fU_n (by omega)).trans hm13
  have hm14 : (fU M 5 (.inr (7, [.int 0, .int (nI (tHn U)), .int (nI (tPn U)), .int (nI (tEn U)), .ref (ad 6), .ref (ad 7), .ref (ad 8), .ref (ad 9), .ref (ad 10), .ref (ad 11), .ref (ad 12), .ref (ad 13), .ref (ad 14)]))) 14 = _ := (fU_n (by omega)).trans hm14
  have hM : isMo g ad (fU M 5 (.inr (7, [.int 0, .int (nI (tHn U)), .int (nI (tPn U)), .int (nI (tEn U)), .ref (ad 6), .ref (ad 7), .ref (ad 8), .ref (ad 9), .ref (ad 10), .ref (ad 11), .ref (ad 12), .ref (ad 13), .ref (ad 14)]))) 0 U sp ca := ⟨pcs, wa, ht, et, mi, co, as, hMo, ⟨hm6, hm7, hm8, hm9, hm10, hm11, hm12, hm13, hm14⟩, hRel, hCnt⟩
  have hrA : fReg 5 15 ad Mo ad (fU M 5 (.inr (7, [.int 0, .int (nI (tHn U)), .int (nI (tPn U)), .int (nI (tEn U)), .ref (ad 6), .ref (ad 7), .ref (ad 8), .ref (ad 9), .ref (ad 10), .ref (ad 11), .ref (ad 12), .ref (ad 13), .ref (ad 14)]))) := fReg_U hrA (by omega)
  obtain ⟨M23, eM23⟩ : ∃ z, z = (fU M 5 (.inr (7, [.int 0, .int (nI (tHn U)), .int (nI (tPn U)), .int (nI (tEn U)), .ref (ad 6), .ref (ad 7), .ref (ad 8), .ref (ad 9), .ref (ad 10), .ref (ad 11), .ref (ad 12), .ref (ad 13), .ref (ad 14)]))) := ⟨_, rfl⟩
  rw [← eM23] at hM hw hrA
  obtain ⟨pcs, wa, ht, et, mi, co, as, hMo, ⟨hm6, hm7, hm8, hm9, hm10, hm11, hm12, hm13, hm14⟩, hRel, hCnt⟩ := id hM
  obtain ⟨hn1, hn2, hn3⟩ := id hCnt
  have hn1 : tHn U ≤ 30 := hn1
  have hn2 : tPn U ≤ 6 := hn2
  have hn3 : tEn U ≤ 6 := hn3
  have hMo : M23 5 = some (.inr (7, [.int 0, .int (nI (tHn U)), .int (nI (tPn U)), .int (nI (tEn U)), .ref (ad 6), .ref (ad 7), .ref (ad 8), .ref (ad 9), .ref (ad 10), .ref (ad 11), .ref (ad 12), .ref (ad 13), .ref (ad 14)])) := hMo
  obtain ⟨rH, rP, rE, rM⟩ := id hRel
  refine lv_iload_n hx hb dX6_addEngine_5 rfl (lv_at hl 1 rfl) ?_
  refine lv_iload_n hx hb dX6_addEngine_6 rfl (lv_at hl 2 rfl) ?_
  refine fk_di (fcS X hw (c_isCell l g ad M23 x y) wq843 kSX6_isCell ⟨(Nat.le_of_ble_eq_true rfl), (Nat.le_of_ble_eq_true rfl)⟩ rfl hl.1 rfl (Nat.le_of_ble_eq_true rfl) dX6_addEngine_7 ⟨Nat.le_refl _, Nat.le_refl _⟩) hw (fun H locs hw => ?_)
  refine lv_if_ne (tgt := 19) hx hb dX6_addEngine_10 (by decide) (fun c_1 => ?_) (fun c_1 => absurd (bI_f.mp c_1) (by rw [h1]; decide))
  have c_1 := bI_nf.mp c_1
  refine lv_iload_n hx hb dX6_addEngine_19 rfl (lv_at hl 3 rfl) ?_
  refine lv_iconst (v := 1) hx hb dX6_addEngine_20 (by decide) ?_
  refine lv_iconst (v := 4) hx hb dX6_addEngine_21 (by decide) ?_
  refine fk_di (fcS X hw (c_isIn l g ad M23 (hor) 1 4) wq846 kSX6_isIn ⟨(Nat.le_of_ble_eq_true rfl), (Nat.le_of_ble_eq_true rfl)⟩ rfl hl.1 rfl (Nat.le_of_ble_eq_true rfl) dX6_addEngine_22 ⟨Nat.le_refl _, Nat.le_refl _⟩) hw (fun H locs hw => ?_)
  refine lv_if_eq (tgt := 39) hx hb dX6_addEngine_25 (by decide) (fun c_2 => absurd (bI_f.mp c_2) (by rw [h2]; decide)) (fun c_2 => ?_)
  have c_2 := bI_nf.mp c_2
  refine lv_iload hx hb dX6_addEngine_28 (lv_at hl 4 rfl) ?_
  refine lv_iconst (v := 1) hx hb dX6_addEngine_30 (by decide) ?_
  refine lv_bipush (v := 20) hx hb dX6_addEngine_31 (by decide) ?_
  refine fk_di (fcS X hw (c_isIn l g ad M23 (pow) 1 20) wq846 kSX6_isIn ⟨(Nat.le_of_ble_eq_true rfl), (Nat.le_of_ble_eq_true rfl)⟩ rfl hl.1 rfl (Nat.le_of_ble_eq_true rfl) dX6_addEngine_33 ⟨Nat.le_refl _, Nat.le_refl _⟩) hw (fun H locs hw => ?_)
  refine lv_if_ne (tgt := 45) hx hb dX6_addEngine_36 (by decide) (fun c_3 => ?_) (fun c_3 => absurd (bI_f.mp c_3) (by rw [h2b]; decide))
  have c_3 := bI_nf.mp c_3
  refine lv_aload_n hx hb dX6_addEngine_45 rfl (lv_at hl 0 rfl) ?_
  refine f_get X hw hMo fc7 3 (by decide) wq797 rfl (v := .int (nI (tEn U))) rfl dX6_addEngine_46 ?_
  refine lv_bipush (v := 6) hx hb dX6_addEngine_49 (by decide) ?_
  refine lv_icmp_eq (tgt := 67) hx hb dX6_addEngine_51 (by decide) (fun c_4 => ?_) (fun c_4 => ?_)
  · have c_4 := nI_eq' (a := (tEn U)) (b := 6) c_4 (by omega) (by omega)
    refine lv_aload_n hx hb dX6_addEngine_67 rfl (lv_at hl 0 rfl) ?_
    refine lv_iconst (v := 3) hx hb dX6_addEngine_68 (by decide) ?_
    refine fk_mi (fcV X hw (c_fail l g ad M23 hM 3) hMo rfl wq849 kVX6_fail ⟨(Nat.le_of_ble_eq_true rfl), (Nat.le_of_ble_eq_true rfl)⟩ rfl hl.1 rfl (Nat.le_of_ble_eq_true rfl) dX6_addEngine_69 ⟨Nat.le_refl _, Nat.le_refl _⟩) hw (fun M24 H locs hM hr24 hw => ?_)
    have hrA := fReg_tr hrA hr24
    rw [hQ9, ← hMq]
    exact f_iret X hw ⟨rfl, hM, hrA, rfl⟩ (Nat.le_refl _) (Nat.le_refl _) dX6_addEngine_72
  · have c_4 := nI_neq' (a := (tEn U)) (b := 6) c_4 (by omega) (by omega)
    refine lv_aload_n hx hb dX6_addEngine_54 rfl (lv_at hl 0 rfl) ?_
    refine lv_iload_n hx hb dX6_addEngine_55 rfl (lv_at hl 1 rfl) ?_
    refine lv_bipush (v := 14) hx hb dX6_addEngine_56 (by decide) ?_
    refine lv_iload_n hx hb dX6_addEngine_58 rfl (lv_at hl 2 rfl) ?_
    refine lv_imul hx hb dX6_addEngine_59 ?_
    refine lv_iadd hx hb dX6_addEngine_60 ?_
    refine fk_di (fcV X hw (c_m_isStreet l g ad M23 hM (x + 14 * y)) hMo rfl wq857 kVX6_isStreet ⟨(Nat.le_of_ble_eq_true rfl), (Nat.le_of_ble_eq_true rfl)⟩ rfl hl.1 rfl (Nat.le_of_ble_eq_true rfl) dX6_addEngine_61 ⟨Nat.le_refl _, Nat.le_refl _⟩) hw (fun H locs hw => ?_)
    refine lv_if_ne (tgt := 73) hx hb dX6_addEngine_64 (by decide) (fun c_5 => ?_) (fun c_5 => ?_)
    · have c_5 := bI_nf.mp c_5
      exact absurd h3 (by simp [c_1, c_2, c_3, c_4, c_5])
    · have c_5 := bI_f.mp c_5
      refine lv_aload_n hx hb dX6_addEngine_67 rfl (lv_at hl 0 rfl) ?_
      refine lv_iconst (v := 3) hx hb dX6_addEngine_68 (by decide) ?_
      refine fk_mi (fcV X hw (c_fail l g ad M23 hM 3) hMo rfl wq849 kVX6_fail ⟨(Nat.le_of_ble_eq_true rfl), (Nat.le_of_ble_eq_true rfl)⟩ rfl hl.1 rfl (Nat.le_of_ble_eq_true rfl) dX6_addEngine_69 ⟨Nat.le_refl _, Nat.le_refl _⟩) hw (fun M25 H locs hM hr25 hw => ?_)
      have hrA := fReg_tr hrA hr25
      rw [hQ9, ← hMq]
      exact f_iret X hw ⟨rfl, hM, hrA, rfl⟩ (Nat.le_refl _) (Nat.le_refl _) dX6_addEngine_72
set_option maxHeartbeats 4000000 in
set_option maxRecDepth 100000 in
theorem c_m_addEngine (l : Launch) (g : fG) (ad : Nat → Nat) (M : fM) {th : Int32} {U : fTn} {sp ca : Nat → Int32} (hM : isMo g ad M th U sp ca) {x y hor pow : Int32} (h1 : aOn x y = true) (h2 : inR hor 1 4 = true) (h2b : inR pow 1 20 = true) (h4 : ¬ tEn U = 6) (h3 : mSt U (x + 14 * y) = true) : fCi l g yX6_addEngine cX6_addEngine 6 ((some .int)) 7 170 1 9 ad M [.ref (ad 5), .int x, .int y, .int hor, .int pow] (fMe g ad M U (newE (x + 14 * y) hor pow) sp ca (nI (tEn U))) := by
  refine f_body (own := RX6) (by decide +kernel) rfl (Nat.le_of_ble_eq_true rfl) ?_
  intro p e s m args below meth c ls X hw hin hl
  have hx := X.1
  have hb := X.2.1
  have hl : lv_has ls 6 [(0, .ref (ad 5)), (1, .int x), (2, .int y), (3, .int hor), (4, .int pow)] := hl
  obtain ⟨pcs, wa, ht, et, mi, co, as, hMo, ⟨hm6, hm7, hm8, hm9, hm10, hm11, hm12, hm13, hm14⟩, hRel, hCnt⟩ := id hM
  obtain ⟨hn1, hn2, hn3⟩ := id hCnt
  have hn1 : tHn U ≤ 30 := hn1
  have hn2 : tPn U ≤ 6 := hn2
  have hn3 : tEn U ≤ 6 := hn3
  have hMo : M 5 = some (.inr (7, [.int th, .int (nI (tHn U)), .int (nI (tPn U)), .int (nI (tEn U)), .ref (ad 6), .ref (ad 7), .ref (ad 8), .ref (ad 9), .ref (ad 10), .ref (ad 11), .ref (ad 12), .ref (ad 13), .ref (ad 14)])) := hMo
  obtain ⟨rH, rP, rE, rM⟩ := id hRel
  obtain ⟨Mo, hMq⟩ : ∃ z, z = M := ⟨_, rfl⟩
  have hrA : fReg 5 15 ad Mo ad M := by rw [hMq]; exact fReg_rf
  obtain ⟨Q9, hQ9⟩ : ∃ z, z = MQ below (fQi g (fMe g ad M U (newE (x + 14 * y) hor pow) sp ca (nI (tEn U)))) args s 1 9 (fA g) := ⟨_, rfl⟩
  show W p l e (fR 7 170 1 9) s m args below meth c _ _ 0 0 (MQ below (fQi g (fMe g ad M U (newE (x + 14 * y) hor pow) sp ca (nI (tEn U)))) args s 1 9 (fA g)) (F0 m 0 ls [])
  rw [← hQ9]
  refine lv_aload_n hx hb dX6_addEngine_0 rfl (lv_at hl 0 rfl) ?_
  refine lv_iconst (v := 0) hx hb dX6_addEngine_1 (by decide) ?_
  refine f_put X hw hMo fc7 0 (by decide) wq794 rfl rfl (v := .int 0) rfl rfl (Nat.le_of_ble_eq_true rfl) dX6_addEngine_2 (fun H locs hw => ?_)
  have hw : fw g ad (fU M 5 (.inr (7, [.int 0, .int (nI (tHn U)), .int (nI (tPn U)), .int (nI (tEn U)), .ref (ad 6), .ref (ad 7), .ref (ad 8), .ref (ad 9), .ref (ad 10), .ref (ad 11), .ref (ad 12), .ref (ad 13), .ref (ad 14)]))) s H locs := hw
  have hMo : (fU M 5 (.inr (7, [.int 0, .int (nI (tHn U)), .int (nI (tPn U)), .int (nI (tEn U)), .ref (ad 6), .ref (ad 7), .ref (ad 8), .ref (ad 9), .ref (ad 10), .ref (ad 11), .ref (ad 12), .ref (ad 13), .ref (ad 14)]))) 5 = some (.inr (7, [.int 0, .int (nI (tHn U)), .int (nI (tPn U)), .int (nI (tEn U)), .ref (ad 6), .ref (ad 7), .ref (ad 8), .ref (ad 9), .ref (ad 10), .ref (ad 11), .ref (ad 12), .ref (ad 13), .ref (ad 14)])) := fU_s
  have hm6 : (fU M 5 (.inr (7, [.int 0, .int (nI (tHn U)), .int (nI (tPn U)), .int (nI (tEn U)), .ref (ad 6), .ref (ad 7), .ref (ad 8), .ref (ad 9), .ref (ad 10), .ref (ad 11), .ref (ad 12), .ref (ad 13), .ref (ad 14)]))) 6 = _ := (fU_n (by omega)).trans hm6
  have hm7 : (fU M 5 (.inr (7, [.int 0, .int (nI (tHn U)), .int (nI (tPn U)), .int (nI (tEn U)), .ref (ad 6), .ref (ad 7), .ref (ad 8), .ref (ad 9), .ref (ad 10), .ref (ad 11), .ref (ad 12), .ref (ad 13), .ref (ad 14)]))) 7 = _ := (fU_n (by omega)).trans hm7
  have hm8 : (fU M 5 (.inr (7, [.int 0, .int (nI (tHn U)), .int (nI (tPn U)), .int (nI (tEn U)), .ref (ad 6), .ref (ad 7), .ref (ad 8), .ref (ad 9), .ref (ad 10), .ref (ad 11), .ref (ad 12), .ref (ad 13), .ref (ad 14)]))) 8 = _ := (fU_n (by omega)).trans hm8
  have hm9 : (fU M 5 (.inr (7, [.int 0, .int (nI (tHn U)), .int (nI (tPn U)), .int (nI (tEn U)), .ref (ad 6), .ref (ad 7), .ref (ad 8), .ref (ad 9), .ref (ad 10), .ref (ad 11), .ref (ad 12), .ref (ad 13), .ref (ad 14)]))) 9 = _ := (fU_n (by omega)).trans hm9
  have hm10 : (fU M 5 (.inr (7, [.int 0, .int (nI (tHn U)), .int (nI (tPn U)), .int (nI (tEn U)), .ref (ad 6), .ref (ad 7), .ref (ad 8), .ref (ad 9), .ref (ad 10), .ref (ad 11), .ref (ad 12), .ref (ad 13), .ref (ad 14)]))) 10 = _ := (fU_n (by omega)).trans hm10
  have hm11 : (fU M 5 (.inr (7, [.int 0, .int (nI (tHn U)), .int (nI (tPn U)), .int (nI (tEn U)), .ref (ad 6), .ref (ad 7), .ref (ad 8), .ref (ad 9), .ref (ad 10), .ref (ad 11), .ref (ad 12), .ref (ad 13), .ref (ad 14)]))) 11 = _ := (fU_n (by omega)).trans hm11
  have hm12 : (fU M 5 (.inr (7, [.int 0, .int (nI (tHn U)), .int (nI (tPn U)), .int (nI (tEn U)), .ref (ad 6), .ref (ad 7), .ref (ad 8), .ref (ad 9), .ref (ad 10), .ref (ad 11), .ref (ad 12), .ref (ad 13), .ref (ad 14)]))) 12 = _ := (fU_n (by omega)).trans hm12
  have hm13 : (fU M 5 (.inr (7, [.int 0, .int (nI (tHn U)), .int (nI (tPn U)), .int (nI (tEn U)), .ref (ad 6), .ref (ad 7), .ref (ad 8), .ref (ad 9), .ref (ad 10), .ref (ad 11), .ref (ad 12), .ref (ad 13), .ref (ad 14)]))) 13 = _ := (fU_n (by omega)).trans hm13
  have hm14 : (fU M 5 (.inr (7, [.int 0, .int (nI (tHn U)), .int (nI (tPn U)), .int (nI (tEn U)), .ref (ad 6), .ref (ad 7), .ref (ad 8), .ref (ad 9), .ref (ad 10), .ref (ad 11), .ref (ad 12), .ref (ad 13), .ref (ad 14)]))) 14 = _ := (fU_n (by omega)).trans hm14
  have hM : isMo g ad (fU M 5 (.inr (7, [.int 0, .int (nI (tHn U)), .int (nI (tPn U)), .int (nI (tEn U)), .ref (ad 6), .ref (ad 7), .ref (ad 8), .ref (ad 9), .ref (ad 10), .ref (ad 11), .ref (ad 12), .ref (ad 13), .ref (ad 14)]))) 0 U sp ca := ⟨pcs, wa, ht, et, mi, co, as, hMo, ⟨hm6, hm7, hm8, hm9, hm10, hm11, hm12, hm13, hm14⟩, hRel, hCnt⟩
  have hrA : fReg 5 15 ad Mo ad (fU M 5 (.inr (7, [.int 0, .int (nI (tHn U)), .int (nI (tPn U)), .int (nI (tEn U)), .ref (ad 6), .ref (ad 7), .ref (ad 8), .ref (ad 9), .ref (ad 10), .ref (ad 11), .ref (ad 12), .ref (ad 13), .ref (ad 14)]))) := fReg_U hrA (by omega)
  obtain ⟨M26, eM26⟩ : ∃ z, z = (fU M 5 (.inr (7, [.int 0, .int (nI (tHn U)), .int (nI (tPn U)), .int (nI (tEn U)), .ref (ad 6), .ref (ad 7), .ref (ad 8), .ref (ad 9), .ref (ad 10), .ref (ad 11), .ref (ad 12), .ref (ad 13), .ref (ad 14)]))) := ⟨_, rfl⟩
  rw [← eM26] at hM hw hrA
  obtain ⟨pcs, wa, ht, et, mi, co, as, hMo, ⟨hm6, hm7, hm8, hm9, hm10, hm11, hm12, hm13, hm14⟩, hRel, hCnt⟩ := id hM
  obtain ⟨hn1, hn2, hn3⟩ := id hCnt
  have hn1 : tHn U ≤ 30 := hn1
  have hn2 : tPn U ≤ 6 := hn2
  have hn3 : tEn U ≤ 6 := hn3
  have hMo : M26 5 = some (.inr (7, [.int 0, .int (nI (tHn U)), .int (nI (tPn U)), .int (nI (tEn U)), .ref (ad 6), .ref (ad 7), .ref (ad 8), .ref (ad 9), .ref (ad 10), .ref (ad 11), .ref (ad 12), .ref (ad 13), .ref (ad 14)])) := hMo
  obtain ⟨rH, rP, rE, rM⟩ := id hRel
  refine lv_iload_n hx hb dX6_addEngine_5 rfl (lv_at hl 1 rfl) ?_
  refine lv_iload_n hx hb dX6_addEngine_6 rfl (lv_at hl 2 rfl) ?_
  refine fk_di (fcS X hw (c_isCell l g ad M26 x y) wq843 kSX6_isCell ⟨(Nat.le_of_ble_eq_true rfl), (Nat.le_of_ble_eq_true rfl)⟩ rfl hl.1 rfl (Nat.le_of_ble_eq_true rfl) dX6_addEngine_7 ⟨(by dsimp only [fR]; omega), (by dsimp only [fR]; omega)⟩) hw (fun H locs hw => ?_)
  refine lv_if_ne (tgt := 19) hx hb dX6_addEngine_10 (by decide) (fun c_1 => ?_) (fun c_1 => absurd (bI_f.mp c_1) (by rw [h1]; decide))
  have c_1 := bI_nf.mp c_1
  refine lv_iload_n hx hb dX6_addEngine_19 rfl (lv_at hl 3 rfl) ?_
  refine lv_iconst (v := 1) hx hb dX6_addEngine_20 (by decide) ?_
  refine lv_iconst (v := 4) hx hb dX6_addEngine_21 (by decide) ?_
  refine fk_di (fcS X hw (c_isIn l g ad M26 (hor) 1 4) wq846 kSX6_isIn ⟨(Nat.le_of_ble_eq_true rfl), (Nat.le_of_ble_eq_true rfl)⟩ rfl hl.1 rfl (Nat.le_of_ble_eq_true rfl) dX6_addEngine_22 ⟨(by dsimp only [fR]; omega), (by dsimp only [fR]; omega)⟩) hw (fun H locs hw => ?_)
  refine lv_if_eq (tgt := 39) hx hb dX6_addEngine_25 (by decide) (fun c_2 => absurd (bI_f.mp c_2) (by rw [h2]; decide)) (fun c_2 => ?_)
  have c_2 := bI_nf.mp c_2
  refine lv_iload hx hb dX6_addEngine_28 (lv_at hl 4 rfl) ?_
  refine lv_iconst (v := 1) hx hb dX6_addEngine_30 (by decide) ?_
  refine lv_bipush (v := 20) hx hb dX6_addEngine_31 (by decide) ?_
  refine fk_di (fcS X hw (c_isIn l g ad M26 (pow) 1 20) wq846 kSX6_isIn ⟨(Nat.le_of_ble_eq_true rfl), (Nat.le_of_ble_eq_true rfl)⟩ rfl hl.1 rfl (Nat.le_of_ble_eq_true rfl) dX6_addEngine_33 ⟨(by dsimp only [fR]; omega), (by dsimp only [fR]; omega)⟩) hw (fun H locs hw => ?_)
  refine lv_if_ne (tgt := 45) hx hb dX6_addEngine_36 (by decide) (fun c_3 => ?_) (fun c_3 => absurd (bI_f.mp c_3) (by rw [h2b]; decide))
  have c_3 := bI_nf.mp c_3
  refine lv_aload_n hx hb dX6_addEngine_45 rfl (lv_at hl 0 rfl) ?_
  refine f_get X hw hMo fc7 3 (by decide) wq797 rfl (v := .int (nI (tEn U))) rfl dX6_addEngine_46 ?_
  refine lv_bipush (v := 6) hx hb dX6_addEngine_49 (by decide) ?_
  refine lv_icmp_eq (tgt := 67) hx hb dX6_addEngine_51 (by decide) (fun c_4 => absurd (nI_eq' (a := tEn U) (b := 6) c_4 (by omega) (by omega)) h4) (fun c_4 => ?_)
  have c_4 := nI_neq' (a := (tEn U)) (b := 6) c_4 (by omega) (by omega)
  refine lv_aload_n hx hb dX6_addEngine_54 rfl (lv_at hl 0 rfl) ?_
  refine lv_iload_n hx hb dX6_addEngine_55 rfl (lv_at hl 1 rfl) ?_
  refine lv_bipush (v := 14) hx hb dX6_addEngine_56 (by decide) ?_
  refine lv_iload_n hx hb dX6_addEngine_58 rfl (lv_at hl 2 rfl) ?_
  refine lv_imul hx hb dX6_addEngine_59 ?_
  refine lv_iadd hx hb dX6_addEngine_60 ?_
  refine fk_di (fcV X hw (c_m_isStreet l g ad M26 hM (x + 14 * y)) hMo rfl wq857 kVX6_isStreet ⟨(Nat.le_of_ble_eq_true rfl), (Nat.le_of_ble_eq_true rfl)⟩ rfl hl.1 rfl (Nat.le_of_ble_eq_true rfl) dX6_addEngine_61 ⟨(by dsimp only [fR]; omega), (by dsimp only [fR]; omega)⟩) hw (fun H locs hw => ?_)
  refine lv_if_ne (tgt := 73) hx hb dX6_addEngine_64 (by decide) (fun c_5 => ?_) (fun c_5 => absurd (bI_f.mp c_5) (by rw [h3]; decide))
  have c_5 := bI_nf.mp c_5
  refine lv_bipush (v := 9) hx hb dX6_addEngine_73 (by decide) ?_
  refine f_newI X hw 30 (by omega) wq47 (N' := 9) (by decide) (by rfl) (by decide) (by dsimp only [fR]; omega) (by dsimp only [fR]; omega) dX6_addEngine_75 (fun q1 H hw => ?_)
  obtain ⟨ad1, ea1⟩ : ∃ z, z = fV ad 30 q1 := ⟨_, rfl⟩
  have eq1 : ad1 30 = q1 := by rw [ea1]; exact fV_s
  have eA1 : ∀ l, l ≠ 30 → ad1 l = ad l := fun l h => by rw [ea1]; exact fV_n h
  rw [← ea1] at hw
  obtain ⟨Mn1, em1⟩ : ∃ z, z = fU M26 30 (.inl (gI g, 9, .inl (fun _ => 0))) := ⟨_, rfl⟩
  have eM1 : ∀ l, l ≠ 30 → Mn1 l = M26 l := fun l h => by rw [em1]; exact fU_n h
  have eS1 : Mn1 30 = some (.inl (gI g, 9, .inl (fun _ => 0))) := by rw [em1]; exact fU_s
  rw [← em1] at hw
  have hMo : Mn1 5 = some (.inr (7, [.int 0, .int (nI (tHn U)), .int (nI (tPn U)), .int (nI (tEn U)), .ref (ad 6), .ref (ad 7), .ref (ad 8), .ref (ad 9), .ref (ad 10), .ref (ad 11), .ref (ad 12), .ref (ad 13), .ref (ad 14)])) := (eM1 _ (by omega)).trans hMo
  have hm6 : Mn1 6 = some (.inl (gI g, 6, .inl pcs)) := (eM1 _ (by omega)).trans hm6
  have hm7 : Mn1 7 = some (.inl (gI g, 6, .inl wa)) := (eM1 _ (by omega)).trans hm7
  have hm8 : Mn1 8 = some (.inl (gI g, 210, .inl ht)) := (eM1 _ (by omega)).trans hm8
  have hm9 : Mn1 9 = some (.inl (gI g, 54, .inl et)) := (eM1 _ (by omega)).trans hm9
  have hm10 : Mn1 10 = some (.inl (gI g, 1, .inl mi)) := (eM1 _ (by omega)).trans hm10
  have hm11 : Mn1 11 = some (.inl (gI g, 6, .inl co)) := (eM1 _ (by omega)).trans hm11
  have hm12 : Mn1 12 = some (.inl (gZ g, 6, .inl as)) := (eM1 _ (by omega)).trans hm12
  have hm13 : Mn1 13 = some (.inl (gI g, 140, .inl sp)) := (eM1 _ (by omega)).trans hm13
  have hm14 : Mn1 14 = some (.inl (gZ g, 30, .inl ca)) := (eM1 _ (by omega)).trans hm14
  refine lv_dup hx hb dX6_addEngine_77 rfl ?_
  refine lv_iconst (v := 0) hx hb dX6_addEngine_78 (by decide) ?_
  refine lv_iload_n hx hb dX6_addEngine_79 rfl (lv_at hl 1 rfl) ?_
  refine lv_bipush (v := 14) hx hb dX6_addEngine_80 (by decide) ?_
  refine lv_iload_n hx hb dX6_addEngine_82 rfl (lv_at hl 2 rfl) ?_
  refine lv_imul hx hb dX6_addEngine_83 ?_
  refine lv_iadd hx hb dX6_addEngine_84 ?_
  refine f_adr3 (ad := ad1) (lb := 30) eq1 ?_
  refine f_iast X hw eS1 (by unfold vp_in; decide) dX6_addEngine_85 (fun H locs hw => ?_)
  rw [show (0 : Int32).toNatClampNeg = 0 from rfl] at hw
  have hw : fw g ad1 (fU Mn1 30 (.inl (gI g, 9, .inl (upd (fun _ => 0) 0 (x + (14 * y)))))) s H locs := hw
  have hMo : (fU Mn1 30 (.inl (gI g, 9, .inl (upd (fun _ => 0) 0 (x + (14 * y)))))) 5 = some (.inr (7, [.int 0, .int (nI (tHn U)), .int (nI (tPn U)), .int (nI (tEn U)), .ref (ad 6), .ref (ad 7), .ref (ad 8), .ref (ad 9), .ref (ad 10), .ref (ad 11), .ref (ad 12), .ref (ad 13), .ref (ad 14)])) := (fU_n (by omega)).trans hMo
  have hm6 : (fU Mn1 30 (.inl (gI g, 9, .inl (upd (fun _ => 0) 0 (x + (14 * y)))))) 6 = some (.inl (gI g, 6, .inl pcs)) := (fU_n (by omega)).trans hm6
  have hm7 : (fU Mn1 30 (.inl (gI g, 9, .inl (upd (fun _ => 0) 0 (x + (14 * y)))))) 7 = some (.inl (gI g, 6, .inl wa)) := (fU_n (by omega)).trans hm7
  have hm8 : (fU Mn1 30 (.inl (gI g, 9, .inl (upd (fun _ => 0) 0 (x + (14 * y)))))) 8 = some (.inl (gI g, 210, .inl ht)) := (fU_n (by omega)).trans hm8
  have hm9 : (fU Mn1 30 (.inl (gI g, 9, .inl (upd (fun _ => 0) 0 (x + (14 * y)))))) 9 = some (.inl (gI g, 54, .inl et)) := (fU_n (by omega)).trans hm9
  have hm10 : (fU Mn1 30 (.inl (gI g, 9, .inl (upd (fun _ => 0) 0 (x + (14 * y)))))) 10 = some (.inl (gI g, 1, .inl mi)) := (fU_n (by omega)).trans hm10
  have hm11 : (fU Mn1 30 (.inl (gI g, 9, .inl (upd (fun _ => 0) 0 (x + (14 * y)))))) 11 = some (.inl (gI g, 6, .inl co)) := (fU_n (by omega)).trans hm11
  have hm12 : (fU Mn1 30 (.inl (gI g, 9, .inl (upd (fun _ => 0) 0 (x + (14 * y)))))) 12 = some (.inl (gZ g, 6, .inl as)) := (fU_n (by omega)).trans hm12
  have hm13 : (fU Mn1 30 (.inl (gI g, 9, .inl (upd (fun _ => 0) 0 (x + (14 * y)))))) 13 = some (.inl (gI g, 140, .inl sp)) := (fU_n (by omega)).trans hm13
  have hm14 : (fU Mn1 30 (.inl (gI g, 9, .inl (upd (fun _ => 0) 0 (x + (14 * y)))))) 14 = some (.inl (gZ g, 30, .inl ca)) := (fU_n (by omega)).trans hm14
  have eS1 : (fU Mn1 30 (.inl (gI g, 9, .inl (upd (fun _ => 0) 0 (x + (14 * y)))))) 30 = some (.inl (gI g, 9, .inl (upd (fun _ => 0) 0 (x + (14 * y))))) := fU_s
  refine lv_dup hx hb dX6_addEngine_86 rfl ?_
  refine lv_iconst (v := 1) hx hb dX6_addEngine_87 (by decide) ?_
  refine lv_iload_n hx hb dX6_addEngine_88 rfl (lv_at hl 3 rfl) ?_
  refine f_adr3 (ad := ad1) (lb := 30) eq1 ?_
  refine f_iast X hw eS1 (by unfold vp_in; decide) dX6_addEngine_89 (fun H locs hw => ?_)
  rw [show (1 : Int32).toNatClampNeg = 1 from rfl] at hw
  have hw : fw g ad1 (fU (fU Mn1 30 (.inl (gI g, 9, .inl (upd (fun _ => 0) 0 (x + (14 * y)))))) 30 (.inl (gI g, 9, .inl (upd (upd (fun _ => 0) 0 (x + (14 * y))) 1 hor)))) s H locs := hw
  rw [fU_U] at hw
  have hMo : (fU Mn1 30 (.inl (gI g, 9, .inl (upd (upd (fun _ => 0) 0 (x + (14 * y))) 1 hor)))) 5 = some (.inr (7, [.int 0, .int (nI (tHn U)), .int (nI (tPn U)), .int (nI (tEn U)), .ref (ad 6), .ref (ad 7), .ref (ad 8), .ref (ad 9), .ref (ad 10), .ref (ad 11), .ref (ad 12), .ref (ad 13), .ref (ad 14)])) := ((fU_n (by omega)).trans (fU_n (by omega)).symm).trans hMo
  have hm6 : (fU Mn1 30 (.inl (gI g, 9, .inl (upd (upd (fun _ => 0) 0 (x + (14 * y))) 1 hor)))) 6 = some (.inl (gI g, 6, .inl pcs)) := ((fU_n (by omega)).trans (fU_n (by omega)).symm).trans hm6
  have hm7 : (fU Mn1 30 (.inl (gI g, 9, .inl (upd (upd (fun _ => 0) 0 (x + (14 * y))) 1 hor)))) 7 = some (.inl (gI g, 6, .inl wa)) := ((fU_n (by omega)).trans (fU_n (by omega)).symm).trans hm7
  have hm8 : (fU Mn1 30 (.inl (gI g, 9, .inl (upd (upd (fun _ => 0) 0 (x + (14 * y))) 1 hor)))) 8 = some (.inl (gI g, 210, .inl ht)) := ((fU_n (by omega)).trans (fU_n (by omega)).symm).trans hm8
  have hm9 : (fU Mn1 30 (.inl (gI g, 9, .inl (upd (upd (fun _ => 0) 0 (x + (14 * y))) 1 hor)))) 9 = some (.inl (gI g, 54, .inl et)) := ((fU_n (by omega)).trans (fU_n (by omega)).symm).trans hm9
  have hm10 : (fU Mn1 30 (.inl (gI g, 9, .inl (upd (upd (fun _ => 0) 0 (x + (14 * y))) 1 hor)))) 10 = some (.inl (gI g, 1, .inl mi)) := ((fU_n (by omega)).trans (fU_n (by omega)).symm).trans hm10
  have hm11 : (fU Mn1 30 (.inl (gI g, 9, .inl (upd (upd (fun _ => 0) 0 (x + (14 * y))) 1 hor)))) 11 = some (.inl (gI g, 6, .inl co)) := ((fU_n (by omega)).trans (fU_n (by omega)).symm).trans hm11
  have hm12 : (fU Mn1 30 (.inl (gI g, 9, .inl (upd (upd (fun _ => 0) 0 (x + (14 * y))) 1 hor)))) 12 = some (.inl (gZ g, 6, .inl as)) := ((fU_n (by omega)).trans (fU_n (by omega)).symm).trans hm12
  have hm13 : (fU Mn1 30 (.inl (gI g, 9, .inl (upd (upd (fun _ => 0) 0 (x + (14 * y))) 1 hor)))) 13 = some (.inl (gI g, 140, .inl sp)) := ((fU_n (by omega)).trans (fU_n (by omega)).symm).trans hm13
  have hm14 : (fU Mn1 30 (.inl (gI g, 9, .inl (upd (upd (fun _ => 0) 0 (x + (14 * y))) 1 hor)))) 14 = some (.inl (gZ g, 30, .inl ca)) := ((fU_n (by omega)).trans (fU_n (by omega)).symm).trans hm14
  have eS1 : (fU Mn1 30 (.inl (gI g, 9, .inl (upd (upd (fun _ => 0) 0 (x + (14 * y))) 1 hor)))) 30 = some (.inl (gI g, 9, .inl (upd (upd (fun _ => 0) 0 (x + (14 * y))) 1 hor))) := fU_s
  refine lv_dup hx hb dX6_addEngine_90 rfl ?_
  refine lv_iconst (v := 2) hx hb dX6_addEngine_91 (by decide) ?_
  refine lv_iload hx hb dX6_addEngine_92 (lv_at hl 4 rfl) ?_
  refine f_adr3 (ad := ad1) (lb := 30) eq1 ?_
  refine f_iast X hw eS1 (by unfold vp_in; decide) dX6_addEngine_94 (fun H locs hw => ?_)
  rw [show (2 : Int32).toNatClampNeg = 2 from rfl] at hw
  have hw : fw g ad1 (fU (fU Mn1 30 (.inl (gI g, 9, .inl (upd (upd (fun _ => 0) 0 (x + (14 * y))) 1 hor)))) 30 (.inl (gI g, 9, .inl (upd (upd (upd (fun _ => 0) 0 (x + (14 * y))) 1 hor) 2 pow)))) s H locs := hw
  rw [fU_U] at hw
  have hMo : (fU Mn1 30 (.inl (gI g, 9, .inl (upd (upd (upd (fun _ => 0) 0 (x + (14 * y))) 1 hor) 2 pow)))) 5 = some (.inr (7, [.int 0, .int (nI (tHn U)), .int (nI (tPn U)), .int (nI (tEn U)), .ref (ad 6), .ref (ad 7), .ref (ad 8), .ref (ad 9), .ref (ad 10), .ref (ad 11), .ref (ad 12), .ref (ad 13), .ref (ad 14)])) := ((fU_n (by omega)).trans (fU_n (by omega)).symm).trans hMo
  have hm6 : (fU Mn1 30 (.inl (gI g, 9, .inl (upd (upd (upd (fun _ => 0) 0 (x + (14 * y))) 1 hor) 2 pow)))) 6 = some (.inl (gI g, 6, .inl pcs)) := ((fU_n (by omega)).trans (fU_n (by omega)).symm).trans hm6
  have hm7 : (fU Mn1 30 (.inl (gI g, 9, .inl (upd (upd (upd (fun _ => 0) 0 (x + (14 * y))) 1 hor) 2 pow)))) 7 = some (.inl (gI g, 6, .inl wa)) := ((fU_n (by omega)).trans (fU_n (by omega)).symm).trans hm7
  have hm8 : (fU Mn1 30 (.inl (gI g, 9, .inl (upd (upd (upd (fun _ => 0) 0 (x + (14 * y))) 1 hor) 2 pow)))) 8 = some (.inl (gI g, 210, .inl ht)) := ((fU_n (by omega)).trans (fU_n (by omega)).symm).trans hm8
  have hm9 : (fU Mn1 30 (.inl (gI g, 9, .inl (upd (upd (upd (fun _ => 0) 0 (x + (14 * y))) 1 hor) 2 pow)))) 9 = some (.inl (gI g, 54, .inl et)) := ((fU_n (by omega)).trans (fU_n (by omega)).symm).trans hm9
  have hm10 : (fU Mn1 30 (.inl (gI g, 9, .inl (upd (upd (upd (fun _ => 0) 0 (x + (14 * y))) 1 hor) 2 pow)))) 10 = some (.inl (gI g, 1, .inl mi)) := ((fU_n (by omega)).trans (fU_n (by omega)).symm).trans hm10
  have hm11 : (fU Mn1 30 (.inl (gI g, 9, .inl (upd (upd (upd (fun _ => 0) 0 (x + (14 * y))) 1 hor) 2 pow)))) 11 = some (.inl (gI g, 6, .inl co)) := ((fU_n (by omega)).trans (fU_n (by omega)).symm).trans hm11
  have hm12 : (fU Mn1 30 (.inl (gI g, 9, .inl (upd (upd (upd (fun _ => 0) 0 (x + (14 * y))) 1 hor) 2 pow)))) 12 = some (.inl (gZ g, 6, .inl as)) := ((fU_n (by omega)).trans (fU_n (by omega)).symm).trans hm12
  have hm13 : (fU Mn1 30 (.inl (gI g, 9, .inl (upd (upd (upd (fun _ => 0) 0 (x + (14 * y))) 1 hor) 2 pow)))) 13 = some (.inl (gI g, 140, .inl sp)) := ((fU_n (by omega)).trans (fU_n (by omega)).symm).trans hm13
  have hm14 : (fU Mn1 30 (.inl (gI g, 9, .inl (upd (upd (upd (fun _ => 0) 0 (x + (14 * y))) 1 hor) 2 pow)))) 14 = some (.inl (gZ g, 30, .inl ca)) := ((fU_n (by omega)).trans (fU_n (by omega)).symm).trans hm14
  have eS1 : (fU Mn1 30 (.inl (gI g, 9, .inl (upd (upd (upd (fun _ => 0) 0 (x + (14 * y))) 1 hor) 2 pow)))) 30 = some (.inl (gI g, 9, .inl (upd (upd (upd (fun _ => 0) 0 (x + (14 * y))) 1 hor) 2 pow))) := fU_s
  refine lv_dup hx hb dX6_addEngine_95 rfl ?_
  refine lv_iconst (v := 3) hx hb dX6_addEngine_96 (by decide) ?_
  refine lv_bipush (v := 60) hx hb dX6_addEngine_97 (by decide) ?_
  refine f_adr3 (ad := ad1) (lb := 30) eq1 ?_
  refine f_iast X hw eS1 (by unfold vp_in; decide) dX6_addEngine_99 (fun H locs hw => ?_)
  rw [show (3 : Int32).toNatClampNeg = 3 from rfl] at hw
  have hw : fw g ad1 (fU (fU Mn1 30 (.inl (gI g, 9, .inl (upd (upd (upd (fun _ => 0) 0 (x + (14 * y))) 1 hor) 2 pow)))) 30 (.inl (gI g, 9, .inl (upd (upd (upd (upd (fun _ => 0) 0 (x + (14 * y))) 1 hor) 2 pow) 3 60)))) s H locs := hw
  rw [fU_U] at hw
  have hMo : (fU Mn1 30 (.inl (gI g, 9, .inl (upd (upd (upd (upd (fun _ => 0) 0 (x + (14 * y))) 1 hor) 2 pow) 3 60)))) 5 = some (.inr (7, [.int 0, .int (nI (tHn U)), .int (nI (tPn U)), .int (nI (tEn U)), .ref (ad 6), .ref (ad 7), .ref (ad 8), .ref (ad 9), .ref (ad 10), .ref (ad 11), .ref (ad 12), .ref (ad 13), .ref (ad 14)])) := ((fU_n (by omega)).trans (fU_n (by omega)).symm).trans hMo
  have hm6 : (fU Mn1 30 (.inl (gI g, 9, .inl (upd (upd (upd (upd (fun _ => 0) 0 (x + (14 * y))) 1 hor) 2 pow) 3 60)))) 6 = some (.inl (gI g, 6, .inl pcs)) := ((fU_n (by omega)).trans (fU_n (by omega)).symm).trans hm6
  have hm7 : (fU Mn1 30 (.inl (gI g, 9, .inl (upd (upd (upd (upd (fun _ => 0) 0 (x + (14 * y))) 1 hor) 2 pow) 3 60)))) 7 = some (.inl (gI g, 6, .inl wa)) := ((fU_n (by omega)).trans (fU_n (by omega)).symm).trans hm7
  have hm8 : (fU Mn1 30 (.inl (gI g, 9, .inl (upd (upd (upd (upd (fun _ => 0) 0 (x + (14 * y))) 1 hor) 2 pow) 3 60)))) 8 = some (.inl (gI g, 210, .inl ht)) := ((fU_n (by omega)).trans (fU_n (by omega)).symm).trans hm8
  have hm9 : (fU Mn1 30 (.inl (gI g, 9, .inl (upd (upd (upd (upd (fun _ => 0) 0 (x + (14 * y))) 1 hor) 2 pow) 3 60)))) 9 = some (.inl (gI g, 54, .inl et)) := ((fU_n (by omega)).trans (fU_n (by omega)).symm).trans hm9
  have hm10 : (fU Mn1 30 (.inl (gI g, 9, .inl (upd (upd (upd (upd (fun _ => 0) 0 (x + (14 * y))) 1 hor) 2 pow) 3 60)))) 10 = some (.inl (gI g, 1, .inl mi)) := ((fU_n (by omega)).trans (fU_n (by omega)).symm).trans hm10
  have hm11 : (fU Mn1 30 (.inl (gI g, 9, .inl (upd (upd (upd (upd (fun _ => 0) 0 (x + (14 * y))) 1 hor) 2 pow) 3 60)))) 11 = some (.inl (gI g, 6, .inl co)) := ((fU_n (by omega)).trans (fU_n (by omega)).symm).trans hm11
  have hm12 : (fU Mn1 30 (.inl (gI g, 9, .inl (upd (upd (upd (upd (fun _ => 0) 0 (x + (14 * y))) 1 hor) 2 pow) 3 60)))) 12 = some (.inl (gZ g, 6, .inl as)) := ((fU_n (by omega)).trans (fU_n (by omega)).symm).trans hm12
  have hm13 : (fU Mn1 30 (.inl (gI g, 9, .inl (upd (upd (upd (upd (fun _ => 0) 0 (x + (14 * y))) 1 hor) 2 pow) 3 60)))) 13 = some (.inl (gI g, 140, .inl sp)) := ((fU_n (by omega)).trans (fU_n (by omega)).symm).trans hm13
  have hm14 : (fU Mn1 30 (.inl (gI g, 9, .inl (upd (upd (upd (upd (fun _ => 0) 0 (x + (14 * y))) 1 hor) 2 pow) 3 60)))) 14 = some (.inl (gZ g, 30, .inl ca)) := ((fU_n (by omega)).trans (fU_n (by omega)).symm).trans hm14
  have eS1 : (fU Mn1 30 (.inl (gI g, 9, .inl (upd (upd (upd (upd (fun _ => 0) 0 (x + (14 * y))) 1 hor) 2 pow) 3 60)))) 30 = some (.inl (gI g, 9, .inl (upd (upd (upd (upd (fun _ => 0) 0 (x + (14 * y))) 1 hor) 2 pow) 3 60))) := fU_s
  refine lv_dup hx hb dX6_addEngine_100 rfl ?_
  refine lv_iconst (v := 4) hx hb dX6_addEngine_101 (by decide) ?_
  refine lv_iconst (v := 0) hx hb dX6_addEngine_102 (by decide) ?_
  refine f_adr3 (ad := ad1) (lb := 30) eq1 ?_
  refine f_iast X hw eS1 (by unfold vp_in; decide) dX6_addEngine_103 (fun H locs hw => ?_)
  rw [show (4 : Int32).toNatClampNeg = 4 from rfl] at hw
  have hw : fw g ad1 (fU (fU Mn1 30 (.inl (gI g, 9, .inl (upd (upd (upd (upd (fun _ => 0) 0 (x + (14 * y))) 1 hor) 2 pow) 3 60)))) 30 (.inl (gI g, 9, .inl (upd (upd (upd (upd (upd (fun _ => 0) 0 (x + (14 * y))) 1 hor) 2 pow) 3 60) 4 0)))) s H locs := hw
  rw [fU_U] at hw
  have hMo : (fU Mn1 30 (.inl (gI g, 9, .inl (upd (upd (upd (upd (upd (fun _ => 0) 0 (x + (14 * y))) 1 hor) 2 pow) 3 60) 4 0)))) 5 = some (.inr (7, [.int 0, .int (nI (tHn U)), .int (nI (tPn U)), .int (nI (tEn U)), .ref (ad 6), .ref (ad 7), .ref (ad 8), .ref (ad 9), .ref (ad 10), .ref (ad 11), .ref (ad 12), .ref (ad 13), .ref (ad 14)])) := ((fU_n (by omega)).trans (fU_n (by omega)).symm).trans hMo
  have hm6 : (fU Mn1 30 (.inl (gI g, 9, .inl (upd (upd (upd (upd (upd (fun _ => 0) 0 (x + (14 * y))) 1 hor) 2 pow) 3 60) 4 0)))) 6 = some (.inl (gI g, 6, .inl pcs)) := ((fU_n (by omega)).trans (fU_n (by omega)).symm).trans hm6
  have hm7 : (fU Mn1 30 (.inl (gI g, 9, .inl (upd (upd (upd (upd (upd (fun _ => 0) 0 (x + (14 * y))) 1 hor) 2 pow) 3 60) 4 0)))) 7 = some (.inl (gI g, 6, .inl wa)) := ((fU_n (by omega)).trans (fU_n (by omega)).symm).trans hm7
  have hm8 : (fU Mn1 30 (.inl (gI g, 9, .inl (upd (upd (upd (upd (upd (fun _ => 0) 0 (x + (14 * y))) 1 hor) 2 pow) 3 60) 4 0)))) 8 = some (.inl (gI g, 210, .inl ht)) := ((fU_n (by omega)).trans (fU_n (by omega)).symm).trans hm8
  have hm9 : (fU Mn1 30 (.inl (gI g, 9, .inl (upd (upd (upd (upd (upd (fun _ => 0) 0 (x + (14 * y))) 1 hor) 2 pow) 3 60) 4 0)))) 9 = some (.inl (gI g, 54, .inl et)) := ((fU_n (by omega)).trans (fU_n (by omega)).symm).trans hm9
  have hm10 : (fU Mn1 30 (.inl (gI g, 9, .inl (upd (upd (upd (upd (upd (fun _ => 0) 0 (x + (14 * y))) 1 hor) 2 pow) 3 60) 4 0)))) 10 = some (.inl (gI g, 1, .inl mi)) := ((fU_n (by omega)).trans (fU_n (by omega)).symm).trans hm10
  have hm11 : (fU Mn1 30 (.inl (gI g, 9, .inl (upd (upd (upd (upd (upd (fun _ => 0) 0 (x + (14 * y))) 1 hor) 2 pow) 3 60) 4 0)))) 11 = some (.inl (gI g, 6, .inl co)) := ((fU_n (by omega)).trans (fU_n (by omega)).symm).trans hm11
  have hm12 : (fU Mn1 30 (.inl (gI g, 9, .inl (upd (upd (upd (upd (upd (fun _ => 0) 0 (x + (14 * y))) 1 hor) 2 pow) 3 60) 4 0)))) 12 = some (.inl (gZ g, 6, .inl as)) := ((fU_n (by omega)).trans (fU_n (by omega)).symm).trans hm12
  have hm13 : (fU Mn1 30 (.inl (gI g, 9, .inl (upd (upd (upd (upd (upd (fun _ => 0) 0 (x + (14 * y))) 1 hor) 2 pow) 3 60) 4 0)))) 13 = some (.inl (gI g, 140, .inl sp)) := ((fU_n (by omega)).trans (fU_n (by omega)).symm).trans hm13
  have hm14 : (fU Mn1 30 (.inl (gI g, 9, .inl (upd (upd (upd (upd (upd (fun _ => 0) 0 (x + (14 * y))) 1 hor) 2 pow) 3 60) 4 0)))) 14 = some (.inl (gZ g, 30, .inl ca)) := ((fU_n (by omega)).trans (fU_n (by omega)).symm).trans hm14
  have eS1 : (fU Mn1 30 (.inl (gI g, 9, .inl (upd (upd (upd (upd (upd (fun _ => 0) 0 (x + (14 * y))) 1 hor) 2 pow) 3 60) 4 0)))) 30 = some (.inl (gI g, 9, .inl (upd (upd (upd (upd (upd (fun _ => 0) 0 (x + (14 * y))) 1 hor) 2 pow) 3 60) 4 0))) := fU_s
  refine lv_dup hx hb dX6_addEngine_104 rfl ?_
  refine lv_iconst (v := 5) hx hb dX6_addEngine_105 (by decide) ?_
  refine lv_iconst (v := 0) hx hb dX6_addEngine_106 (by decide) ?_
  refine f_adr3 (ad := ad1) (lb := 30) eq1 ?_
  refine f_iast X hw eS1 (by unfold vp_in; decide) dX6_addEngine_107 (fun H locs hw => ?_)
  rw [show (5 : Int32).toNatClampNeg = 5 from rfl] at hw
  have hw : fw g ad1 (fU (fU Mn1 30 (.inl (gI g, 9, .inl (upd (upd (upd (upd (upd (fun _ => 0) 0 (x + (14 * y))) 1 hor) 2 pow) 3 60) 4 0)))) 30 (.inl (gI g, 9, .inl (upd (upd (upd (upd (upd (upd (fun _ => 0) 0 (x + (14 * y))) 1 hor) 2 pow) 3 60) 4 0) 5 0)))) s H locs := hw
  rw [fU_U] at hw
  have hMo : (fU Mn1 30 (.inl (gI g, 9, .inl (upd (upd (upd (upd (upd (upd (fun _ => 0) 0 (x + (14 * y))) 1 hor) 2 pow) 3 60) 4 0) 5 0)))) 5 = some (.inr (7, [.int 0, .int (nI (tHn U)), .int (nI (tPn U)), .int (nI (tEn U)), .ref (ad 6), .ref (ad 7), .ref (ad 8), .ref (ad 9), .ref (ad 10), .ref (ad 11), .ref (ad 12), .ref (ad 13), .ref (ad 14)])) := ((fU_n (by omega)).trans (fU_n (by omega)).symm).trans hMo
  have hm6 : (fU Mn1 30 (.inl (gI g, 9, .inl (upd (upd (upd (upd (upd (upd (fun _ => 0) 0 (x + (14 * y))) 1 hor) 2 pow) 3 60) 4 0) 5 0)))) 6 = some (.inl (gI g, 6, .inl pcs)) := ((fU_n (by omega)).trans (fU_n (by omega)).symm).trans hm6
  have hm7 : (fU Mn1 30 (.inl (gI g, 9, .inl (upd (upd (upd (upd (upd (upd (fun _ => 0) 0 (x + (14 * y))) 1 hor) 2 pow) 3 60) 4 0) 5 0)))) 7 = some (.inl (gI g, 6, .inl wa)) := ((fU_n (by omega)).trans (fU_n (by omega)).symm).trans hm7
  have hm8 : (fU Mn1 30 (.inl (gI g, 9, .inl (upd (upd (upd (upd (upd (upd (fun _ => 0) 0 (x + (14 * y))) 1 hor) 2 pow) 3 60) 4 0) 5 0)))) 8 = some (.inl (gI g, 210, .inl ht)) := ((fU_n (by omega)).trans (fU_n (by omega)).symm).trans hm8
  have hm9 : (fU Mn1 30 (.inl (gI g, 9, .inl (upd (upd (upd (upd (upd (upd (fun _ => 0) 0 (x + (14 * y))) 1 hor) 2 pow) 3 60) 4 0) 5 0)))) 9 = some (.inl (gI g, 54, .inl et)) := ((fU_n (by omega)).trans (fU_n (by omega)).symm).trans hm9
  have hm10 : (fU Mn1 30 (.inl (gI g, 9, .inl (upd (upd (upd (upd (upd (upd (fun _ => 0) 0 (x + (14 * y))) 1 hor) 2 pow) 3 60) 4 0) 5 0)))) 10 = some (.inl (gI g, 1, .inl mi)) := ((fU_n (by omega)).trans (fU_n (by omega)).symm).trans hm10
  have hm11 : (fU Mn1 30 (.inl (gI g, 9, .inl (upd (upd (upd (upd (upd (upd (fun _ => 0) 0 (x + (14 * y))) 1 hor) 2 pow) 3 60) 4 0) 5 0)))) 11 = some (.inl (gI g, 6, .inl co)) := ((fU_n (by omega)).trans (fU_n (by omega)).symm).trans hm11
  have hm12 : (fU Mn1 30 (.inl (gI g, 9, .inl (upd (upd (upd (upd (upd (upd (fun _ => 0) 0 (x + (14 * y))) 1 hor) 2 pow) 3 60) 4 0) 5 0)))) 12 = some (.inl (gZ g, 6, .inl as)) := ((fU_n (by omega)).trans (fU_n (by omega)).symm).trans hm12
  have hm13 : (fU Mn1 30 (.inl (gI g, 9, .inl (upd (upd (upd (upd (upd (upd (fun _ => 0) 0 (x + (14 * y))) 1 hor) 2 pow) 3 60) 4 0) 5 0)))) 13 = some (.inl (gI g, 140, .inl sp)) := ((fU_n (by omega)).trans (fU_n (by omega)).symm).trans hm13
  have hm14 : (fU Mn1 30 (.inl (gI g, 9, .inl (upd (upd (upd (upd (upd (upd (fun _ => 0) 0 (x + (14 * y))) 1 hor) 2 pow) 3 60) 4 0) 5 0)))) 14 = some (.inl (gZ g, 30, .inl ca)) := ((fU_n (by omega)).trans (fU_n (by omega)).symm).trans hm14
  have eS1 : (fU Mn1 30 (.inl (gI g, 9, .inl (upd (upd (upd (upd (upd (upd (fun _ => 0) 0 (x + (14 * y))) 1 hor) 2 pow) 3 60) 4 0) 5 0)))) 30 = some (.inl (gI g, 9, .inl (upd (upd (upd (upd (upd (upd (fun _ => 0) 0 (x + (14 * y))) 1 hor) 2 pow) 3 60) 4 0) 5 0))) := fU_s
  refine lv_dup hx hb dX6_addEngine_108 rfl ?_
  refine lv_bipush (v := 6) hx hb dX6_addEngine_109 (by decide) ?_
  refine lv_iconst (v := (-1)) hx hb dX6_addEngine_111 (by decide) ?_
  refine f_adr3 (ad := ad1) (lb := 30) eq1 ?_
  refine f_iast X hw eS1 (by unfold vp_in; decide) dX6_addEngine_112 (fun H locs hw => ?_)
  rw [show (6 : Int32).toNatClampNeg = 6 from rfl] at hw
  have hw : fw g ad1 (fU (fU Mn1 30 (.inl (gI g, 9, .inl (upd (upd (upd (upd (upd (upd (fun _ => 0) 0 (x + (14 * y))) 1 hor) 2 pow) 3 60) 4 0) 5 0)))) 30 (.inl (gI g, 9, .inl (upd (upd (upd (upd (upd (upd (upd (fun _ => 0) 0 (x + (14 * y))) 1 hor) 2 pow) 3 60) 4 0) 5 0) 6 (-1))))) s H locs := hw
  rw [fU_U] at hw
  have hMo : (fU Mn1 30 (.inl (gI g, 9, .inl (upd (upd (upd (upd (upd (upd (upd (fun _ => 0) 0 (x + (14 * y))) 1 hor) 2 pow) 3 60) 4 0) 5 0) 6 (-1))))) 5 = some (.inr (7, [.int 0, .int (nI (tHn U)), .int (nI (tPn U)), .int (nI (tEn U)), .ref (ad 6), .ref (ad 7), .ref (ad 8), .ref (ad 9), .ref (ad 10), .ref (ad 11), .ref (ad 12), .ref (ad 13), .ref (ad 14)])) := ((fU_n (by omega)).trans (fU_n (by omega)).symm).trans hMo
  have hm6 : (fU Mn1 30 (.inl (gI g, 9, .inl (upd (upd (upd (upd (upd (upd (upd (fun _ => 0) 0 (x + (14 * y))) 1 hor) 2 pow) 3 60) 4 0) 5 0) 6 (-1))))) 6 = some (.inl (gI g, 6, .inl pcs)) := ((fU_n (by omega)).trans (fU_n (by omega)).symm).trans hm6
  have hm7 : (fU Mn1 30 (.inl (gI g, 9, .inl (upd (upd (upd (upd (upd (upd (upd (fun _ => 0) 0 (x + (14 * y))) 1 hor) 2 pow) 3 60) 4 0) 5 0) 6 (-1))))) 7 = some (.inl (gI g, 6, .inl wa)) := ((fU_n (by omega)).trans (fU_n (by omega)).symm).trans hm7
  have hm8 : (fU Mn1 30 (.inl (gI g, 9, .inl (upd (upd (upd (upd (upd (upd (upd (fun _ => 0) 0 (x + (14 * y))) 1 hor) 2 pow) 3 60) 4 0) 5 0) 6 (-1))))) 8 = some (.inl (gI g, 210, .inl ht)) := ((fU_n (by omega)).trans (fU_n (by omega)).symm).trans hm8
  have hm9 : (fU Mn1 30 (.inl (gI g, 9, .inl (upd (upd (upd (upd (upd (upd (upd (fun _ => 0) 0 (x + (14 * y))) 1 hor) 2 pow) 3 60) 4 0) 5 0) 6 (-1))))) 9 = some (.inl (gI g, 54, .inl et)) := ((fU_n (by omega)).trans (fU_n (by omega)).symm).trans hm9
  have hm10 : (fU Mn1 30 (.inl (gI g, 9, .inl (upd (upd (upd (upd (upd (upd (upd (fun _ => 0) 0 (x + (14 * y))) 1 hor) 2 pow) 3 60) 4 0) 5 0) 6 (-1))))) 10 = some (.inl (gI g, 1, .inl mi)) := ((fU_n (by omega)).trans (fU_n (by omega)).symm).trans hm10
  have hm11 : (fU Mn1 30 (.inl (gI g, 9, .inl (upd (upd (upd (upd (upd (upd (upd (fun _ => 0) 0 (x + (14 * y))) 1 hor) 2 pow) 3 60) 4 0) 5 0) 6 (-1))))) 11 = some (.inl (gI g, 6, .inl co)) := ((fU_n (by omega)).trans (fU_n (by omega)).symm).trans hm11
  have hm12 : (fU Mn1 30 (.inl (gI g, 9, .inl (upd (upd (upd (upd (upd (upd (upd (fun _ => 0) 0 (x + (14 * y))) 1 hor) 2 pow) 3 60) 4 0) 5 0) 6 (-1))))) 12 = some (.inl (gZ g, 6, .inl as)) := ((fU_n (by omega)).trans (fU_n (by omega)).symm).trans hm12
  have hm13 : (fU Mn1 30 (.inl (gI g, 9, .inl (upd (upd (upd (upd (upd (upd (upd (fun _ => 0) 0 (x + (14 * y))) 1 hor) 2 pow) 3 60) 4 0) 5 0) 6 (-1))))) 13 = some (.inl (gI g, 140, .inl sp)) := ((fU_n (by omega)).trans (fU_n (by omega)).symm).trans hm13
  have hm14 : (fU Mn1 30 (.inl (gI g, 9, .inl (upd (upd (upd (upd (upd (upd (upd (fun _ => 0) 0 (x + (14 * y))) 1 hor) 2 pow) 3 60) 4 0) 5 0) 6 (-1))))) 14 = some (.inl (gZ g, 30, .inl ca)) := ((fU_n (by omega)).trans (fU_n (by omega)).symm).trans hm14
  have eS1 : (fU Mn1 30 (.inl (gI g, 9, .inl (upd (upd (upd (upd (upd (upd (upd (fun _ => 0) 0 (x + (14 * y))) 1 hor) 2 pow) 3 60) 4 0) 5 0) 6 (-1))))) 30 = some (.inl (gI g, 9, .inl (upd (upd (upd (upd (upd (upd (upd (fun _ => 0) 0 (x + (14 * y))) 1 hor) 2 pow) 3 60) 4 0) 5 0) 6 (-1)))) := fU_s
  refine lv_dup hx hb dX6_addEngine_113 rfl ?_
  refine lv_bipush (v := 7) hx hb dX6_addEngine_114 (by decide) ?_
  refine lv_iconst (v := (-1)) hx hb dX6_addEngine_116 (by decide) ?_
  refine f_adr3 (ad := ad1) (lb := 30) eq1 ?_
  refine f_iast X hw eS1 (by unfold vp_in; decide) dX6_addEngine_117 (fun H locs hw => ?_)
  rw [show (7 : Int32).toNatClampNeg = 7 from rfl] at hw
  have hw : fw g ad1 (fU (fU Mn1 30 (.inl (gI g, 9, .inl (upd (upd (upd (upd (upd (upd (upd (fun _ => 0) 0 (x + (14 * y))) 1 hor) 2 pow) 3 60) 4 0) 5 0) 6 (-1))))) 30 (.inl (gI g, 9, .inl (upd (upd (upd (upd (upd (upd (upd (upd (fun _ => 0) 0 (x + (14 * y))) 1 hor) 2 pow) 3 60) 4 0) 5 0) 6 (-1)) 7 (-1))))) s H locs := hw
  rw [fU_U] at hw
  have hMo : (fU Mn1 30 (.inl (gI g, 9, .inl (upd (upd (upd (upd (upd (upd (upd (upd (fun _ => 0) 0 (x + (14 * y))) 1 hor) 2 pow) 3 60) 4 0) 5 0) 6 (-1)) 7 (-1))))) 5 = some (.inr (7, [.int 0, .int (nI (tHn U)), .int (nI (tPn U)), .int (nI (tEn U)), .ref (ad 6), .ref (ad 7), .ref (ad 8), .ref (ad 9), .ref (ad 10), .ref (ad 11), .ref (ad 12), .ref (ad 13), .ref (ad 14)])) := ((fU_n (by omega)).trans (fU_n (by omega)).symm).trans hMo
  have hm6 : (fU Mn1 30 (.inl (gI g, 9, .inl (upd (upd (upd (upd (upd (upd (upd (upd (fun _ => 0) 0 (x + (14 * y))) 1 hor) 2 pow) 3 60) 4 0) 5 0) 6 (-1)) 7 (-1))))) 6 = some (.inl (gI g, 6, .inl pcs)) := ((fU_n (by omega)).trans (fU_n (by omega)).symm).trans hm6
  have hm7 : (fU Mn1 30 (.inl (gI g, 9, .inl (upd (upd (upd (upd (upd (upd (upd (upd (fun _ => 0) 0 (x + (14 * y))) 1 hor) 2 pow) 3 60) 4 0) 5 0) 6 (-1)) 7 (-1))))) 7 = some (.inl (gI g, 6, .inl wa)) := ((fU_n (by omega)).trans (fU_n (by omega)).symm).trans hm7
  have hm8 : (fU Mn1 30 (.inl (gI g, 9, .inl (upd (upd (upd (upd (upd (upd (upd (upd (fun _ => 0) 0 (x + (14 * y))) 1 hor) 2 pow) 3 60) 4 0) 5 0) 6 (-1)) 7 (-1))))) 8 = some (.inl (gI g, 210, .inl ht)) := ((fU_n (by omega)).trans (fU_n (by omega)).symm).trans hm8
  have hm9 : (fU Mn1 30 (.inl (gI g, 9, .inl (upd (upd (upd (upd (upd (upd (upd (upd (fun _ => 0) 0 (x + (14 * y))) 1 hor) 2 pow) 3 60) 4 0) 5 0) 6 (-1)) 7 (-1))))) 9 = some (.inl (gI g, 54, .inl et)) := ((fU_n (by omega)).trans (fU_n (by omega)).symm).trans hm9
  have hm10 : (fU Mn1 30 (.inl (gI g, 9, .inl (upd (upd (upd (upd (upd (upd (upd (upd (fun _ => 0) 0 (x + (14 * y))) 1 hor) 2 pow) 3 60) 4 0) 5 0) 6 (-1)) 7 (-1))))) 10 = some (.inl (gI g, 1, .inl mi)) := ((fU_n (by omega)).trans (fU_n (by omega)).symm).trans hm10
  have hm11 : (fU Mn1 30 (.inl (gI g, 9, .inl (upd (upd (upd (upd (upd (upd (upd (upd (fun _ => 0) 0 (x + (14 * y))) 1 hor) 2 pow) 3 60) 4 0) 5 0) 6 (-1)) 7 (-1))))) 11 = some (.inl (gI g, 6, .inl co)) := ((fU_n (by omega)).trans (fU_n (by omega)).symm).trans hm11
  have hm12 : (fU Mn1 30 (.inl (gI g, 9, .inl (upd (upd (upd (upd (upd (upd (upd (upd (fun _ => 0) 0 (x + (14 * y))) 1 hor) 2 pow) 3 60) 4 0) 5 0) 6 (-1)) 7 (-1))))) 12 = some (.inl (gZ g, 6, .inl as)) := ((fU_n (by omega)).trans (fU_n (by omega)).symm).trans hm12
  have hm13 : (fU Mn1 30 (.inl (gI g, 9, .inl (upd (upd (upd (upd (upd (upd (upd (upd (fun _ => 0) 0 (x + (14 * y))) 1 hor) 2 pow) 3 60) 4 0) 5 0) 6 (-1)) 7 (-1))))) 13 = some (.inl (gI g, 140, .inl sp)) := ((fU_n (by omega)).trans (fU_n (by omega)).symm).trans hm13
  have hm14 : (fU Mn1 30 (.inl (gI g, 9, .inl (upd (upd (upd (upd (upd (upd (upd (upd (fun _ => 0) 0 (x + (14 * y))) 1 hor) 2 pow) 3 60) 4 0) 5 0) 6 (-1)) 7 (-1))))) 14 = some (.inl (gZ g, 30, .inl ca)) := ((fU_n (by omega)).trans (fU_n (by omega)).symm).trans hm14
  have eS1 : (fU Mn1 30 (.inl (gI g, 9, .inl (upd (upd (upd (upd (upd (upd (upd (upd (fun _ => 0) 0 (x + (14 * y))) 1 hor) 2 pow) 3 60) 4 0) 5 0) 6 (-1)) 7 (-1))))) 30 = some (.inl (gI g, 9, .inl (upd (upd (upd (upd (upd (upd (upd (upd (fun _ => 0) 0 (x + (14 * y))) 1 hor) 2 pow) 3 60) 4 0) 5 0) 6 (-1)) 7 (-1)))) := fU_s
  refine lv_dup hx hb dX6_addEngine_118 rfl ?_
  refine lv_bipush (v := 8) hx hb dX6_addEngine_119 (by decide) ?_
  refine lv_iconst (v := 0) hx hb dX6_addEngine_121 (by decide) ?_
  refine f_adr3 (ad := ad1) (lb := 30) eq1 ?_
  refine f_iast X hw eS1 (by unfold vp_in; decide) dX6_addEngine_122 (fun H locs hw => ?_)
  rw [show (8 : Int32).toNatClampNeg = 8 from rfl] at hw
  have hw : fw g ad1 (fU (fU Mn1 30 (.inl (gI g, 9, .inl (upd (upd (upd (upd (upd (upd (upd (upd (fun _ => 0) 0 (x + (14 * y))) 1 hor) 2 pow) 3 60) 4 0) 5 0) 6 (-1)) 7 (-1))))) 30 (.inl (gI g, 9, .inl (upd (upd (upd (upd (upd (upd (upd (upd (upd (fun _ => 0) 0 (x + (14 * y))) 1 hor) 2 pow) 3 60) 4 0) 5 0) 6 (-1)) 7 (-1)) 8 0)))) s H locs := hw
  rw [fU_U] at hw
  have hMo : (fU Mn1 30 (.inl (gI g, 9, .inl (upd (upd (upd (upd (upd (upd (upd (upd (upd (fun _ => 0) 0 (x + (14 * y))) 1 hor) 2 pow) 3 60) 4 0) 5 0) 6 (-1)) 7 (-1)) 8 0)))) 5 = some (.inr (7, [.int 0, .int (nI (tHn U)), .int (nI (tPn U)), .int (nI (tEn U)), .ref (ad 6), .ref (ad 7), .ref (ad 8), .ref (ad 9), .ref (ad 10), .ref (ad 11), .ref (ad 12), .ref (ad 13), .ref (ad 14)])) := ((fU_n (by omega)).trans (fU_n (by omega)).symm).trans hMo
  have hm6 : (fU Mn1 30 (.inl (gI g, 9, .inl (upd (upd (upd (upd (upd (upd (upd (upd (upd (fun _ => 0) 0 (x + (14 * y))) 1 hor) 2 pow) 3 60) 4 0) 5 0) 6 (-1)) 7 (-1)) 8 0)))) 6 = some (.inl (gI g, 6, .inl pcs)) := ((fU_n (by omega)).trans (fU_n (by omega)).symm).trans hm6
  have hm7 : (fU Mn1 30 (.inl (gI g, 9, .inl (upd (upd (upd (upd (upd (upd (upd (upd (upd (fun _ => 0) 0 (x + (14 * y))) 1 hor) 2 pow) 3 60) 4 0) 5 0) 6 (-1)) 7 (-1)) 8 0)))) 7 = some (.inl (gI g, 6, .inl wa)) := ((fU_n (by omega)).trans (fU_n (by omega)).symm).trans hm7
  have hm8 : (fU Mn1 30 (.inl (gI g, 9, .inl (upd (upd (upd (upd (upd (upd (upd (upd (upd (fun _ => 0) 0 (x + (14 * y))) 1 hor) 2 pow) 3 60) 4 0) 5 0) 6 (-1)) 7 (-1)) 8 0)))) 8 = some (.inl (gI g, 210, .inl ht)) := ((fU_n (by omega)).trans (fU_n (by omega)).symm).trans hm8
  have hm9 : (fU Mn1 30 (.inl (gI g, 9, .inl (upd (upd (upd (upd (upd (upd (upd (upd (upd (fun _ => 0) 0 (x + (14 * y))) 1 hor) 2 pow) 3 60) 4 0) 5 0) 6 (-1)) 7 (-1)) 8 0)))) 9 = some (.inl (gI g, 54, .inl et)) := ((fU_n (by omega)).trans (fU_n (by omega)).symm).trans hm9
  have hm10 : (fU Mn1 30 (.inl (gI g, 9, .inl (upd (upd (upd (upd (upd (upd (upd (upd (upd (fun _ => 0) 0 (x + (14 * y))) 1 hor) 2 pow) 3 60) 4 0) 5 0) 6 (-1)) 7 (-1)) 8 0)))) 10 = some (.inl (gI g, 1, .inl mi)) := ((fU_n (by omega)).trans (fU_n (by omega)).symm).trans hm10
  have hm11 : (fU Mn1 30 (.inl (gI g, 9, .inl (upd (upd (upd (upd (upd (upd (upd (upd (upd (fun _ => 0) 0 (x + (14 * y))) 1 hor) 2 pow) 3 60) 4 0) 5 0) 6 (-1)) 7 (-1)) 8 0)))) 11 = some (.inl (gI g, 6, .inl co)) := ((fU_n (by omega)).trans (fU_n (by omega)).symm).trans hm11
  have hm12 : (fU Mn1 30 (.inl (gI g, 9, .inl (upd (upd (upd (upd (upd (upd (upd (upd (upd (fun _ => 0) 0 (x + (14 * y))) 1 hor) 2 pow) 3 60) 4 0) 5 0) 6 (-1)) 7 (-1)) 8 0)))) 12 = some (.inl (gZ g, 6, .inl as)) := ((fU_n (by omega)).trans (fU_n (by omega)).symm).trans hm12
  have hm13 : (fU Mn1 30 (.inl (gI g, 9, .inl (upd (upd (upd (upd (upd (upd (upd (upd (upd (fun _ => 0) 0 (x + (14 * y))) 1 hor) 2 pow) 3 60) 4 0) 5 0) 6 (-1)) 7 (-1)) 8 0)))) 13 = some (.inl (gI g, 140, .inl sp)) := ((fU_n (by omega)).trans (fU_n (by omega)).symm).trans hm13
  have hm14 : (fU Mn1 30 (.inl (gI g, 9, .inl (upd (upd (upd (upd (upd (upd (upd (upd (upd (fun _ => 0) 0 (x + (14 * y))) 1 hor) 2 pow) 3 60) 4 0) 5 0) 6 (-1)) 7 (-1)) 8 0)))) 14 = some (.inl (gZ g, 30, .inl ca)) := ((fU_n (by omega)).trans (fU_n (by omega)).symm).trans hm14
  have eS1 : (fU Mn1 30 (.inl (gI g, 9, .inl (upd (upd (upd (upd (upd (upd (upd (upd (upd (fun _ => 0) 0 (x + (14 * y))) 1 hor) 2 pow) 3 60) 4 0) 5 0) 6 (-1)) 7 (-1)) 8 0)))) 30 = some (.inl (gI g, 9, .inl (upd (upd (upd (upd (upd (upd (upd (upd (upd (fun _ => 0) 0 (x + (14 * y))) 1 hor) 2 pow) 3 60) 4 0) 5 0) 6 (-1)) 7 (-1)) 8 0))) := fU_s
  refine lv_astore (lv' := [(5, .ref q1), (0, .ref (ad 5)), (1, .int x), (2, .int y), (3, .int hor), (4, .int pow)]) hx hb dX6_addEngine_123 hl (by decide) rfl (fun ls hl => ?_)
  refine lv_aload hx hb dX6_addEngine_125 (lv_at hl 0 rfl) ?_
  refine lv_iconst (v := 0) hx hb dX6_addEngine_127 (by decide) ?_
  refine lv_aload_n hx hb dX6_addEngine_128 rfl (lv_at hl 1 rfl) ?_
  refine f_adr (ad := ad1) (lb := 5) (eA1 5 (by omega)) ?_
  refine f_get X hw hMo fc7 7 (by decide) wq801 rfl (v := .ref (ad 9)) rfl dX6_addEngine_129 ?_
  refine lv_bipush (v := 9) hx hb dX6_addEngine_132 (by decide) ?_
  refine lv_aload_n hx hb dX6_addEngine_134 rfl (lv_at hl 1 rfl) ?_
  refine f_adr (ad := ad1) (lb := 5) (eA1 5 (by omega)) ?_
  refine f_get X hw hMo fc7 3 (by decide) wq797 rfl (v := .int (nI (tEn U))) rfl dX6_addEngine_135 ?_
  refine lv_imul hx hb dX6_addEngine_138 ?_
  refine lv_bipush (v := 9) hx hb dX6_addEngine_139 (by decide) ?_
  refine f_top (y := nI 9) rfl ?_
  refine f_top2 (y := nI (9 * tEn U)) ix90 ?_
  refine f_adr3 (ad := ad1) (lb := 9) (eA1 9 (by omega)) ?_
  refine f_adr5 (ad := ad1) (lb := 30) eq1 ?_
  refine f_copyI X hl.1 hw (k := 9) (dp := 9 * tEn U) eS1 hm9 wq877 wq208 wq207 wq20 (by omega) (by omega) (by omega) (by omega) (Nat.le_of_ble_eq_true rfl) (Nat.le_of_ble_eq_true rfl) dX6_addEngine_141 (fun H locs hw => ?_)
  have hw : fw g ad1 (fU (fU Mn1 30 (.inl (gI g, 9, .inl (upd (upd (upd (upd (upd (upd (upd (upd (upd (fun _ => 0) 0 (x + (14 * y))) 1 hor) 2 pow) 3 60) 4 0) 5 0) 6 (-1)) 7 (-1)) 8 0)))) 9 (.inl (gI g, 54, .inl (va_cpy (upd (upd (upd (upd (upd (upd (upd (upd (upd (fun _ => 0) 0 (x + (14 * y))) 1 hor) 2 pow) 3 60) 4 0) 5 0) 6 (-1)) 7 (-1)) 8 0) et 0 (9 * tEn U) 9)))) s H locs := hw
  have hMo : (fU (fU Mn1 30 (.inl (gI g, 9, .inl (upd (upd (upd (upd (upd (upd (upd (upd (upd (fun _ => 0) 0 (x + (14 * y))) 1 hor) 2 pow) 3 60) 4 0) 5 0) 6 (-1)) 7 (-1)) 8 0)))) 9 (.inl (gI g, 54, .inl (va_cpy (upd (upd (upd (upd (upd (upd (upd (upd (upd (fun _ => 0) 0 (x + (14 * y))) 1 hor) 2 pow) 3 60) 4 0) 5 0) 6 (-1)) 7 (-1)) 8 0) et 0 (9 * tEn U) 9)))) 5 = some (.inr (7, [.int 0, .int (nI (tHn U)), .int (nI (tPn U)), .int (nI (tEn U)), .ref (ad 6), .ref (ad 7), .ref (ad 8), .ref (ad 9), .ref (ad 10), .ref (ad 11), .ref (ad 12), .ref (ad 13), .ref (ad 14)])) := (fU_n (by omega)).trans hMo
  have hm6 : (fU (fU Mn1 30 (.inl (gI g, 9, .inl (upd (upd (upd (upd (upd (upd (upd (upd (upd (fun _ => 0) 0 (x + (14 * y))) 1 hor) 2 pow) 3 60) 4 0) 5 0) 6 (-1)) 7 (-1)) 8 0)))) 9 (.inl (gI g, 54, .inl (va_cpy (upd (upd (upd (upd (upd (upd (upd (upd (upd (fun _ => 0) 0 (x + (14 * y))) 1 hor) 2 pow) 3 60) 4 0) 5 0) 6 (-1)) 7 (-1)) 8 0) et 0 (9 * tEn U) 9)))) 6 = some (.inl (gI g, 6, .inl pcs)) := (fU_n (by omega)).trans hm6
  have hm7 : (fU (fU Mn1 30 (.inl (gI g, 9, .inl (upd (upd (upd (upd (upd (upd (upd (upd (upd (fun _ => 0) 0 (x + (14 * y))) 1 hor) 2 pow) 3 60) 4 0) 5 0) 6 (-1)) 7 (-1)) 8 0)))) 9 (.inl (gI g, 54, .inl (va_cpy (upd (upd (upd (upd (upd (upd (upd (upd (upd (fun _ => 0) 0 (x + (14 * y))) 1 hor) 2 pow) 3 60) 4 0) 5 0) 6 (-1)) 7 (-1)) 8 0) et 0 (9 * tEn U) 9)))) 7 = some (.inl (gI g, 6, .inl wa)) := (fU_n (by omega)).trans hm7
  have hm8 : (fU (fU Mn1 30 (.inl (gI g, 9, .inl (upd (upd (upd (upd (upd (upd (upd (upd (upd (fun _ => 0) 0 (x + (14 * y))) 1 hor) 2 pow) 3 60) 4 0) 5 0) 6 (-1)) 7 (-1)) 8 0)))) 9 (.inl (gI g, 54, .inl (va_cpy (upd (upd (upd (upd (upd (upd (upd (upd (upd (fun _ => 0) 0 (x + (14 * y))) 1 hor) 2 pow) 3 60) 4 0) 5 0) 6 (-1)) 7 (-1)) 8 0) et 0 (9 * tEn U) 9)))) 8 = some (.inl (gI g, 210, .inl ht)) := (fU_n (by omega)).trans hm8
  have hm10 : (fU (fU Mn1 30 (.inl (gI g, 9, .inl (upd (upd (upd (upd (upd (upd (upd (upd (upd (fun _ => 0) 0 (x + (14 * y))) 1 hor) 2 pow) 3 60) 4 0) 5 0) 6 (-1)) 7 (-1)) 8 0)))) 9 (.inl (gI g, 54, .inl (va_cpy (upd (upd (upd (upd (upd (upd (upd (upd (upd (fun _ => 0) 0 (x + (14 * y))) 1 hor) 2 pow) 3 60) 4 0) 5 0) 6 (-1)) 7 (-1)) 8 0) et 0 (9 * tEn U) 9)))) 10 = some (.inl (gI g, 1, .inl mi)) := (fU_n (by omega)).trans hm10
  have hm11 : (fU (fU Mn1 30 (.inl (gI g, 9, .inl (upd (upd (upd (upd (upd (upd (upd (upd (upd (fun _ => 0) 0 (x + (14 * y))) 1 hor) 2 pow) 3 60) 4 0) 5 0) 6 (-1)) 7 (-1)) 8 0)))) 9 (.inl (gI g, 54, .inl (va_cpy (upd (upd (upd (upd (upd (upd (upd (upd (upd (fun _ => 0) 0 (x + (14 * y))) 1 hor) 2 pow) 3 60) 4 0) 5 0) 6 (-1)) 7 (-1)) 8 0) et 0 (9 * tEn U) 9)))) 11 = some (.inl (gI g, 6, .inl co)) := (fU_n (by omega)).trans hm11
  have hm12 : (fU (fU Mn1 30 (.inl (gI g, 9, .inl (upd (upd (upd (upd (upd (upd (upd (upd (upd (fun _ => 0) 0 (x + (14 * y))) 1 hor) 2 pow) 3 60) 4 0) 5 0) 6 (-1)) 7 (-1)) 8 0)))) 9 (.inl (gI g, 54, .inl (va_cpy (upd (upd (upd (upd (upd (upd (upd (upd (upd (fun _ => 0) 0 (x + (14 * y))) 1 hor) 2 pow) 3 60) 4 0) 5 0) 6 (-1)) 7 (-1)) 8 0) et 0 (9 * tEn U) 9)))) 12 = some (.inl (gZ g, 6, .inl as)) := (fU_n (by omega)).trans hm12
  have hm13 : (fU (fU Mn1 30 (.inl (gI g, 9, .inl (upd (upd (upd (upd (upd (upd (upd (upd (upd (fun _ => 0) 0 (x + (14 * y))) 1 hor) 2 pow) 3 60) 4 0) 5 0) 6 (-1)) 7 (-1)) 8 0)))) 9 (.inl (gI g, 54, .inl (va_cpy (upd (upd (upd (upd (upd (upd (upd (upd (upd (fun _ => 0) 0 (x + (14 * y))) 1 hor) 2 pow) 3 60) 4 0) 5 0) 6 (-1)) 7 (-1)) 8 0) et 0 (9 * tEn U) 9)))) 13 = some (.inl (gI g, 140, .inl sp)) := (fU_n (by omega)).trans hm13
  have hm14 : (fU (fU Mn1 30 (.inl (gI g, 9, .inl (upd (upd (upd (upd (upd (upd (upd (upd (upd (fun _ => 0) 0 (x + (14 * y))) 1 hor) 2 pow) 3 60) 4 0) 5 0) 6 (-1)) 7 (-1)) 8 0)))) 9 (.inl (gI g, 54, .inl (va_cpy (upd (upd (upd (upd (upd (upd (upd (upd (upd (fun _ => 0) 0 (x + (14 * y))) 1 hor) 2 pow) 3 60) 4 0) 5 0) 6 (-1)) 7 (-1)) 8 0) et 0 (9 * tEn U) 9)))) 14 = some (.inl (gZ g, 30, .inl ca)) := (fU_n (by omega)).trans hm14
  have eS1 : (fU (fU Mn1 30 (.inl (gI g, 9, .inl (upd (upd (upd (upd (upd (upd (upd (upd (upd (fun _ => 0) 0 (x + (14 * y))) 1 hor) 2 pow) 3 60) 4 0) 5 0) 6 (-1)) 7 (-1)) 8 0)))) 9 (.inl (gI g, 54, .inl (va_cpy (upd (upd (upd (upd (upd (upd (upd (upd (upd (fun _ => 0) 0 (x + (14 * y))) 1 hor) 2 pow) 3 60) 4 0) 5 0) 6 (-1)) 7 (-1)) 8 0) et 0 (9 * tEn U) 9)))) 30 = some (.inl (gI g, 9, .inl (upd (upd (upd (upd (upd (upd (upd (upd (upd (fun _ => 0) 0 (x + (14 * y))) 1 hor) 2 pow) 3 60) 4 0) 5 0) 6 (-1)) 7 (-1)) 8 0))) := (fU_n (by omega)).trans eS1
  have hm9 : (fU (fU Mn1 30 (.inl (gI g, 9, .inl (upd (upd (upd (upd (upd (upd (upd (upd (upd (fun _ => 0) 0 (x + (14 * y))) 1 hor) 2 pow) 3 60) 4 0) 5 0) 6 (-1)) 7 (-1)) 8 0)))) 9 (.inl (gI g, 54, .inl (va_cpy (upd (upd (upd (upd (upd (upd (upd (upd (upd (fun _ => 0) 0 (x + (14 * y))) 1 hor) 2 pow) 3 60) 4 0) 5 0) 6 (-1)) 7 (-1)) 8 0) et 0 (9 * tEn U) 9)))) 9 = some (.inl (gI g, 54, .inl (va_cpy (upd (upd (upd (upd (upd (upd (upd (upd (upd (fun _ => 0) 0 (x + (14 * y))) 1 hor) 2 pow) 3 60) 4 0) 5 0) 6 (-1)) 7 (-1)) 8 0) et 0 (9 * tEn U) 9))) := fU_s
  refine lv_aload_n hx hb dX6_addEngine_144 rfl (lv_at hl 1 rfl) ?_
  refine lv_dup hx hb dX6_addEngine_145 rfl ?_
  refine f_adr (ad := ad1) (lb := 5) (eA1 5 (by omega)) ?_
  refine f_get X hw hMo fc7 3 (by decide) wq797 rfl (v := .int (nI (tEn U))) rfl dX6_addEngine_146 ?_
  refine lv_iconst (v := 1) hx hb dX6_addEngine_149 (by decide) ?_
  refine lv_iadd hx hb dX6_addEngine_150 ?_
  refine f_top (y := nI (tEn U + 1)) (nI_1 (tEn U)) ?_
  refine f_adr2 (ad := ad1) (lb := 5) (eA1 5 (by omega)) ?_
  refine f_put X hw hMo fc7 3 (by decide) wq797 rfl rfl (v := .int (nI (tEn U + 1))) rfl rfl (Nat.le_of_ble_eq_true rfl) dX6_addEngine_151 (fun H locs hw => ?_)
  have hw : fw g ad1 (fU (fU (fU Mn1 30 (.inl (gI g, 9, .inl (upd (upd (upd (upd (upd (upd (upd (upd (upd (fun _ => 0) 0 (x + (14 * y))) 1 hor) 2 pow) 3 60) 4 0) 5 0) 6 (-1)) 7 (-1)) 8 0)))) 9 (.inl (gI g, 54, .inl (va_cpy (upd (upd (upd (upd (upd (upd (upd (upd (upd (fun _ => 0) 0 (x + (14 * y))) 1 hor) 2 pow) 3 60) 4 0) 5 0) 6 (-1)) 7 (-1)) 8 0) et 0 (9 * tEn U) 9)))) 5 (.inr (7, [.int 0, .int (nI (tHn U)), .int (nI (tPn U)), .int (nI (tEn U + 1)), .ref (ad 6), .ref (ad 7), .ref (ad 8), .ref (ad 9), .ref (ad 10), .ref (ad 11), .ref (ad 12), .ref (ad 13), .ref (ad 14)]))) s H locs := hw
  have hm6 : (fU (fU (fU Mn1 30 (.inl (gI g, 9, .inl (upd (upd (upd (upd (upd (upd (upd (upd (upd (fun _ => 0) 0 (x + (14 * y))) 1 hor) 2 pow) 3 60) 4 0) 5 0) 6 (-1)) 7 (-1)) 8 0)))) 9 (.inl (gI g, 54, .inl (va_cpy (upd (upd (upd (upd (upd (upd (upd (upd (upd (fun _ => 0) 0 (x + (14 * y))) 1 hor) 2 pow) 3 60) 4 0) 5 0) 6 (-1)) 7 (-1)) 8 0) et 0 (9 * tEn U) 9)))) 5 (.inr (7, [.int 0, .int (nI (tHn U)), .int (nI (tPn U)), .int (nI (tEn U + 1)), .ref (ad 6), .ref (ad 7), .ref (ad 8), .ref (ad 9), .ref (ad 10), .ref (ad 11), .ref (ad 12), .ref (ad 13), .ref (ad 14)]))) 6 = some (.inl (gI g, 6, .inl pcs)) := (fU_n (by omega)).trans hm6
  have hm7 : (fU (fU (fU Mn1 30 (.inl (gI g, 9, .inl (upd (upd (upd (upd (upd (upd (upd (upd (upd (fun _ => 0) 0 (x + (14 * y))) 1 hor) 2 pow) 3 60) 4 0) 5 0) 6 (-1)) 7 (-1)) 8 0)))) 9 (.inl (gI g, 54, .inl (va_cpy (upd (upd (upd (upd (upd (upd (upd (upd (upd (fun _ => 0) 0 (x + (14 * y))) 1 hor) 2 pow) 3 60) 4 0) 5 0) 6 (-1)) 7 (-1)) 8 0) et 0 (9 * tEn U) 9)))) 5 (.inr (7, [.int 0, .int (nI (tHn U)), .int (nI (tPn U)), .int (nI (tEn U + 1)), .ref (ad 6), .ref (ad 7), .ref (ad 8), .ref (ad 9), .ref (ad 10), .ref (ad 11), .ref (ad 12), .ref (ad 13), .ref (ad 14)]))) 7 = some (.inl (gI g, 6, .inl wa)) := (fU_n (by omega)).trans hm7
  have hm8 : (fU (fU (fU Mn1 30 (.inl (gI g, 9, .inl (upd (upd (upd (upd (upd (upd (upd (upd (upd (fun _ => 0) 0 (x + (14 * y))) 1 hor) 2 pow) 3 60) 4 0) 5 0) 6 (-1)) 7 (-1)) 8 0)))) 9 (.inl (gI g, 54, .inl (va_cpy (upd (upd (upd (upd (upd (upd (upd (upd (upd (fun _ => 0) 0 (x + (14 * y))) 1 hor) 2 pow) 3 60) 4 0) 5 0) 6 (-1)) 7 (-1)) 8 0) et 0 (9 * tEn U) 9)))) 5 (.inr (7, [.int 0, .int (nI (tHn U)), .int (nI (tPn U)), .int (nI (tEn U + 1)), .ref (ad 6), .ref (ad 7), .ref (ad 8), .ref (ad 9), .ref (ad 10), .ref (ad 11), .ref (ad 12), .ref (ad 13), .ref (ad 14)]))) 8 = some (.inl (gI g, 210, .inl ht)) := (fU_n (by omega)).trans hm8
  have hm9 : (fU (fU (fU Mn1 30 (.inl (gI g, 9, .inl (upd (upd (upd (upd (upd (upd (upd (upd (upd (fun _ => 0) 0 (x + (14 * y))) 1 hor) 2 pow) 3 60) 4 0) 5 0) 6 (-1)) 7 (-1)) 8 0)))) 9 (.inl (gI g, 54, .inl (va_cpy (upd (upd (upd (upd (upd (upd (upd (upd (upd (fun _ => 0) 0 (x + (14 * y))) 1 hor) 2 pow) 3 60) 4 0) 5 0) 6 (-1)) 7 (-1)) 8 0) et 0 (9 * tEn U) 9)))) 5 (.inr (7, [.int 0, .int (nI (tHn U)), .int (nI (tPn U)), .int (nI (tEn U + 1)), .ref (ad 6), .ref (ad 7), .ref (ad 8), .ref (ad 9), .ref (ad 10), .ref (ad 11), .ref (ad 12), .ref (ad 13), .ref (ad 14)]))) 9 = some (.inl (gI g, 54, .inl (va_cpy (upd (upd (upd (upd (upd (upd (upd (upd (upd (fun _ => 0) 0 (x + (14 * y))) 1 hor) 2 pow) 3 60) 4 0) 5 0) 6 (-1)) 7 (-1)) 8 0) et 0 (9 * tEn U) 9))) := (fU_n (by omega)).trans hm9
  have hm10 : (fU (fU (fU Mn1 30 (.inl (gI g, 9, .inl (upd (upd (upd (upd (upd (upd (upd (upd (upd (fun _ => 0) 0 (x + (14 * y))) 1 hor) 2 pow) 3 60) 4 0) 5 0) 6 (-1)) 7 (-1)) 8 0)))) 9 (.inl (gI g, 54, .inl (va_cpy (upd (upd (upd (upd (upd (upd (upd (upd (upd (fun _ => 0) 0 (x + (14 * y))) 1 hor) 2 pow) 3 60) 4 0) 5 0) 6 (-1)) 7 (-1)) 8 0) et 0 (9 * tEn U) 9)))) 5 (.inr (7, [.int 0, .int (nI (tHn U)), .int (nI (tPn U)), .int (nI (tEn U + 1)), .ref (ad 6), .ref (ad 7), .ref (ad 8), .ref (ad 9), .ref (ad 10), .ref (ad 11), .ref (ad 12), .ref (ad 13), .ref (ad 14)]))) 10 = some (.inl (gI g, 1, .inl mi)) := (fU_n (by omega)).trans hm10
  have hm11 : (fU (fU (fU Mn1 30 (.inl (gI g, 9, .inl (upd (upd (upd (upd (upd (upd (upd (upd (upd (fun _ => 0) 0 (x + (14 * y))) 1 hor) 2 pow) 3 60) 4 0) 5 0) 6 (-1)) 7 (-1)) 8 0)))) 9 (.inl (gI g, 54, .inl (va_cpy (upd (upd (upd (upd (upd (upd (upd (upd (upd (fun _ => 0) 0 (x + (14 * y))) 1 hor) 2 pow) 3 60) 4 0) 5 0) 6 (-1)) 7 (-1)) 8 0) et 0 (9 * tEn U) 9)))) 5 (.inr (7, [.int 0, .int (nI (tHn U)), .int (nI (tPn U)), .int (nI (tEn U + 1)), .ref (ad 6), .ref (ad 7), .ref (ad 8), .ref (ad 9), .ref (ad 10), .ref (ad 11), .ref (ad 12), .ref (ad 13), .ref (ad 14)]))) 11 = some (.inl (gI g, 6, .inl co)) := (fU_n (by omega)).trans hm11
  have hm12 : (fU (fU (fU Mn1 30 (.inl (gI g, 9, .inl (upd (upd (upd (upd (upd (upd (upd (upd (upd (fun _ => 0) 0 (x + (14 * y))) 1 hor) 2 pow) 3 60) 4 0) 5 0) 6 (-1)) 7 (-1)) 8 0)))) 9 (.inl (gI g, 54, .inl (va_cpy (upd (upd (upd (upd (upd (upd (upd (upd (upd (fun _ => 0) 0 (x + (14 * y))) 1 hor) 2 pow) 3 60) 4 0) 5 0) 6 (-1)) 7 (-1)) 8 0) et 0 (9 * tEn U) 9)))) 5 (.inr (7, [.int 0, .int (nI (tHn U)), .int (nI (tPn U)), .int (nI (tEn U + 1)), .ref (ad 6), .ref (ad 7), .ref (ad 8), .ref (ad 9), .ref (ad 10), .ref (ad 11), .ref (ad 12), .ref (ad 13), .ref (ad 14)]))) 12 = some (.inl (gZ g, 6, .inl as)) := (fU_n (by omega)).trans hm12
  have hm13 : (fU (fU (fU Mn1 30 (.inl (gI g, 9, .inl (upd (upd (upd (upd (upd (upd (upd (upd (upd (fun _ => 0) 0 (x + (14 * y))) 1 hor) 2 pow) 3 60) 4 0) 5 0) 6 (-1)) 7 (-1)) 8 0)))) 9 (.inl (gI g, 54, .inl (va_cpy (upd (upd (upd (upd (upd (upd (upd (upd (upd (fun _ => 0) 0 (x + (14 * y))) 1 hor) 2 pow) 3 60) 4 0) 5 0) 6 (-1)) 7 (-1)) 8 0) et 0 (9 * tEn U) 9)))) 5 (.inr (7, [.int 0, .int (nI (tHn U)), .int (nI (tPn U)), .int (nI (tEn U + 1)), .ref (ad 6), .ref (ad 7), .ref (ad 8), .ref (ad 9), .ref (ad 10), .ref (ad 11), .ref (ad 12), .ref (ad 13), .ref (ad 14)]))) 13 = some (.inl (gI g, 140, .inl sp)) := (fU_n (by omega)).trans hm13
  have hm14 : (fU (fU (fU Mn1 30 (.inl (gI g, 9, .inl (upd (upd (upd (upd (upd (upd (upd (upd (upd (fun _ => 0) 0 (x + (14 * y))) 1 hor) 2 pow) 3 60) 4 0) 5 0) 6 (-1)) 7 (-1)) 8 0)))) 9 (.inl (gI g, 54, .inl (va_cpy (upd (upd (upd (upd (upd (upd (upd (upd (upd (fun _ => 0) 0 (x + (14 * y))) 1 hor) 2 pow) 3 60) 4 0) 5 0) 6 (-1)) 7 (-1)) 8 0) et 0 (9 * tEn U) 9)))) 5 (.inr (7, [.int 0, .int (nI (tHn U)), .int (nI (tPn U)), .int (nI (tEn U + 1)), .ref (ad 6), .ref (ad 7), .ref (ad 8), .ref (ad 9), .ref (ad 10), .ref (ad 11), .ref (ad 12), .ref (ad 13), .ref (ad 14)]))) 14 = some (.inl (gZ g, 30, .inl ca)) := (fU_n (by omega)).trans hm14
  have eS1 : (fU (fU (fU Mn1 30 (.inl (gI g, 9, .inl (upd (upd (upd (upd (upd (upd (upd (upd (upd (fun _ => 0) 0 (x + (14 * y))) 1 hor) 2 pow) 3 60) 4 0) 5 0) 6 (-1)) 7 (-1)) 8 0)))) 9 (.inl (gI g, 54, .inl (va_cpy (upd (upd (upd (upd (upd (upd (upd (upd (upd (fun _ => 0) 0 (x + (14 * y))) 1 hor) 2 pow) 3 60) 4 0) 5 0) 6 (-1)) 7 (-1)) 8 0) et 0 (9 * tEn U) 9)))) 5 (.inr (7, [.int 0, .int (nI (tHn U)), .int (nI (tPn U)), .int (nI (tEn U + 1)), .ref (ad 6), .ref (ad 7), .ref (ad 8), .ref (ad 9), .ref (ad 10), .ref (ad 11), .ref (ad 12), .ref (ad 13), .ref (ad 14)]))) 30 = some (.inl (gI g, 9, .inl (upd (upd (upd (upd (upd (upd (upd (upd (upd (fun _ => 0) 0 (x + (14 * y))) 1 hor) 2 pow) 3 60) 4 0) 5 0) 6 (-1)) 7 (-1)) 8 0))) := (fU_n (by omega)).trans eS1
  have hMo : (fU (fU (fU Mn1 30 (.inl (gI g, 9, .inl (upd (upd (upd (upd (upd (upd (upd (upd (upd (fun _ => 0) 0 (x + (14 * y))) 1 hor) 2 pow) 3 60) 4 0) 5 0) 6 (-1)) 7 (-1)) 8 0)))) 9 (.inl (gI g, 54, .inl (va_cpy (upd (upd (upd (upd (upd (upd (upd (upd (upd (fun _ => 0) 0 (x + (14 * y))) 1 hor) 2 pow) 3 60) 4 0) 5 0) 6 (-1)) 7 (-1)) 8 0) et 0 (9 * tEn U) 9)))) 5 (.inr (7, [.int 0, .int (nI (tHn U)), .int (nI (tPn U)), .int (nI (tEn U + 1)), .ref (ad 6), .ref (ad 7), .ref (ad 8), .ref (ad 9), .ref (ad 10), .ref (ad 11), .ref (ad 12), .ref (ad 13), .ref (ad 14)]))) 5 = some (.inr (7, [.int 0, .int (nI (tHn U)), .int (nI (tPn U)), .int (nI (tEn U + 1)), .ref (ad 6), .ref (ad 7), .ref (ad 8), .ref (ad 9), .ref (ad 10), .ref (ad 11), .ref (ad 12), .ref (ad 13), .ref (ad 14)])) := fU_s
  refine lv_aload_n hx hb dX6_addEngine_154 rfl (lv_at hl 1 rfl) ?_
  refine f_adr (ad := ad1) (lb := 5) (eA1 5 (by omega)) ?_
  refine f_get X hw hMo fc7 3 (by decide) wq797 rfl (v := .int (nI (tEn U + 1))) rfl dX6_addEngine_155 ?_
  refine lv_iconst (v := 1) hx hb dX6_addEngine_158 (by decide) ?_
  refine lv_isub hx hb dX6_addEngine_159 ?_
  refine f_top (y := nI (tEn U)) (nI_sub1 (by omega)) ?_
  rw [hQ9, ← hMq]
  have hCnt : mCnt (addE U (upd (upd (newE (x + 14 * y) hor pow) 8 (co (tEn U))) 10 (as (tEn U)))) := ⟨hn1, hn2, (by show tEn U + 1 ≤ 6; omega)⟩
  have hMz : isMo g ad1 (fU (fU (fU Mn1 30 (.inl (gI g, 9, .inl (upd (upd (upd (upd (upd (upd (upd (upd (upd (fun _ => 0) 0 (x + (14 * y))) 1 hor) 2 pow) 3 60) 4 0) 5 0) 6 (-1)) 7 (-1)) 8 0)))) 9 (.inl (gI g, 54, .inl (va_cpy (upd (upd (upd (upd (upd (upd (upd (upd (upd (fun _ => 0) 0 (x + (14 * y))) 1 hor) 2 pow) 3 60) 4 0) 5 0) 6 (-1)) 7 (-1)) 8 0) et 0 (9 * tEn U) 9)))) 5 (.inr (7, [.int 0, .int (nI (tHn U)), .int (nI (tPn U)), .int (nI (tEn U + 1)), .ref (ad 6), .ref (ad 7), .ref (ad 8), .ref (ad 9), .ref (ad 10), .ref (ad 11), .ref (ad 12), .ref (ad 13), .ref (ad 14)]))) 0 (addE U (upd (upd (newE (x + 14 * y) hor pow) 8 (co (tEn U))) 10 (as (tEn U)))) sp ca := ⟨_, _, _, _, _, _, _, (by unfold mObj; rw [hMo]; simp only [eA1 6 (by omega), eA1 7 (by omega), eA1 8 (by omega), eA1 9 (by omega), eA1 10 (by omega), eA1 11 (by omega), eA1 12 (by omega), eA1 13 (by omega), eA1 14 (by omega)]), ⟨hm6, hm7, hm8, hm9, hm10, hm11, hm12, hm13, hm14⟩, mRel_addE hRel (fun k hk => by rcases (show k = 0 ∨ k = 1 ∨ k = 2 ∨ k = 3 ∨ k = 4 ∨ k = 5 ∨ k = 6 ∨ k = 7 by omega) with rfl | rfl | rfl | rfl | rfl | rfl | rfl | rfl <;> rfl) rfl rfl rfl, hCnt⟩
  refine f_iret X hw ⟨⟨_, fun k a b => (upd_ne b).trans (upd_ne a), hMz⟩, fun l a b => ⟨eA1 l (by omega), ?_⟩, fun l a => eA1 l a, rfl⟩ (by omega) (by omega) dX6_addEngine_160
  rw [fU_n (show l ≠ 5 by omega), fU_n (show l ≠ 9 by omega), fU_n (show l ≠ 30 by omega), eM1 l (by omega)]
  exact (hrA l (by omega) b).2
