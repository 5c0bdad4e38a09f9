/-! the reference's public methods: what they set and say in each case -/
set_option maxHeartbeats 4000000 in
set_option maxRecDepth 100000 in
theorem x_m_light_1 (l : Launch) (g : fG) (ad : Nat → Nat) (M : fM) {th : Int32} {U : fTn} {sp ca : Nat → Int32} (hM : isMo g ad M th U sp ca) {x heat : Int32} (h1 : isIx (tHn U) x = false) : fCi l g yX6_light cX6_light 3 ((some .int)) 7 170 0 0 ad M [.ref (ad 5), .int x, .int heat] (fMi g ad M 1 U sp ca 0) := by
  refine f_body (own := RX6) (by decide +kernel) rfl (Nat.le_of_ble_eq_true rfl) ?_
  intro p e s m args below meth c ls X hw hin hl
  have hx := X.1
  have hb := X.2.1
  have hl : lv_has ls 3 [(0, .ref (ad 5)), (1, .int x), (2, .int heat)] := hl
  obtain ⟨pcs, wa, ht, et, mi, co, as, hMo, ⟨hm6, hm7, hm8, hm9, hm10, hm11, hm12, hm13, hm14⟩, hRel, hCnt⟩ := id hM
  obtain ⟨hn1, hn2, hn3⟩ := id hCnt
  have hn1 : tHn U ≤ 30 := hn1
  have hn2 : tPn U ≤ 6 := hn2
  have hn3 : tEn U ≤ 6 := hn3
  have hMo : M 5 = some (.inr (7, [.int th, .int (nI (tHn U)), .int (nI (tPn U)), .int (nI (tEn U)), .ref (ad 6), .ref (ad 7), .ref (ad 8), .ref (ad 9), .ref (ad 10), .ref (ad 11), .ref (ad 12), .ref (ad 13), .ref (ad 14)])) := hMo
  obtain ⟨rH, rP, rE, rM⟩ := id hRel
  obtain ⟨Mo, hMq⟩ : ∃ z, z = M := ⟨_, rfl⟩
  have hrA : fReg 5 15 ad Mo ad M := by rw [hMq]; exact fReg_rf
  obtain ⟨Q9, hQ9⟩ : ∃ z, z = MQ below (fQi g (fMi g ad M 1 U sp ca 0)) args s 0 0 (fA g) := ⟨_, rfl⟩
  show W p l e (fR 7 170 0 0) s m args below meth c _ _ 0 0 (MQ below (fQi g (fMi g ad M 1 U sp ca 0)) args s 0 0 (fA g)) (F0 m 0 ls [])
  rw [← hQ9]
  refine lv_aload_n hx hb dX6_light_0 rfl (lv_at hl 0 rfl) ?_
  refine lv_iconst (v := 0) hx hb dX6_light_1 (by decide) ?_
  refine f_put X hw hMo fc7 0 (by decide) wq794 rfl rfl (v := .int 0) rfl rfl (Nat.le_of_ble_eq_true rfl) dX6_light_2 (fun H locs hw => ?_)
  have hw : fw g ad (fU M 5 (.inr (7, [.int 0, .int (nI (tHn U)), .int (nI (tPn U)), .int (nI (tEn U)), .ref (ad 6), .ref (ad 7), .ref (ad 8), .ref (ad 9), .ref (ad 10), .ref (ad 11), .ref (ad 12), .ref (ad 13), .ref (ad 14)]))) s H locs := hw
  have hMo : (fU M 5 (.inr (7, [.int 0, .int (nI (tHn U)), .int (nI (tPn U)), .int (nI (tEn U)), .ref (ad 6), .ref (ad 7), .ref (ad 8), .ref (ad 9), .ref (ad 10), .ref (ad 11), .ref (ad 12), .ref (ad 13), .ref (ad 14)]))) 5 = some (.inr (7, [.int 0, .int (nI (tHn U)), .int (nI (tPn U)), .int (nI (tEn U)), .ref (ad 6), .ref (ad 7), .ref (ad 8), .ref (ad 9), .ref (ad 10), .ref (ad 11), .ref (ad 12), .ref (ad 13), .ref (ad 14)])) := fU_s
  have hm6 : (fU M 5 (.inr (7, [.int 0, .int (nI (tHn U)), .int (nI (tPn U)), .int (nI (tEn U)), .ref (ad 6), .ref (ad 7), .ref (ad 8), .ref (ad 9), .ref (ad 10), .ref (ad 11), .ref (ad 12), .ref (ad 13), .ref (ad 14)]))) 6 = _ := (fU_n (by omega)).trans hm6
  have hm7 : (fU M 5 (.inr (7, [.int 0, .int (nI (tHn U)), .int (nI (tPn U)), .int (nI (tEn U)), .ref (ad 6), .ref (ad 7), .ref (ad 8), .ref (ad 9), .ref (ad 10), .ref (ad 11), .ref (ad 12), .ref (ad 13), .ref (ad 14)]))) 7 = _ := (fU_n (by omega)).trans hm7
  have hm8 : (fU M 5 (.inr (7, [.int 0, .int (nI (tHn U)), .int (nI (tPn U)), .int (nI (tEn U)), .ref (ad 6), .ref (ad 7), .ref (ad 8), .ref (ad 9), .ref (ad 10), .ref (ad 11), .ref (ad 12), .ref (ad 13), .ref (ad 14)]))) 8 = _ := (fU_n (by omega)).trans hm8
  have hm9 : (fU M 5 (.inr (7, [.int 0, .int (nI (tHn U)), .int (nI (tPn U)), .int (nI (tEn U)), .ref (ad 6), .ref (ad 7), .ref (ad 8), .ref (ad 9), .ref (ad 10), .ref (ad 11), .ref (ad 12), .ref (ad 13), .ref (ad 14)]))) 9 = _ := (fU_n (by omega)).trans hm9
  have hm10 : (fU M 5 (.inr (7, [.int 0, .int (nI (tHn U)), .int (nI (tPn U)), .int (nI (tEn U)), .ref (ad 6), .ref (ad 7), .ref (ad 8), .ref (ad 9), .ref (ad 10), .ref (ad 11), .ref (ad 12), .ref (ad 13), .ref (ad 14)]))) 10 = _ := (fU_n (by omega)).trans hm10
  have hm11 : (fU M 5 (.inr (7, [.int 0, .int (nI (tHn U)), .int (nI (tPn U)), .int (nI (tEn U)), .ref (ad 6), .ref (ad 7), .ref (ad 8), .ref (ad 9), .ref (ad 10), .ref (ad 11), .ref (ad 12), .ref (ad 13), .ref (ad 14)]))) 11 = _ := (fU_n (by omega)).trans hm11
  have hm12 : (fU M 5 (.inr (7, [.int 0, .int (nI (tHn U)), .int (nI (tPn U)), .int (nI (tEn U)), .ref (ad 6), .ref (ad 7), .ref (ad 8), .ref (ad 9), .ref (ad 10), .ref (ad 11), .ref (ad 12), .ref (ad 13), .ref (ad 14)]))) 12 = _ := (fU_n (by omega)).trans hm12
  have hm13 : (fU M 5 (.inr (7, [.int 0, .int (nI (tHn U)), .int (nI (tPn U)), .int (nI (tEn U)), .ref (ad 6), .ref (ad 7), .ref (ad 8), .ref (ad 9), .ref (ad 10), .ref (ad 11), .ref (ad 12), .ref (ad 13), .ref (ad 14)]))) 13 = _ := (fU_n (by omega)).trans hm13
  have hm14 : (fU M 5 (.inr (7, [.int 0, .int (nI (tHn U)), .int (nI (tPn U)), .int (nI (tEn U)), .ref (ad 6), .ref (ad 7), .ref (ad 8), .ref (ad 9), .ref (ad 10), .ref (ad 11), .ref (ad 12), .ref (ad 13), .ref (ad 14)]))) 14 = _ := (fU_n (by omega)).trans hm14
  have hM : isMo g ad (fU M 5 (.inr (7, [.int 0, .int (nI (tHn U)), .int (nI (tPn U)), .int (nI (tEn U)), .ref (ad 6), .ref (ad 7), .ref (ad 8), .ref (ad 9), .ref (ad 10), .ref (ad 11), .ref (ad 12), .ref (ad 13), .ref (ad 14)]))) 0 U sp ca := ⟨pcs, wa, ht, et, mi, co, as, hMo, ⟨hm6, hm7, hm8, hm9, hm10, hm11, hm12, hm13, hm14⟩, hRel, hCnt⟩
  have hrA : fReg 5 15 ad Mo ad (fU M 5 (.inr (7, [.int 0, .int (nI (tHn U)), .int (nI (tPn U)), .int (nI (tEn U)), .ref (ad 6), .ref (ad 7), .ref (ad 8), .ref (ad 9), .ref (ad 10), .ref (ad 11), .ref (ad 12), .ref (ad 13), .ref (ad 14)]))) := fReg_U hrA (by omega)
  obtain ⟨M1, eM1⟩ : ∃ z, z = (fU M 5 (.inr (7, [.int 0, .int (nI (tHn U)), .int (nI (tPn U)), .int (nI (tEn U)), .ref (ad 6), .ref (ad 7), .ref (ad 8), .ref (ad 9), .ref (ad 10), .ref (ad 11), .ref (ad 12), .ref (ad 13), .ref (ad 14)]))) := ⟨_, rfl⟩
  rw [← eM1] at hM hw hrA
  obtain ⟨pcs, wa, ht, et, mi, co, as, hMo, ⟨hm6, hm7, hm8, hm9, hm10, hm11, hm12, hm13, hm14⟩, hRel, hCnt⟩ := id hM
  obtain ⟨hn1, hn2, hn3⟩ := id hCnt
  have hn1 : tHn U ≤ 30 := hn1
  have hn2 : tPn U ≤ 6 := hn2
  have hn3 : tEn U ≤ 6 := hn3
  have hMo : M1 5 = some (.inr (7, [.int 0, .int (nI (tHn U)), .int (nI (tPn U)), .int (nI (tEn U)), .ref (ad 6), .ref (ad 7), .ref (ad 8), .ref (ad 9), .ref (ad 10), .ref (ad 11), .ref (ad 12), .ref (ad 13), .ref (ad 14)])) := hMo
  obtain ⟨rH, rP, rE, rM⟩ := id hRel
  refine lv_aload_n hx hb dX6_light_5 rfl (lv_at hl 0 rfl) ?_
  refine lv_iload_n hx hb dX6_light_6 rfl (lv_at hl 1 rfl) ?_
  refine fk_di (fcV X hw (c_m_isHouse l g ad M1 hM (x)) hMo rfl wq886 kVX6_isHouse ⟨(Nat.le_of_ble_eq_true rfl), (Nat.le_of_ble_eq_true rfl)⟩ rfl hl.1 rfl (Nat.le_of_ble_eq_true rfl) dX6_light_7 ⟨Nat.le_refl _, Nat.le_refl _⟩) hw (fun H locs hw => ?_)
  refine lv_if_ne (tgt := 19) hx hb dX6_light_10 (by decide) (fun c_1 => absurd (bI_nf.mp c_1) (f_false h1)) (fun c_1 => ?_)
  have c_1 := bI_f.mp c_1
  refine lv_aload_n hx hb dX6_light_13 rfl (lv_at hl 0 rfl) ?_
  refine lv_iconst (v := 1) hx hb dX6_light_14 (by decide) ?_
  refine fk_mi (fcV X hw (c_fail l g ad M1 hM 1) hMo rfl wq849 kVX6_fail ⟨(Nat.le_of_ble_eq_true rfl), (Nat.le_of_ble_eq_true rfl)⟩ rfl hl.1 rfl (Nat.le_of_ble_eq_true rfl) dX6_light_15 ⟨Nat.le_refl _, Nat.le_refl _⟩) hw (fun M2 H locs hM hr2 hw => ?_)
  have hrA := fReg_tr hrA hr2
  rw [hQ9, ← hMq]
  exact f_iret X hw ⟨rfl, hM, hrA, rfl⟩ (Nat.le_refl _) (Nat.le_refl _) dX6_light_18
set_option maxHeartbeats 4000000 in
set_option maxRecDepth 100000 in
theorem x_m_light_2 (l : Launch) (g : fG) (ad : Nat → Nat) (M : fM) {th : Int32} {U : fTn} {sp ca : Nat → Int32} (hM : isMo g ad M th U sp ca) {j : Nat} {heat : Int32} (hj : j < tHn U) (h2 : inR heat 1 99 = false) : fCi l g yX6_light cX6_light 3 ((some .int)) 7 170 0 0 ad M [.ref (ad 5), .int (nI j), .int heat] (fMi g ad M 2 U sp ca 0) := by
  refine f_body (own := RX6) (by decide +kernel) rfl (Nat.le_of_ble_eq_true rfl) ?_
  intro p e s m args below meth c ls X hw hin hl
  have hx := X.1
  have hb := X.2.1
  have hl : lv_has ls 3 [(0, .ref (ad 5)), (1, .int (nI j)), (2, .int heat)] := hl
  obtain ⟨pcs, wa, ht, et, mi, co, as, hMo, ⟨hm6, hm7, hm8, hm9, hm10, hm11, hm12, hm13, hm14⟩, hRel, hCnt⟩ := id hM
  obtain ⟨hn1, hn2, hn3⟩ := id hCnt
  have hn1 : tHn U ≤ 30 := hn1
  have hn2 : tPn U ≤ 6 := hn2
  have hn3 : tEn U ≤ 6 := hn3
  have hMo : M 5 = some (.inr (7, [.int th, .int (nI (tHn U)), .int (nI (tPn U)), .int (nI (tEn U)), .ref (ad 6), .ref (ad 7), .ref (ad 8), .ref (ad 9), .ref (ad 10), .ref (ad 11), .ref (ad 12), .ref (ad 13), .ref (ad 14)])) := hMo
  obtain ⟨rH, rP, rE, rM⟩ := id hRel
  have hxj : isIx (tHn U) (nI j) = true := isIx_nI hj (by omega)
  obtain ⟨Mo, hMq⟩ : ∃ z, z = M := ⟨_, rfl⟩
  have hrA : fReg 5 15 ad Mo ad M := by rw [hMq]; exact fReg_rf
  obtain ⟨Q9, hQ9⟩ : ∃ z, z = MQ below (fQi g (fMi g ad M 2 U sp ca 0)) args s 0 0 (fA g) := ⟨_, rfl⟩
  show W p l e (fR 7 170 0 0) s m args below meth c _ _ 0 0 (MQ below (fQi g (fMi g ad M 2 U sp ca 0)) args s 0 0 (fA g)) (F0 m 0 ls [])
  rw [← hQ9]
  refine lv_aload_n hx hb dX6_light_0 rfl (lv_at hl 0 rfl) ?_
  refine lv_iconst (v := 0) hx hb dX6_light_1 (by decide) ?_
  refine f_put X hw hMo fc7 0 (by decide) wq794 rfl rfl (v := .int 0) rfl rfl (Nat.le_of_ble_eq_true rfl) dX6_light_2 (fun H locs hw => ?_)
  have hw : fw g ad (fU M 5 (.inr (7, [.int 0, .int (nI (tHn U)), .int (nI (tPn U)), .int (nI (tEn U)), .ref (ad 6), .ref (ad 7), .ref (ad 8), .ref (ad 9), .ref (ad 10), .ref (ad 11), .ref (ad 12), .ref (ad 13), .ref (ad 14)]))) s H locs := hw
  have hMo : (fU M 5 (.inr (7, [.int 0, .int (nI (tHn U)), .int (nI (tPn U)), .int (nI (tEn U)), .ref (ad 6), .ref (ad 7), .ref (ad 8), .ref (ad 9), .ref (ad 10), .ref (ad 11), .ref (ad 12), .ref (ad 13), .ref (ad 14)]))) 5 = some (.inr (7, [.int 0, .int (nI (tHn U)), .int (nI (tPn U)), .int (nI (tEn U)), .ref (ad 6), .ref (ad 7), .ref (ad 8), .ref (ad 9), .ref (ad 10), .ref (ad 11), .ref (ad 12), .ref (ad 13), .ref (ad 14)])) := fU_s
  have hm6 : (fU M 5 (.inr (7, [.int 0, .int (nI (tHn U)), .int (nI (tPn U)), .int (nI (tEn U)), .ref (ad 6), .ref (ad 7), .ref (ad 8), .ref (ad 9), .ref (ad 10), .ref (ad 11), .ref (ad 12), .ref (ad 13), .ref (ad 14)]))) 6 = _ := (fU_n (by omega)).trans hm6
  have hm7 : (fU M 5 (.inr (7, [.int 0, .int (nI (tHn U)), .int (nI (tPn U)), .int (nI (tEn U)), .ref (ad 6), .ref (ad 7), .ref (ad 8), .ref (ad 9), .ref (ad 10), .ref (ad 11), .ref (ad 12), .ref (ad 13), .ref (ad 14)]))) 7 = _ := (fU_n (by omega)).trans hm7
  have hm8 : (fU M 5 (.inr (7, [.int 0, .int (nI (tHn U)), .int (nI (tPn U)), .int (nI (tEn U)), .ref (ad 6), .ref (ad 7), .ref (ad 8), .ref (ad 9), .ref (ad 10), .ref (ad 11), .ref (ad 12), .ref (ad 13), .ref (ad 14)]))) 8 = _ := (fU_n (by omega)).trans hm8
  have hm9 : (fU M 5 (.inr (7, [.int 0, .int (nI (tHn U)), .int (nI (tPn U)), .int (nI (tEn U)), .ref (ad 6), .ref (ad 7), .ref (ad 8), .ref (ad 9), .ref (ad 10), .ref (ad 11), .ref (ad 12), .ref (ad 13), .ref (ad 14)]))) 9 = _ := (fU_n (by omega)).trans hm9
  have hm10 : (fU M 5 (.inr (7, [.int 0, .int (nI (tHn U)), .int (nI (tPn U)), .int (nI (tEn U)), .ref (ad 6), .ref (ad 7), .ref (ad 8), .ref (ad 9), .ref (ad 10), .ref (ad 11), .ref (ad 12), .ref (ad 13), .ref (ad 14)]))) 10 = _ := (fU_n (by omega)).trans hm10
  have hm11 : (fU M 5 (.inr (7, [.int 0, .int (nI (tHn U)), .int (nI (tPn U)), .int (nI (tEn U)), .ref (ad 6), .ref (ad 7), .ref (ad 8), .ref (ad 9), .ref (ad 10), .ref (ad 11), .ref (ad 12), .ref (ad 13), .ref (ad 14)]))) 11 = _ := (fU_n (by omega)).trans hm11
  have hm12 : (fU M 5 (.inr (7, [.int 0, .int (nI (tHn U)), .int (nI (tPn U)), .int (nI (tEn U)), .ref (ad 6), .ref (ad 7), .ref (ad 8), .ref (ad 9), .ref (ad 10), .ref (ad 11), .ref (ad 12), .ref (ad 13), .ref (ad 14)]))) 12 = _ := (fU_n (by omega)).trans hm12
  have hm13 : (fU M 5 (.inr (7, [.int 0, .int (nI (tHn U)), .int (nI (tPn U)), .int (nI (tEn U)), .ref (ad 6), .ref (ad 7), .ref (ad 8), .ref (ad 9), .ref (ad 10), .ref (ad 11), .ref (ad 12), .ref (ad 13), .ref (ad 14)]))) 13 = _ := (fU_n (by omega)).trans hm13
  have hm14 : (fU M 5 (.inr (7, [.int 0, .int (nI (tHn U)), .int (nI (tPn U)), .int (nI (tEn U)), .ref (ad 6), .ref (ad 7), .ref (ad 8), .ref (ad 9), .ref (ad 10), .ref (ad 11), .ref (ad 12), .ref (ad 13), .ref (ad 14)]))) 14 = _ := (fU_n (by omega)).trans hm14
  have hM : isMo g ad (fU M 5 (.inr (7, [.int 0, .int (nI (tHn U)), .int (nI (tPn U)), .int (nI (tEn U)), .ref (ad 6), .ref (ad 7), .ref (ad 8), .ref (ad 9), .ref (ad 10), .ref (ad 11), .ref (ad 12), .ref (ad 13), .ref (ad 14)]))) 0 U sp ca := ⟨pcs, wa, ht, et, mi, co, as, hMo, ⟨hm6, hm7, hm8, hm9, hm10, hm11, hm12, hm13, hm14⟩, hRel, hCnt⟩
  have hrA : fReg 5 15 ad Mo ad (fU M 5 (.inr (7, [.int 0, .int (nI (tHn U)), .int (nI (tPn U)), .int (nI (tEn U)), .ref (ad 6), .ref (ad 7), .ref (ad 8), .ref (ad 9), .ref (ad 10), .ref (ad 11), .ref (ad 12), .ref (ad 13), .ref (ad 14)]))) := fReg_U hrA (by omega)
  obtain ⟨M3, eM3⟩ : ∃ z, z = (fU M 5 (.inr (7, [.int 0, .int (nI (tHn U)), .int (nI (tPn U)), .int (nI (tEn U)), .ref (ad 6), .ref (ad 7), .ref (ad 8), .ref (ad 9), .ref (ad 10), .ref (ad 11), .ref (ad 12), .ref (ad 13), .ref (ad 14)]))) := ⟨_, rfl⟩
  rw [← eM3] at hM hw hrA
  obtain ⟨pcs, wa, ht, et, mi, co, as, hMo, ⟨hm6, hm7, hm8, hm9, hm10, hm11, hm12, hm13, hm14⟩, hRel, hCnt⟩ := id hM
  obtain ⟨hn1, hn2, hn3⟩ := id hCnt
  have hn1 : tHn U ≤ 30 := hn1
  have hn2 : tPn U ≤ 6 := hn2
  have hn3 : tEn U ≤ 6 := hn3
  have hMo : M3 5 = some (.inr (7, [.int 0, .int (nI (tHn U)), .int (nI (tPn U)), .int (nI (tEn U)), .ref (ad 6), .ref (ad 7), .ref (ad 8), .ref (ad 9), .ref (ad 10), .ref (ad 11), .ref (ad 12), .ref (ad 13), .ref (ad 14)])) := hMo
  obtain ⟨rH, rP, rE, rM⟩ := id hRel
  refine lv_aload_n hx hb dX6_light_5 rfl (lv_at hl 0 rfl) ?_
  refine lv_iload_n hx hb dX6_light_6 rfl (lv_at hl 1 rfl) ?_
  refine fk_di (fcV X hw (c_m_isHouse l g ad M3 hM (nI j)) hMo rfl wq886 kVX6_isHouse ⟨(Nat.le_of_ble_eq_true rfl), (Nat.le_of_ble_eq_true rfl)⟩ rfl hl.1 rfl (Nat.le_of_ble_eq_true rfl) dX6_light_7 ⟨Nat.le_refl _, Nat.le_refl _⟩) hw (fun H locs hw => ?_)
  refine lv_if_ne (tgt := 19) hx hb dX6_light_10 (by decide) (fun c_1 => ?_) (fun c_1 => absurd (bI_f.mp c_1) (by rw [hxj]; decide))
  have c_1 := bI_nf.mp c_1
  refine lv_iload_n hx hb dX6_light_19 rfl (lv_at hl 2 rfl) ?_
  refine lv_iconst (v := 1) hx hb dX6_light_20 (by decide) ?_
  refine lv_bipush (v := 99) hx hb dX6_light_21 (by decide) ?_
  refine fk_di (fcS X hw (c_isIn l g ad M3 (heat) 1 99) wq846 kSX6_isIn ⟨(Nat.le_of_ble_eq_true rfl), (Nat.le_of_ble_eq_true rfl)⟩ rfl hl.1 rfl (Nat.le_of_ble_eq_true rfl) dX6_light_23 ⟨Nat.le_refl _, Nat.le_refl _⟩) hw (fun H locs hw => ?_)
  refine lv_if_ne (tgt := 35) hx hb dX6_light_26 (by decide) (fun c_2 => absurd (bI_nf.mp c_2) (f_false h2)) (fun c_2 => ?_)
  have c_2 := bI_f.mp c_2
  refine lv_aload_n hx hb dX6_light_29 rfl (lv_at hl 0 rfl) ?_
  refine lv_iconst (v := 2) hx hb dX6_light_30 (by decide) ?_
  refine fk_mi (fcV X hw (c_fail l g ad M3 hM 2) hMo rfl wq849 kVX6_fail ⟨(Nat.le_of_ble_eq_true rfl), (Nat.le_of_ble_eq_true rfl)⟩ rfl hl.1 rfl (Nat.le_of_ble_eq_true rfl) dX6_light_31 ⟨Nat.le_refl _, Nat.le_refl _⟩) hw (fun M4 H locs hM hr4 hw => ?_)
  have hrA := fReg_tr hrA hr4
  rw [hQ9, ← hMq]
  exact f_iret X hw ⟨rfl, hM, hrA, rfl⟩ (Nat.le_refl _) (Nat.le_refl _) dX6_light_34
set_option maxHeartbeats 4000000 in
set_option maxRecDepth 100000 in
theorem x_m_light_3 (l : Launch) (g : fG) (ad : Nat → Nat) (M : fM) {th : Int32} {U : fTn} {sp ca : Nat → Int32} (hM : isMo g ad M th U sp ca) {j : Nat} {heat : Int32} (hj : j < tHn U) (h2 : inR heat 1 99 = true) (h3 : ¬ tH U j 3 = 0) : fCi l g yX6_light cX6_light 3 ((some .int)) 7 170 0 0 ad M [.ref (ad 5), .int (nI j), .int heat] (fMi g ad M 3 U sp ca 0) := by
  refine f_body (own := RX6) (by decide +kernel) rfl (Nat.le_of_ble_eq_true rfl) ?_
  intro p e s m args below meth c ls X hw hin hl
  have hx := X.1
  have hb := X.2.1
  have hl : lv_has ls 3 [(0, .ref (ad 5)), (1, .int (nI j)), (2, .int heat)] := hl
  obtain ⟨pcs, wa, ht, et, mi, co, as, hMo, ⟨hm6, hm7, hm8, hm9, hm10, hm11, hm12, hm13, hm14⟩, hRel, hCnt⟩ := id hM
  obtain ⟨hn1, hn2, hn3⟩ := id hCnt
  have hn1 : tHn U ≤ 30 := hn1
  have hn2 : tPn U ≤ 6 := hn2
  have hn3 : tEn U ≤ 6 := hn3
  have hMo : M 5 = some (.inr (7, [.int th, .int (nI (tHn U)), .int (nI (tPn U)), .int (nI (tEn U)), .ref (ad 6), .ref (ad 7), .ref (ad 8), .ref (ad 9), .ref (ad 10), .ref (ad 11), .ref (ad 12), .ref (ad 13), .ref (ad 14)])) := hMo
  obtain ⟨rH, rP, rE, rM⟩ := id hRel
  have hxj : isIx (tHn U) (nI j) = true := isIx_nI hj (by omega)
  obtain ⟨Mo, hMq⟩ : ∃ z, z = M := ⟨_, rfl⟩
  have hrA : fReg 5 15 ad Mo ad M := by rw [hMq]; exact fReg_rf
  obtain ⟨Q9, hQ9⟩ : ∃ z, z = MQ below (fQi g (fMi g ad M 3 U sp ca 0)) args s 0 0 (fA g) := ⟨_, rfl⟩
  show W p l e (fR 7 170 0 0) s m args below meth c _ _ 0 0 (MQ below (fQi g (fMi g ad M 3 U sp ca 0)) args s 0 0 (fA g)) (F0 m 0 ls [])
  rw [← hQ9]
  refine lv_aload_n hx hb dX6_light_0 rfl (lv_at hl 0 rfl) ?_
  refine lv_iconst (v := 0) hx hb dX6_light_1 (by decide) ?_
  refine f_put X hw hMo fc7 0 (by decide) wq794 rfl rfl (v := .int 0) rfl rfl (Nat.le_of_ble_eq_true rfl) dX6_light_2 (fun H locs hw => ?_)
  have hw : fw g ad (fU M 5 (.inr (7, [.int 0, .int (nI (tHn U)), .int (nI (tPn U)), .int (nI (tEn U)), .ref (ad 6), .ref (ad 7), .ref (ad 8), .ref (ad 9), .ref (ad 10), .ref (ad 11), .ref (ad 12), .ref (ad 13), .ref (ad 14)]))) s H locs := hw
  have hMo : (fU M 5 (.inr (7, [.int 0, .int (nI (tHn U)), .int (nI (tPn U)), .int (nI (tEn U)), .ref (ad 6), .ref (ad 7), .ref (ad 8), .ref (ad 9), .ref (ad 10), .ref (ad 11), .ref (ad 12), .ref (ad 13), .ref (ad 14)]))) 5 = some (.inr (7, [.int 0, .int (nI (tHn U)), .int (nI (tPn U)), .int (nI (tEn U)), .ref (ad 6), .ref (ad 7), .ref (ad 8), .ref (ad 9), .ref (ad 10), .ref (ad 11), .ref (ad 12), .ref (ad 13), .ref (ad 14)])) := fU_s
  have hm6 : (fU M 5 (.inr (7, [.int 0, .int (nI (tHn U)), .int (nI (tPn U)), .int (nI (tEn U)), .ref (ad 6), .ref (ad 7), .ref (ad 8), .ref (ad 9), .ref (ad 10), .ref (ad 11), .ref (ad 12), .ref (ad 13), .ref (ad 14)]))) 6 = _ := (fU_n (by omega)).trans hm6
  have hm7 : (fU M 5 (.inr (7, [.int 0, .int (nI (tHn U)), .int (nI (tPn U)), .int (nI (tEn U)), .ref (ad 6), .ref (ad 7), .ref (ad 8), .ref (ad 9), .ref (ad 10), .ref (ad 11), .ref (ad 12), .ref (ad 13), .ref (ad 14)]))) 7 = _ := (fU_n (by omega)).trans hm7
  have hm8 : (fU M 5 (.inr (7, [.int 0, .int (nI (tHn U)), .int (nI (tPn U)), .int (nI (tEn U)), .ref (ad 6), .ref (ad 7), .ref (ad 8), .ref (ad 9), .ref (ad 10), .ref (ad 11), .ref (ad 12), .ref (ad 13), .ref (ad 14)]))) 8 = _ := (fU_n (by omega)).trans hm8
  have hm9 : (fU M 5 (.inr (7, [.int 0, .int (nI (tHn U)), .int (nI (tPn U)), .int (nI (tEn U)), .ref (ad 6), .ref (ad 7), .ref (ad 8), .ref (ad 9), .ref (ad 10), .ref (ad 11), .ref (ad 12), .ref (ad 13), .ref (ad 14)]))) 9 = _ := (fU_n (by omega)).trans hm9
  have hm10 : (fU M 5 (.inr (7, [.int 0, .int (nI (tHn U)), .int (nI (tPn U)), .int (nI (tEn U)), .ref (ad 6), .ref (ad 7), .ref (ad 8), .ref (ad 9), .ref (ad 10), .ref (ad 11), .ref (ad 12), .ref (ad 13), .ref (ad 14)]))) 10 = _ := (fU_n (by omega)).trans hm10
  have hm11 : (fU M 5 (.inr (7, [.int 0, .int (nI (tHn U)), .int (nI (tPn U)), .int (nI (tEn U)), .ref (ad 6), .ref (ad 7), .ref (ad 8), .ref (ad 9), .ref (ad 10), .ref (ad 11), .ref (ad 12), .ref (ad 13), .ref (ad 14)]))) 11 = _ := (fU_n (by omega)).trans hm11
  have hm12 : (fU M 5 (.inr (7, [.int 0, .int (nI (tHn U)), .int (nI (tPn U)), .int (nI (tEn U)), .ref (ad 6), .ref (ad 7), .ref (ad 8), .ref (ad 9), .ref (ad 10), .ref (ad 11), .ref (ad 12), .ref (ad 13), .ref (ad 14)]))) 12 = _ := (fU_n (by omega)).trans hm12
  have hm13 : (fU M 5 (.inr (7, [.int 0, .int (nI (tHn U)), .int (nI (tPn U)), .int (nI (tEn U)), .ref (ad 6), .ref (ad 7), .ref (ad 8), .ref (ad 9), .ref (ad 10), .ref (ad 11), .ref (ad 12), .ref (ad 13), .ref (ad 14)]))) 13 = _ := (fU_n (by omega)).trans hm13
  have hm14 : (fU M 5 (.inr (7, [.int 0, .int (nI (tHn U)), .int (nI (tPn U)), .int (nI (tEn U)), .ref (ad 6), .ref (ad 7), .ref (ad 8), .ref (ad 9), .ref (ad 10), .ref (ad 11), .ref (ad 12), .ref (ad 13), .ref (ad 14)]))) 14 = _ := (fU_n (by omega)).trans hm14
  have hM : isMo g ad (fU M 5 (.inr (7, [.int 0, .int (nI (tHn U)), .int (nI (tPn U)), .int (nI (tEn U)), .ref (ad 6), .ref (ad 7), .ref (ad 8), .ref (ad 9), .ref (ad 10), .ref (ad 11), .ref (ad 12), .ref (ad 13), .ref (ad 14)]))) 0 U sp ca := ⟨pcs, wa, ht, et, mi, co, as, hMo, ⟨hm6, hm7, hm8, hm9, hm10, hm11, hm12, hm13, hm14⟩, hRel, hCnt⟩
  have hrA : fReg 5 15 ad Mo ad (fU M 5 (.inr (7, [.int 0, .int (nI (tHn U)), .int (nI (tPn U)), .int (nI (tEn U)), .ref (ad 6), .ref (ad 7), .ref (ad 8), .ref (ad 9), .ref (ad 10), .ref (ad 11), .ref (ad 12), .ref (ad 13), .ref (ad 14)]))) := fReg_U hrA (by omega)
  obtain ⟨M5, eM5⟩ : ∃ z, z = (fU M 5 (.inr (7, [.int 0, .int (nI (tHn U)), .int (nI (tPn U)), .int (nI (tEn U)), .ref (ad 6), .ref (ad 7), .ref (ad 8), .ref (ad 9), .ref (ad 10), .ref (ad 11), .ref (ad 12), .ref (ad 13), .ref (ad 14)]))) := ⟨_, rfl⟩
  rw [← eM5] at hM hw hrA
  obtain ⟨pcs, wa, ht, et, mi, co, as, hMo, ⟨hm6, hm7, hm8, hm9, hm10, hm11, hm12, hm13, hm14⟩, hRel, hCnt⟩ := id hM
  obtain ⟨hn1, hn2, hn3⟩ := id hCnt
  have hn1 : tHn U ≤ 30 := hn1
  have hn2 : tPn U ≤ 6 := hn2
  have hn3 : tEn U ≤ 6 := hn3
  have hMo : M5 5 = some (.inr (7, [.int 0, .int (nI (tHn U)), .int (nI (tPn U)), .int (nI (tEn U)), .ref (ad 6), .ref (ad 7), .ref (ad 8), .ref (ad 9), .ref (ad 10), .ref (ad 11), .ref (ad 12), .ref (ad 13), .ref (ad 14)])) := hMo
  obtain ⟨rH, rP, rE, rM⟩ := id hRel
  refine lv_aload_n hx hb dX6_light_5 rfl (lv_at hl 0 rfl) ?_
  refine lv_iload_n hx hb dX6_light_6 rfl (lv_at hl 1 rfl) ?_
  refine fk_di (fcV X hw (c_m_isHouse l g ad M5 hM (nI j)) hMo rfl wq886 kVX6_isHouse ⟨(Nat.le_of_ble_eq_true rfl), (Nat.le_of_ble_eq_true rfl)⟩ rfl hl.1 rfl (Nat.le_of_ble_eq_true rfl) dX6_light_7 ⟨Nat.le_refl _, Nat.le_refl _⟩) hw (fun H locs hw => ?_)
  refine lv_if_ne (tgt := 19) hx hb dX6_light_10 (by decide) (fun c_1 => ?_) (fun c_1 => absurd (bI_f.mp c_1) (by rw [hxj]; decide))
  have c_1 := bI_nf.mp c_1
  refine lv_iload_n hx hb dX6_light_19 rfl (lv_at hl 2 rfl) ?_
  refine lv_iconst (v := 1) hx hb dX6_light_20 (by decide) ?_
  refine lv_bipush (v := 99) hx hb dX6_light_21 (by decide) ?_
  refine fk_di (fcS X hw (c_isIn l g ad M5 (heat) 1 99) wq846 kSX6_isIn ⟨(Nat.le_of_ble_eq_true rfl), (Nat.le_of_ble_eq_true rfl)⟩ rfl hl.1 rfl (Nat.le_of_ble_eq_true rfl) dX6_light_23 ⟨Nat.le_refl _, Nat.le_refl _⟩) hw (fun H locs hw => ?_)
  refine lv_if_ne (tgt := 35) hx hb dX6_light_26 (by decide) (fun c_2 => ?_) (fun c_2 => absurd (bI_f.mp c_2) (by rw [h2]; decide))
  have c_2 := bI_nf.mp c_2
  refine lv_aload_n hx hb dX6_light_35 rfl (lv_at hl 0 rfl) ?_
  refine lv_iload_n hx hb dX6_light_36 rfl (lv_at hl 1 rfl) ?_
  refine lv_iconst (v := 3) hx hb dX6_light_37 (by decide) ?_
  refine fk_di (fcV X hw (c_ho l g ad M5 hM (h0 := j) (k := 3) hj rfl (by omega)) hMo rfl wq865 kVX6_ho ⟨(Nat.le_of_ble_eq_true rfl), (Nat.le_of_ble_eq_true rfl)⟩ rfl hl.1 rfl (Nat.le_of_ble_eq_true rfl) dX6_light_38 ⟨Nat.le_refl _, Nat.le_refl _⟩) hw (fun H locs hw => ?_)
  refine lv_if_eq (tgt := 50) hx hb dX6_light_41 (by decide) (fun c_3 => absurd c_3 h3) (fun c_3 => ?_)
  refine lv_aload_n hx hb dX6_light_44 rfl (lv_at hl 0 rfl) ?_
  refine lv_iconst (v := 3) hx hb dX6_light_45 (by decide) ?_
  refine fk_mi (fcV X hw (c_fail l g ad M5 hM 3) hMo rfl wq849 kVX6_fail ⟨(Nat.le_of_ble_eq_true rfl), (Nat.le_of_ble_eq_true rfl)⟩ rfl hl.1 rfl (Nat.le_of_ble_eq_true rfl) dX6_light_46 ⟨Nat.le_refl _, Nat.le_refl _⟩) hw (fun M6 H locs hM hr6 hw => ?_)
  have hrA := fReg_tr hrA hr6
  rw [hQ9, ← hMq]
  exact f_iret X hw ⟨rfl, hM, hrA, rfl⟩ (Nat.le_refl _) (Nat.le_refl _) dX6_light_49
set_option maxHeartbeats 4000000 in
set_option maxRecDepth 100000 in
theorem c_m_light (l : Launch) (g : fG) (ad : Nat → Nat) (M : fM) {th : Int32} {U : fTn} {sp ca : Nat → Int32} (hM : isMo g ad M th U sp ca) {j : Nat} {heat : Int32} (hj : j < tHn U) (h2 : inR heat 1 99 = true) (h3 : tH U j 3 = 0) : fCi l g yX6_light cX6_light 3 ((some .int)) 7 170 0 0 ad M [.ref (ad 5), .int (nI j), .int heat] (fMi g ad M 0 (sH U j (upd (upd (tH U j) 3 1) 4 heat)) sp ca (cntH (tH (sH U j (upd (upd (tH U j) 3 1) 4 heat))) 1 (tHn U))) := by
  refine f_body (own := RX6) (by decide +kernel) rfl (Nat.le_of_ble_eq_true rfl) ?_
  intro p e s m args below meth c ls X hw hin hl
  have hx := X.1
  have hb := X.2.1
  have hl : lv_has ls 3 [(0, .ref (ad 5)), (1, .int (nI j)), (2, .int heat)] := hl
  obtain ⟨pcs, wa, ht, et, mi, co, as, hMo, ⟨hm6, hm7, hm8, hm9, hm10, hm11, hm12, hm13, hm14⟩, hRel, hCnt⟩ := id hM
  obtain ⟨hn1, hn2, hn3⟩ := id hCnt
  have hn1 : tHn U ≤ 30 := hn1
  have hn2 : tPn U ≤ 6 := hn2
  have hn3 : tEn U ≤ 6 := hn3
  have hMo : M 5 = some (.inr (7, [.int th, .int (nI (tHn U)), .int (nI (tPn U)), .int (nI (tEn U)), .ref (ad 6), .ref (ad 7), .ref (ad 8), .ref (ad 9), .ref (ad 10), .ref (ad 11), .ref (ad 12), .ref (ad 13), .ref (ad 14)])) := hMo
  obtain ⟨rH, rP, rE, rM⟩ := id hRel
  have hxj : isIx (tHn U) (nI j) = true := isIx_nI hj (by omega)
  obtain ⟨Mo, hMq⟩ : ∃ z, z = M := ⟨_, rfl⟩
  have hrA : fReg 5 15 ad Mo ad M := by rw [hMq]; exact fReg_rf
  obtain ⟨Q9, hQ9⟩ : ∃ z, z = MQ below (fQi g (fMi g ad M 0 (sH U j (upd (upd (tH U j) 3 1) 4 heat)) sp ca (cntH (tH (sH U j (upd (upd (tH U j) 3 1) 4 heat))) 1 (tHn U)))) args s 0 0 (fA g) := ⟨_, rfl⟩
  show W p l e (fR 7 170 0 0) s m args below meth c _ _ 0 0 (MQ below (fQi g (fMi g ad M 0 (sH U j (upd (upd (tH U j) 3 1) 4 heat)) sp ca (cntH (tH (sH U j (upd (upd (tH U j) 3 1) 4 heat))) 1 (tHn U)))) args s 0 0 (fA g)) (F0 m 0 ls [])
  rw [← hQ9]
  refine lv_aload_n hx hb dX6_light_0 rfl (lv_at hl 0 rfl) ?_
  refine lv_iconst (v := 0) hx hb dX6_light_1 (by decide) ?_
  refine f_put X hw hMo fc7 0 (by decide) wq794 rfl rfl (v := .int 0) rfl rfl (Nat.le_of_ble_eq_true rfl) dX6_light_2 (fun H locs hw => ?_)
  have hw : fw g ad (fU M 5 (.inr (7, [.int 0, .int (nI (tHn U)), .int (nI (tPn U)), .int (nI (tEn U)), .ref (ad 6), .ref (ad 7), .ref (ad 8), .ref (ad 9), .ref (ad 10), .ref (ad 11), .ref (ad 12), .ref (ad 13), .ref (ad 14)]))) s H locs := hw
  have hMo : (fU M 5 (.inr (7, [.int 0, .int (nI (tHn U)), .int (nI (tPn U)), .int (nI (tEn U)), .ref (ad 6), .ref (ad 7), .ref (ad 8), .ref (ad 9), .ref (ad 10), .ref (ad 11), .ref (ad 12), .ref (ad 13), .ref (ad 14)]))) 5 = some (.inr (7, [.int 0, .int (nI (tHn U)), .int (nI (tPn U)), .int (nI (tEn U)), .ref (ad 6), .ref (ad 7), .ref (ad 8), .ref (ad 9), .ref (ad 10), .ref (ad 11), .ref (ad 12), .ref (ad 13), .ref (ad 14)])) := fU_s
  have hm6 : (fU M 5 (.inr (7, [.int 0, .int (nI (tHn U)), .int (nI (tPn U)), .int (nI (tEn U)), .ref (ad 6), .ref (ad 7), .ref (ad 8), .ref (ad 9), .ref (ad 10), .ref (ad 11), .ref (ad 12), .ref (ad 13), .ref (ad 14)]))) 6 = _ := (fU_n (by omega)).trans hm6
  have hm7 : (fU M 5 (.inr (7, [.int 0, .int (nI (tHn U)), .int (nI (tPn U)), .int (nI (tEn U)), .ref (ad 6), .ref (ad 7), .ref (ad 8), .ref (ad 9), .ref (ad 10), .ref (ad 11), .ref (ad 12), .ref (ad 13), .ref (ad 14)]))) 7 = _ := (fU_n (by omega)).trans hm7
  have hm8 : (fU M 5 (.inr (7, [.int 0, .int (nI (tHn U)), .int (nI (tPn U)), .int (nI (tEn U)), .ref (ad 6), .ref (ad 7), .ref (ad 8), .ref (ad 9), .ref (ad 10), .ref (ad 11), .ref (ad 12), .ref (ad 13), .ref (ad 14)]))) 8 = _ := (fU_n (by omega)).trans hm8
  have hm9 : (fU M 5 (.inr (7, [.int 0, .int (nI (tHn U)), .int (nI (tPn U)), .int (nI (tEn U)), .ref (ad 6), .ref (ad 7), .ref (ad 8), .ref (ad 9), .ref (ad 10), .ref (ad 11), .ref (ad 12), .ref (ad 13), .ref (ad 14)]))) 9 = _ := (fU_n (by omega)).trans hm9
  have hm10 : (fU M 5 (.inr (7, [.int 0, .int (nI (tHn U)), .int (nI (tPn U)), .int (nI (tEn U)), .ref (ad 6), .ref (ad 7), .ref (ad 8), .ref (ad 9), .ref (ad 10), .ref (ad 11), .ref (ad 12), .ref (ad 13), .ref (ad 14)]))) 10 = _ := (fU_n (by omega)).trans hm10
  have hm11 : (fU M 5 (.inr (7, [.int 0, .int (nI (tHn U)), .int (nI (tPn U)), .int (nI (tEn U)), .ref (ad 6), .ref (ad 7), .ref (ad 8), .ref (ad 9), .ref (ad 10), .ref (ad 11), .ref (ad 12), .ref (ad 13), .ref (ad 14)]))) 11 = _ := (fU_n (by omega)).trans hm11
  have hm12 : (fU M 5 (.inr (7, [.int 0, .int (nI (tHn U)), .int (nI (tPn U)), .int (nI (tEn U)), .ref (ad 6), .ref (ad 7), .ref (ad 8), .ref (ad 9), .ref (ad 10), .ref (ad 11), .ref (ad 12), .ref (ad 13), .ref (ad 14)]))) 12 = _ := (fU_n (by omega)).trans hm12
  have hm13 : (fU M 5 (.inr (7, [.int 0, .int (nI (tHn U)), .int (nI (tPn U)), .int (nI (tEn U)), .ref (ad 6), .ref (ad 7), .ref (ad 8), .ref (ad 9), .ref (ad 10), .ref (ad 11), .ref (ad 12), .ref (ad 13), .ref (ad 14)]))) 13 = _ := (fU_n (by omega)).trans hm13
  have hm14 : (fU M 5 (.inr (7, [.int 0, .int (nI (tHn U)), .int (nI (tPn U)), .int (nI (tEn U)), .ref (ad 6), .ref (ad 7), .ref (ad 8), .ref (ad 9), .ref (ad 10), .ref (ad 11), .ref (ad 12), .ref (ad 13), .ref (ad 14)]))) 14 = _ := (fU_n (by omega)).trans hm14
  have hM : isMo g ad (fU M 5 (.inr (7, [.int 0, .int (nI (tHn U)), .int (nI (tPn U)), .int (nI (tEn U)), .ref (ad 6), .ref (ad 7), .ref (ad 8), .ref (ad 9), .ref (ad 10), .ref (ad 11), .ref (ad 12), .ref (ad 13), .ref (ad 14)]))) 0 U sp ca := ⟨pcs, wa, ht, et, mi, co, as, hMo, ⟨hm6, hm7, hm8, hm9, hm10, hm11, hm12, hm13, hm14⟩, hRel, hCnt⟩
  have hrA : fReg 5 15 ad Mo ad (fU M 5 (.inr (7, [.int 0, .int (nI (tHn U)), .int (nI (tPn U)), .int (nI (tEn U)), .ref (ad 6), .ref (ad 7), .ref (ad 8), .ref (ad 9), .ref (ad 10), .ref (ad 11), .ref (ad 12), .ref (ad 13), .ref (ad 14)]))) := fReg_U hrA (by omega)
  obtain ⟨M7, eM7⟩ : ∃ z, z = (fU M 5 (.inr (7, [.int 0, .int (nI (tHn U)), .int (nI (tPn U)), .int (nI (tEn U)), .ref (ad 6), .ref (ad 7), .ref (ad 8), .ref (ad 9), .ref (ad 10), .ref (ad 11), .ref (ad 12), .ref (ad 13), .ref (ad 14)]))) := ⟨_, rfl⟩
  rw [← eM7] at hM hw hrA
  obtain ⟨pcs, wa, ht, et, mi, co, as, hMo, ⟨hm6, hm7, hm8, hm9, hm10, hm11, hm12, hm13, hm14⟩, hRel, hCnt⟩ := id hM
  obtain ⟨hn1, hn2, hn3⟩ := id hCnt
  have hn1 : tHn U ≤ 30 := hn1
  have hn2 : tPn U ≤ 6 := hn2
  have hn3 : tEn U ≤ 6 := hn3
  have hMo : M7 5 = some (.inr (7, [.int 0, .int (nI (tHn U)), .int (nI (tPn U)), .int (nI (tEn U)), .ref (ad 6), .ref (ad 7), .ref (ad 8), .ref (ad 9), .ref (ad 10), .ref (ad 11), .ref (ad 12), .ref (ad 13), .ref (ad 14)])) := hMo
  obtain ⟨rH, rP, rE, rM⟩ := id hRel
  refine lv_aload_n hx hb dX6_light_5 rfl (lv_at hl 0 rfl) ?_
  refine lv_iload_n hx hb dX6_light_6 rfl (lv_at hl 1 rfl) ?_
  refine fk_di (fcV X hw (c_m_isHouse l g ad M7 hM (nI j)) hMo rfl wq886 kVX6_isHouse ⟨(Nat.le_of_ble_eq_true rfl), (Nat.le_of_ble_eq_true rfl)⟩ rfl hl.1 rfl (Nat.le_of_ble_eq_true rfl) dX6_light_7 ⟨Nat.le_refl _, Nat.le_refl _⟩) hw (fun H locs hw => ?_)
  refine lv_if_ne (tgt := 19) hx hb dX6_light_10 (by decide) (fun c_1 => ?_) (fun c_1 => absurd (bI_f.mp c_1) (by rw [hxj]; decide))
  have c_1 := bI_nf.mp c_1
  refine lv_iload_n hx hb dX6_light_19 rfl (lv_at hl 2 rfl) ?_
  refine lv_iconst (v := 1) hx hb dX6_light_20 (by decide) ?_
  refine lv_bipush (v := 99) hx hb dX6_light_21 (by decide) ?_
  refine fk_di (fcS X hw (c_isIn l g ad M7 (heat) 1 99) wq846 kSX6_isIn ⟨(Nat.le_of_ble_eq_true rfl), (Nat.le_of_ble_eq_true rfl)⟩ rfl hl.1 rfl (Nat.le_of_ble_eq_true rfl) dX6_light_23 ⟨Nat.le_refl _, Nat.le_refl _⟩) hw (fun H locs hw => ?_)
  refine lv_if_ne (tgt := 35) hx hb dX6_light_26 (by decide) (fun c_2 => ?_) (fun c_2 => absurd (bI_f.mp c_2) (by rw [h2]; decide))
  have c_2 := bI_nf.mp c_2
  refine lv_aload_n hx hb dX6_light_35 rfl (lv_at hl 0 rfl) ?_
  refine lv_iload_n hx hb dX6_light_36 rfl (lv_at hl 1 rfl) ?_
  refine lv_iconst (v := 3) hx hb dX6_light_37 (by decide) ?_
  refine fk_di (fcV X hw (c_ho l g ad M7 hM (h0 := j) (k := 3) hj rfl (by omega)) hMo rfl wq865 kVX6_ho ⟨(Nat.le_of_ble_eq_true rfl), (Nat.le_of_ble_eq_true rfl)⟩ rfl hl.1 rfl (Nat.le_of_ble_eq_true rfl) dX6_light_38 ⟨Nat.le_refl _, Nat.le_refl _⟩) hw (fun H locs hw => ?_)
  refine lv_if_eq (tgt := 50) hx hb dX6_light_41 (by decide) (fun c_3 => ?_) (fun c_3 => absurd h3 c_3)
  refine lv_aload_n hx hb dX6_light_50 rfl (lv_at hl 0 rfl) ?_
  refine lv_iload_n hx hb dX6_light_51 rfl (lv_at hl 1 rfl) ?_
  refine lv_iconst (v := 3) hx hb dX6_light_52 (by decide) ?_
  refine lv_iconst (v := 1) hx hb dX6_light_53 (by decide) ?_
  refine fk_mv (fcV X hw (c_setHo l g ad M7 hM (h0 := j) (k := 3) hj rfl (by omega) 1) hMo rfl wq890 kVX6_setHo ⟨(Nat.le_of_ble_eq_true rfl), (Nat.le_of_ble_eq_true rfl)⟩ rfl hl.1 rfl (Nat.le_of_ble_eq_true rfl) dX6_light_54 ⟨Nat.le_refl _, Nat.le_refl _⟩) hw (fun M8 H locs hM hr8 hw => ?_)
  have hrA := fReg_tr hrA hr8
  obtain ⟨pcs, wa, ht, et, mi, co, as, hMo, ⟨hm6, hm7, hm8, hm9, hm10, hm11, hm12, hm13, hm14⟩, hRel, hCnt⟩ := id hM
  obtain ⟨hn1, hn2, hn3⟩ := id hCnt
  have hn1 : tHn U ≤ 30 := hn1
  have hn2 : tPn U ≤ 6 := hn2
  have hn3 : tEn U ≤ 6 := hn3
  have hMo : M8 5 = some (.inr (7, [.int 0, .int (nI (tHn U)), .int (nI (tPn U)), .int (nI (tEn U)), .ref (ad 6), .ref (ad 7), .ref (ad 8), .ref (ad 9), .ref (ad 10), .ref (ad 11), .ref (ad 12), .ref (ad 13), .ref (ad 14)])) := hMo
  obtain ⟨rH, rP, rE, rM⟩ := id hRel
  refine lv_aload_n hx hb dX6_light_57 rfl (lv_at hl 0 rfl) ?_
  refine lv_iload_n hx hb dX6_light_58 rfl (lv_at hl 1 rfl) ?_
  refine lv_iconst (v := 4) hx hb dX6_light_59 (by decide) ?_
  refine lv_iload_n hx hb dX6_light_60 rfl (lv_at hl 2 rfl) ?_
  refine fk_mv (fcV X hw (c_setHo l g ad M8 hM (h0 := j) (k := 4) hj rfl (by omega) heat) hMo rfl wq890 kVX6_setHo ⟨(Nat.le_of_ble_eq_true rfl), (Nat.le_of_ble_eq_true rfl)⟩ rfl hl.1 rfl (Nat.le_of_ble_eq_true rfl) dX6_light_61 ⟨Nat.le_refl _, Nat.le_refl _⟩) hw (fun M9 H locs hM hr9 hw => ?_)
  have hrA := fReg_tr hrA hr9
  rw [show sH (sH U j (upd (tH U j) 3 1)) j (upd (tH (sH U j (upd (tH U j) 3 1)) j) 4 heat) = sH U j (upd (upd (tH U j) 3 1) 4 heat) from by rw [sH_sH, tH_sH]] at hM
  obtain ⟨pcs, wa, ht, et, mi, co, as, hMo, ⟨hm6, hm7, hm8, hm9, hm10, hm11, hm12, hm13, hm14⟩, hRel, hCnt⟩ := id hM
  obtain ⟨hn1, hn2, hn3⟩ := id hCnt
  have hn1 : tHn U ≤ 30 := hn1
  have hn2 : tPn U ≤ 6 := hn2
  have hn3 : tEn U ≤ 6 := hn3
  have hMo : M9 5 = some (.inr (7, [.int 0, .int (nI (tHn U)), .int (nI (tPn U)), .int (nI (tEn U)), .ref (ad 6), .ref (ad 7), .ref (ad 8), .ref (ad 9), .ref (ad 10), .ref (ad 11), .ref (ad 12), .ref (ad 13), .ref (ad 14)])) := hMo
  obtain ⟨rH, rP, rE, rM⟩ := id hRel
  refine lv_aload_n hx hb dX6_light_64 rfl (lv_at hl 0 rfl) ?_
  refine lv_iconst (v := 1) hx hb dX6_light_65 (by decide) ?_
  refine fk_di (fcV X hw (c_m_with l g ad M9 hM 1) hMo rfl wq894 kVX6_with ⟨(Nat.le_of_ble_eq_true rfl), (Nat.le_of_ble_eq_true rfl)⟩ rfl hl.1 rfl (Nat.le_of_ble_eq_true rfl) dX6_light_66 ⟨Nat.le_refl _, Nat.le_refl _⟩) hw (fun H locs hw => ?_)
  rw [hQ9, ← hMq]
  exact f_iret X hw ⟨rfl, hM, hrA, rfl⟩ (Nat.le_refl _) (Nat.le_refl _) dX6_light_69
set_option maxHeartbeats 4000000 in
set_option maxRecDepth 100000 in
theorem x_m_house_1 (l : Launch) (g : fG) (ad : Nat → Nat) (M : fM) {th : Int32} {U : fTn} {sp ca : Nat → Int32} (hM : isMo g ad M th U sp ca) {x what : Int32} (h1 : isIx (tHn U) x = false) : fCi l g yX6_house cX6_house 3 ((some .int)) 7 170 0 0 ad M [.ref (ad 5), .int x, .int what] (fMi g ad M 1 U sp ca 0) := by
  refine f_body (own := RX6) (by decide +kernel) rfl (Nat.le_of_ble_eq_true rfl) ?_
  intro p e s m args below meth c ls X hw hin hl
  have hx := X.1
  have hb := X.2.1
  have hl : lv_has ls 3 [(0, .ref (ad 5)), (1, .int x), (2, .int what)] := hl
  obtain ⟨pcs, wa, ht, et, mi, co, as, hMo, ⟨hm6, hm7, hm8, hm9, hm10, hm11, hm12, hm13, hm14⟩, hRel, hCnt⟩ := id hM
  obtain ⟨hn1, hn2, hn3⟩ := id hCnt
  have hn1 : tHn U ≤ 30 := hn1
  have hn2 : tPn U ≤ 6 := hn2
  have hn3 : tEn U ≤ 6 := hn3
  have hMo : M 5 = some (.inr (7, [.int th, .int (nI (tHn U)), .int (nI (tPn U)), .int (nI (tEn U)), .ref (ad 6), .ref (ad 7), .ref (ad 8), .ref (ad 9), .ref (ad 10), .ref (ad 11), .ref (ad 12), .ref (ad 13), .ref (ad 14)])) := hMo
  obtain ⟨rH, rP, rE, rM⟩ := id hRel
  obtain ⟨Mo, hMq⟩ : ∃ z, z = M := ⟨_, rfl⟩
  have hrA : fReg 5 15 ad Mo ad M := by rw [hMq]; exact fReg_rf
  obtain ⟨Q9, hQ9⟩ : ∃ z, z = MQ below (fQi g (fMi g ad M 1 U sp ca 0)) args s 0 0 (fA g) := ⟨_, rfl⟩
  show W p l e (fR 7 170 0 0) s m args below meth c _ _ 0 0 (MQ below (fQi g (fMi g ad M 1 U sp ca 0)) args s 0 0 (fA g)) (F0 m 0 ls [])
  rw [← hQ9]
  refine lv_aload_n hx hb dX6_house_0 rfl (lv_at hl 0 rfl) ?_
  refine lv_iconst (v := 0) hx hb dX6_house_1 (by decide) ?_
  refine f_put X hw hMo fc7 0 (by decide) wq794 rfl rfl (v := .int 0) rfl rfl (Nat.le_of_ble_eq_true rfl) dX6_house_2 (fun H locs hw => ?_)
  have hw : fw g ad (fU M 5 (.inr (7, [.int 0, .int (nI (tHn U)), .int (nI (tPn U)), .int (nI (tEn U)), .ref (ad 6), .ref (ad 7), .ref (ad 8), .ref (ad 9), .ref (ad 10), .ref (ad 11), .ref (ad 12), .ref (ad 13), .ref (ad 14)]))) s H locs := hw
  have hMo : (fU M 5 (.inr (7, [.int 0, .int (nI (tHn U)), .int (nI (tPn U)), .int (nI (tEn U)), .ref (ad 6), .ref (ad 7), .ref (ad 8), .ref (ad 9), .ref (ad 10), .ref (ad 11), .ref (ad 12), .ref (ad 13), .ref (ad 14)]))) 5 = some (.inr (7, [.int 0, .int (nI (tHn U)), .int (nI (tPn U)), .int (nI (tEn U)), .ref (ad 6), .ref (ad 7), .ref (ad 8), .ref (ad 9), .ref (ad 10), .ref (ad 11), .ref (ad 12), .ref (ad 13), .ref (ad 14)])) := fU_s
  have hm6 : (fU M 5 (.inr (7, [.int 0, .int (nI (tHn U)), .int (nI (tPn U)), .int (nI (tEn U)), .ref (ad 6), .ref (ad 7), .ref (ad 8), .ref (ad 9), .ref (ad 10), .ref (ad 11), .ref (ad 12), .ref (ad 13), .ref (ad 14)]))) 6 = _ := (fU_n (by omega)).trans hm6
  have hm7 : (fU M 5 (.inr (7, [.int 0, .int (nI (tHn U)), .int (nI (tPn U)), .int (nI (tEn U)), .ref (ad 6), .ref (ad 7), .ref (ad 8), .ref (ad 9), .ref (ad 10), .ref (ad 11), .ref (ad 12), .ref (ad 13), .ref (ad 14)]))) 7 = _ := (fU_n (by omega)).trans hm7
  have hm8 : (fU M 5 (.inr (7, [.int 0, .int (nI (tHn U)), .int (nI (tPn U)), .int (nI (tEn U)), .ref (ad 6), .ref (ad 7), .ref (ad 8), .ref (ad 9), .ref (ad 10), .ref (ad 11), .ref (ad 12), .ref (ad 13), .ref (ad 14)]))) 8 = _ := (fU_n (by omega)).trans hm8
  have hm9 : (fU M 5 (.inr (7, [.int 0, .int (nI (tHn U)), .int (nI (tPn U)), .int (nI (tEn U)), .ref (ad 6), .ref (ad 7), .ref (ad 8), .ref (ad 9), .ref (ad 10), .ref (ad 11), .ref (ad 12), .ref (ad 13), .ref (ad 14)]))) 9 = _ := (fU_n (by omega)).trans hm9
  have hm10 : (fU M 5 (.inr (7, [.int 0, .int (nI (tHn U)), .int (nI (tPn U)), .int (nI (tEn U)), .ref (ad 6), .ref (ad 7), .ref (ad 8), .ref (ad 9), .ref (ad 10), .ref (ad 11), .ref (ad 12), .ref (ad 13), .ref (ad 14)]))) 10 = _ := (fU_n (by omega)).trans hm10
  have hm11 : (fU M 5 (.inr (7, [.int 0, .int (nI (tHn U)), .int (nI (tPn U)), .int (nI (tEn U)), .ref (ad 6), .ref (ad 7), .ref (ad 8), .ref (ad 9), .ref (ad 10), .ref (ad 11), .ref (ad 12), .ref (ad 13), .ref (ad 14)]))) 11 = _ := (fU_n (by omega)).trans hm11
  have hm12 : (fU M 5 (.inr (7, [.int 0, .int (nI (tHn U)), .int (nI (tPn U)), .int (nI (tEn U)), .ref (ad 6), .ref (ad 7), .ref (ad 8), .ref (ad 9), .ref (ad 10), .ref (ad 11), .ref (ad 12), .ref (ad 13), .ref (ad 14)]))) 12 = _ := (fU_n (by omega)).trans hm12
  have hm13 : (fU M 5 (.inr (7, [.int 0, .int (nI (tHn U)), .int (nI (tPn U)), .int (nI (tEn U)), .ref (ad 6), .ref (ad 7), .ref (ad 8), .ref (ad 9), .ref (ad 10), .ref (ad 11), .ref (ad 12), .ref (ad 13), .ref (ad 14)]))) 13 = _ := (fU_n (by omega)).trans hm13
  have hm14 : (fU M 5 (.inr (7, [.int 0, .int (nI (tHn U)), .int (nI (tPn U)), .int (nI (tEn U)), .ref (ad 6), .ref (ad 7), .ref (ad 8), .ref (ad 9), .ref (ad 10), .ref (ad 11), .ref (ad 12), .ref (ad 13), .ref (ad 14)]))) 14 = _ := (fU_n (by omega)).trans hm14
  have hM : isMo g ad (fU M 5 (.inr (7, [.int 0, .int (nI (tHn U)), .int (nI (tPn U)), .int (nI (tEn U)), .ref (ad 6), .ref (ad 7), .ref (ad 8), .ref (ad 9), .ref (ad 10), .ref (ad 11), .ref (ad 12), .ref (ad 13), .ref (ad 14)]))) 0 U sp ca := ⟨pcs, wa, ht, et, mi, co, as, hMo, ⟨hm6, hm7, hm8, hm9, hm10, hm11, hm12, hm13, hm14⟩, hRel, hCnt⟩
  have hrA : fReg 5 15 ad Mo ad (fU M 5 (.inr (7, [.int 0, .int (nI (tHn U)), .int (nI (tPn U)), .int (nI (tEn U)), .ref (ad 6), .ref (ad 7), .ref (ad 8), .ref (ad 9), .ref (ad 10), .ref (ad 11), .ref (ad 12), .ref (ad 13), .ref (ad 14)]))) := fReg_U hrA (by omega)
  obtain ⟨M10, eM10⟩ : ∃ z, z = (fU M 5 (.inr (7, [.int 0, .int (nI (tHn U)), .int (nI (tPn U)), .int (nI (tEn U)), .ref (ad 6), .ref (ad 7), .ref (ad 8), .ref (ad 9), .ref (ad 10), .ref (ad 11), .ref (ad 12), .ref (ad 13), .ref (ad 14)]))) := ⟨_, rfl⟩
  rw [← eM10] at hM hw hrA
  obtain ⟨pcs, wa, ht, et, mi, co, as, hMo, ⟨hm6, hm7, hm8, hm9, hm10, hm11, hm12, hm13, hm14⟩, hRel, hCnt⟩ := id hM
  obtain ⟨hn1, hn2, hn3⟩ := id hCnt
  have hn1 : tHn U ≤ 30 := hn1
  have hn2 : tPn U ≤ 6 := hn2
  have hn3 : tEn U ≤ 6 := hn3
  have hMo : M10 5 = some (.inr (7, [.int 0, .int (nI (tHn U)), .int (nI (tPn U)), .int (nI (tEn U)), .ref (ad 6), .ref (ad 7), .ref (ad 8), .ref (ad 9), .ref (ad 10), .ref (ad 11), .ref (ad 12), .ref (ad 13), .ref (ad 14)])) := hMo
  obtain ⟨rH, rP, rE, rM⟩ := id hRel
  refine lv_aload_n hx hb dX6_house_5 rfl (lv_at hl 0 rfl) ?_
  refine lv_iload_n hx hb dX6_house_6 rfl (lv_at hl 1 rfl) ?_
  refine fk_di (fcV X hw (c_m_isHouse l g ad M10 hM (x)) hMo rfl wq886 kVX6_isHouse ⟨(Nat.le_of_ble_eq_true rfl), (Nat.le_of_ble_eq_true rfl)⟩ rfl hl.1 rfl (Nat.le_of_ble_eq_true rfl) dX6_house_7 ⟨Nat.le_refl _, Nat.le_refl _⟩) hw (fun H locs hw => ?_)
  refine lv_if_eq (tgt := 32) hx hb dX6_house_10 (by decide) (fun c_1 => ?_) (fun c_1 => absurd (bI_nf.mp c_1) (f_false h1))
  have c_1 := bI_f.mp c_1
  refine lv_aload_n hx hb dX6_house_32 rfl (lv_at hl 0 rfl) ?_
  refine lv_iconst (v := 1) hx hb dX6_house_33 (by decide) ?_
  refine fk_mi (fcV X hw (c_fail l g ad M10 hM 1) hMo rfl wq849 kVX6_fail ⟨(Nat.le_of_ble_eq_true rfl), (Nat.le_of_ble_eq_true rfl)⟩ rfl hl.1 rfl (Nat.le_of_ble_eq_true rfl) dX6_house_34 ⟨Nat.le_refl _, Nat.le_refl _⟩) hw (fun M11 H locs hM hr11 hw => ?_)
  have hrA := fReg_tr hrA hr11
  rw [hQ9, ← hMq]
  exact f_iret X hw ⟨rfl, hM, hrA, rfl⟩ (Nat.le_refl _) (Nat.le_refl _) dX6_house_37
set_option maxHeartbeats 4000000 in
set_option maxRecDepth 100000 in
theorem x_m_house_2 (l : Launch) (g : fG) (ad : Nat → Nat) (M : fM) {th : Int32} {U : fTn} {sp ca : Nat → Int32} (hM : isMo g ad M th U sp ca) {j : Nat} {what : Int32} (hj : j < tHn U) (h2 : inR what 0 6 = false) : fCi l g yX6_house cX6_house 3 ((some .int)) 7 170 0 0 ad M [.ref (ad 5), .int (nI j), .int what] (fMi g ad M 1 U sp ca 0) := by
  refine f_body (own := RX6) (by decide +kernel) rfl (Nat.le_of_ble_eq_true rfl) ?_
  intro p e s m args below meth c ls X hw hin hl
  have hx := X.1
  have hb := X.2.1
  have hl : lv_has ls 3 [(0, .ref (ad 5)), (1, .int (nI j)), (2, .int what)] := hl
  obtain ⟨pcs, wa, ht, et, mi, co, as, hMo, ⟨hm6, hm7, hm8, hm9, hm10, hm11, hm12, hm13, hm14⟩, hRel, hCnt⟩ := id hM
  obtain ⟨hn1, hn2, hn3⟩ := id hCnt
  have hn1 : tHn U ≤ 30 := hn1
  have hn2 : tPn U ≤ 6 := hn2
  have hn3 : tEn U ≤ 6 := hn3
  have hMo : M 5 = some (.inr (7, [.int th, .int (nI (tHn U)), .int (nI (tPn U)), .int (nI (tEn U)), .ref (ad 6), .ref (ad 7), .ref (ad 8), .ref (ad 9), .ref (ad 10), .ref (ad 11), .ref (ad 12), .ref (ad 13), .ref (ad 14)])) := hMo
  obtain ⟨rH, rP, rE, rM⟩ := id hRel
  have hxj : isIx (tHn U) (nI j) = true := isIx_nI hj (by omega)
  obtain ⟨Mo, hMq⟩ : ∃ z, z = M := ⟨_, rfl⟩
  have hrA : fReg 5 15 ad Mo ad M := by rw [hMq]; exact fReg_rf
  obtain ⟨Q9, hQ9⟩ : ∃ z, z = MQ below (fQi g (fMi g ad M 1 U sp ca 0)) args s 0 0 (fA g) := ⟨_, rfl⟩
  show W p l e (fR 7 170 0 0) s m args below meth c _ _ 0 0 (MQ below (fQi g (fMi g ad M 1 U sp ca 0)) args s 0 0 (fA g)) (F0 m 0 ls [])
  rw [← hQ9]
  refine lv_aload_n hx hb dX6_house_0 rfl (lv_at hl 0 rfl) ?_
  refine lv_iconst (v := 0) hx hb dX6_house_1 (by decide) ?_
  refine f_put X hw hMo fc7 0 (by decide) wq794 rfl rfl (v := .int 0) rfl rfl (Nat.le_of_ble_eq_true rfl) dX6_house_2 (fun H locs hw => ?_)
  have hw : fw g ad (fU M 5 (.inr (7, [.int 0, .int (nI (tHn U)), .int (nI (tPn U)), .int (nI (tEn U)), .ref (ad 6), .ref (ad 7), .ref (ad 8), .ref (ad 9), .ref (ad 10), .ref (ad 11), .ref (ad 12), .ref (ad 13), .ref (ad 14)]))) s H locs := hw
  have hMo : (fU M 5 (.inr (7, [.int 0, .int (nI (tHn U)), .int (nI (tPn U)), .int (nI (tEn U)), .ref (ad 6), .ref (ad 7), .ref (ad 8), .ref (ad 9), .ref (ad 10), .ref (ad 11), .ref (ad 12), .ref (ad 13), .ref (ad 14)]))) 5 = some (.inr (7, [.int 0, .int (nI (tHn U)), .int (nI (tPn U)), .int (nI (tEn U)), .ref (ad 6), .ref (ad 7), .ref (ad 8), .ref (ad 9), .ref (ad 10), .ref (ad 11), .ref (ad 12), .ref (ad 13), .ref (ad 14)])) := fU_s
  have hm6 : (fU M 5 (.inr (7, [.int 0, .int (nI (tHn U)), .int (nI (tPn U)), .int (nI (tEn U)), .ref (ad 6), .ref (ad 7), .ref (ad 8), .ref (ad 9), .ref (ad 10), .ref (ad 11), .ref (ad 12), .ref (ad 13), .ref (ad 14)]))) 6 = _ := (fU_n (by omega)).trans hm6
  have hm7 : (fU M 5 (.inr (7, [.int 0, .int (nI (tHn U)), .int (nI (tPn U)), .int (nI (tEn U)), .ref (ad 6), .ref (ad 7), .ref (ad 8), .ref (ad 9), .ref (ad 10), .ref (ad 11), .ref (ad 12), .ref (ad 13), .ref (ad 14)]))) 7 = _ := (fU_n (by omega)).trans hm7
  have hm8 : (fU M 5 (.inr (7, [.int 0, .int (nI (tHn U)), .int (nI (tPn U)), .int (nI (tEn U)), .ref (ad 6), .ref (ad 7), .ref (ad 8), .ref (ad 9), .ref (ad 10), .ref (ad 11), .ref (ad 12), .ref (ad 13), .ref (ad 14)]))) 8 = _ := (fU_n (by omega)).trans hm8
  have hm9 : (fU M 5 (.inr (7, [.int 0, .int (nI (tHn U)), .int (nI (tPn U)), .int (nI (tEn U)), .ref (ad 6), .ref (ad 7), .ref (ad 8), .ref (ad 9), .ref (ad 10), .ref (ad 11), .ref (ad 12), .ref (ad 13), .ref (ad 14)]))) 9 = _ := (fU_n (by omega)).trans hm9
  have hm10 : (fU M 5 (.inr (7, [.int 0, .int (nI (tHn U)), .int (nI (tPn U)), .int (nI (tEn U)), .ref (ad 6), .ref (ad 7), .ref (ad 8), .ref (ad 9), .ref (ad 10), .ref (ad 11), .ref (ad 12), .ref (ad 13), .ref (ad 14)]))) 10 = _ := (fU_n (by omega)).trans hm10
  have hm11 : (fU M 5 (.inr (7, [.int 0, .int (nI (tHn U)), .int (nI (tPn U)), .int (nI (tEn U)), .ref (ad 6), .ref (ad 7), .ref (ad 8), .ref (ad 9), .ref (ad 10), .ref (ad 11), .ref (ad 12), .ref (ad 13), .ref (ad 14)]))) 11 = _ := (fU_n (by omega)).trans hm11
  have hm12 : (fU M 5 (.inr (7, [.int 0, .int (nI (tHn U)), .int (nI (tPn U)), .int (nI (tEn U)), .ref (ad 6), .ref (ad 7), .ref (ad 8), .ref (ad 9), .ref (ad 10), .ref (ad 11), .ref (ad 12), .ref (ad 13), .ref (ad 14)]))) 12 = _ := (fU_n (by omega)).trans hm12
  have hm13 : (fU M 5 (.inr (7, [.int 0, .int (nI (tHn U)), .int (nI (tPn U)), .int (nI (tEn U)), .ref (ad 6), .ref (ad 7), .ref (ad 8), .ref (ad 9), .ref (ad 10), .ref (ad 11), .ref (ad 12), .ref (ad 13), .ref (ad 14)]))) 13 = _ := (fU_n (by omega)).trans hm13
  have hm14 : (fU M 5 (.inr (7, [.int 0, .int (nI (tHn U)), .int (nI (tPn U)), .int (nI (tEn U)), .ref (ad 6), .ref (ad 7), .ref (ad 8), .ref (ad 9), .ref (ad 10), .ref (ad 11), .ref (ad 12), .ref (ad 13), .ref (ad 14)]))) 14 = _ := (fU_n (by omega)).trans hm14
  have hM : isMo g ad (fU M 5 (.inr (7, [.int 0, .int (nI (tHn U)), .int (nI (tPn U)), .int (nI (tEn U)), .ref (ad 6), .ref (ad 7), .ref (ad 8), .ref (ad 9), .ref (ad 10), .ref (ad 11), .ref (ad 12), .ref (ad 13), .ref (ad 14)]))) 0 U sp ca := ⟨pcs, wa, ht, et, mi, co, as, hMo, ⟨hm6, hm7, hm8, hm9, hm10, hm11, hm12, hm13, hm14⟩, hRel, hCnt⟩
  have hrA : fReg 5 15 ad Mo ad (fU M 5 (.inr (7, [.int 0, .int (nI (tHn U)), .int (nI (tPn U)), .int (nI (tEn U)), .ref (ad 6), .ref (ad 7), .ref (ad 8), .ref (ad 9), .ref (ad 10), .ref (ad 11), .ref (ad 12), .ref (ad 13), .ref (ad 14)]))) := fReg_U hrA (by omega)
  obtain ⟨M12, eM12⟩ : ∃ z, z = (fU M 5 (.inr (7, [.int 0, .int (nI (tHn U)), .int (nI (tPn U)), .int (nI (tEn U)), .ref (ad 6), .ref (ad 7), .ref (ad 8), .ref (ad 9), .ref (ad 10), .ref (ad 11), .ref (ad 12), .ref (ad 13), .ref (ad 14)]))) := ⟨_, rfl⟩
  rw [← eM12] at hM hw hrA
  obtain ⟨pcs, wa, ht, et, mi, co, as, hMo, ⟨hm6, hm7, hm8, hm9, hm10, hm11, hm12, hm13, hm14⟩, hRel, hCnt⟩ := id hM
  obtain ⟨hn1, hn2, hn3⟩ := id hCnt
  have hn1 : tHn U ≤ 30 := hn1
  have hn2 : tPn U ≤ 6 := hn2
  have hn3 : tEn U ≤ 6 := hn3
  have hMo : M12 5 = some (.inr (7, [.int 0, .int (nI (tHn U)), .int (nI (tPn U)), .int (nI (tEn U)), .ref (ad 6), .ref (ad 7), .ref (ad 8), .ref (ad 9), .ref (ad 10), .ref (ad 11), .ref (ad 12), .ref (ad 13), .ref (ad 14)])) := hMo
  obtain ⟨rH, rP, rE, rM⟩ := id hRel
  refine lv_aload_n hx hb dX6_house_5 rfl (lv_at hl 0 rfl) ?_
  refine lv_iload_n hx hb dX6_house_6 rfl (lv_at hl 1 rfl) ?_
  refine fk_di (fcV X hw (c_m_isHouse l g ad M12 hM (nI j)) hMo rfl wq886 kVX6_isHouse ⟨(Nat.le_of_ble_eq_true rfl), (Nat.le_of_ble_eq_true rfl)⟩ rfl hl.1 rfl (Nat.le_of_ble_eq_true rfl) dX6_house_7 ⟨Nat.le_refl _, Nat.le_refl _⟩) hw (fun H locs hw => ?_)
  refine lv_if_eq (tgt := 32) hx hb dX6_house_10 (by decide) (fun c_1 => absurd (bI_f.mp c_1) (by rw [hxj]; decide)) (fun c_1 => ?_)
  have c_1 := bI_nf.mp c_1
  refine lv_iload_n hx hb dX6_house_13 rfl (lv_at hl 2 rfl) ?_
  refine lv_iconst (v := 0) hx hb dX6_house_14 (by decide) ?_
  refine lv_bipush (v := 6) hx hb dX6_house_15 (by decide) ?_
  refine fk_di (fcS X hw (c_isIn l g ad M12 (what) 0 6) wq846 kSX6_isIn ⟨(Nat.le_of_ble_eq_true rfl), (Nat.le_of_ble_eq_true rfl)⟩ rfl hl.1 rfl (Nat.le_of_ble_eq_true rfl) dX6_house_17 ⟨Nat.le_refl _, Nat.le_refl _⟩) hw (fun H locs hw => ?_)
  refine lv_if_eq (tgt := 32) hx hb dX6_house_20 (by decide) (fun c_2 => ?_) (fun c_2 => absurd (bI_nf.mp c_2) (f_false h2))
  have c_2 := bI_f.mp c_2
  refine lv_aload_n hx hb dX6_house_32 rfl (lv_at hl 0 rfl) ?_
  refine lv_iconst (v := 1) hx hb dX6_house_33 (by decide) ?_
  refine fk_mi (fcV X hw (c_fail l g ad M12 hM 1) hMo rfl wq849 kVX6_fail ⟨(Nat.le_of_ble_eq_true rfl), (Nat.le_of_ble_eq_true rfl)⟩ rfl hl.1 rfl (Nat.le_of_ble_eq_true rfl) dX6_house_34 ⟨Nat.le_refl _, Nat.le_refl _⟩) hw (fun M13 H locs hM hr13 hw => ?_)
  have hrA := fReg_tr hrA hr13
  rw [hQ9, ← hMq]
  exact f_iret X hw ⟨rfl, hM, hrA, rfl⟩ (Nat.le_refl _) (Nat.le_refl _) dX6_house_37
set_option maxHeartbeats 4000000 in
set_option maxRecDepth 100000 in
theorem c_m_house (l : Launch) (g : fG) (ad : Nat → Nat) (M : fM) {th : Int32} {U : fTn} {sp ca : Nat → Int32} (hM : isMo g ad M th U sp ca) {j k : Nat} {what : Int32} (hj : j < tHn U) (h2 : inR what 0 6 = true) (hk : what = nI k) (hk7 : k < 7) : fCi l g yX6_house cX6_house 3 ((some .int)) 7 170 0 0 ad M [.ref (ad 5), .int (nI j), .int what] (fMi g ad M 0 (U) sp ca (tH U j k)) := by
  refine f_body (own := RX6) (by decide +kernel) rfl (Nat.le_of_ble_eq_true rfl) ?_
  intro p e s m args below meth c ls X hw hin hl
  have hx := X.1
  have hb := X.2.1
  have hl : lv_has ls 3 [(0, .ref (ad 5)), (1, .int (nI j)), (2, .int what)] := hl
  obtain ⟨pcs, wa, ht, et, mi, co, as, hMo, ⟨hm6, hm7, hm8, hm9, hm10, hm11, hm12, hm13, hm14⟩, hRel, hCnt⟩ := id hM
  obtain ⟨hn1, hn2, hn3⟩ := id hCnt
  have hn1 : tHn U ≤ 30 := hn1
  have hn2 : tPn U ≤ 6 := hn2
  have hn3 : tEn U ≤ 6 := hn3
  have hMo : M 5 = some (.inr (7, [.int th, .int (nI (tHn U)), .int (nI (tPn U)), .int (nI (tEn U)), .ref (ad 6), .ref (ad 7), .ref (ad 8), .ref (ad 9), .ref (ad 10), .ref (ad 11), .ref (ad 12), .ref (ad 13), .ref (ad 14)])) := hMo
  obtain ⟨rH, rP, rE, rM⟩ := id hRel
  have hxj : isIx (tHn U) (nI j) = true := isIx_nI hj (by omega)
  obtain ⟨Mo, hMq⟩ : ∃ z, z = M := ⟨_, rfl⟩
  have hrA : fReg 5 15 ad Mo ad M := by rw [hMq]; exact fReg_rf
  obtain ⟨Q9, hQ9⟩ : ∃ z, z = MQ below (fQi g (fMi g ad M 0 (U) sp ca (tH U j k))) args s 0 0 (fA g) := ⟨_, rfl⟩
  show W p l e (fR 7 170 0 0) s m args below meth c _ _ 0 0 (MQ below (fQi g (fMi g ad M 0 (U) sp ca (tH U j k))) args s 0 0 (fA g)) (F0 m 0 ls [])
  rw [← hQ9]
  refine lv_aload_n hx hb dX6_house_0 rfl (lv_at hl 0 rfl) ?_
  refine lv_iconst (v := 0) hx hb dX6_house_1 (by decide) ?_
  refine f_put X hw hMo fc7 0 (by decide) wq794 rfl rfl (v := .int 0) rfl rfl (Nat.le_of_ble_eq_true rfl) dX6_house_2 (fun H locs hw => ?_)
  have hw : fw g ad (fU M 5 (.inr (7, [.int 0, .int (nI (tHn U)), .int (nI (tPn U)), .int (nI (tEn U)), .ref (ad 6), .ref (ad 7), .ref (ad 8), .ref (ad 9), .ref (ad 10), .ref (ad 11), .ref (ad 12), .ref (ad 13), .ref (ad 14)]))) s H locs := hw
  have hMo : (fU M 5 (.inr (7, [.int 0, .int (nI (tHn U)), .int (nI (tPn U)), .int (nI (tEn U)), .ref (ad 6), .ref (ad 7), .ref (ad 8), .ref (ad 9), .ref (ad 10), .ref (ad 11), .ref (ad 12), .ref (ad 13), .ref (ad 14)]))) 5 = some (.inr (7, [.int 0, .int (nI (tHn U)), .int (nI (tPn U)), .int (nI (tEn U)), .ref (ad 6), .ref (ad 7), .ref (ad 8), .ref (ad 9), .ref (ad 10), .ref (ad 11), .ref (ad 12), .ref (ad 13), .ref (ad 14)])) := fU_s
  have hm6 : (fU M 5 (.inr (7, [.int 0, .int (nI (tHn U)), .int (nI (tPn U)), .int (nI (tEn U)), .ref (ad 6), .ref (ad 7), .ref (ad 8), .ref (ad 9), .ref (ad 10), .ref (ad 11), .ref (ad 12), .ref (ad 13), .ref (ad 14)]))) 6 = _ := (fU_n (by omega)).trans hm6
  have hm7 : (fU M 5 (.inr (7, [.int 0, .int (nI (tHn U)), .int (nI (tPn U)), .int (nI (tEn U)), .ref (ad 6), .ref (ad 7), .ref (ad 8), .ref (ad 9), .ref (ad 10), .ref (ad 11), .ref (ad 12), .ref (ad 13), .ref (ad 14)]))) 7 = _ := (fU_n (by omega)).trans hm7
  have hm8 : (fU M 5 (.inr (7, [.int 0, .int (nI (tHn U)), .int (nI (tPn U)), .int (nI (tEn U)), .ref (ad 6), .ref (ad 7), .ref (ad 8), .ref (ad 9), .ref (ad 10), .ref (ad 11), .ref (ad 12), .ref (ad 13), .ref (ad 14)]))) 8 = _ := (fU_n (by omega)).trans hm8
  have hm9 : (fU M 5 (.inr (7, [.int 0, .int (nI (tHn U)), .int (nI (tPn U)), .int (nI (tEn U)), .ref (ad 6), .ref (ad 7), .ref (ad 8), .ref (ad 9), .ref (ad 10), .ref (ad 11), .ref (ad 12), .ref (ad 13), .ref (ad 14)]))) 9 = _ := (fU_n (by omega)).trans hm9
  have hm10 : (fU M 5 (.inr (7, [.int 0, .int (nI (tHn U)), .int (nI (tPn U)), .int (nI (tEn U)), .ref (ad 6), .ref (ad 7), .ref (ad 8), .ref (ad 9), .ref (ad 10), .ref (ad 11), .ref (ad 12), .ref (ad 13), .ref (ad 14)]))) 10 = _ := (fU_n (by omega)).trans hm10
  have hm11 : (fU M 5 (.inr (7, [.int 0, .int (nI (tHn U)), .int (nI (tPn U)), .int (nI (tEn U)), .ref (ad 6), .ref (ad 7), .ref (ad 8), .ref (ad 9), .ref (ad 10), .ref (ad 11), .ref (ad 12), .ref (ad 13), .ref (ad 14)]))) 11 = _ := (fU_n (by omega)).trans hm11
  have hm12 : (fU M 5 (.inr (7, [.int 0, .int (nI (tHn U)), .int (nI (tPn U)), .int (nI (tEn U)), .ref (ad 6), .ref (ad 7), .ref (ad 8), .ref (ad 9), .ref (ad 10), .ref (ad 11), .ref (ad 12), .ref (ad 13), .ref (ad 14)]))) 12 = _ := (fU_n (by omega)).trans hm12
  have hm13 : (fU M 5 (.inr (7, [.int 0, .int (nI (tHn U)), .int (nI (tPn U)), .int (nI (tEn U)), .ref (ad 6), .ref (ad 7), .ref (ad 8), .ref (ad 9), .ref (ad 10), .ref (ad 11), .ref (ad 12), .ref (ad 13), .ref (ad 14)]))) 13 = _ := (fU_n (by omega)).trans hm13
  have hm14 : (fU M 5 (.inr (7, [.int 0, .int (nI (tHn U)), .int (nI (tPn U)), .int (nI (tEn U)), .ref (ad 6), .ref (ad 7), .ref (ad 8), .ref (ad 9), .ref (ad 10), .ref (ad 11), .ref (ad 12), .ref (ad 13), .ref (ad 14)]))) 14 = _ := (fU_n (by omega)).trans hm14
  have hM : isMo g ad (fU M 5 (.inr (7, [.int 0, .int (nI (tHn U)), .int (nI (tPn U)), .int (nI (tEn U)), .ref (ad 6), .ref (ad 7), .ref (ad 8), .ref (ad 9), .ref (ad 10), .ref (ad 11), .ref (ad 12), .ref (ad 13), .ref (ad 14)]))) 0 U sp ca := ⟨pcs, wa, ht, et, mi, co, as, hMo, ⟨hm6, hm7, hm8, hm9, hm10, hm11, hm12, hm13, hm14⟩, hRel, hCnt⟩
  have hrA : fReg 5 15 ad Mo ad (fU M 5 (.inr (7, [.int 0, .int (nI (tHn U)), .int (nI (tPn U)), .int (nI (tEn U)), .ref (ad 6), .ref (ad 7), .ref (ad 8), .ref (ad 9), .ref (ad 10), .ref (ad 11), .ref (ad 12), .ref (ad 13), .ref (ad 14)]))) := fReg_U hrA (by omega)
  obtain ⟨M14, eM14⟩ : ∃ z, z = (fU M 5 (.inr (7, [.int 0, .int (nI (tHn U)), .int (nI (tPn U)), .int (nI (tEn U)), .ref (ad 6), .ref (ad 7), .ref (ad 8), .ref (ad 9), .ref (ad 10), .ref (ad 11), .ref (ad 12), .ref (ad 13), .ref (ad 14)]))) := ⟨_, rfl⟩
  rw [← eM14] at hM hw hrA
  obtain ⟨pcs, wa, ht, et, mi, co, as, hMo, ⟨hm6, hm7, hm8, hm9, hm10, hm11, hm12, hm13, hm14⟩, hRel, hCnt⟩ := id hM
  obtain ⟨hn1, hn2, hn3⟩ := id hCnt
  have hn1 : tHn U ≤ 30 := hn1
  have hn2 : tPn U ≤ 6 := hn2
  have hn3 : tEn U ≤ 6 := hn3
  have hMo : M14 5 = some (.inr (7, [.int 0, .int (nI (tHn U)), .int (nI (tPn U)), .int (nI (tEn U)), .ref (ad 6), .ref (ad 7), .ref (ad 8), .ref (ad 9), .ref (ad 10), .ref (ad 11), .ref (ad 12), .ref (ad 13), .ref (ad 14)])) := hMo
  obtain ⟨rH, rP, rE, rM⟩ := id hRel
  refine lv_aload_n hx hb dX6_house_5 rfl (lv_at hl 0 rfl) ?_
  refine lv_iload_n hx hb dX6_house_6 rfl (lv_at hl 1 rfl) ?_
  refine fk_di (fcV X hw (c_m_isHouse l g ad M14 hM (nI j)) hMo rfl wq886 kVX6_isHouse ⟨(Nat.le_of_ble_eq_true rfl), (Nat.le_of_ble_eq_true rfl)⟩ rfl hl.1 rfl (Nat.le_of_ble_eq_true rfl) dX6_house_7 ⟨Nat.le_refl _, Nat.le_refl _⟩) hw (fun H locs hw => ?_)
  refine lv_if_eq (tgt := 32) hx hb dX6_house_10 (by decide) (fun c_1 => absurd (bI_f.mp c_1) (by rw [hxj]; decide)) (fun c_1 => ?_)
  have c_1 := bI_nf.mp c_1
  refine lv_iload_n hx hb dX6_house_13 rfl (lv_at hl 2 rfl) ?_
  refine lv_iconst (v := 0) hx hb dX6_house_14 (by decide) ?_
  refine lv_bipush (v := 6) hx hb dX6_house_15 (by decide) ?_
  refine fk_di (fcS X hw (c_isIn l g ad M14 (what) 0 6) wq846 kSX6_isIn ⟨(Nat.le_of_ble_eq_true rfl), (Nat.le_of_ble_eq_true rfl)⟩ rfl hl.1 rfl (Nat.le_of_ble_eq_true rfl) dX6_house_17 ⟨Nat.le_refl _, Nat.le_refl _⟩) hw (fun H locs hw => ?_)
  refine lv_if_eq (tgt := 32) hx hb dX6_house_20 (by decide) (fun c_2 => absurd (bI_f.mp c_2) (by rw [h2]; decide)) (fun c_2 => ?_)
  have c_2 := bI_nf.mp c_2
  refine lv_aload_n hx hb dX6_house_23 rfl (lv_at hl 0 rfl) ?_
  refine lv_iload_n hx hb dX6_house_24 rfl (lv_at hl 1 rfl) ?_
  refine lv_iload_n hx hb dX6_house_25 rfl (lv_at hl 2 rfl) ?_
  refine fk_di (fcV X hw (c_ho l g ad M14 hM (h0 := j) (k := k) hj hk hk7) hMo rfl wq865 kVX6_ho ⟨(Nat.le_of_ble_eq_true rfl), (Nat.le_of_ble_eq_true rfl)⟩ rfl hl.1 rfl (Nat.le_of_ble_eq_true rfl) dX6_house_26 ⟨Nat.le_refl _, Nat.le_refl _⟩) hw (fun H locs hw => ?_)
  refine lv_goto (tgt := 37) hx hb dX6_house_29 (by decide) ?_
  rw [hQ9, ← hMq]
  exact f_iret X hw ⟨rfl, hM, hrA, rfl⟩ (Nat.le_refl _) (Nat.le_refl _) dX6_house_37
set_option maxHeartbeats 4000000 in
set_option maxRecDepth 100000 in
theorem x_m_stoke_1 (l : Launch) (g : fG) (ad : Nat → Nat) (M : fM) {th : Int32} {U : fTn} {sp ca : Nat → Int32} (hM : isMo g ad M th U sp ca) {x coal : Int32} (h1 : isIx (tEn U) x = false) : fCi l g yX6_stoke cX6_stoke 3 ((some .int)) 7 170 0 0 ad M [.ref (ad 5), .int x, .int coal] (fMi g ad M 1 U sp ca 0) := by
  refine f_body (own := RX6) (by decide +kernel) rfl (Nat.le_of_ble_eq_true rfl) ?_
  intro p e s m args below meth c ls X hw hin hl
  have hx := X.1
  have hb := X.2.1
  have hl : lv_has ls 3 [(0, .ref (ad 5)), (1, .int x), (2, .int coal)] := hl
  obtain ⟨pcs, wa, ht, et, mi, co, as, hMo, ⟨hm6, hm7, hm8, hm9, hm10, hm11, hm12, hm13, hm14⟩, hRel, hCnt⟩ := id hM
  obtain ⟨hn1, hn2, hn3⟩ := id hCnt
  have hn1 : tHn U ≤ 30 := hn1
  have hn2 : tPn U ≤ 6 := hn2
  have hn3 : tEn U ≤ 6 := hn3
  have hMo : M 5 = some (.inr (7, [.int th, .int (nI (tHn U)), .int (nI (tPn U)), .int (nI (tEn U)), .ref (ad 6), .ref (ad 7), .ref (ad 8), .ref (ad 9), .ref (ad 10), .ref (ad 11), .ref (ad 12), .ref (ad 13), .ref (ad 14)])) := hMo
  obtain ⟨rH, rP, rE, rM⟩ := id hRel
  obtain ⟨Mo, hMq⟩ : ∃ z, z = M := ⟨_, rfl⟩
  have hrA : fReg 5 15 ad Mo ad M := by rw [hMq]; exact fReg_rf
  obtain ⟨Q9, hQ9⟩ : ∃ z, z = MQ below (fQi g (fMi g ad M 1 U sp ca 0)) args s 0 0 (fA g) := ⟨_, rfl⟩
  show W p l e (fR 7 170 0 0) s m args below meth c _ _ 0 0 (MQ below (fQi g (fMi g ad M 1 U sp ca 0)) args s 0 0 (fA g)) (F0 m 0 ls [])
  rw [← hQ9]
  refine lv_aload_n hx hb dX6_stoke_0 rfl (lv_at hl 0 rfl) ?_
  refine lv_iconst (v := 0) hx hb dX6_stoke_1 (by decide) ?_
  refine f_put X hw hMo fc7 0 (by decide) wq794 rfl rfl (v := .int 0) rfl rfl (Nat.le_of_ble_eq_true rfl) dX6_stoke_2 (fun H locs hw => ?_)
  have hw : fw g ad (fU M 5 (.inr (7, [.int 0, .int (nI (tHn U)), .int (nI (tPn U)), .int (nI (tEn U)), .ref (ad 6), .ref (ad 7), .ref (ad 8), .ref (ad 9), .ref (ad 10), .ref (ad 11), .ref (ad 12), .ref (ad 13), .ref (ad 14)]))) s H locs := hw
  have hMo : (fU M 5 (.inr (7, [.int 0, .int (nI (tHn U)), .int (nI (tPn U)), .int (nI (tEn U)), .ref (ad 6), .ref (ad 7), .ref (ad 8), .ref (ad 9), .ref (ad 10), .ref (ad 11), .ref (ad 12), .ref (ad 13), .ref (ad 14)]))) 5 = some (.inr (7, [.int 0, .int (nI (tHn U)), .int (nI (tPn U)), .int (nI (tEn U)), .ref (ad 6), .ref (ad 7), .ref (ad 8), .ref (ad 9), .ref (ad 10), .ref (ad 11), .ref (ad 12), .ref (ad 13), .ref (ad 14)])) := fU_s
  have hm6 : (fU M 5 (.inr (7, [.int 0, .int (nI (tHn U)), .int (nI (tPn U)), .int (nI (tEn U)), .ref (ad 6), .ref (ad 7), .ref (ad 8), .ref (ad 9), .ref (ad 10), .ref (ad 11), .ref (ad 12), .ref (ad 13), .ref (ad 14)]))) 6 = _ := (fU_n (by omega)).trans hm6
  have hm7 : (fU M 5 (.inr (7, [.int 0, .int (nI (tHn U)), .int (nI (tPn U)), .int (nI (tEn U)), .ref (ad 6), .ref (ad 7), .ref (ad 8), .ref (ad 9), .ref (ad 10), .ref (ad 11), .ref (ad 12), .ref (ad 13), .ref (ad 14)]))) 7 = _ := (fU_n (by omega)).trans hm7
  have hm8 : (fU M 5 (.inr (7, [.int 0, .int (nI (tHn U)), .int (nI (tPn U)), .int (nI (tEn U)), .ref (ad 6), .ref (ad 7), .ref (ad 8), .ref (ad 9), .ref (ad 10), .ref (ad 11), .ref (ad 12), .ref (ad 13), .ref (ad 14)]))) 8 = _ := (fU_n (by omega)).trans hm8
  have hm9 : (fU M 5 (.inr (7, [.int 0, .int (nI (tHn U)), .int (nI (tPn U)), .int (nI (tEn U)), .ref (ad 6), .ref (ad 7), .ref (ad 8), .ref (ad 9), .ref (ad 10), .ref (ad 11), .ref (ad 12), .ref (ad 13), .ref (ad 14)]))) 9 = _ := (fU_n (by omega)).trans hm9
  have hm10 : (fU M 5 (.inr (7, [.int 0, .int (nI (tHn U)), .int (nI (tPn U)), .int (nI (tEn U)), .ref (ad 6), .ref (ad 7), .ref (ad 8), .ref (ad 9), .ref (ad 10), .ref (ad 11), .ref (ad 12), .ref (ad 13), .ref (ad 14)]))) 10 = _ := (fU_n (by omega)).trans hm10
  have hm11 : (fU M 5 (.inr (7, [.int 0, .int (nI (tHn U)), .int (nI (tPn U)), .int (nI (tEn U)), .ref (ad 6), .ref (ad 7), .ref (ad 8), .ref (ad 9), .ref (ad 10), .ref (ad 11), .ref (ad 12), .ref (ad 13), .ref (ad 14)]))) 11 = _ := (fU_n (by omega)).trans hm11
  have hm12 : (fU M 5 (.inr (7, [.int 0, .int (nI (tHn U)), .int (nI (tPn U)), .int (nI (tEn U)), .ref (ad 6), .ref (ad 7), .ref (ad 8), .ref (ad 9), .ref (ad 10), .ref (ad 11), .ref (ad 12), .ref (ad 13), .ref (ad 14)]))) 12 = _ := (fU_n (by omega)).trans hm12
  have hm13 : (fU M 5 (.inr (7, [.int 0, .int (nI (tHn U)), .int (nI (tPn U)), .int (nI (tEn U)), .ref (ad 6), .ref (ad 7), .ref (ad 8), .ref (ad 9), .ref (ad 10), .ref (ad 11), .ref (ad 12), .ref (ad 13), .ref (ad 14)]))) 13 = _ := (fU_n (by omega)).trans hm13
  have hm14 : (fU M 5 (.inr (7, [.int 0, .int (nI (tHn U)), .int (nI (tPn U)), .int (nI (tEn U)), .ref (ad 6), .ref (ad 7), .ref (ad 8), .ref (ad 9), .ref (ad 10), .ref (ad 11), .ref (ad 12), .ref (ad 13), .ref (ad 14)]))) 14 = _ := (fU_n (by omega)).trans hm14
  have hM : isMo g ad (fU M 5 (.inr (7, [.int 0, .int (nI (tHn U)), .int (nI (tPn U)), .int (nI (tEn U)), .ref (ad 6), .ref (ad 7), .ref (ad 8), .ref (ad 9), .ref (ad 10), .ref (ad 11), .ref (ad 12), .ref (ad 13), .ref (ad 14)]))) 0 U sp ca := ⟨pcs, wa, ht, et, mi, co, as, hMo, ⟨hm6, hm7, hm8, hm9, hm10, hm11, hm12, hm13, hm14⟩, hRel, hCnt⟩
  have hrA : fReg 5 15 ad Mo ad (fU M 5 (.inr (7, [.int 0, .int (nI (tHn U)), .int (nI (tPn U)), .int (nI (tEn U)), .ref (ad 6), .ref (ad 7), .ref (ad 8), .ref (ad 9), .ref (ad 10), .ref (ad 11), .ref (ad 12), .ref (ad 13), .ref (ad 14)]))) := fReg_U hrA (by omega)
  obtain ⟨M15, eM15⟩ : ∃ z, z = (fU M 5 (.inr (7, [.int 0, .int (nI (tHn U)), .int (nI (tPn U)), .int (nI (tEn U)), .ref (ad 6), .ref (ad 7), .ref (ad 8), .ref (ad 9), .ref (ad 10), .ref (ad 11), .ref (ad 12), .ref (ad 13), .ref (ad 14)]))) := ⟨_, rfl⟩
  rw [← eM15] at hM hw hrA
  obtain ⟨pcs, wa, ht, et, mi, co, as, hMo, ⟨hm6, hm7, hm8, hm9, hm10, hm11, hm12, hm13, hm14⟩, hRel, hCnt⟩ := id hM
  obtain ⟨hn1, hn2, hn3⟩ := id hCnt
  have hn1 : tHn U ≤ 30 := hn1
  have hn2 : tPn U ≤ 6 := hn2
  have hn3 : tEn U ≤ 6 := hn3
  have hMo : M15 5 = some (.inr (7, [.int 0, .int (nI (tHn U)), .int (nI (tPn U)), .int (nI (tEn U)), .ref (ad 6), .ref (ad 7), .ref (ad 8), .ref (ad 9), .ref (ad 10), .ref (ad 11), .ref (ad 12), .ref (ad 13), .ref (ad 14)])) := hMo
  obtain ⟨rH, rP, rE, rM⟩ := id hRel
  refine lv_aload_n hx hb dX6_stoke_5 rfl (lv_at hl 0 rfl) ?_
  refine lv_iload_n hx hb dX6_stoke_6 rfl (lv_at hl 1 rfl) ?_
  refine fk_di (fcV X hw (c_m_isEngine l g ad M15 hM (x)) hMo rfl wq928 kVX6_isEngine ⟨(Nat.le_of_ble_eq_true rfl), (Nat.le_of_ble_eq_true rfl)⟩ rfl hl.1 rfl (Nat.le_of_ble_eq_true rfl) dX6_stoke_7 ⟨Nat.le_refl _, Nat.le_refl _⟩) hw (fun H locs hw => ?_)
  refine lv_if_ne (tgt := 19) hx hb dX6_stoke_10 (by decide) (fun c_1 => absurd (bI_nf.mp c_1) (f_false h1)) (fun c_1 => ?_)
  have c_1 := bI_f.mp c_1
  refine lv_aload_n hx hb dX6_stoke_13 rfl (lv_at hl 0 rfl) ?_
  refine lv_iconst (v := 1) hx hb dX6_stoke_14 (by decide) ?_
  refine fk_mi (fcV X hw (c_fail l g ad M15 hM 1) hMo rfl wq849 kVX6_fail ⟨(Nat.le_of_ble_eq_true rfl), (Nat.le_of_ble_eq_true rfl)⟩ rfl hl.1 rfl (Nat.le_of_ble_eq_true rfl) dX6_stoke_15 ⟨Nat.le_refl _, Nat.le_refl _⟩) hw (fun M16 H locs hM hr16 hw => ?_)
  have hrA := fReg_tr hrA hr16
  rw [hQ9, ← hMq]
  exact f_iret X hw ⟨rfl, hM, hrA, rfl⟩ (Nat.le_refl _) (Nat.le_refl _) dX6_stoke_18
set_option maxHeartbeats 4000000 in
set_option maxRecDepth 100000 in
theorem x_m_stoke_2 (l : Launch) (g : fG) (ad : Nat → Nat) (M : fM) {th : Int32} {U : fTn} {sp ca : Nat → Int32} (hM : isMo g ad M th U sp ca) {j : Nat} {coal : Int32} (hj : j < tEn U) (h2 : inR coal 1 100 = false) : fCi l g yX6_stoke cX6_stoke 3 ((some .int)) 7 170 0 0 ad M [.ref (ad 5), .int (nI j), .int coal] (fMi g ad M 2 U sp ca 0) := by
  refine f_body (own := RX6) (by decide +kernel) rfl (Nat.le_of_ble_eq_true rfl) ?_
  intro p e s m args below meth c ls X hw hin hl
  have hx := X.1
  have hb := X.2.1
  have hl : lv_has ls 3 [(0, .ref (ad 5)), (1, .int (nI j)), (2, .int coal)] := hl
  obtain ⟨pcs, wa, ht, et, mi, co, as, hMo, ⟨hm6, hm7, hm8, hm9, hm10, hm11, hm12, hm13, hm14⟩, hRel, hCnt⟩ := id hM
  obtain ⟨hn1, hn2, hn3⟩ := id hCnt
  have hn1 : tHn U ≤ 30 := hn1
  have hn2 : tPn U ≤ 6 := hn2
  have hn3 : tEn U ≤ 6 := hn3
  have hMo : M 5 = some (.inr (7, [.int th, .int (nI (tHn U)), .int (nI (tPn U)), .int (nI (tEn U)), .ref (ad 6), .ref (ad 7), .ref (ad 8), .ref (ad 9), .ref (ad 10), .ref (ad 11), .ref (ad 12), .ref (ad 13), .ref (ad 14)])) := hMo
  obtain ⟨rH, rP, rE, rM⟩ := id hRel
  have hxj : isIx (tEn U) (nI j) = true := isIx_nI hj (by omega)
  obtain ⟨Mo, hMq⟩ : ∃ z, z = M := ⟨_, rfl⟩
  have hrA : fReg 5 15 ad Mo ad M := by rw [hMq]; exact fReg_rf
  obtain ⟨Q9, hQ9⟩ : ∃ z, z = MQ below (fQi g (fMi g ad M 2 U sp ca 0)) args s 0 0 (fA g) := ⟨_, rfl⟩
  show W p l e (fR 7 170 0 0) s m args below meth c _ _ 0 0 (MQ below (fQi g (fMi g ad M 2 U sp ca 0)) args s 0 0 (fA g)) (F0 m 0 ls [])
  rw [← hQ9]
  refine lv_aload_n hx hb dX6_stoke_0 rfl (lv_at hl 0 rfl) ?_
  refine lv_iconst (v := 0) hx hb dX6_stoke_1 (by decide) ?_
  refine f_put X hw hMo fc7 0 (by decide) wq794 rfl rfl (v := .int 0) rfl rfl (Nat.le_of_ble_eq_true rfl) dX6_stoke_2 (fun H locs hw => ?_)
  have hw : fw g ad (fU M 5 (.inr (7, [.int 0, .int (nI (tHn U)), .int (nI (tPn U)), .int (nI (tEn U)), .ref (ad 6), .ref (ad 7), .ref (ad 8), .ref (ad 9), .ref (ad 10), .ref (ad 11), .ref (ad 12), .ref (ad 13), .ref (ad 14)]))) s H locs := hw
  have hMo : (fU M 5 (.inr (7, [.int 0, .int (nI (tHn U)), .int (nI (tPn U)), .int (nI (tEn U)), .ref (ad 6), .ref (ad 7), .ref (ad 8), .ref (ad 9), .ref (ad 10), .ref (ad 11), .ref (ad 12), .ref (ad 13), .ref (ad 14)]))) 5 = some (.inr (7, [.int 0, .int (nI (tHn U)), .int (nI (tPn U)), .int (nI (tEn U)), .ref (ad 6), .ref (ad 7), .ref (ad 8), .ref (ad 9), .ref (ad 10), .ref (ad 11), .ref (ad 12), .ref (ad 13), .ref (ad 14)])) := fU_s
  have hm6 : (fU M 5 (.inr (7, [.int 0, .int (nI (tHn U)), .int (nI (tPn U)), .int (nI (tEn U)), .ref (ad 6), .ref (ad 7), .ref (ad 8), .ref (ad 9), .ref (ad 10), .ref (ad 11), .ref (ad 12), .ref (ad 13), .ref (ad 14)]))) 6 = _ := (fU_n (by omega)).trans hm6
  have hm7 : (fU M 5 (.inr (7, [.int 0, .int (nI (tHn U)), .int (nI (tPn U)), .int (nI (tEn U)), .ref (ad 6), .ref (ad 7), .ref (ad 8), .ref (ad 9), .ref (ad 10), .ref (ad 11), .ref (ad 12), .ref (ad 13), .ref (ad 14)]))) 7 = _ := (fU_n (by omega)).trans hm7
  have hm8 : (fU M 5 (.inr (7, [.int 0, .int (nI (tHn U)), .int (nI (tPn U)), .int (nI (tEn U)), .ref (ad 6), .ref (ad 7), .ref (ad 8), .ref (ad 9), .ref (ad 10), .ref (ad 11), .ref (ad 12), .ref (ad 13), .ref (ad 14)]))) 8 = _ := (fU_n (by omega)).trans hm8
  have hm9 : (fU M 5 (.inr (7, [.int 0, .int (nI (tHn U)), .int (nI (tPn U)), .int (nI (tEn U)), .ref (ad 6), .ref (ad 7), .ref (ad 8), .ref (ad 9), .ref (ad 10), .ref (ad 11), .ref (ad 12), .ref (ad 13), .ref (ad 14)]))) 9 = _ := (fU_n (by omega)).trans hm9
  have hm10 : (fU M 5 (.inr (7, [.int 0, .int (nI (tHn U)), .int (nI (tPn U)), .int (nI (tEn U)), .ref (ad 6), .ref (ad 7), .ref (ad 8), .ref (ad 9), .ref (ad 10), .ref (ad 11), .ref (ad 12), .ref (ad 13), .ref (ad 14)]))) 10 = _ := (fU_n (by omega)).trans hm10
  have hm11 : (fU M 5 (.inr (7, [.int 0, .int (nI (tHn U)), .int (nI (tPn U)), .int (nI (tEn U)), .ref (ad 6), .ref (ad 7), .ref (ad 8), .ref (ad 9), .ref (ad 10), .ref (ad 11), .ref (ad 12), .ref (ad 13), .ref (ad 14)]))) 11 = _ := (fU_n (by omega)).trans hm11
  have hm12 : (fU M 5 (.inr (7, [.int 0, .int (nI (tHn U)), .int (nI (tPn U)), .int (nI (tEn U)), .ref (ad 6), .ref (ad 7), .ref (ad 8), .ref (ad 9), .ref (ad 10), .ref (ad 11), .ref (ad 12), .ref (ad 13), .ref (ad 14)]))) 12 = _ := (fU_n (by omega)).trans hm12
  have hm13 : (fU M 5 (.inr (7, [.int 0, .int (nI (tHn U)), .int (nI (tPn U)), .int (nI (tEn U)), .ref (ad 6), .ref (ad 7), .ref (ad 8), .ref (ad 9), .ref (ad 10), .ref (ad 11), .ref (ad 12), .ref (ad 13), .ref (ad 14)]))) 13 = _ := (fU_n (by omega)).trans hm13
  have hm14 : (fU M 5 (.inr (7, [.int 0, .int (nI (tHn U)), .int (nI (tPn U)), .int (nI (tEn U)), .ref (ad 6), .ref (ad 7), .ref (ad 8), .ref (ad 9), .ref (ad 10), .ref (ad 11), .ref (ad 12), .ref (ad 13), .ref (ad 14)]))) 14 = _ := (fU_n (by omega)).trans hm14
  have hM : isMo g ad (fU M 5 (.inr (7, [.int 0, .int (nI (tHn U)), .int (nI (tPn U)), .int (nI (tEn U)), .ref (ad 6), .ref (ad 7), .ref (ad 8), .ref (ad 9), .ref (ad 10), .ref (ad 11), .ref (ad 12), .ref (ad 13), .ref (ad 14)]))) 0 U sp ca := ⟨pcs, wa, ht, et, mi, co, as, hMo, ⟨hm6, hm7, hm8, hm9, hm10, hm11, hm12, hm13, hm14⟩, hRel, hCnt⟩
  have hrA : fReg 5 15 ad Mo ad (fU M 5 (.inr (7, [.int 0, .int (nI (tHn U)), .int (nI (tPn U)), .int (nI (tEn U)), .ref (ad 6), .ref (ad 7), .ref (ad 8), .ref (ad 9), .ref (ad 10), .ref (ad 11), .ref (ad 12), .ref (ad 13), .ref (ad 14)]))) := fReg_U hrA (by omega)
  obtain ⟨M17, eM17⟩ : ∃ z, z = (fU M 5 (.inr (7, [.int 0, .int (nI (tHn U)), .int (nI (tPn U)), .int (nI (tEn U)), .ref (ad 6), .ref (ad 7), .ref (ad 8), .ref (ad 9), .ref (ad 10), .ref (ad 11), .ref (ad 12), .ref (ad 13), .ref (ad 14)]))) := ⟨_, rfl⟩
  rw [← eM17] at hM hw hrA
  obtain ⟨pcs, wa, ht, et, mi, co, as, hMo, ⟨hm6, hm7, hm8, hm9, hm10, hm11, hm12, hm13, hm14⟩, hRel, hCnt⟩ := id hM
  obtain ⟨hn1, hn2, hn3⟩ := id hCnt
  have hn1 : tHn U ≤ 30 := hn1
  have hn2 : tPn U ≤ 6 := hn2
  have hn3 : tEn U ≤ 6 := hn3
  have hMo : M17 5 = some (.inr (7, [.int 0, .int (nI (tHn U)), .int (nI (tPn U)), .int (nI (tEn U)), .ref (ad 6), .ref (ad 7), .ref (ad 8), .ref (ad 9), .ref (ad 10), .ref (ad 11), .ref (ad 12), .ref (ad 13), .ref (ad 14)])) := hMo
  obtain ⟨rH, rP, rE, rM⟩ := id hRel
  refine lv_aload_n hx hb dX6_stoke_5 rfl (lv_at hl 0 rfl) ?_
  refine lv_iload_n hx hb dX6_stoke_6 rfl (lv_at hl 1 rfl) ?_
  refine fk_di (fcV X hw (c_m_isEngine l g ad M17 hM (nI j)) hMo rfl wq928 kVX6_isEngine ⟨(Nat.le_of_ble_eq_true rfl), (Nat.le_of_ble_eq_true rfl)⟩ rfl hl.1 rfl (Nat.le_of_ble_eq_true rfl) dX6_stoke_7 ⟨Nat.le_refl _, Nat.le_refl _⟩) hw (fun H locs hw => ?_)
  refine lv_if_ne (tgt := 19) hx hb dX6_stoke_10 (by decide) (fun c_1 => ?_) (fun c_1 => absurd (bI_f.mp c_1) (by rw [hxj]; decide))
  have c_1 := bI_nf.mp c_1
  refine lv_iload_n hx hb dX6_stoke_19 rfl (lv_at hl 2 rfl) ?_
  refine lv_iconst (v := 1) hx hb dX6_stoke_20 (by decide) ?_
  refine lv_bipush (v := 100) hx hb dX6_stoke_21 (by decide) ?_
  refine fk_di (fcS X hw (c_isIn l g ad M17 (coal) 1 100) wq846 kSX6_isIn ⟨(Nat.le_of_ble_eq_true rfl), (Nat.le_of_ble_eq_true rfl)⟩ rfl hl.1 rfl (Nat.le_of_ble_eq_true rfl) dX6_stoke_23 ⟨Nat.le_refl _, Nat.le_refl _⟩) hw (fun H locs hw => ?_)
  refine lv_if_ne (tgt := 35) hx hb dX6_stoke_26 (by decide) (fun c_2 => absurd (bI_nf.mp c_2) (f_false h2)) (fun c_2 => ?_)
  have c_2 := bI_f.mp c_2
  refine lv_aload_n hx hb dX6_stoke_29 rfl (lv_at hl 0 rfl) ?_
  refine lv_iconst (v := 2) hx hb dX6_stoke_30 (by decide) ?_
  refine fk_mi (fcV X hw (c_fail l g ad M17 hM 2) hMo rfl wq849 kVX6_fail ⟨(Nat.le_of_ble_eq_true rfl), (Nat.le_of_ble_eq_true rfl)⟩ rfl hl.1 rfl (Nat.le_of_ble_eq_true rfl) dX6_stoke_31 ⟨Nat.le_refl _, Nat.le_refl _⟩) hw (fun M18 H locs hM hr18 hw => ?_)
  have hrA := fReg_tr hrA hr18
  rw [hQ9, ← hMq]
  exact f_iret X hw ⟨rfl, hM, hrA, rfl⟩ (Nat.le_refl _) (Nat.le_refl _) dX6_stoke_34
set_option maxHeartbeats 4000000 in
set_option maxRecDepth 100000 in
theorem x_m_stoke_3 (l : Launch) (g : fG) (ad : Nat → Nat) (M : fM) {th : Int32} {U : fTn} {sp ca : Nat → Int32} (hM : isMo g ad M th U sp ca) {j : Nat} {coal : Int32} (hj : j < tEn U) (h2 : inR coal 1 100 = true) (h3 : ¬ tE U j 3 + coal ≤ 200) : fCi l g yX6_stoke cX6_stoke 3 ((some .int)) 7 170 0 0 ad M [.ref (ad 5), .int (nI j), .int coal] (fMi g ad M 3 U sp ca 0) := by
  refine f_body (own := RX6) (by decide +kernel) rfl (Nat.le_of_ble_eq_true rfl) ?_
  intro p e s m args below meth c ls X hw hin hl
  have hx := X.1
  have hb := X.2.1
  have hl : lv_has ls 3 [(0, .ref (ad 5)), (1, .int (nI j)), (2, .int coal)] := hl
  obtain ⟨pcs, wa, ht, et, mi, co, as, hMo, ⟨hm6, hm7, hm8, hm9, hm10, hm11, hm12, hm13, hm14⟩, hRel, hCnt⟩ := id hM
  obtain ⟨hn1, hn2, hn3⟩ := id hCnt
  have hn1 : tHn U ≤ 30 := hn1
  have hn2 : tPn U ≤ 6 := hn2
  have hn3 : tEn U ≤ 6 := hn3
  have hMo : M 5 = some (.inr (7, [.int th, .int (nI (tHn U)), .int (nI (tPn U)), .int (nI (tEn U)), .ref (ad 6), .ref (ad 7), .ref (ad 8), .ref (ad 9), .ref (ad 10), .ref (ad 11), .ref (ad 12), .ref (ad 13), .ref (ad 14)])) := hMo
  obtain ⟨rH, rP, rE, rM⟩ := id hRel
  have hxj : isIx (tEn U) (nI j) = true := isIx_nI hj (by omega)
  obtain ⟨Mo, hMq⟩ : ∃ z, z = M := ⟨_, rfl⟩
  have hrA : fReg 5 15 ad Mo ad M := by rw [hMq]; exact fReg_rf
  obtain ⟨Q9, hQ9⟩ : ∃ z, z = MQ below (fQi g (fMi g ad M 3 U sp ca 0)) args s 0 0 (fA g) := ⟨_, rfl⟩
  show W p l e (fR 7 170 0 0) s m args below meth c _ _ 0 0 (MQ below (fQi g (fMi g ad M 3 U sp ca 0)) args s 0 0 (fA g)) (F0 m 0 ls [])
  rw [← hQ9]
  refine lv_aload_n hx hb dX6_stoke_0 rfl (lv_at hl 0 rfl) ?_
  refine lv_iconst (v := 0) hx hb dX6_stoke_1 (by decide) ?_
  refine f_put X hw hMo fc7 0 (by decide) wq794 rfl rfl (v := .int 0) rfl rfl (Nat.le_of_ble_eq_true rfl) dX6_stoke_2 (fun H locs hw => ?_)
  have hw : fw g ad (fU M 5 (.inr (7, [.int 0, .int (nI (tHn U)), .int (nI (tPn U)), .int (nI (tEn U)), .ref (ad 6), .ref (ad 7), .ref (ad 8), .ref (ad 9), .ref (ad 10), .ref (ad 11), .ref (ad 12), .ref (ad 13), .ref (ad 14)]))) s H locs := hw
  have hMo : (fU M 5 (.inr (7, [.int 0, .int (nI (tHn U)), .int (nI (tPn U)), .int (nI (tEn U)), .ref (ad 6), .ref (ad 7), .ref (ad 8), .ref (ad 9), .ref (ad 10), .ref (ad 11), .ref (ad 12), .ref (ad 13), .ref (ad 14)]))) 5 = some (.inr (7, [.int 0, .int (nI (tHn U)), .int (nI (tPn U)), .int (nI (tEn U)), .ref (ad 6), .ref (ad 7), .ref (ad 8), .ref (ad 9), .ref (ad 10), .ref (ad 11), .ref (ad 12), .ref (ad 13), .ref (ad 14)])) := fU_s
  have hm6 : (fU M 5 (.inr (7, [.int 0, .int (nI (tHn U)), .int (nI (tPn U)), .int (nI (tEn U)), .ref (ad 6), .ref (ad 7), .ref (ad 8), .ref (ad 9), .ref (ad 10), .ref (ad 11), .ref (ad 12), .ref (ad 13), .ref (ad 14)]))) 6 = _ := (fU_n (by omega)).trans hm6
  have hm7 : (fU M 5 (.inr (7, [.int 0, .int (nI (tHn U)), .int (nI (tPn U)), .int (nI (tEn U)), .ref (ad 6), .ref (ad 7), .ref (ad 8), .ref (ad 9), .ref (ad 10), .ref (ad 11), .ref (ad 12), .ref (ad 13), .ref (ad 14)]))) 7 = _ := (fU_n (by omega)).trans hm7
  have hm8 : (fU M 5 (.inr (7, [.int 0, .int (nI (tHn U)), .int (nI (tPn U)), .int (nI (tEn U)), .ref (ad 6), .ref (ad 7), .ref (ad 8), .ref (ad 9), .ref (ad 10), .ref (ad 11), .ref (ad 12), .ref (ad 13), .ref (ad 14)]))) 8 = _ := (fU_n (by omega)).trans hm8
  have hm9 : (fU M 5 (.inr (7, [.int 0, .int (nI (tHn U)), .int (nI (tPn U)), .int (nI (tEn U)), .ref (ad 6), .ref (ad 7), .ref (ad 8), .ref (ad 9), .ref (ad 10), .ref (ad 11), .ref (ad 12), .ref (ad 13), .ref (ad 14)]))) 9 = _ := (fU_n (by omega)).trans hm9
  have hm10 : (fU M 5 (.inr (7, [.int 0, .int (nI (tHn U)), .int (nI (tPn U)), .int (nI (tEn U)), .ref (ad 6), .ref (ad 7), .ref (ad 8), .ref (ad 9), .ref (ad 10), .ref (ad 11), .ref (ad 12), .ref (ad 13), .ref (ad 14)]))) 10 = _ := (fU_n (by omega)).trans hm10
  have hm11 : (fU M 5 (.inr (7, [.int 0, .int (nI (tHn U)), .int (nI (tPn U)), .int (nI (tEn U)), .ref (ad 6), .ref (ad 7), .ref (ad 8), .ref (ad 9), .ref (ad 10), .ref (ad 11), .ref (ad 12), .ref (ad 13), .ref (ad 14)]))) 11 = _ := (fU_n (by omega)).trans hm11
  have hm12 : (fU M 5 (.inr (7, [.int 0, .int (nI (tHn U)), .int (nI (tPn U)), .int (nI (tEn U)), .ref (ad 6), .ref (ad 7), .ref (ad 8), .ref (ad 9), .ref (ad 10), .ref (ad 11), .ref (ad 12), .ref (ad 13), .ref (ad 14)]))) 12 = _ := (fU_n (by omega)).trans hm12
  have hm13 : (fU M 5 (.inr (7, [.int 0, .int (nI (tHn U)), .int (nI (tPn U)), .int (nI (tEn U)), .ref (ad 6), .ref (ad 7), .ref (ad 8), .ref (ad 9), .ref (ad 10), .ref (ad 11), .ref (ad 12), .ref (ad 13), .ref (ad 14)]))) 13 = _ := (fU_n (by omega)).trans hm13
  have hm14 : (fU M 5 (.inr (7, [.int 0, .int (nI (tHn U)), .int (nI (tPn U)), .int (nI (tEn U)), .ref (ad 6), .ref (ad 7), .ref (ad 8), .ref (ad 9), .ref (ad 10), .ref (ad 11), .ref (ad 12), .ref (ad 13), .ref (ad 14)]))) 14 = _ := (fU_n (by omega)).trans hm14
  have hM : isMo g ad (fU M 5 (.inr (7, [.int 0, .int (nI (tHn U)), .int (nI (tPn U)), .int (nI (tEn U)), .ref (ad 6), .ref (ad 7), .ref (ad 8), .ref (ad 9), .ref (ad 10), .ref (ad 11), .ref (ad 12), .ref (ad 13), .ref (ad 14)]))) 0 U sp ca := ⟨pcs, wa, ht, et, mi, co, as, hMo, ⟨hm6, hm7, hm8, hm9, hm10, hm11, hm12, hm13, hm14⟩, hRel, hCnt⟩
  have hrA : fReg 5 15 ad Mo ad (fU M 5 (.inr (7, [.int 0, .int (nI (tHn U)), .int (nI (tPn U)), .int (nI (tEn U)), .ref (ad 6), .ref (ad 7), .ref (ad 8), .ref (ad 9), .ref (ad 10), .ref (ad 11), .ref (ad 12), .ref (ad 13), .ref (ad 14)]))) := fReg_U hrA (by omega)
  obtain ⟨M19, eM19⟩ : ∃ z, z = (fU M 5 (.inr (7, [.int 0, .int (nI (tHn U)), .int (nI (tPn U)), .int (nI (tEn U)), .ref (ad 6), .ref (ad 7), .ref (ad 8), .ref (ad 9), .ref (ad 10), .ref (ad 11), .ref (ad 12), .ref (ad 13), .ref (ad 14)]))) := ⟨_, rfl⟩
  rw [← eM19] at hM hw hrA
  obtain ⟨pcs, wa, ht, et, mi, co, as, hMo, ⟨hm6, hm7, hm8, hm9, hm10, hm11, hm12, hm13, hm14⟩, hRel, hCnt⟩ := id hM
  obtain ⟨hn1, hn2, hn3⟩ := id hCnt
  have hn1 : tHn U ≤ 30 := hn1
  have hn2 : tPn U ≤ 6 := hn2
  have hn3 : tEn U ≤ 6 := hn3
  have hMo : M19 5 = some (.inr (7, [.int 0, .int (nI (tHn U)), .int (nI (tPn U)), .int (nI (tEn U)), .ref (ad 6), .ref (ad 7), .ref (ad 8), .ref (ad 9), .ref (ad 10), .ref (ad 11), .ref (ad 12), .ref (ad 13), .ref (ad 14)])) := hMo
  obtain ⟨rH, rP, rE, rM⟩ := id hRel
  refine lv_aload_n hx hb dX6_stoke_5 rfl (lv_at hl 0 rfl) ?_
  refine lv_iload_n hx hb dX6_stoke_6 rfl (lv_at hl 1 rfl) ?_
  refine fk_di (fcV X hw (c_m_isEngine l g ad M19 hM (nI j)) hMo rfl wq928 kVX6_isEngine ⟨(Nat.le_of_ble_eq_true rfl), (Nat.le_of_ble_eq_true rfl)⟩ rfl hl.1 rfl (Nat.le_of_ble_eq_true rfl) dX6_stoke_7 ⟨Nat.le_refl _, Nat.le_refl _⟩) hw (fun H locs hw => ?_)
  refine lv_if_ne (tgt := 19) hx hb dX6_stoke_10 (by decide) (fun c_1 => ?_) (fun c_1 => absurd (bI_f.mp c_1) (by rw [hxj]; decide))
  have c_1 := bI_nf.mp c_1
  refine lv_iload_n hx hb dX6_stoke_19 rfl (lv_at hl 2 rfl) ?_
  refine lv_iconst (v := 1) hx hb dX6_stoke_20 (by decide) ?_
  refine lv_bipush (v := 100) hx hb dX6_stoke_21 (by decide) ?_
  refine fk_di (fcS X hw (c_isIn l g ad M19 (coal) 1 100) wq846 kSX6_isIn ⟨(Nat.le_of_ble_eq_true rfl), (Nat.le_of_ble_eq_true rfl)⟩ rfl hl.1 rfl (Nat.le_of_ble_eq_true rfl) dX6_stoke_23 ⟨Nat.le_refl _, Nat.le_refl _⟩) hw (fun H locs hw => ?_)
  refine lv_if_ne (tgt := 35) hx hb dX6_stoke_26 (by decide) (fun c_2 => ?_) (fun c_2 => absurd (bI_f.mp c_2) (by rw [h2]; decide))
  have c_2 := bI_nf.mp c_2
  refine lv_aload_n hx hb dX6_stoke_35 rfl (lv_at hl 0 rfl) ?_
  refine lv_iload_n hx hb dX6_stoke_36 rfl (lv_at hl 1 rfl) ?_
  refine lv_iconst (v := 3) hx hb dX6_stoke_37 (by decide) ?_
  refine fk_di (fcV X hw (c_en l g ad M19 hM (e0 := j) (k := 3) hj rfl (by omega)) hMo rfl wq873 kVX6_en ⟨(Nat.le_of_ble_eq_true rfl), (Nat.le_of_ble_eq_true rfl)⟩ rfl hl.1 rfl (Nat.le_of_ble_eq_true rfl) dX6_stoke_38 ⟨Nat.le_refl _, Nat.le_refl _⟩) hw (fun H locs hw => ?_)
  refine lv_iload_n hx hb dX6_stoke_41 rfl (lv_at hl 2 rfl) ?_
  refine lv_iadd hx hb dX6_stoke_42 ?_
  refine lv_sipush (v := 200) hx hb dX6_stoke_43 (by decide) ?_
  refine lv_icmp_le (tgt := 55) hx hb dX6_stoke_46 (by decide) (fun c_3 => absurd c_3 h3) (fun c_3 => ?_)
  refine lv_aload_n hx hb dX6_stoke_49 rfl (lv_at hl 0 rfl) ?_
  refine lv_iconst (v := 3) hx hb dX6_stoke_50 (by decide) ?_
  refine fk_mi (fcV X hw (c_fail l g ad M19 hM 3) hMo rfl wq849 kVX6_fail ⟨(Nat.le_of_ble_eq_true rfl), (Nat.le_of_ble_eq_true rfl)⟩ rfl hl.1 rfl (Nat.le_of_ble_eq_true rfl) dX6_stoke_51 ⟨Nat.le_refl _, Nat.le_refl _⟩) hw (fun M20 H locs hM hr20 hw => ?_)
  have hrA := fReg_tr hrA hr20
  rw [hQ9, ← hMq]
  exact f_iret X hw ⟨rfl, hM, hrA, rfl⟩ (Nat.le_refl _) (Nat.le_refl _) dX6_stoke_54
set_option maxHeartbeats 4000000 in
set_option maxRecDepth 100000 in
theorem c_m_stoke (l : Launch) (g : fG) (ad : Nat → Nat) (M : fM) {th : Int32} {U : fTn} {sp ca : Nat → Int32} (hM : isMo g ad M th U sp ca) {j : Nat} {coal : Int32} (hj : j < tEn U) (h2 : inR coal 1 100 = true) (h3 : tE U j 3 + coal ≤ 200) : fCi l g yX6_stoke cX6_stoke 3 ((some .int)) 7 170 0 0 ad M [.ref (ad 5), .int (nI j), .int coal] (fMi g ad M 0 (sE U j (upd (tE U j) 3 (tE U j 3 + coal))) sp ca (tE U j 3 + coal)) := by
  refine f_body (own := RX6) (by decide +kernel) rfl (Nat.le_of_ble_eq_true rfl) ?_
  intro p e s m args below meth c ls X hw hin hl
  have hx := X.1
  have hb := X.2.1
  have hl : lv_has ls 3 [(0, .ref (ad 5)), (1, .int (nI j)), (2, .int coal)] := hl
  obtain ⟨pcs, wa, ht, et, mi, co, as, hMo, ⟨hm6, hm7, hm8, hm9, hm10, hm11, hm12, hm13, hm14⟩, hRel, hCnt⟩ := id hM
  obtain ⟨hn1, hn2, hn3⟩ := id hCnt
  have hn1 : tHn U ≤ 30 := hn1
  have hn2 : tPn U ≤ 6 := hn2
  have hn3 : tEn U ≤ 6 := hn3
  have hMo : M 5 = some (.inr (7, [.int th, .int (nI (tHn U)), .int (nI (tPn U)), .int (nI (tEn U)), .ref (ad 6), .ref (ad 7), .ref (ad 8), .ref (ad 9), .ref (ad 10), .ref (ad 11), .ref (ad 12), .ref (ad 13), .ref (ad 14)])) := hMo
  obtain ⟨rH, rP, rE, rM⟩ := id hRel
  have hxj : isIx (tEn U) (nI j) = true := isIx_nI hj (by omega)
  obtain ⟨Mo, hMq⟩ : ∃ z, z = M := ⟨_, rfl⟩
  have hrA : fReg 5 15 ad Mo ad M := by rw [hMq]; exact fReg_rf
  obtain ⟨Q9, hQ9⟩ : ∃ z, z = MQ below (fQi g (fMi g ad M 0 (sE U j (upd (tE U j) 3 (tE U j 3 + coal))) sp ca (tE U j 3 + coal))) args s 0 0 (fA g) := ⟨_, rfl⟩
  show W p l e (fR 7 170 0 0) s m args below meth c _ _ 0 0 (MQ below (fQi g (fMi g ad M 0 (sE U j (upd (tE U j) 3 (tE U j 3 + coal))) sp ca (tE U j 3 + coal))) args s 0 0 (fA g)) (F0 m 0 ls [])
  rw [← hQ9]
  refine lv_aload_n hx hb dX6_stoke_0 rfl (lv_at hl 0 rfl) ?_
  refine lv_iconst (v := 0) hx hb dX6_stoke_1 (by decide) ?_
  refine f_put X hw hMo fc7 0 (by decide) wq794 rfl rfl (v := .int 0) rfl rfl (Nat.le_of_ble_eq_true rfl) dX6_stoke_2 (fun H locs hw => ?_)
  have hw : fw g ad (fU M 5 (.inr (7, [.int 0, .int (nI (tHn U)), .int (nI (tPn U)), .int (nI (tEn U)), .ref (ad 6), .ref (ad 7), .ref (ad 8), .ref (ad 9), .ref (ad 10), .ref (ad 11), .ref (ad 12), .ref (ad 13), .ref (ad 14)]))) s H locs := hw
  have hMo : (fU M 5 (.inr (7, [.int 0, .int (nI (tHn U)), .int (nI (tPn U)), .int (nI (tEn U)), .ref (ad 6), .ref (ad 7), .ref (ad 8), .ref (ad 9), .ref (ad 10), .ref (ad 11), .ref (ad 12), .ref (ad 13), .ref (ad 14)]))) 5 = some (.inr (7, [.int 0, .int (nI (tHn U)), .int (nI (tPn U)), .int (nI (tEn U)), .ref (ad 6), .ref (ad 7), .ref (ad 8), .ref (ad 9), .ref (ad 10), .ref (ad 11), .ref (ad 12), .ref (ad 13), .ref (ad 14)])) := fU_s
  have hm6 : (fU M 5 (.inr (7, [.int 0, .int (nI (tHn U)), .int (nI (tPn U)), .int (nI (tEn U)), .ref (ad 6), .ref (ad 7), .ref (ad 8), .ref (ad 9), .ref (ad 10), .ref (ad 11), .ref (ad 12), .ref (ad 13), .ref (ad 14)]))) 6 = _ := (fU_n (by omega)).trans hm6
  have hm7 : (fU M 5 (.inr (7, [.int 0, .int (nI (tHn U)), .int (nI (tPn U)), .int (nI (tEn U)), .ref (ad 6), .ref (ad 7), .ref (ad 8), .ref (ad 9), .ref (ad 10), .ref (ad 11), .ref (ad 12), .ref (ad 13), .ref (ad 14)]))) 7 = _ := (fU_n (by omega)).trans hm7
  have hm8 : (fU M 5 (.inr (7, [.int 0, .int (nI (tHn U)), .int (nI (tPn U)), .int (nI (tEn U)), .ref (ad 6), .ref (ad 7), .ref (ad 8), .ref (ad 9), .ref (ad 10), .ref (ad 11), .ref (ad 12), .ref (ad 13), .ref (ad 14)]))) 8 = _ := (fU_n (by omega)).trans hm8
  have hm9 : (fU M 5 (.inr (7, [.int 0, .int (nI (tHn U)), .int (nI (tPn U)), .int (nI (tEn U)), .ref (ad 6), .ref (ad 7), .ref (ad 8), .ref (ad 9), .ref (ad 10), .ref (ad 11), .ref (ad 12), .ref (ad 13), .ref (ad 14)]))) 9 = _ := (fU_n (by omega)).trans hm9
  have hm10 : (fU M 5 (.inr (7, [.int 0, .int (nI (tHn U)), .int (nI (tPn U)), .int (nI (tEn U)), .ref (ad 6), .ref (ad 7), .ref (ad 8), .ref (ad 9), .ref (ad 10), .ref (ad 11), .ref (ad 12), .ref (ad 13), .ref (ad 14)]))) 10 = _ := (fU_n (by omega)).trans hm10
  have hm11 : (fU M 5 (.inr (7, [.int 0, .int (nI (tHn U)), .int (nI (tPn U)), .int (nI (tEn U)), .ref (ad 6), .ref (ad 7), .ref (ad 8), .ref (ad 9), .ref (ad 10), .ref (ad 11), .ref (ad 12), .ref (ad 13), .ref (ad 14)]))) 11 = _ := (fU_n (by omega)).trans hm11
  have hm12 : (fU M 5 (.inr (7, [.int 0, .int (nI (tHn U)), .int (nI (tPn U)), .int (nI (tEn U)), .ref (ad 6), .ref (ad 7), .ref (ad 8), .ref (ad 9), .ref (ad 10), .ref (ad 11), .ref (ad 12), .ref (ad 13), .ref (ad 14)]))) 12 = _ := (fU_n (by omega)).trans hm12
  have hm13 : (fU M 5 (.inr (7, [.int 0, .int (nI (tHn U)), .int (nI (tPn U)), .int (nI (tEn U)), .ref (ad 6), .ref (ad 7), .ref (ad 8), .ref (ad 9), .ref (ad 10), .ref (ad 11), .ref (ad 12), .ref (ad 13), .ref (ad 14)]))) 13 = _ := (fU_n (by omega)).trans hm13
  have hm14 : (fU M 5 (.inr (7, [.int 0, .int (nI (tHn U)), .int (nI (tPn U)), .int (nI (tEn U)), .ref (ad 6), .ref (ad 7), .ref (ad 8), .ref (ad 9), .ref (ad 10), .ref (ad 11), .ref (ad 12), .ref (ad 13), .ref (ad 14)]))) 14 = _ := (fU_n (by omega)).trans hm14
  have hM : isMo g ad (fU M 5 (.inr (7, [.int 0, .int (nI (tHn U)), .int (nI (tPn U)), .int (nI (tEn U)), .ref (ad 6), .ref (ad 7), .ref (ad 8), .ref (ad 9), .ref (ad 10), .ref (ad 11), .ref (ad 12), .ref (ad 13), .ref (ad 14)]))) 0 U sp ca := ⟨pcs, wa, ht, et, mi, co, as, hMo, ⟨hm6, hm7, hm8, hm9, hm10, hm11, hm12, hm13, hm14⟩, hRel, hCnt⟩
  have hrA : fReg 5 15 ad Mo ad (fU M 5 (.inr (7, [.int 0, .int (nI (tHn U)), .int (nI (tPn U)), .int (nI (tEn U)), .ref (ad 6), .ref (ad 7), .ref (ad 8), .ref (ad 9), .ref (ad 10), .ref (ad 11), .ref (ad 12), .ref (ad 13), .ref (ad 14)]))) := fReg_U hrA (by omega)
  obtain ⟨M21, eM21⟩ : ∃ z, z = (fU M 5 (.inr (7, [.int 0, .int (nI (tHn U)), .int (nI (tPn U)), .int (nI (tEn U)), .ref (ad 6), .ref (ad 7), .ref (ad 8), .ref (ad 9), .ref (ad 10), .ref (ad 11), .ref (ad 12), .ref (ad 13), .ref (ad 14)]))) := ⟨_, rfl⟩
  rw [← eM21] at hM hw hrA
  obtain ⟨pcs, wa, ht, et, mi, co, as, hMo, ⟨hm6, hm7, hm8, hm9, hm10, hm11, hm12, hm13, hm14⟩, hRel, hCnt⟩ := id hM
  obtain ⟨hn1, hn2, hn3⟩ := id hCnt
  have hn1 : tHn U ≤ 30 := hn1
  have hn2 : tPn U ≤ 6 := hn2
  have hn3 : tEn U ≤ 6 := hn3
  have hMo : M21 5 = some (.inr (7, [.int 0, .int (nI (tHn U)), .int (nI (tPn U)), .int (nI (tEn U)), .ref (ad 6), .ref (ad 7), .ref (ad 8), .ref (ad 9), .ref (ad 10), .ref (ad 11), .ref (ad 12), .ref (ad 13), .ref (ad 14)])) := hMo
  obtain ⟨rH, rP, rE, rM⟩ := id hRel
  refine lv_aload_n hx hb dX6_stoke_5 rfl (lv_at hl 0 rfl) ?_
  refine lv_iload_n hx hb dX6_stoke_6 rfl (lv_at hl 1 rfl) ?_
  refine fk_di (fcV X hw (c_m_isEngine l g ad M21 hM (nI j)) hMo rfl wq928 kVX6_isEngine ⟨(Nat.le_of_ble_eq_true rfl), (Nat.le_of_ble_eq_true rfl)⟩ rfl hl.1 rfl (Nat.le_of_ble_eq_true rfl) dX6_stoke_7 ⟨Nat.le_refl _, Nat.le_refl _⟩) hw (fun H locs hw => ?_)
  refine lv_if_ne (tgt := 19) hx hb dX6_stoke_10 (by decide) (fun c_1 => ?_) (fun c_1 => absurd (bI_f.mp c_1) (by rw [hxj]; decide))
  have c_1 := bI_nf.mp c_1
  refine lv_iload_n hx hb dX6_stoke_19 rfl (lv_at hl 2 rfl) ?_
  refine lv_iconst (v := 1) hx hb dX6_stoke_20 (by decide) ?_
  refine lv_bipush (v := 100) hx hb dX6_stoke_21 (by decide) ?_
  refine fk_di (fcS X hw (c_isIn l g ad M21 (coal) 1 100) wq846 kSX6_isIn ⟨(Nat.le_of_ble_eq_true rfl), (Nat.le_of_ble_eq_true rfl)⟩ rfl hl.1 rfl (Nat.le_of_ble_eq_true rfl) dX6_stoke_23 ⟨Nat.le_refl _, Nat.le_refl _⟩) hw (fun H locs hw => ?_)
  refine lv_if_ne (tgt := 35) hx hb dX6_stoke_26 (by decide) (fun c_2 => ?_) (fun c_2 => absurd (bI_f.mp c_2) (by rw [h2]; decide))
  have c_2 := bI_nf.mp c_2
  refine lv_aload_n hx hb dX6_stoke_35 rfl (lv_at hl 0 rfl) ?_
  refine lv_iload_n hx hb dX6_stoke_36 rfl (lv_at hl 1 rfl) ?_
  refine lv_iconst (v := 3) hx hb dX6_stoke_37 (by decide) ?_
  refine fk_di (fcV X hw (c_en l g ad M21 hM (e0 := j) (k := 3) hj rfl (by omega)) hMo rfl wq873 kVX6_en ⟨(Nat.le_of_ble_eq_true rfl), (Nat.le_of_ble_eq_true rfl)⟩ rfl hl.1 rfl (Nat.le_of_ble_eq_true rfl) dX6_stoke_38 ⟨Nat.le_refl _, Nat.le_refl _⟩) hw (fun H locs hw => ?_)
  refine lv_iload_n hx hb dX6_stoke_41 rfl (lv_at hl 2 rfl) ?_
  refine lv_iadd hx hb dX6_stoke_42 ?_
  refine lv_sipush (v := 200) hx hb dX6_stoke_43 (by decide) ?_
  refine lv_icmp_le (tgt := 55) hx hb dX6_stoke_46 (by decide) (fun c_3 => ?_) (fun c_3 => absurd h3 c_3)
  refine lv_aload_n hx hb dX6_stoke_55 rfl (lv_at hl 0 rfl) ?_
  refine lv_iload_n hx hb dX6_stoke_56 rfl (lv_at hl 1 rfl) ?_
  refine lv_iconst (v := 3) hx hb dX6_stoke_57 (by decide) ?_
  refine lv_aload_n hx hb dX6_stoke_58 rfl (lv_at hl 0 rfl) ?_
  refine lv_iload_n hx hb dX6_stoke_59 rfl (lv_at hl 1 rfl) ?_
  refine lv_iconst (v := 3) hx hb dX6_stoke_60 (by decide) ?_
  refine fk_di (fcV X hw (c_en l g ad M21 hM (e0 := j) (k := 3) hj rfl (by omega)) hMo rfl wq873 kVX6_en ⟨(Nat.le_of_ble_eq_true rfl), (Nat.le_of_ble_eq_true rfl)⟩ rfl hl.1 rfl (Nat.le_of_ble_eq_true rfl) dX6_stoke_61 ⟨Nat.le_refl _, Nat.le_refl _⟩) hw (fun H locs hw => ?_)
  refine lv_iload_n hx hb dX6_stoke_64 rfl (lv_at hl 2 rfl) ?_
  refine lv_iadd hx hb dX6_stoke_65 ?_
  refine fk_mv (fcV X hw (c_setEn l g ad M21 hM (e0 := j) (k := 3) hj rfl (by omega) (tE U j 3 + coal)) hMo rfl wq932 kVX6_setEn ⟨(Nat.le_of_ble_eq_true rfl), (Nat.le_of_ble_eq_true rfl)⟩ rfl hl.1 rfl (Nat.le_of_ble_eq_true rfl) dX6_stoke_66 ⟨Nat.le_refl _, Nat.le_refl _⟩) hw (fun M22 H locs hM hr22 hw => ?_)
  have hrA := fReg_tr hrA hr22
  obtain ⟨pcs, wa, ht, et, mi, co, as, hMo, ⟨hm6, hm7, hm8, hm9, hm10, hm11, hm12, hm13, hm14⟩, hRel, hCnt⟩ := id hM
  obtain ⟨hn1, hn2, hn3⟩ := id hCnt
  have hn1 : tHn U ≤ 30 := hn1
  have hn2 : tPn U ≤ 6 := hn2
  have hn3 : tEn U ≤ 6 := hn3
  have hMo : M22 5 = some (.inr (7, [.int 0, .int (nI (tHn U)), .int (nI (tPn U)), .int (nI (tEn U)), .ref (ad 6), .ref (ad 7), .ref (ad 8), .ref (ad 9), .ref (ad 10), .ref (ad 11), .ref (ad 12), .ref (ad 13), .ref (ad 14)])) := hMo
  obtain ⟨rH, rP, rE, rM⟩ := id hRel
  refine lv_aload_n hx hb dX6_stoke_69 rfl (lv_at hl 0 rfl) ?_
  refine lv_iload_n hx hb dX6_stoke_70 rfl (lv_at hl 1 rfl) ?_
  refine lv_iconst (v := 3) hx hb dX6_stoke_71 (by decide) ?_
  refine fk_di (fcV X hw (c_en l g ad M22 hM (e0 := j) (k := 3) hj rfl (by omega)) hMo rfl wq873 kVX6_en ⟨(Nat.le_of_ble_eq_true rfl), (Nat.le_of_ble_eq_true rfl)⟩ rfl hl.1 rfl (Nat.le_of_ble_eq_true rfl) dX6_stoke_72 ⟨Nat.le_refl _, Nat.le_refl _⟩) hw (fun H locs hw => ?_)
  refine f_top (y := tE U j 3 + coal) (by rw [tE_sE, upd_at]) ?_
  rw [hQ9, ← hMq]
  exact f_iret X hw ⟨rfl, hM, hrA, rfl⟩ (Nat.le_refl _) (Nat.le_refl _) dX6_stoke_75
set_option maxHeartbeats 4000000 in
set_option maxRecDepth 100000 in
theorem x_m_engine_1 (l : Launch) (g : fG) (ad : Nat → Nat) (M : fM) {th : Int32} {U : fTn} {sp ca : Nat → Int32} (hM : isMo g ad M th U sp ca) {x what : Int32} (h1 : isIx (tEn U) x = false) : fCi l g yX6_engine cX6_engine 3 ((some .int)) 7 170 0 0 ad M [.ref (ad 5), .int x, .int what] (fMi g ad M 1 U sp ca 0) := by
  refine f_body (own := RX6) (by decide +kernel) rfl (Nat.le_of_ble_eq_true rfl) ?_
  intro p e s m args below meth c ls X hw hin hl
  have hx := X.1
  have hb := X.2.1
  have hl : lv_has ls 3 [(0, .ref (ad 5)), (1, .int x), (2, .int what)] := hl
  obtain ⟨pcs, wa, ht, et, mi, co, as, hMo, ⟨hm6, hm7, hm8, hm9, hm10, hm11, hm12, hm13, hm14⟩, hRel, hCnt⟩ := id hM
  obtain ⟨hn1, hn2, hn3⟩ := id hCnt
  have hn1 : tHn U ≤ 30 := hn1
  have hn2 : tPn U ≤ 6 := hn2
  have hn3 : tEn U ≤ 6 := hn3
  have hMo : M 5 = some (.inr (7, [.int th, .int (nI (tHn U)), .int (nI (tPn U)), .int (nI (tEn U)), .ref (ad 6), .ref (ad 7), .ref (ad 8), .ref (ad 9), .ref (ad 10), .ref (ad 11), .ref (ad 12), .ref (ad 13), .ref (ad 14)])) := hMo
  obtain ⟨rH, rP, rE, rM⟩ := id hRel
  obtain ⟨Mo, hMq⟩ : ∃ z, z = M := ⟨_, rfl⟩
  have hrA : fReg 5 15 ad Mo ad M := by rw [hMq]; exact fReg_rf
  obtain ⟨Q9, hQ9⟩ : ∃ z, z = MQ below (fQi g (fMi g ad M 1 U sp ca 0)) args s 0 0 (fA g) := ⟨_, rfl⟩
  show W p l e (fR 7 170 0 0) s m args below meth c _ _ 0 0 (MQ below (fQi g (fMi g ad M 1 U sp ca 0)) args s 0 0 (fA g)) (F0 m 0 ls [])
  rw [← hQ9]
  refine lv_aload_n hx hb dX6_engine_0 rfl (lv_at hl 0 rfl) ?_
  refine lv_iconst (v := 0) hx hb dX6_engine_1 (by decide) ?_
  refine f_put X hw hMo fc7 0 (by decide) wq794 rfl rfl (v := .int 0) rfl rfl (Nat.le_of_ble_eq_true rfl) dX6_engine_2 (fun H locs hw => ?_)
  have hw : fw g ad (fU M 5 (.inr (7, [.int 0, .int (nI (tHn U)), .int (nI (tPn U)), .int (nI (tEn U)), .ref (ad 6), .ref (ad 7), .ref (ad 8), .ref (ad 9), .ref (ad 10), .ref (ad 11), .ref (ad 12), .ref (ad 13), .ref (ad 14)]))) s H locs := hw
  have hMo : (fU M 5 (.inr (7, [.int 0, .int (nI (tHn U)), .int (nI (tPn U)), .int (nI (tEn U)), .ref (ad 6), .ref (ad 7), .ref (ad 8), .ref (ad 9), .ref (ad 10), .ref (ad 11), .ref (ad 12), .ref (ad 13), .ref (ad 14)]))) 5 = some (.inr (7, [.int 0, .int (nI (tHn U)), .int (nI (tPn U)), .int (nI (tEn U)), .ref (ad 6), .ref (ad 7), .ref (ad 8), .ref (ad 9), .ref (ad 10), .ref (ad 11), .ref (ad 12), .ref (ad 13), .ref (ad 14)])) := fU_s
  have hm6 : (fU M 5 (.inr (7, [.int 0, .int (nI (tHn U)), .int (nI (tPn U)), .int (nI (tEn U)), .ref (ad 6), .ref (ad 7), .ref (ad 8), .ref (ad 9), .ref (ad 10), .ref (ad 11), .ref (ad 12), .ref (ad 13), .ref (ad 14)]))) 6 = _ := (fU_n (by omega)).trans hm6
  have hm7 : (fU M 5 (.inr (7, [.int 0, .int (nI (tHn U)), .int (nI (tPn U)), .int (nI (tEn U)), .ref (ad 6), .ref (ad 7), .ref (ad 8), .ref (ad 9), .ref (ad 10), .ref (ad 11), .ref (ad 12), .ref (ad 13), .ref (ad 14)]))) 7 = _ := (fU_n (by omega)).trans hm7
  have hm8 : (fU M 5 (.inr (7, [.int 0, .int (nI (tHn U)), .int (nI (tPn U)), .int (nI (tEn U)), .ref (ad 6), .ref (ad 7), .ref (ad 8), .ref (ad 9), .ref (ad 10), .ref (ad 11), .ref (ad 12), .ref (ad 13), .ref (ad 14)]))) 8 = _ := (fU_n (by omega)).trans hm8
  have hm9 : (fU M 5 (.inr (7, [.int 0, .int (nI (tHn U)), .int (nI (tPn U)), .int (nI (tEn U)), .ref (ad 6), .ref (ad 7), .ref (ad 8), .ref (ad 9), .ref (ad 10), .ref (ad 11), .ref (ad 12), .ref (ad 13), .ref (ad 14)]))) 9 = _ := (fU_n (by omega)).trans hm9
  have hm10 : (fU M 5 (.inr (7, [.int 0, .int (nI (tHn U)), .int (nI (tPn U)), .int (nI (tEn U)), .ref (ad 6), .ref (ad 7), .ref (ad 8), .ref (ad 9), .ref (ad 10), .ref (ad 11), .ref (ad 12), .ref (ad 13), .ref (ad 14)]))) 10 = _ := (fU_n (by omega)).trans hm10
  have hm11 : (fU M 5 (.inr (7, [.int 0, .int (nI (tHn U)), .int (nI (tPn U)), .int (nI (tEn U)), .ref (ad 6), .ref (ad 7), .ref (ad 8), .ref (ad 9), .ref (ad 10), .ref (ad 11), .ref (ad 12), .ref (ad 13), .ref (ad 14)]))) 11 = _ := (fU_n (by omega)).trans hm11
  have hm12 : (fU M 5 (.inr (7, [.int 0, .int (nI (tHn U)), .int (nI (tPn U)), .int (nI (tEn U)), .ref (ad 6), .ref (ad 7), .ref (ad 8), .ref (ad 9), .ref (ad 10), .ref (ad 11), .ref (ad 12), .ref (ad 13), .ref (ad 14)]))) 12 = _ := (fU_n (by omega)).trans hm12
  have hm13 : (fU M 5 (.inr (7, [.int 0, .int (nI (tHn U)), .int (nI (tPn U)), .int (nI (tEn U)), .ref (ad 6), .ref (ad 7), .ref (ad 8), .ref (ad 9), .ref (ad 10), .ref (ad 11), .ref (ad 12), .ref (ad 13), .ref (ad 14)]))) 13 = _ := (fU_n (by omega)).trans hm13
  have hm14 : (fU M 5 (.inr (7, [.int 0, .int (nI (tHn U)), .int (nI (tPn U)), .int (nI (tEn U)), .ref (ad 6), .ref (ad 7), .ref (ad 8), .ref (ad 9), .ref (ad 10), .ref (ad 11), .ref (ad 12), .ref (ad 13), .ref (ad 14)]))) 14 = _ := (fU_n (by omega)).trans hm14
  have hM : isMo g ad (fU M 5 (.inr (7, [.int 0, .int (nI (tHn U)), .int (nI (tPn U)), .int (nI (tEn U)), .ref (ad 6), .ref (ad 7), .ref (ad 8), .ref (ad 9), .ref (ad 10), .ref (ad 11), .ref (ad 12), .ref (ad 13), .ref (ad 14)]))) 0 U sp ca := ⟨pcs, wa, ht, et, mi, co, as, hMo, ⟨hm6, hm7, hm8, hm9, hm10, hm11, hm12, hm13, hm14⟩, hRel, hCnt⟩
  have hrA : fReg 5 15 ad Mo ad (fU M 5 (.inr (7, [.int 0, .int (nI (tHn U)), .int (nI (tPn U)), .int (nI (tEn U)), .ref (ad 6), .ref (ad 7), .ref (ad 8), .ref (ad 9), .ref (ad 10), .ref (ad 11), .ref (ad 12), .ref (ad 13), .ref (ad 14)]))) := fReg_U hrA (by omega)
  obtain ⟨M23, eM23⟩ : ∃ z, z = (fU M 5 (.inr (7, [.int 0, .int (nI (tHn U)), .int (nI (tPn U)), .int (nI (tEn U)), .ref (ad 6), .ref (ad 7), .ref (ad 8), .ref (ad 9), .ref (ad 10), .ref (ad 11), .ref (ad 12), .ref (ad 13), .ref (ad 14)]))) := ⟨_, rfl⟩
  rw [← eM23] at hM hw hrA
  obtain ⟨pcs, wa, ht, et, mi, co, as, hMo, ⟨hm6, hm7, hm8, hm9, hm10, hm11, hm12, hm13, hm14⟩, hRel, hCnt⟩ := id hM
  obtain ⟨hn1, hn2, hn3⟩ := id hCnt
  have hn1 : tHn U ≤ 30 := hn1
  have hn2 : tPn U ≤ 6 := hn2
  have hn3 : tEn U ≤ 6 := hn3
  have hMo : M23 5 = some (.inr (7, [.int 0, .int (nI (tHn U)), .int (nI (tPn U)), .int (nI (tEn U)), .ref (ad 6), .ref (ad 7), .ref (ad 8), .ref (ad 9), .ref (ad 10), .ref (ad 11), .ref (ad 12), .ref (ad 13), .ref (ad 14)])) := hMo
  obtain ⟨rH, rP, rE, rM⟩ := id hRel
  refine lv_aload_n hx hb dX6_engine_5 rfl (lv_at hl 0 rfl) ?_
  refine lv_iload_n hx hb dX6_engine_6 rfl (lv_at hl 1 rfl) ?_
  refine fk_di (fcV X hw (c_m_isEngine l g ad M23 hM (x)) hMo rfl wq928 kVX6_isEngine ⟨(Nat.le_of_ble_eq_true rfl), (Nat.le_of_ble_eq_true rfl)⟩ rfl hl.1 rfl (Nat.le_of_ble_eq_true rfl) dX6_engine_7 ⟨Nat.le_refl _, Nat.le_refl _⟩) hw (fun H locs hw => ?_)
  refine lv_if_eq (tgt := 32) hx hb dX6_engine_10 (by decide) (fun c_1 => ?_) (fun c_1 => absurd (bI_nf.mp c_1) (f_false h1))
  have c_1 := bI_f.mp c_1
  refine lv_aload_n hx hb dX6_engine_32 rfl (lv_at hl 0 rfl) ?_
  refine lv_iconst (v := 1) hx hb dX6_engine_33 (by decide) ?_
  refine fk_mi (fcV X hw (c_fail l g ad M23 hM 1) hMo rfl wq849 kVX6_fail ⟨(Nat.le_of_ble_eq_true rfl), (Nat.le_of_ble_eq_true rfl)⟩ rfl hl.1 rfl (Nat.le_of_ble_eq_true rfl) dX6_engine_34 ⟨Nat.le_refl _, Nat.le_refl _⟩) hw (fun M24 H locs hM hr24 hw => ?_)
  have hrA := fReg_tr hrA hr24
  rw [hQ9, ← hMq]
  exact f_iret X hw ⟨rfl, hM, hrA, rfl⟩ (Nat.le_refl _) (Nat.le_refl _) dX6_engine_37
set_option maxHeartbeats 4000000 in
set_option maxRecDepth 100000 in
theorem x_m_engine_2 (l : Launch) (g : fG) (ad : Nat → Nat) (M : fM) {th : Int32} {U : fTn} {sp ca : Nat → Int32} (hM : isMo g ad M th U sp ca) {j : Nat} {what : Int32} (hj : j < tEn U) (h2 : inR what 0 9 = false) : fCi l g yX6_engine cX6_engine 3 ((some .int)) 7 170 0 0 ad M [.ref (ad 5), .int (nI j), .int what] (fMi g ad M 1 U sp ca 0) := by
  refine f_body (own := RX6) (by decide +kernel) rfl (Nat.le_of_ble_eq_true rfl) ?_
  intro p e s m args below meth c ls X hw hin hl
  have hx := X.1
  have hb := X.2.1
  have hl : lv_has ls 3 [(0, .ref (ad 5)), (1, .int (nI j)), (2, .int what)] := hl
  obtain ⟨pcs, wa, ht, et, mi, co, as, hMo, ⟨hm6, hm7, hm8, hm9, hm10, hm11, hm12, hm13, hm14⟩, hRel, hCnt⟩ := id hM
  obtain ⟨hn1, hn2, hn3⟩ := id hCnt
  have hn1 : tHn U ≤ 30 := hn1
  have hn2 : tPn U ≤ 6 := hn2
  have hn3 : tEn U ≤ 6 := hn3
  have hMo : M 5 = some (.inr (7, [.int th, .int (nI (tHn U)), .int (nI (tPn U)), .int (nI (tEn U)), .ref (ad 6), .ref (ad 7), .ref (ad 8), .ref (ad 9), .ref (ad 10), .ref (ad 11), .ref (ad 12), .ref (ad 13), .ref (ad 14)])) := hMo
  obtain ⟨rH, rP, rE, rM⟩ := id hRel
  have hxj : isIx (tEn U) (nI j) = true := isIx_nI hj (by omega)
  obtain ⟨Mo, hMq⟩ : ∃ z, z = M := ⟨_, rfl⟩
  have hrA : fReg 5 15 ad Mo ad M := by rw [hMq]; exact fReg_rf
  obtain ⟨Q9, hQ9⟩ : ∃ z, z = MQ below (fQi g (fMi g ad M 1 U sp ca 0)) args s 0 0 (fA g) := ⟨_, rfl⟩
  show W p l e (fR 7 170 0 0) s m args below meth c _ _ 0 0 (MQ below (fQi g (fMi g ad M 1 U sp ca 0)) args s 0 0 (fA g)) (F0 m 0 ls [])
  rw [← hQ9]
  refine lv_aload_n hx hb dX6_engine_0 rfl (lv_at hl 0 rfl) ?_
  refine lv_iconst (v := 0) hx hb dX6_engine_1 (by decide) ?_
  refine f_put X hw hMo fc7 0 (by decide) wq794 rfl rfl (v := .int 0) rfl rfl (Nat.le_of_ble_eq_true rfl) dX6_engine_2 (fun H locs hw => ?_)
  have hw : fw g ad (fU M 5 (.inr (7, [.int 0, .int (nI (tHn U)), .int (nI (tPn U)), .int (nI (tEn U)), .ref (ad 6), .ref (ad 7), .ref (ad 8), .ref (ad 9), .ref (ad 10), .ref (ad 11), .ref (ad 12), .ref (ad 13), .ref (ad 14)]))) s H locs := hw
  have hMo : (fU M 5 (.inr (7, [.int 0, .int (nI (tHn U)), .int (nI (tPn U)), .int (nI (tEn U)), .ref (ad 6), .ref (ad 7), .ref (ad 8), .ref (ad 9), .ref (ad 10), .ref (ad 11), .ref (ad 12), .ref (ad 13), .ref (ad 14)]))) 5 = some (.inr (7, [.int 0, .int (nI (tHn U)), .int (nI (tPn U)), .int (nI (tEn U)), .ref (ad 6), .ref (ad 7), .ref (ad 8), .ref (ad 9), .ref (ad 10), .ref (ad 11), .ref (ad 12), .ref (ad 13), .ref (ad 14)])) := fU_s
  have hm6 : (fU M 5 (.inr (7, [.int 0, .int (nI (tHn U)), .int (nI (tPn U)), .int (nI (tEn U)), .ref (ad 6), .ref (ad 7), .ref (ad 8), .ref (ad 9), .ref (ad 10), .ref (ad 11), .ref (ad 12), .ref (ad 13), .ref (ad 14)]))) 6 = _ := (fU_n (by omega)).trans hm6
  have hm7 : (fU M 5 (.inr (7, [.int 0, .int (nI (tHn U)), .int (nI (tPn U)), .int (nI (tEn U)), .ref (ad 6), .ref (ad 7), .ref (ad 8), .ref (ad 9), .ref (ad 10), .ref (ad 11), .ref (ad 12), .ref (ad 13), .ref (ad 14)]))) 7 = _ := (fU_n (by omega)).trans hm7
  have hm8 : (fU M 5 (.inr (7, [.int 0, .int (nI (tHn U)), .int (nI (tPn U)), .int (nI (tEn U)), .ref (ad 6), .ref (ad 7), .ref (ad 8), .ref (ad 9), .ref (ad 10), .ref (ad 11), .ref (ad 12), .ref (ad 13), .ref (ad 14)]))) 8 = _ := (fU_n (by omega)).trans hm8
  have hm9 : (fU M 5 (.inr (7, [.int 0, .int (nI (tHn U)), .int (nI (tPn U)), .int (nI (tEn U)), .ref (ad 6), .ref (ad 7), .ref (ad 8), .ref (ad 9), .ref (ad 10), .ref (ad 11), .ref (ad 12), .ref (ad 13), .ref (ad 14)]))) 9 = _ := (fU_n (by omega)).trans hm9
  have hm10 : (fU M 5 (.inr (7, [.int 0, .int (nI (tHn U)), .int (nI (tPn U)), .int (nI (tEn U)), .ref (ad 6), .ref (ad 7), .ref (ad 8), .ref (ad 9), .ref (ad 10), .ref (ad 11), .ref (ad 12), .ref (ad 13), .ref (ad 14)]))) 10 = _ := (fU_n (by omega)).trans hm10
  have hm11 : (fU M 5 (.inr (7, [.int 0, .int (nI (tHn U)), .int (nI (tPn U)), .int (nI (tEn U)), .ref (ad 6), .ref (ad 7), .ref (ad 8), .ref (ad 9), .ref (ad 10), .ref (ad 11), .ref (ad 12), .ref (ad 13), .ref (ad 14)]))) 11 = _ := (fU_n (by omega)).trans hm11
  have hm12 : (fU M 5 (.inr (7, [.int 0, .int (nI (tHn U)), .int (nI (tPn U)), .int (nI (tEn U)), .ref (ad 6), .ref (ad 7), .ref (ad 8), .ref (ad 9), .ref (ad 10), .ref (ad 11), .ref (ad 12), .ref (ad 13), .ref (ad 14)]))) 12 = _ := (fU_n (by omega)).trans hm12
  have hm13 : (fU M 5 (.inr (7, [.int 0, .int (nI (tHn U)), .int (nI (tPn U)), .int (nI (tEn U)), .ref (ad 6), .ref (ad 7), .ref (ad 8), .ref (ad 9), .ref (ad 10), .ref (ad 11), .ref (ad 12), .ref (ad 13), .ref (ad 14)]))) 13 = _ := (fU_n (by omega)).trans hm13
  have hm14 : (fU M 5 (.inr (7, [.int 0, .int (nI (tHn U)), .int (nI (tPn U)), .int (nI (tEn U)), .ref (ad 6), .ref (ad 7), .ref (ad 8), .ref (ad 9), .ref (ad 10), .ref (ad 11), .ref (ad 12), .ref (ad 13), .ref (ad 14)]))) 14 = _ := (fU_n (by omega)).trans hm14
  have hM : isMo g ad (fU M 5 (.inr (7, [.int 0, .int (nI (tHn U)), .int (nI (tPn U)), .int (nI (tEn U)), .ref (ad 6), .ref (ad 7), .ref (ad 8), .ref (ad 9), .ref (ad 10), .ref (ad 11), .ref (ad 12), .ref (ad 13), .ref (ad 14)]))) 0 U sp ca := ⟨pcs, wa, ht, et, mi, co, as, hMo, ⟨hm6, hm7, hm8, hm9, hm10, hm11, hm12, hm13, hm14⟩, hRel, hCnt⟩
  have hrA : fReg 5 15 ad Mo ad (fU M 5 (.inr (7, [.int 0, .int (nI (tHn U)), .int (nI (tPn U)), .int (nI (tEn U)), .ref (ad 6), .ref (ad 7), .ref (ad 8), .ref (ad 9), .ref (ad 10), .ref (ad 11), .ref (ad 12), .ref (ad 13), .ref (ad 14)]))) := fReg_U hrA (by omega)
  obtain ⟨M25, eM25⟩ : ∃ z, z = (fU M 5 (.inr (7, [.int 0, .int (nI (tHn U)), .int (nI (tPn U)), .int (nI (tEn U)), .ref (ad 6), .ref (ad 7), .ref (ad 8), .ref (ad 9), .ref (ad 10), .ref (ad 11), .ref (ad 12), .ref (ad 13), .ref (ad 14)]))) := ⟨_, rfl⟩
  rw [← eM25] at hM hw hrA
  obtain ⟨pcs, wa, ht, et, mi, co, as, hMo, ⟨hm6, hm7, hm8, hm9, hm10, hm11, hm12, hm13, hm14⟩, hRel, hCnt⟩ := id hM
  obtain ⟨hn1, hn2, hn3⟩ := id hCnt
  have hn1 : tHn U ≤ 30 := hn1
  have hn2 : tPn U ≤ 6 := hn2
  have hn3 : tEn U ≤ 6 := hn3
  have hMo : M25 5 = some (.inr (7, [.int 0, .int (nI (tHn U)), .int (nI (tPn U)), .int (nI (tEn U)), .ref (ad 6), .ref (ad 7), .ref (ad 8), .ref (ad 9), .ref (ad 10), .ref (ad 11), .ref (ad 12), .ref (ad 13), .ref (ad 14)])) := hMo
  obtain ⟨rH, rP, rE, rM⟩ := id hRel
  refine lv_aload_n hx hb dX6_engine_5 rfl (lv_at hl 0 rfl) ?_
  refine lv_iload_n hx hb dX6_engine_6 rfl (lv_at hl 1 rfl) ?_
  refine fk_di (fcV X hw (c_m_isEngine l g ad M25 hM (nI j)) hMo rfl wq928 kVX6_isEngine ⟨(Nat.le_of_ble_eq_true rfl), (Nat.le_of_ble_eq_true rfl)⟩ rfl hl.1 rfl (Nat.le_of_ble_eq_true rfl) dX6_engine_7 ⟨Nat.le_refl _, Nat.le_refl _⟩) hw (fun H locs hw => ?_)
  refine lv_if_eq (tgt := 32) hx hb dX6_engine_10 (by decide) (fun c_1 => absurd (bI_f.mp c_1) (by rw [hxj]; decide)) (fun c_1 => ?_)
  have c_1 := bI_nf.mp c_1
  refine lv_iload_n hx hb dX6_engine_13 rfl (lv_at hl 2 rfl) ?_
  refine lv_iconst (v := 0) hx hb dX6_engine_14 (by decide) ?_
  refine lv_bipush (v := 9) hx hb dX6_engine_15 (by decide) ?_
  refine fk_di (fcS X hw (c_isIn l g ad M25 (what) 0 9) wq846 kSX6_isIn ⟨(Nat.le_of_ble_eq_true rfl), (Nat.le_of_ble_eq_true rfl)⟩ rfl hl.1 rfl (Nat.le_of_ble_eq_true rfl) dX6_engine_17 ⟨Nat.le_refl _, Nat.le_refl _⟩) hw (fun H locs hw => ?_)
  refine lv_if_eq (tgt := 32) hx hb dX6_engine_20 (by decide) (fun c_2 => ?_) (fun c_2 => absurd (bI_nf.mp c_2) (f_false h2))
  have c_2 := bI_f.mp c_2
  refine lv_aload_n hx hb dX6_engine_32 rfl (lv_at hl 0 rfl) ?_
  refine lv_iconst (v := 1) hx hb dX6_engine_33 (by decide) ?_
  refine fk_mi (fcV X hw (c_fail l g ad M25 hM 1) hMo rfl wq849 kVX6_fail ⟨(Nat.le_of_ble_eq_true rfl), (Nat.le_of_ble_eq_true rfl)⟩ rfl hl.1 rfl (Nat.le_of_ble_eq_true rfl) dX6_engine_34 ⟨Nat.le_refl _, Nat.le_refl _⟩) hw (fun M26 H locs hM hr26 hw => ?_)
  have hrA := fReg_tr hrA hr26
  rw [hQ9, ← hMq]
  exact f_iret X hw ⟨rfl, hM, hrA, rfl⟩ (Nat.le_refl _) (Nat.le_refl _) dX6_engine_37
set_option maxHeartbeats 4000000 in
set_option maxRecDepth 100000 in
theorem c_m_engine (l : Launch) (g : fG) (ad : Nat → Nat) (M : fM) {th : Int32} {U : fTn} {sp ca : Nat → Int32} (hM : isMo g ad M th U sp ca) {j k : Nat} (hj : j < tEn U) (h2 : inR (nI k) 0 9 = true) (hk : k < 10) : fCi l g yX6_engine cX6_engine 3 ((some .int)) 7 170 0 0 ad M [.ref (ad 5), .int (nI j), .int (nI k)] (fMi g ad M 0 (U) sp ca (mTell U (tE U j) k)) := by
  refine f_body (own := RX6) (by decide +kernel) rfl (Nat.le_of_ble_eq_true rfl) ?_
  intro p e s m args below meth c ls X hw hin hl
  have hx := X.1
  have hb := X.2.1
  have hl : lv_has ls 3 [(0, .ref (ad 5)), (1, .int (nI j)), (2, .int (nI k))] := hl
  obtain ⟨pcs, wa, ht, et, mi, co, as, hMo, ⟨hm6, hm7, hm8, hm9, hm10, hm11, hm12, hm13, hm14⟩, hRel, hCnt⟩ := id hM
  obtain ⟨hn1, hn2, hn3⟩ := id hCnt
  have hn1 : tHn U ≤ 30 := hn1
  have hn2 : tPn U ≤ 6 := hn2
  have hn3 : tEn U ≤ 6 := hn3
  have hMo : M 5 = some (.inr (7, [.int th, .int (nI (tHn U)), .int (nI (tPn U)), .int (nI (tEn U)), .ref (ad 6), .ref (ad 7), .ref (ad 8), .ref (ad 9), .ref (ad 10), .ref (ad 11), .ref (ad 12), .ref (ad 13), .ref (ad 14)])) := hMo
  obtain ⟨rH, rP, rE, rM⟩ := id hRel
  have hxj : isIx (tEn U) (nI j) = true := isIx_nI hj (by omega)
  obtain ⟨Mo, hMq⟩ : ∃ z, z = M := ⟨_, rfl⟩
  have hrA : fReg 5 15 ad Mo ad M := by rw [hMq]; exact fReg_rf
  obtain ⟨Q9, hQ9⟩ : ∃ z, z = MQ below (fQi g (fMi g ad M 0 (U) sp ca (mTell U (tE U j) k))) args s 0 0 (fA g) := ⟨_, rfl⟩
  show W p l e (fR 7 170 0 0) s m args below meth c _ _ 0 0 (MQ below (fQi g (fMi g ad M 0 (U) sp ca (mTell U (tE U j) k))) args s 0 0 (fA g)) (F0 m 0 ls [])
  rw [← hQ9]
  refine lv_aload_n hx hb dX6_engine_0 rfl (lv_at hl 0 rfl) ?_
  refine lv_iconst (v := 0) hx hb dX6_engine_1 (by decide) ?_
  refine f_put X hw hMo fc7 0 (by decide) wq794 rfl rfl (v := .int 0) rfl rfl (Nat.le_of_ble_eq_true rfl) dX6_engine_2 (fun H locs hw => ?_)
  have hw : fw g ad (fU M 5 (.inr (7, [.int 0, .int (nI (tHn U)), .int (nI (tPn U)), .int (nI (tEn U)), .ref (ad 6), .ref (ad 7), .ref (ad 8), .ref (ad 9), .ref (ad 10), .ref (ad 11), .ref (ad 12), .ref (ad 13), .ref (ad 14)]))) s H locs := hw
  have hMo : (fU M 5 (.inr (7, [.int 0, .int (nI (tHn U)), .int (nI (tPn U)), .int (nI (tEn U)), .ref (ad 6), .ref (ad 7), .ref (ad 8), .ref (ad 9), .ref (ad 10), .ref (ad 11), .ref (ad 12), .ref (ad 13), .ref (ad 14)]))) 5 = some (.inr (7, [.int 0, .int (nI (tHn U)), .int (nI (tPn U)), .int (nI (tEn U)), .ref (ad 6), .ref (ad 7), .ref (ad 8), .ref (ad 9), .ref (ad 10), .ref (ad 11), .ref (ad 12), .ref (ad 13), .ref (ad 14)])) := fU_s
  have hm6 : (fU M 5 (.inr (7, [.int 0, .int (nI (tHn U)), .int (nI (tPn U)), .int (nI (tEn U)), .ref (ad 6), .ref (ad 7), .ref (ad 8), .ref (ad 9), .ref (ad 10), .ref (ad 11), .ref (ad 12), .ref (ad 13), .ref (ad 14)]))) 6 = _ := (fU_n (by omega)).trans hm6
  have hm7 : (fU M 5 (.inr (7, [.int 0, .int (nI (tHn U)), .int (nI (tPn U)), .int (nI (tEn U)), .ref (ad 6), .ref (ad 7), .ref (ad 8), .ref (ad 9), .ref (ad 10), .ref (ad 11), .ref (ad 12), .ref (ad 13), .ref (ad 14)]))) 7 = _ := (fU_n (by omega)).trans hm7
  have hm8 : (fU M 5 (.inr (7, [.int 0, .int (nI (tHn U)), .int (nI (tPn U)), .int (nI (tEn U)), .ref (ad 6), .ref (ad 7), .ref (ad 8), .ref (ad 9), .ref (ad 10), .ref (ad 11), .ref (ad 12), .ref (ad 13), .ref (ad 14)]))) 8 = _ := (fU_n (by omega)).trans hm8
  have hm9 : (fU M 5 (.inr (7, [.int 0, .int (nI (tHn U)), .int (nI (tPn U)), .int (nI (tEn U)), .ref (ad 6), .ref (ad 7), .ref (ad 8), .ref (ad 9), .ref (ad 10), .ref (ad 11), .ref (ad 12), .ref (ad 13), .ref (ad 14)]))) 9 = _ := (fU_n (by omega)).trans hm9
  have hm10 : (fU M 5 (.inr (7, [.int 0, .int (nI (tHn U)), .int (nI (tPn U)), .int (nI (tEn U)), .ref (ad 6), .ref (ad 7), .ref (ad 8), .ref (ad 9), .ref (ad 10), .ref (ad 11), .ref (ad 12), .ref (ad 13), .ref (ad 14)]))) 10 = _ := (fU_n (by omega)).trans hm10
  have hm11 : (fU M 5 (.inr (7, [.int 0, .int (nI (tHn U)), .int (nI (tPn U)), .int (nI (tEn U)), .ref (ad 6), .ref (ad 7), .ref (ad 8), .ref (ad 9), .ref (ad 10), .ref (ad 11), .ref (ad 12), .ref (ad 13), .ref (ad 14)]))) 11 = _ := (fU_n (by omega)).trans hm11
  have hm12 : (fU M 5 (.inr (7, [.int 0, .int (nI (tHn U)), .int (nI (tPn U)), .int (nI (tEn U)), .ref (ad 6), .ref (ad 7), .ref (ad 8), .ref (ad 9), .ref (ad 10), .ref (ad 11), .ref (ad 12), .ref (ad 13), .ref (ad 14)]))) 12 = _ := (fU_n (by omega)).trans hm12
  have hm13 : (fU M 5 (.inr (7, [.int 0, .int (nI (tHn U)), .int (nI (tPn U)), .int (nI (tEn U)), .ref (ad 6), .ref (ad 7), .ref (ad 8), .ref (ad 9), .ref (ad 10), .ref (ad 11), .ref (ad 12), .ref (ad 13), .ref (ad 14)]))) 13 = _ := (fU_n (by omega)).trans hm13
  have hm14 : (fU M 5 (.inr (7, [.int 0, .int (nI (tHn U)), .int (nI (tPn U)), .int (nI (tEn U)), .ref (ad 6), .ref (ad 7), .ref (ad 8), .ref (ad 9), .ref (ad 10), .ref (ad 11), .ref (ad 12), .ref (ad 13), .ref (ad 14)]))) 14 = _ := (fU_n (by omega)).trans hm14
  have hM : isMo g ad (fU M 5 (.inr (7, [.int 0, .int (nI (tHn U)), .int (nI (tPn U)), .int (nI (tEn U)), .ref (ad 6), .ref (ad 7), .ref (ad 8), .ref (ad 9), .ref (ad 10), .ref (ad 11), .ref (ad 12), .ref (ad 13), .ref (ad 14)]))) 0 U sp ca := ⟨pcs, wa, ht, et, mi, co, as, hMo, ⟨hm6, hm7, hm8, hm9, hm10, hm11, hm12, hm13, hm14⟩, hRel, hCnt⟩
  have hrA : fReg 5 15 ad Mo ad (fU M 5 (.inr (7, [.int 0, .int (nI (tHn U)), .int (nI (tPn U)), .int (nI (tEn U)), .ref (ad 6), .ref (ad 7), .ref (ad 8), .ref (ad 9), .ref (ad 10), .ref (ad 11), .ref (ad 12), .ref (ad 13), .ref (ad 14)]))) := fReg_U hrA (by omega)
  obtain ⟨M27, eM27⟩ : ∃ z, z = (fU M 5 (.inr (7, [.int 0, .int (nI (tHn U)), .int (nI (tPn U)), .int (nI (tEn U)), .ref (ad 6), .ref (ad 7), .ref (ad 8), .ref (ad 9), .ref (ad 10), .ref (ad 11), .ref (ad 12), .ref (ad 13), .ref (ad 14)]))) := ⟨_, rfl⟩
  rw [← eM27] at hM hw hrA
  obtain ⟨pcs, wa, ht, et, mi, co, as, hMo, ⟨hm6, hm7, hm8, hm9, hm10, hm11, hm12, hm13, hm14⟩, hRel, hCnt⟩ := id hM
  obtain ⟨hn1, hn2, hn3⟩ := id hCnt
  have hn1 : tHn U ≤ 30 := hn1
  have hn2 : tPn U ≤ 6 := hn2
  have hn3 : tEn U ≤ 6 := hn3
  have hMo : M27 5 = some (.inr (7, [.int 0, .int (nI (tHn U)), .int (nI (tPn U)), .int (nI (tEn U)), .ref (ad 6), .ref (ad 7), .ref (ad 8), .ref (ad 9), .ref (ad 10), .ref (ad 11), .ref (ad 12), .ref (ad 13), .ref (ad 14)])) := hMo
  obtain ⟨rH, rP, rE, rM⟩ := id hRel
  refine lv_aload_n hx hb dX6_engine_5 rfl (lv_at hl 0 rfl) ?_
  refine lv_iload_n hx hb dX6_engine_6 rfl (lv_at hl 1 rfl) ?_
  refine fk_di (fcV X hw (c_m_isEngine l g ad M27 hM (nI j)) hMo rfl wq928 kVX6_isEngine ⟨(Nat.le_of_ble_eq_true rfl), (Nat.le_of_ble_eq_true rfl)⟩ rfl hl.1 rfl (Nat.le_of_ble_eq_true rfl) dX6_engine_7 ⟨Nat.le_refl _, Nat.le_refl _⟩) hw (fun H locs hw => ?_)
  refine lv_if_eq (tgt := 32) hx hb dX6_engine_10 (by decide) (fun c_1 => absurd (bI_f.mp c_1) (by rw [hxj]; decide)) (fun c_1 => ?_)
  have c_1 := bI_nf.mp c_1
  refine lv_iload_n hx hb dX6_engine_13 rfl (lv_at hl 2 rfl) ?_
  refine lv_iconst (v := 0) hx hb dX6_engine_14 (by decide) ?_
  refine lv_bipush (v := 9) hx hb dX6_engine_15 (by decide) ?_
  refine fk_di (fcS X hw (c_isIn l g ad M27 (nI k) 0 9) wq846 kSX6_isIn ⟨(Nat.le_of_ble_eq_true rfl), (Nat.le_of_ble_eq_true rfl)⟩ rfl hl.1 rfl (Nat.le_of_ble_eq_true rfl) dX6_engine_17 ⟨Nat.le_refl _, Nat.le_refl _⟩) hw (fun H locs hw => ?_)
  refine lv_if_eq (tgt := 32) hx hb dX6_engine_20 (by decide) (fun c_2 => absurd (bI_f.mp c_2) (by rw [h2]; decide)) (fun c_2 => ?_)
  have c_2 := bI_nf.mp c_2
  refine lv_aload_n hx hb dX6_engine_23 rfl (lv_at hl 0 rfl) ?_
  refine lv_iload_n hx hb dX6_engine_24 rfl (lv_at hl 1 rfl) ?_
  refine lv_iload_n hx hb dX6_engine_25 rfl (lv_at hl 2 rfl) ?_
  refine fk_di (fcV X hw (c_m_told l g ad M27 hM (e0 := j) (k := k) hj hk) hMo rfl wq971 kVX6_engineTold ⟨(Nat.le_of_ble_eq_true rfl), (Nat.le_of_ble_eq_true rfl)⟩ rfl hl.1 rfl (Nat.le_of_ble_eq_true rfl) dX6_engine_26 ⟨Nat.le_refl _, Nat.le_refl _⟩) hw (fun H locs hw => ?_)
  refine lv_goto (tgt := 37) hx hb dX6_engine_29 (by decide) ?_
  rw [hQ9, ← hMq]
  exact f_iret X hw ⟨rfl, hM, hrA, rfl⟩ (Nat.le_refl _) (Nat.le_refl _) dX6_engine_37
set_option maxHeartbeats 4000000 in
set_option maxRecDepth 100000 in
theorem x_m_pond_1 (l : Launch) (g : fG) (ad : Nat → Nat) (M : fM) {th : Int32} {U : fTn} {sp ca : Nat → Int32} (hM : isMo g ad M th U sp ca) {x : Int32} (h0 : isIx (tPn U) x = false) : fCi l g yX6_pond cX6_pond 2 ((some .int)) 7 170 0 0 ad M [.ref (ad 5), .int x] (fMi g ad M 1 U sp ca 0) := by
  refine f_body (own := RX6) (by decide +kernel) rfl (Nat.le_of_ble_eq_true rfl) ?_
  intro p e s m args below meth c ls X hw hin hl
  have hx := X.1
  have hb := X.2.1
  have hl : lv_has ls 2 [(0, .ref (ad 5)), (1, .int x)] := hl
  obtain ⟨pcs, wa, ht, et, mi, co, as, hMo, ⟨hm6, hm7, hm8, hm9, hm10, hm11, hm12, hm13, hm14⟩, hRel, hCnt⟩ := id hM
  obtain ⟨hn1, hn2, hn3⟩ := id hCnt
  have hn1 : tHn U ≤ 30 := hn1
  have hn2 : tPn U ≤ 6 := hn2
  have hn3 : tEn U ≤ 6 := hn3
  have hMo : M 5 = some (.inr (7, [.int th, .int (nI (tHn U)), .int (nI (tPn U)), .int (nI (tEn U)), .ref (ad 6), .ref (ad 7), .ref (ad 8), .ref (ad 9), .ref (ad 10), .ref (ad 11), .ref (ad 12), .ref (ad 13), .ref (ad 14)])) := hMo
  obtain ⟨rH, rP, rE, rM⟩ := id hRel
  have h1 : inR x 0 (nI (tPn U) - 1) = false := by rw [inR_ix (by omega)]; exact h0
  obtain ⟨Mo, hMq⟩ : ∃ z, z = M := ⟨_, rfl⟩
  have hrA : fReg 5 15 ad Mo ad M := by rw [hMq]; exact fReg_rf
  obtain ⟨Q9, hQ9⟩ : ∃ z, z = MQ below (fQi g (fMi g ad M 1 U sp ca 0)) args s 0 0 (fA g) := ⟨_, rfl⟩
  show W p l e (fR 7 170 0 0) s m args below meth c _ _ 0 0 (MQ below (fQi g (fMi g ad M 1 U sp ca 0)) args s 0 0 (fA g)) (F0 m 0 ls [])
  rw [← hQ9]
  refine lv_aload_n hx hb dX6_pond_0 rfl (lv_at hl 0 rfl) ?_
  refine lv_iconst (v := 0) hx hb dX6_pond_1 (by decide) ?_
  refine f_put X hw hMo fc7 0 (by decide) wq794 rfl rfl (v := .int 0) rfl rfl (Nat.le_of_ble_eq_true rfl) dX6_pond_2 (fun H locs hw => ?_)
  have hw : fw g ad (fU M 5 (.inr (7, [.int 0, .int (nI (tHn U)), .int (nI (tPn U)), .int (nI (tEn U)), .ref (ad 6), .ref (ad 7), .ref (ad 8), .ref (ad 9), .ref (ad 10), .ref (ad 11), .ref (ad 12), .ref (ad 13), .ref (ad 14)]))) s H locs := hw
  have hMo : (fU M 5 (.inr (7, [.int 0, .int (nI (tHn U)), .int (nI (tPn U)), .int (nI (tEn U)), .ref (ad 6), .ref (ad 7), .ref (ad 8), .ref (ad 9), .ref (ad 10), .ref (ad 11), .ref (ad 12), .ref (ad 13), .ref (ad 14)]))) 5 = some (.inr (7, [.int 0, .int (nI (tHn U)), .int (nI (tPn U)), .int (nI (tEn U)), .ref (ad 6), .ref (ad 7), .ref (ad 8), .ref (ad 9), .ref (ad 10), .ref (ad 11), .ref (ad 12), .ref (ad 13), .ref (ad 14)])) := fU_s
  have hm6 : (fU M 5 (.inr (7, [.int 0, .int (nI (tHn U)), .int (nI (tPn U)), .int (nI (tEn U)), .ref (ad 6), .ref (ad 7), .ref (ad 8), .ref (ad 9), .ref (ad 10), .ref (ad 11), .ref (ad 12), .ref (ad 13), .ref (ad 14)]))) 6 = _ := (fU_n (by omega)).trans hm6
  have hm7 : (fU M 5 (.inr (7, [.int 0, .int (nI (tHn U)), .int (nI (tPn U)), .int (nI (tEn U)), .ref (ad 6), .ref (ad 7), .ref (ad 8), .ref (ad 9), .ref (ad 10), .ref (ad 11), .ref (ad 12), .ref (ad 13), .ref (ad 14)]))) 7 = _ := (fU_n (by omega)).trans hm7
  have hm8 : (fU M 5 (.inr (7, [.int 0, .int (nI (tHn U)), .int (nI (tPn U)), .int (nI (tEn U)), .ref (ad 6), .ref (ad 7), .ref (ad 8), .ref (ad 9), .ref (ad 10), .ref (ad 11), .ref (ad 12), .ref (ad 13), .ref (ad 14)]))) 8 = _ := (fU_n (by omega)).trans hm8
  have hm9 : (fU M 5 (.inr (7, [.int 0, .int (nI (tHn U)), .int (nI (tPn U)), .int (nI (tEn U)), .ref (ad 6), .ref (ad 7), .ref (ad 8), .ref (ad 9), .ref (ad 10), .ref (ad 11), .ref (ad 12), .ref (ad 13), .ref (ad 14)]))) 9 = _ := (fU_n (by omega)).trans hm9
  have hm10 : (fU M 5 (.inr (7, [.int 0, .int (nI (tHn U)), .int (nI (tPn U)), .int (nI (tEn U)), .ref (ad 6), .ref (ad 7), .ref (ad 8), .ref (ad 9), .ref (ad 10), .ref (ad 11), .ref (ad 12), .ref (ad 13), .ref (ad 14)]))) 10 = _ := (fU_n (by omega)).trans hm10
  have hm11 : (fU M 5 (.inr (7, [.int 0, .int (nI (tHn U)), .int (nI (tPn U)), .int (nI (tEn U)), .ref (ad 6), .ref (ad 7), .ref (ad 8), .ref (ad 9), .ref (ad 10), .ref (ad 11), .ref (ad 12), .ref (ad 13), .ref (ad 14)]))) 11 = _ := (fU_n (by omega)).trans hm11
  have hm12 : (fU M 5 (.inr (7, [.int 0, .int (nI (tHn U)), .int (nI (tPn U)), .int (nI (tEn U)), .ref (ad 6), .ref (ad 7), .ref (ad 8), .ref (ad 9), .ref (ad 10), .ref (ad 11), .ref (ad 12), .ref (ad 13), .ref (ad 14)]))) 12 = _ := (fU_n (by omega)).trans hm12
  have hm13 : (fU M 5 (.inr (7, [.int 0, .int (nI (tHn U)), .int (nI (tPn U)), .int (nI (tEn U)), .ref (ad 6), .ref (ad 7), .ref (ad 8), .ref (ad 9), .ref (ad 10), .ref (ad 11), .ref (ad 12), .ref (ad 13), .ref (ad 14)]))) 13 = _ := (fU_n (by omega)).trans hm13
  have hm14 : (fU M 5 (.inr (7, [.int 0, .int (nI (tHn U)), .int (nI (tPn U)), .int (nI (tEn U)), .ref (ad 6), .ref (ad 7), .ref (ad 8), .ref (ad 9), .ref (ad 10), .ref (ad 11), .ref (ad 12), .ref (ad 13), .ref (ad 14)]))) 14 = _ := (fU_n (by omega)).trans hm14
  have hM : isMo g ad (fU M 5 (.inr (7, [.int 0, .int (nI (tHn U)), .int (nI (tPn U)), .int (nI (tEn U)), .ref (ad 6), .ref (ad 7), .ref (ad 8), .ref (ad 9), .ref (ad 10), .ref (ad 11), .ref (ad 12), .ref (ad 13), .ref (ad 14)]))) 0 U sp ca := ⟨pcs, wa, ht, et, mi, co, as, hMo, ⟨hm6, hm7, hm8, hm9, hm10, hm11, hm12, hm13, hm14⟩, hRel, hCnt⟩
  have hrA : fReg 5 15 ad Mo ad (fU M 5 (.inr (7, [.int 0, .int (nI (tHn U)), .int (nI (tPn U)), .int (nI (tEn U)), .ref (ad 6), .ref (ad 7), .ref (ad 8), .ref (ad 9), .ref (ad 10), .ref (ad 11), .ref (ad 12), .ref (ad 13), .ref (ad 14)]))) := fReg_U hrA (by omega)
  obtain ⟨M28, eM28⟩ : ∃ z, z = (fU M 5 (.inr (7, [.int 0, .int (nI (tHn U)), .int (nI (tPn U)), .int (nI (tEn U)), .ref (ad 6), .ref (ad 7), .ref (ad 8), .ref (ad 9), .ref (ad 10), .ref (ad 11), .ref (ad 12), .ref (ad 13), .ref (ad 14)]))) := ⟨_, rfl⟩
  rw [← eM28] at hM hw hrA
  obtain ⟨pcs, wa, ht, et, mi, co, as, hMo, ⟨hm6, hm7, hm8, hm9, hm10, hm11, hm12, hm13, hm14⟩, hRel, hCnt⟩ := id hM
  obtain ⟨hn1, hn2, hn3⟩ := id hCnt
  have hn1 : tHn U ≤ 30 := hn1
  have hn2 : tPn U ≤ 6 := hn2
  have hn3 : tEn U ≤ 6 := hn3
  have hMo : M28 5 = some (.inr (7, [.int 0, .int (nI (tHn U)), .int (nI (tPn U)), .int (nI (tEn U)), .ref (ad 6), .ref (ad 7), .ref (ad 8), .ref (ad 9), .ref (ad 10), .ref (ad 11), .ref (ad 12), .ref (ad 13), .ref (ad 14)])) := hMo
  obtain ⟨rH, rP, rE, rM⟩ := id hRel
  refine lv_iload_n hx hb dX6_pond_5 rfl (lv_at hl 1 rfl) ?_
  refine lv_iconst (v := 0) hx hb dX6_pond_6 (by decide) ?_
  refine lv_aload_n hx hb dX6_pond_7 rfl (lv_at hl 0 rfl) ?_
  refine f_get X hw hMo fc7 2 (by decide) wq796 rfl (v := .int (nI (tPn U))) rfl dX6_pond_8 ?_
  refine lv_iconst (v := 1) hx hb dX6_pond_11 (by decide) ?_
  refine lv_isub hx hb dX6_pond_12 ?_
  refine fk_di (fcS X hw (c_isIn l g ad M28 (x) 0 (nI (tPn U) - 1)) wq846 kSX6_isIn ⟨(Nat.le_of_ble_eq_true rfl), (Nat.le_of_ble_eq_true rfl)⟩ rfl hl.1 rfl (Nat.le_of_ble_eq_true rfl) dX6_pond_13 ⟨Nat.le_refl _, Nat.le_refl _⟩) hw (fun H locs hw => ?_)
  refine lv_if_eq (tgt := 28) hx hb dX6_pond_16 (by decide) (fun c_1 => ?_) (fun c_1 => absurd (bI_nf.mp c_1) (f_false h1))
  have c_1 := bI_f.mp c_1
  refine lv_aload_n hx hb dX6_pond_28 rfl (lv_at hl 0 rfl) ?_
  refine lv_iconst (v := 1) hx hb dX6_pond_29 (by decide) ?_
  refine fk_mi (fcV X hw (c_fail l g ad M28 hM 1) hMo rfl wq849 kVX6_fail ⟨(Nat.le_of_ble_eq_true rfl), (Nat.le_of_ble_eq_true rfl)⟩ rfl hl.1 rfl (Nat.le_of_ble_eq_true rfl) dX6_pond_30 ⟨Nat.le_refl _, Nat.le_refl _⟩) hw (fun M29 H locs hM hr29 hw => ?_)
  have hrA := fReg_tr hrA hr29
  rw [hQ9, ← hMq]
  exact f_iret X hw ⟨rfl, hM, hrA, rfl⟩ (Nat.le_refl _) (Nat.le_refl _) dX6_pond_33
set_option maxHeartbeats 4000000 in
set_option maxRecDepth 100000 in
theorem c_m_pond (l : Launch) (g : fG) (ad : Nat → Nat) (M : fM) {th : Int32} {U : fTn} {sp ca : Nat → Int32} (hM : isMo g ad M th U sp ca) {j : Nat} (hj : j < tPn U) : fCi l g yX6_pond cX6_pond 2 ((some .int)) 7 170 0 0 ad M [.ref (ad 5), .int (nI j)] (fMi g ad M 0 (U) sp ca (tP U j 1)) := by
  refine f_body (own := RX6) (by decide +kernel) rfl (Nat.le_of_ble_eq_true rfl) ?_
  intro p e s m args below meth c ls X hw hin hl
  have hx := X.1
  have hb := X.2.1
  have hl : lv_has ls 2 [(0, .ref (ad 5)), (1, .int (nI j))] := hl
  obtain ⟨pcs, wa, ht, et, mi, co, as, hMo, ⟨hm6, hm7, hm8, hm9, hm10, hm11, hm12, hm13, hm14⟩, hRel, hCnt⟩ := id hM
  obtain ⟨hn1, hn2, hn3⟩ := id hCnt
  have hn1 : tHn U ≤ 30 := hn1
  have hn2 : tPn U ≤ 6 := hn2
  have hn3 : tEn U ≤ 6 := hn3
  have hMo : M 5 = some (.inr (7, [.int th, .int (nI (tHn U)), .int (nI (tPn U)), .int (nI (tEn U)), .ref (ad 6), .ref (ad 7), .ref (ad 8), .ref (ad 9), .ref (ad 10), .ref (ad 11), .ref (ad 12), .ref (ad 13), .ref (ad 14)])) := hMo
  obtain ⟨rH, rP, rE, rM⟩ := id hRel
  have h1 : inR (nI j) 0 (nI (tPn U) - 1) = true := by rw [inR_ix (by omega)]; exact isIx_nI hj (by omega)
  obtain ⟨Mo, hMq⟩ : ∃ z, z = M := ⟨_, rfl⟩
  have hrA : fReg 5 15 ad Mo ad M := by rw [hMq]; exact fReg_rf
  obtain ⟨Q9, hQ9⟩ : ∃ z, z = MQ below (fQi g (fMi g ad M 0 (U) sp ca (tP U j 1))) args s 0 0 (fA g) := ⟨_, rfl⟩
  show W p l e (fR 7 170 0 0) s m args below meth c _ _ 0 0 (MQ below (fQi g (fMi g ad M 0 (U) sp ca (tP U j 1))) args s 0 0 (fA g)) (F0 m 0 ls [])
  rw [← hQ9]
  refine lv_aload_n hx hb dX6_pond_0 rfl (lv_at hl 0 rfl) ?_
  refine lv_iconst (v := 0) hx hb dX6_pond_1 (by decide) ?_
  refine f_put X hw hMo fc7 0 (by decide) wq794 rfl rfl (v := .int 0) rfl rfl (Nat.le_of_ble_eq_true rfl) dX6_pond_2 (fun H locs hw => ?_)
  have hw : fw g ad (fU M 5 (.inr (7, [.int 0, .int (nI (tHn U)), .int (nI (tPn U)), .int (nI (tEn U)), .ref (ad 6), .ref (ad 7), .ref (ad 8), .ref (ad 9), .ref (ad 10), .ref (ad 11), .ref (ad 12), .ref (ad 13), .ref (ad 14)]))) s H locs := hw
  have hMo : (fU M 5 (.inr (7, [.int 0, .int (nI (tHn U)), .int (nI (tPn U)), .int (nI (tEn U)), .ref (ad 6), .ref (ad 7), .ref (ad 8), .ref (ad 9), .ref (ad 10), .ref (ad 11), .ref (ad 12), .ref (ad 13), .ref (ad 14)]))) 5 = some (.inr (7, [.int 0, .int (nI (tHn U)), .int (nI (tPn U)), .int (nI (tEn U)), .ref (ad 6), .ref (ad 7), .ref (ad 8), .ref (ad 9), .ref (ad 10), .ref (ad 11), .ref (ad 12), .ref (ad 13), .ref (ad 14)])) := fU_s
  have hm6 : (fU M 5 (.inr (7, [.int 0, .int (nI (tHn U)), .int (nI (tPn U)), .int (nI (tEn U)), .ref (ad 6), .ref (ad 7), .ref (ad 8), .ref (ad 9), .ref (ad 10), .ref (ad 11), .ref (ad 12), .ref (ad 13), .ref (ad 14)]))) 6 = _ := (fU_n (by omega)).trans hm6
  have hm7 : (fU M 5 (.inr (7, [.int 0, .int (nI (tHn U)), .int (nI (tPn U)), .int (nI (tEn U)), .ref (ad 6), .ref (ad 7), .ref (ad 8), .ref (ad 9), .ref (ad 10), .ref (ad 11), .ref (ad 12), .ref (ad 13), .ref (ad 14)]))) 7 = _ := (fU_n (by omega)).trans hm7
  have hm8 : (fU M 5 (.inr (7, [.int 0, .int (nI (tHn U)), .int (nI (tPn U)), .int (nI (tEn U)), .ref (ad 6), .ref (ad 7), .ref (ad 8), .ref (ad 9), .ref (ad 10), .ref (ad 11), .ref (ad 12), .ref (ad 13), .ref (ad 14)]))) 8 = _ := (fU_n (by omega)).trans hm8
  have hm9 : (fU M 5 (.inr (7, [.int 0, .int (nI (tHn U)), .int (nI (tPn U)), .int (nI (tEn U)), .ref (ad 6), .ref (ad 7), .ref (ad 8), .ref (ad 9), .ref (ad 10), .ref (ad 11), .ref (ad 12), .ref (ad 13), .ref (ad 14)]))) 9 = _ := (fU_n (by omega)).trans hm9
  have hm10 : (fU M 5 (.inr (7, [.int 0, .int (nI (tHn U)), .int (nI (tPn U)), .int (nI (tEn U)), .ref (ad 6), .ref (ad 7), .ref (ad 8), .ref (ad 9), .ref (ad 10), .ref (ad 11), .ref (ad 12), .ref (ad 13), .ref (ad 14)]))) 10 = _ := (fU_n (by omega)).trans hm10
  have hm11 : (fU M 5 (.inr (7, [.int 0, .int (nI (tHn U)), .int (nI (tPn U)), .int (nI (tEn U)), .ref (ad 6), .ref (ad 7), .ref (ad 8), .ref (ad 9), .ref (ad 10), .ref (ad 11), .ref (ad 12), .ref (ad 13), .ref (ad 14)]))) 11 = _ := (fU_n (by omega)).trans hm11
  have hm12 : (fU M 5 (.inr (7, [.int 0, .int (nI (tHn U)), .int (nI (tPn U)), .int (nI (tEn U)), .ref (ad 6), .ref (ad 7), .ref (ad 8), .ref (ad 9), .ref (ad 10), .ref (ad 11), .ref (ad 12), .ref (ad 13), .ref (ad 14)]))) 12 = _ := (fU_n (by omega)).trans hm12
  have hm13 : (fU M 5 (.inr (7, [.int 0, .int (nI (tHn U)), .int (nI (tPn U)), .int (nI (tEn U)), .ref (ad 6), .ref (ad 7), .ref (ad 8), .ref (ad 9), .ref (ad 10), .ref (ad 11), .ref (ad 12), .ref (ad 13), .ref (ad 14)]))) 13 = _ := (fU_n (by omega)).trans hm13
  have hm14 : (fU M 5 (.inr (7, [.int 0, .int (nI (tHn U)), .int (nI (tPn U)), .int (nI (tEn U)), .ref (ad 6), .ref (ad 7), .ref (ad 8), .ref (ad 9), .ref (ad 10), .ref (ad 11), .ref (ad 12), .ref (ad 13), .ref (ad 14)]))) 14 = _ := (fU_n (by omega)).trans hm14
  have hM : isMo g ad (fU M 5 (.inr (7, [.int 0, .int (nI (tHn U)), .int (nI (tPn U)), .int (nI (tEn U)), .ref (ad 6), .ref (ad 7), .ref (ad 8), .ref (ad 9), .ref (ad 10), .ref (ad 11), .ref (ad 12), .ref (ad 13), .ref (ad 14)]))) 0 U sp ca := ⟨pcs, wa, ht, et, mi, co, as, hMo, ⟨hm6, hm7, hm8, hm9, hm10, hm11, hm12, hm13, hm14⟩, hRel, hCnt⟩
  have hrA : fReg 5 15 ad Mo ad (fU M 5 (.inr (7, [.int 0, .int (nI (tHn U)), .int (nI (tPn U)), .int (nI (tEn U)), .ref (ad 6), .ref (ad 7), .ref (ad 8), .ref (ad 9), .ref (ad 10), .ref (ad 11), .ref (ad 12), .ref (ad 13), .ref (ad 14)]))) := fReg_U hrA (by omega)
  obtain ⟨M30, eM30⟩ : ∃ z, z = (fU M 5 (.inr (7, [.int 0, .int (nI (tHn U)), .int (nI (tPn U)), .int (nI (tEn U)), .ref (ad 6), .ref (ad 7), .ref (ad 8), .ref (ad 9), .ref (ad 10), .ref (ad 11), .ref (ad 12), .ref (ad 13), .ref (ad 14)]))) := ⟨_, rfl⟩
  rw [← eM30] at hM hw hrA
  obtain ⟨pcs, wa, ht, et, mi, co, as, hMo, ⟨hm6, hm7, hm8, hm9, hm10, hm11, hm12, hm13, hm14⟩, hRel, hCnt⟩ := id hM
  obtain ⟨hn1, hn2, hn3⟩ := id hCnt
  have hn1 : tHn U ≤ 30 := hn1
  have hn2 : tPn U ≤ 6 := hn2
  have hn3 : tEn U ≤ 6 := hn3
  have hMo : M30 5 = some (.inr (7, [.int 0, .int (nI (tHn U)), .int (nI (tPn U)), .int (nI (tEn U)), .ref (ad 6), .ref (ad 7), .ref (ad 8), .ref (ad 9), .ref (ad 10), .ref (ad 11), .ref (ad 12), .ref (ad 13), .ref (ad 14)])) := hMo
  obtain ⟨rH, rP, rE, rM⟩ := id hRel
  refine lv_iload_n hx hb dX6_pond_5 rfl (lv_at hl 1 rfl) ?_
  refine lv_iconst (v := 0) hx hb dX6_pond_6 (by decide) ?_
  refine lv_aload_n hx hb dX6_pond_7 rfl (lv_at hl 0 rfl) ?_
  refine f_get X hw hMo fc7 2 (by decide) wq796 rfl (v := .int (nI (tPn U))) rfl dX6_pond_8 ?_
  refine lv_iconst (v := 1) hx hb dX6_pond_11 (by decide) ?_
  refine lv_isub hx hb dX6_pond_12 ?_
  refine fk_di (fcS X hw (c_isIn l g ad M30 (nI j) 0 (nI (tPn U) - 1)) wq846 kSX6_isIn ⟨(Nat.le_of_ble_eq_true rfl), (Nat.le_of_ble_eq_true rfl)⟩ rfl hl.1 rfl (Nat.le_of_ble_eq_true rfl) dX6_pond_13 ⟨Nat.le_refl _, Nat.le_refl _⟩) hw (fun H locs hw => ?_)
  refine lv_if_eq (tgt := 28) hx hb dX6_pond_16 (by decide) (fun c_1 => absurd (bI_f.mp c_1) (by rw [h1]; decide)) (fun c_1 => ?_)
  have c_1 := bI_nf.mp c_1
  refine lv_aload_n hx hb dX6_pond_19 rfl (lv_at hl 0 rfl) ?_
  refine f_get X hw hMo fc7 5 (by decide) wq799 rfl (v := .ref (ad 7)) rfl dX6_pond_20 ?_
  refine lv_iload_n hx hb dX6_pond_23 rfl (lv_at hl 1 rfl) ?_
  refine f_iald X hw hm7 (vp_in_nI (n := j) (by omega) (by omega)) dX6_pond_24 ?_
  rw [nI_clamp (n := j) (by omega)]
  refine f_top (y := tP U j 1) (rP j hj).2 ?_
  refine lv_goto (tgt := 33) hx hb dX6_pond_25 (by decide) ?_
  rw [hQ9, ← hMq]
  exact f_iret X hw ⟨rfl, hM, hrA, rfl⟩ (Nat.le_refl _) (Nat.le_refl _) dX6_pond_33
set_option maxHeartbeats 4000000 in
set_option maxRecDepth 100000 in
theorem x_m_count_1 (l : Launch) (g : fG) (ad : Nat → Nat) (M : fM) {th : Int32} {U : fTn} {sp ca : Nat → Int32} (hM : isMo g ad M th U sp ca) {w : Int32} (h1 : inR w 0 9 = false) : fCi l g yX6_count cX6_count 2 ((some .int)) 7 170 0 0 ad M [.ref (ad 5), .int w] (fMi g ad M 1 U sp ca 0) := by
  refine f_body (own := RX6) (by decide +kernel) rfl (Nat.le_of_ble_eq_true rfl) ?_
  intro p e s m args below meth c ls X hw hin hl
  have hx := X.1
  have hb := X.2.1
  have hl : lv_has ls 2 [(0, .ref (ad 5)), (1, .int w)] := hl
  obtain ⟨pcs, wa, ht, et, mi, co, as, hMo, ⟨hm6, hm7, hm8, hm9, hm10, hm11, hm12, hm13, hm14⟩, hRel, hCnt⟩ := id hM
  obtain ⟨hn1, hn2, hn3⟩ := id hCnt
  have hn1 : tHn U ≤ 30 := hn1
  have hn2 : tPn U ≤ 6 := hn2
  have hn3 : tEn U ≤ 6 := hn3
  have hMo : M 5 = some (.inr (7, [.int th, .int (nI (tHn U)), .int (nI (tPn U)), .int (nI (tEn U)), .ref (ad 6), .ref (ad 7), .ref (ad 8), .ref (ad 9), .ref (ad 10), .ref (ad 11), .ref (ad 12), .ref (ad 13), .ref (ad 14)])) := hMo
  obtain ⟨rH, rP, rE, rM⟩ := id hRel
  obtain ⟨Mo, hMq⟩ : ∃ z, z = M := ⟨_, rfl⟩
  have hrA : fReg 5 15 ad Mo ad M := by rw [hMq]; exact fReg_rf
  obtain ⟨Q9, hQ9⟩ : ∃ z, z = MQ below (fQi g (fMi g ad M 1 U sp ca 0)) args s 0 0 (fA g) := ⟨_, rfl⟩
  show W p l e (fR 7 170 0 0) s m args below meth c _ _ 0 0 (MQ below (fQi g (fMi g ad M 1 U sp ca 0)) args s 0 0 (fA g)) (F0 m 0 ls [])
  rw [← hQ9]
  refine lv_aload_n hx hb dX6_count_0 rfl (lv_at hl 0 rfl) ?_
  refine lv_iconst (v := 0) hx hb dX6_count_1 (by decide) ?_
  refine f_put X hw hMo fc7 0 (by decide) wq794 rfl rfl (v := .int 0) rfl rfl (Nat.le_of_ble_eq_true rfl) dX6_count_2 (fun H locs hw => ?_)
  have hw : fw g ad (fU M 5 (.inr (7, [.int 0, .int (nI (tHn U)), .int (nI (tPn U)), .int (nI (tEn U)), .ref (ad 6), .ref (ad 7), .ref (ad 8), .ref (ad 9), .ref (ad 10), .ref (ad 11), .ref (ad 12), .ref (ad 13), .ref (ad 14)]))) s H locs := hw
  have hMo : (fU M 5 (.inr (7, [.int 0, .int (nI (tHn U)), .int (nI (tPn U)), .int (nI (tEn U)), .ref (ad 6), .ref (ad 7), .ref (ad 8), .ref (ad 9), .ref (ad 10), .ref (ad 11), .ref (ad 12), .ref (ad 13), .ref (ad 14)]))) 5 = some (.inr (7, [.int 0, .int (nI (tHn U)), .int (nI (tPn U)), .int (nI (tEn U)), .ref (ad 6), .ref (ad 7), .ref (ad 8), .ref (ad 9), .ref (ad 10), .ref (ad 11), .ref (ad 12), .ref (ad 13), .ref (ad 14)])) := fU_s
  have hm6 : (fU M 5 (.inr (7, [.int 0, .int (nI (tHn U)), .int (nI (tPn U)), .int (nI (tEn U)), .ref (ad 6), .ref (ad 7), .ref (ad 8), .ref (ad 9), .ref (ad 10), .ref (ad 11), .ref (ad 12), .ref (ad 13), .ref (ad 14)]))) 6 = _ := (fU_n (by omega)).trans hm6
  have hm7 : (fU M 5 (.inr (7, [.int 0, .int (nI (tHn U)), .int (nI (tPn U)), .int (nI (tEn U)), .ref (ad 6), .ref (ad 7), .ref (ad 8), .ref (ad 9), .ref (ad 10), .ref (ad 11), .ref (ad 12), .ref (ad 13), .ref (ad 14)]))) 7 = _ := (fU_n (by omega)).trans hm7
  have hm8 : (fU M 5 (.inr (7, [.int 0, .int (nI (tHn U)), .int (nI (tPn U)), .int (nI (tEn U)), .ref (ad 6), .ref (ad 7), .ref (ad 8), .ref (ad 9), .ref (ad 10), .ref (ad 11), .ref (ad 12), .ref (ad 13), .ref (ad 14)]))) 8 = _ := (fU_n (by omega)).trans hm8
  have hm9 : (fU M 5 (.inr (7, [.int 0, .int (nI (tHn U)), .int (nI (tPn U)), .int (nI (tEn U)), .ref (ad 6), .ref (ad 7), .ref (ad 8), .ref (ad 9), .ref (ad 10), .ref (ad 11), .ref (ad 12), .ref (ad 13), .ref (ad 14)]))) 9 = _ := (fU_n (by omega)).trans hm9
  have hm10 : (fU M 5 (.inr (7, [.int 0, .int (nI (tHn U)), .int (nI (tPn U)), .int (nI (tEn U)), .ref (ad 6), .ref (ad 7), .ref (ad 8), .ref (ad 9), .ref (ad 10), .ref (ad 11), .ref (ad 12), .ref (ad 13), .ref (ad 14)]))) 10 = _ := (fU_n (by omega)).trans hm10
  have hm11 : (fU M 5 (.inr (7, [.int 0, .int (nI (tHn U)), .int (nI (tPn U)), .int (nI (tEn U)), .ref (ad 6), .ref (ad 7), .ref (ad 8), .ref (ad 9), .ref (ad 10), .ref (ad 11), .ref (ad 12), .ref (ad 13), .ref (ad 14)]))) 11 = _ := (fU_n (by omega)).trans hm11
  have hm12 : (fU M 5 (.inr (7, [.int 0, .int (nI (tHn U)), .int (nI (tPn U)), .int (nI (tEn U)), .ref (ad 6), .ref (ad 7), .ref (ad 8), .ref (ad 9), .ref (ad 10), .ref (ad 11), .ref (ad 12), .ref (ad 13), .ref (ad 14)]))) 12 = _ := (fU_n (by omega)).trans hm12
  have hm13 : (fU M 5 (.inr (7, [.int 0, .int (nI (tHn U)), .int (nI (tPn U)), .int (nI (tEn U)), .ref (ad 6), .ref (ad 7), .ref (ad 8), .ref (ad 9), .ref (ad 10), .ref (ad 11), .ref (ad 12), .ref (ad 13), .ref (ad 14)]))) 13 = _ := (fU_n (by omega)).trans hm13
  have hm14 : (fU M 5 (.inr (7, [.int 0, .int (nI (tHn U)), .int (nI (tPn U)), .int (nI (tEn U)), .ref (ad 6), .ref (ad 7), .ref (ad 8), .ref (ad 9), .ref (ad 10), .ref (ad 11), .ref (ad 12), .ref (ad 13), .ref (ad 14)]))) 14 = _ := (fU_n (by omega)).trans hm14
  have hM : isMo g ad (fU M 5 (.inr (7, [.int 0, .int (nI (tHn U)), .int (nI (tPn U)), .int (nI (tEn U)), .ref (ad 6), .ref (ad 7), .ref (ad 8), .ref (ad 9), .ref (ad 10), .ref (ad 11), .ref (ad 12), .ref (ad 13), .ref (ad 14)]))) 0 U sp ca := ⟨pcs, wa, ht, et, mi, co, as, hMo, ⟨hm6, hm7, hm8, hm9, hm10, hm11, hm12, hm13, hm14⟩, hRel, hCnt⟩
  have hrA : fReg 5 15 ad Mo ad (fU M 5 (.inr (7, [.int 0, .int (nI (tHn U)), .int (nI (tPn U)), .int (nI (tEn U)), .ref (ad 6), .ref (ad 7), .ref (ad 8), .ref (ad 9), .ref (ad 10), .ref (ad 11), .ref (ad 12), .ref (ad 13), .ref (ad 14)]))) := fReg_U hrA (by omega)
  obtain ⟨M31, eM31⟩ : ∃ z, z = (fU M 5 (.inr (7, [.int 0, .int (nI (tHn U)), .int (nI (tPn U)), .int (nI (tEn U)), .ref (ad 6), .ref (ad 7), .ref (ad 8), .ref (ad 9), .ref (ad 10), .ref (ad 11), .ref (ad 12), .ref (ad 13), .ref (ad 14)]))) := ⟨_, rfl⟩
  rw [← eM31] at hM hw hrA
  obtain ⟨pcs, wa, ht, et, mi, co, as, hMo, ⟨hm6, hm7, hm8, hm9, hm10, hm11, hm12, hm13, hm14⟩, hRel, hCnt⟩ := id hM
  obtain ⟨hn1, hn2, hn3⟩ := id hCnt
  have hn1 : tHn U ≤ 30 := hn1
  have hn2 : tPn U ≤ 6 := hn2
  have hn3 : tEn U ≤ 6 := hn3
  have hMo : M31 5 = some (.inr (7, [.int 0, .int (nI (tHn U)), .int (nI (tPn U)), .int (nI (tEn U)), .ref (ad 6), .ref (ad 7), .ref (ad 8), .ref (ad 9), .ref (ad 10), .ref (ad 11), .ref (ad 12), .ref (ad 13), .ref (ad 14)])) := hMo
  obtain ⟨rH, rP, rE, rM⟩ := id hRel
  refine lv_iload_n hx hb dX6_count_5 rfl (lv_at hl 1 rfl) ?_
  refine lv_iconst (v := 0) hx hb dX6_count_6 (by decide) ?_
  refine lv_bipush (v := 9) hx hb dX6_count_7 (by decide) ?_
  refine fk_di (fcS X hw (c_isIn l g ad M31 (w) 0 9) wq846 kSX6_isIn ⟨(Nat.le_of_ble_eq_true rfl), (Nat.le_of_ble_eq_true rfl)⟩ rfl hl.1 rfl (Nat.le_of_ble_eq_true rfl) dX6_count_9 ⟨Nat.le_refl _, Nat.le_refl _⟩) hw (fun H locs hw => ?_)
  refine lv_if_eq (tgt := 23) hx hb dX6_count_12 (by decide) (fun c_1 => ?_) (fun c_1 => absurd (bI_nf.mp c_1) (f_false h1))
  have c_1 := bI_f.mp c_1
  refine lv_aload_n hx hb dX6_count_23 rfl (lv_at hl 0 rfl) ?_
  refine lv_iconst (v := 1) hx hb dX6_count_24 (by decide) ?_
  refine fk_mi (fcV X hw (c_fail l g ad M31 hM 1) hMo rfl wq849 kVX6_fail ⟨(Nat.le_of_ble_eq_true rfl), (Nat.le_of_ble_eq_true rfl)⟩ rfl hl.1 rfl (Nat.le_of_ble_eq_true rfl) dX6_count_25 ⟨Nat.le_refl _, Nat.le_refl _⟩) hw (fun M32 H locs hM hr32 hw => ?_)
  have hrA := fReg_tr hrA hr32
  rw [hQ9, ← hMq]
  exact f_iret X hw ⟨rfl, hM, hrA, rfl⟩ (Nat.le_refl _) (Nat.le_refl _) dX6_count_28
set_option maxHeartbeats 4000000 in
set_option maxRecDepth 100000 in
theorem c_m_count (l : Launch) (g : fG) (ad : Nat → Nat) (M : fM) {th : Int32} {U : fTn} {sp ca : Nat → Int32} (hM : isMo g ad M th U sp ca) {w : Int32} (h1 : inR w 0 9 = true) : fCi l g yX6_count cX6_count 2 ((some .int)) 7 170 0 0 ad M [.ref (ad 5), .int w] (fMi g ad M 0 (U) sp ca (tTell U w)) := by
  refine f_body (own := RX6) (by decide +kernel) rfl (Nat.le_of_ble_eq_true rfl) ?_
  intro p e s m args below meth c ls X hw hin hl
  have hx := X.1
  have hb := X.2.1
  have hl : lv_has ls 2 [(0, .ref (ad 5)), (1, .int w)] := hl
  obtain ⟨pcs, wa, ht, et, mi, co, as, hMo, ⟨hm6, hm7, hm8, hm9, hm10, hm11, hm12, hm13, hm14⟩, hRel, hCnt⟩ := id hM
  obtain ⟨hn1, hn2, hn3⟩ := id hCnt
  have hn1 : tHn U ≤ 30 := hn1
  have hn2 : tPn U ≤ 6 := hn2
  have hn3 : tEn U ≤ 6 := hn3
  have hMo : M 5 = some (.inr (7, [.int th, .int (nI (tHn U)), .int (nI (tPn U)), .int (nI (tEn U)), .ref (ad 6), .ref (ad 7), .ref (ad 8), .ref (ad 9), .ref (ad 10), .ref (ad 11), .ref (ad 12), .ref (ad 13), .ref (ad 14)])) := hMo
  obtain ⟨rH, rP, rE, rM⟩ := id hRel
  obtain ⟨Mo, hMq⟩ : ∃ z, z = M := ⟨_, rfl⟩
  have hrA : fReg 5 15 ad Mo ad M := by rw [hMq]; exact fReg_rf
  obtain ⟨Q9, hQ9⟩ : ∃ z, z = MQ below (fQi g (fMi g ad M 0 (U) sp ca (tTell U w))) args s 0 0 (fA g) := ⟨_, rfl⟩
  show W p l e (fR 7 170 0 0) s m args below meth c _ _ 0 0 (MQ below (fQi g (fMi g ad M 0 (U) sp ca (tTell U w))) args s 0 0 (fA g)) (F0 m 0 ls [])
  rw [← hQ9]
  refine lv_aload_n hx hb dX6_count_0 rfl (lv_at hl 0 rfl) ?_
  refine lv_iconst (v := 0) hx hb dX6_count_1 (by decide) ?_
  refine f_put X hw hMo fc7 0 (by decide) wq794 rfl rfl (v := .int 0) rfl rfl (Nat.le_of_ble_eq_true rfl) dX6_count_2 (fun H locs hw => ?_)
  have hw : fw g ad (fU M 5 (.inr (7, [.int 0, .int (nI (tHn U)), .int (nI (tPn U)), .int (nI (tEn U)), .ref (ad 6), .ref (ad 7), .ref (ad 8), .ref (ad 9), .ref (ad 10), .ref (ad 11), .ref (ad 12), .ref (ad 13), .ref (ad 14)]))) s H locs := hw
  have hMo : (fU M 5 (.inr (7, [.int 0, .int (nI (tHn U)), .int (nI (tPn U)), .int (nI (tEn U)), .ref (ad 6), .ref (ad 7), .ref (ad 8), .ref (ad 9), .ref (ad 10), .ref (ad 11), .ref (ad 12), .ref (ad 13), .ref (ad 14)]))) 5 = some (.inr (7, [.int 0, .int (nI (tHn U)), .int (nI (tPn U)), .int (nI (tEn U)), .ref (ad 6), .ref (ad 7), .ref (ad 8), .ref (ad 9), .ref (ad 10), .ref (ad 11), .ref (ad 12), .ref (ad 13), .ref (ad 14)])) := fU_s
  have hm6 : (fU M 5 (.inr (7, [.int 0, .int (nI (tHn U)), .int (nI (tPn U)), .int (nI (tEn U)), .ref (ad 6), .ref (ad 7), .ref (ad 8), .ref (ad 9), .ref (ad 10), .ref (ad 11), .ref (ad 12), .ref (ad 13), .ref (ad 14)]))) 6 = _ := (fU_n (by omega)).trans hm6
  have hm7 : (fU M 5 (.inr (7, [.int 0, .int (nI (tHn U)), .int (nI (tPn U)), .int (nI (tEn U)), .ref (ad 6), .ref (ad 7), .ref (ad 8), .ref (ad 9), .ref (ad 10), .ref (ad 11), .ref (ad 12), .ref (ad 13), .ref (ad 14)]))) 7 = _ := (fU_n (by omega)).trans hm7
  have hm8 : (fU M 5 (.inr (7, [.int 0, .int (nI (tHn U)), .int (nI (tPn U)), .int (nI (tEn U)), .ref (ad 6), .ref (ad 7), .ref (ad 8), .ref (ad 9), .ref (ad 10), .ref (ad 11), .ref (ad 12), .ref (ad 13), .ref (ad 14)]))) 8 = _ := (fU_n (by omega)).trans hm8
  have hm9 : (fU M 5 (.inr (7, [.int 0, .int (nI (tHn U)), .int (nI (tPn U)), .int (nI (tEn U)), .ref (ad 6), .ref (ad 7), .ref (ad 8), .ref (ad 9), .ref (ad 10), .ref (ad 11), .ref (ad 12), .ref (ad 13), .ref (ad 14)]))) 9 = _ := (fU_n (by omega)).trans hm9
  have hm10 : (fU M 5 (.inr (7, [.int 0, .int (nI (tHn U)), .int (nI (tPn U)), .int (nI (tEn U)), .ref (ad 6), .ref (ad 7), .ref (ad 8), .ref (ad 9), .ref (ad 10), .ref (ad 11), .ref (ad 12), .ref (ad 13), .ref (ad 14)]))) 10 = _ := (fU_n (by omega)).trans hm10
  have hm11 : (fU M 5 (.inr (7, [.int 0, .int (nI (tHn U)), .int (nI (tPn U)), .int (nI (tEn U)), .ref (ad 6), .ref (ad 7), .ref (ad 8), .ref (ad 9), .ref (ad 10), .ref (ad 11), .ref (ad 12), .ref (ad 13), .ref (ad 14)]))) 11 = _ := (fU_n (by omega)).trans hm11
  have hm12 : (fU M 5 (.inr (7, [.int 0, .int (nI (tHn U)), .int (nI (tPn U)), .int (nI (tEn U)), .ref (ad 6), .ref (ad 7), .ref (ad 8), .ref (ad 9), .ref (ad 10), .ref (ad 11), .ref (ad 12), .ref (ad 13), .ref (ad 14)]))) 12 = _ := (fU_n (by omega)).trans hm12
  have hm13 : (fU M 5 (.inr (7, [.int 0, .int (nI (tHn U)), .int (nI (tPn U)), .int (nI (tEn U)), .ref (ad 6), .ref (ad 7), .ref (ad 8), .ref (ad 9), .ref (ad 10), .ref (ad 11), .ref (ad 12), .ref (ad 13), .ref (ad 14)]))) 13 = _ := (fU_n (by omega)).trans hm13
  have hm14 : (fU M 5 (.inr (7, [.int 0, .int (nI (tHn U)), .int (nI (tPn U)), .int (nI (tEn U)), .ref (ad 6), .ref (ad 7), .ref (ad 8), .ref (ad 9), .ref (ad 10), .ref (ad 11), .ref (ad 12), .ref (ad 13), .ref (ad 14)]))) 14 = _ := (fU_n (by omega)).trans hm14
  have hM : isMo g ad (fU M 5 (.inr (7, [.int 0, .int (nI (tHn U)), .int (nI (tPn U)), .int (nI (tEn U)), .ref (ad 6), .ref (ad 7), .ref (ad 8), .ref (ad 9), .ref (ad 10), .ref (ad 11), .ref (ad 12), .ref (ad 13), .ref (ad 14)]))) 0 U sp ca := ⟨pcs, wa, ht, et, mi, co, as, hMo, ⟨hm6, hm7, hm8, hm9, hm10, hm11, hm12, hm13, hm14⟩, hRel, hCnt⟩
  have hrA : fReg 5 15 ad Mo ad (fU M 5 (.inr (7, [.int 0, .int (nI (tHn U)), .int (nI (tPn U)), .int (nI (tEn U)), .ref (ad 6), .ref (ad 7), .ref (ad 8), .ref (ad 9), .ref (ad 10), .ref (ad 11), .ref (ad 12), .ref (ad 13), .ref (ad 14)]))) := fReg_U hrA (by omega)
  obtain ⟨M33, eM33⟩ : ∃ z, z = (fU M 5 (.inr (7, [.int 0, .int (nI (tHn U)), .int (nI (tPn U)), .int (nI (tEn U)), .ref (ad 6), .ref (ad 7), .ref (ad 8), .ref (ad 9), .ref (ad 10), .ref (ad 11), .ref (ad 12), .ref (ad 13), .ref (ad 14)]))) := ⟨_, rfl⟩
  rw [← eM33] at hM hw hrA
  obtain ⟨pcs, wa, ht, et, mi, co, as, hMo, ⟨hm6, hm7, hm8, hm9, hm10, hm11, hm12, hm13, hm14⟩, hRel, hCnt⟩ := id hM
  obtain ⟨hn1, hn2, hn3⟩ := id hCnt
  have hn1 : tHn U ≤ 30 := hn1
  have hn2 : tPn U ≤ 6 := hn2
  have hn3 : tEn U ≤ 6 := hn3
  have hMo : M33 5 = some (.inr (7, [.int 0, .int (nI (tHn U)), .int (nI (tPn U)), .int (nI (tEn U)), .ref (ad 6), .ref (ad 7), .ref (ad 8), .ref (ad 9), .ref (ad 10), .ref (ad 11), .ref (ad 12), .ref (ad 13), .ref (ad 14)])) := hMo
  obtain ⟨rH, rP, rE, rM⟩ := id hRel
  refine lv_iload_n hx hb dX6_count_5 rfl (lv_at hl 1 rfl) ?_
  refine lv_iconst (v := 0) hx hb dX6_count_6 (by decide) ?_
  refine lv_bipush (v := 9) hx hb dX6_count_7 (by decide) ?_
  refine fk_di (fcS X hw (c_isIn l g ad M33 (w) 0 9) wq846 kSX6_isIn ⟨(Nat.le_of_ble_eq_true rfl), (Nat.le_of_ble_eq_true rfl)⟩ rfl hl.1 rfl (Nat.le_of_ble_eq_true rfl) dX6_count_9 ⟨Nat.le_refl _, Nat.le_refl _⟩) hw (fun H locs hw => ?_)
  refine lv_if_eq (tgt := 23) hx hb dX6_count_12 (by decide) (fun c_1 => absurd (bI_f.mp c_1) (by rw [h1]; decide)) (fun c_1 => ?_)
  have c_1 := bI_nf.mp c_1
  refine lv_aload_n hx hb dX6_count_15 rfl (lv_at hl 0 rfl) ?_
  refine lv_iload_n hx hb dX6_count_16 rfl (lv_at hl 1 rfl) ?_
  refine fk_di (fcV X hw (c_m_counted l g ad M33 hM w) hMo rfl wq1017 kVX6_counted ⟨(Nat.le_of_ble_eq_true rfl), (Nat.le_of_ble_eq_true rfl)⟩ rfl hl.1 rfl (Nat.le_of_ble_eq_true rfl) dX6_count_17 ⟨Nat.le_refl _, Nat.le_refl _⟩) hw (fun H locs hw => ?_)
  refine lv_goto (tgt := 28) hx hb dX6_count_20 (by decide) ?_
  rw [hQ9, ← hMq]
  exact f_iret X hw ⟨rfl, hM, hrA, rfl⟩ (Nat.le_refl _) (Nat.le_refl _) dX6_count_28
