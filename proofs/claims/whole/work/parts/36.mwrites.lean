theorem sH_sH {U : fTn} {i : Nat} {f f2 : Nat → Int32} : sH (sH U i f) i f2 = sH U i f2 := by
  show (tM U, (tHn U, fun j => if j = i then f2 else (if j = i then f else tH U j)), (tPn U, tP U), (tEn U, tE U)) = (tM U, (tHn U, fun j => if j = i then f2 else tH U j), (tPn U, tP U), (tEn U, tE U))
  congr 3
  funext j
  by_cases h : j = i
  · rw [if_pos h, if_pos h]
  · rw [if_neg h, if_neg h, if_neg h]
theorem sE_sE {U : fTn} {i : Nat} {f f2 : Nat → Int32} : sE (sE U i f) i f2 = sE U i f2 := by
  show (tM U, (tHn U, tH U), (tPn U, tP U), (tEn U, fun j => if j = i then f2 else (if j = i then f else tE U j))) = (tM U, (tHn U, tH U), (tPn U, tP U), (tEn U, fun j => if j = i then f2 else tE U j))
  congr 4
  funext j
  by_cases h : j = i
  · rw [if_pos h, if_pos h]
  · rw [if_neg h, if_neg h, if_neg h]
theorem tH_sH {U : fTn} {i : Nat} {f : Nat → Int32} : tH (sH U i f) i = f := if_pos rfl
theorem tE_sE {U : fTn} {i : Nat} {f : Nat → Int32} : tE (sE U i f) i = f := if_pos rfl
def mHt (f : Nat → Int32) : Int32 := iMin 99 (f 4 + f 1 - f 5 / 4)
/-- a house's minute, as the reference does it -/
def mBurn (f : Nat → Int32) : Nat → Int32 :=
  if f 3 = 1 then (if 0 < mHt f then
    (if iMax 0 (f 2 - 1 - mHt f / 25) ≤ 0 then upd (upd (upd (upd f 4 (iMax 0 (mHt f))) 2 (iMax 0 (f 2 - 1 - mHt f / 25))) 3 3) 4 0 else upd (upd f 4 (iMax 0 (mHt f))) 2 (iMax 0 (f 2 - 1 - mHt f / 25)))
    else upd (upd f 4 (iMax 0 (mHt f))) 3 2) else f
set_option maxHeartbeats 4000000 in
set_option maxRecDepth 100000 in
theorem c_m_burn (l : Launch) (g : fG) (ad : Nat → Nat) (M : fM) {th : Int32} {U : fTn} {sp ca : Nat → Int32} (hM : isMo g ad M th U sp ca) {h0 : Nat} (hh : h0 < tHn U) : fCv l g yX6_burn cX6_burn 3 1 24 0 0 ad M [.ref (ad 5), .int (nI h0)] (fMw g ad M th (sH U h0 (mBurn (tH U h0))) sp ca) := by
  refine f_body (own := RX6) (by decide +kernel) rfl (Nat.le_of_ble_eq_true rfl) ?_
  intro p e s m args below meth c ls X hw hin hl
  have hx := X.1
  have hb := X.2.1
  have hl : lv_has ls 3 [(0, .ref (ad 5)), (1, .int (nI h0))] := hl
  obtain ⟨pcs, wa, ht, et, mi, co, as, hMo, ⟨hm6, hm7, hm8, hm9, hm10, hm11, hm12, hm13, hm14⟩, hRel, hCnt⟩ := id hM
  obtain ⟨hn1, hn2, hn3⟩ := id hCnt
  have hn1 : tHn U ≤ 30 := hn1
  have hn2 : tPn U ≤ 6 := hn2
  have hn3 : tEn U ≤ 6 := hn3
  have hMo : M 5 = some (.inr (7, [.int th, .int (nI (tHn U)), .int (nI (tPn U)), .int (nI (tEn U)), .ref (ad 6), .ref (ad 7), .ref (ad 8), .ref (ad 9), .ref (ad 10), .ref (ad 11), .ref (ad 12), .ref (ad 13), .ref (ad 14)])) := hMo
  obtain ⟨rH, rP, rE, rM⟩ := id hRel
  obtain ⟨Mo, hMq⟩ : ∃ z, z = M := ⟨_, rfl⟩
  have hrA : fReg 5 15 ad Mo ad M := by rw [hMq]; exact fReg_rf
  obtain ⟨Q9, hQ9⟩ : ∃ z, z = MQ below (fQv g (fMw g ad M th (sH U h0 (mBurn (tH U h0))) sp ca)) args s 0 0 (fA g) := ⟨_, rfl⟩
  show W p l e (fR 1 24 0 0) s m args below meth c _ _ 0 0 (MQ below (fQv g (fMw g ad M th (sH U h0 (mBurn (tH U h0))) sp ca)) args s 0 0 (fA g)) (F0 m 0 ls [])
  rw [← hQ9]
  refine lv_aload_n hx hb dX6_burn_0 rfl (lv_at hl 0 rfl) ?_
  refine lv_iload_n hx hb dX6_burn_1 rfl (lv_at hl 1 rfl) ?_
  refine lv_iconst (v := 3) hx hb dX6_burn_2 (by decide) ?_
  refine fk_di (fcV X hw (c_ho l g ad M hM (h0 := h0) (k := 3) hh rfl (by omega)) hMo rfl wq865 kVX6_ho ⟨(Nat.le_of_ble_eq_true rfl), (Nat.le_of_ble_eq_true rfl)⟩ rfl hl.1 rfl (Nat.le_of_ble_eq_true rfl) dX6_burn_3 ⟨Nat.le_refl _, Nat.le_refl _⟩) hw (fun H locs hw => ?_)
  refine lv_iconst (v := 1) hx hb dX6_burn_6 (by decide) ?_
  refine lv_icmp_eq (tgt := 11) hx hb dX6_burn_7 (by decide) (fun c_1 => ?_) (fun c_1 => ?_)
  · refine lv_bipush (v := 99) hx hb dX6_burn_11 (by decide) ?_
    refine lv_aload_n hx hb dX6_burn_13 rfl (lv_at hl 0 rfl) ?_
    refine lv_iload_n hx hb dX6_burn_14 rfl (lv_at hl 1 rfl) ?_
    refine lv_iconst (v := 4) hx hb dX6_burn_15 (by decide) ?_
    refine fk_di (fcV X hw (c_ho l g ad M hM (h0 := h0) (k := 4) hh rfl (by omega)) hMo rfl wq865 kVX6_ho ⟨(Nat.le_of_ble_eq_true rfl), (Nat.le_of_ble_eq_true rfl)⟩ rfl hl.1 rfl (Nat.le_of_ble_eq_true rfl) dX6_burn_16 ⟨Nat.le_refl _, Nat.le_refl _⟩) hw (fun H locs hw => ?_)
    refine lv_aload_n hx hb dX6_burn_19 rfl (lv_at hl 0 rfl) ?_
    refine lv_iload_n hx hb dX6_burn_20 rfl (lv_at hl 1 rfl) ?_
    refine lv_iconst (v := 1) hx hb dX6_burn_21 (by decide) ?_
    refine fk_di (fcV X hw (c_ho l g ad M hM (h0 := h0) (k := 1) hh rfl (by omega)) hMo rfl wq865 kVX6_ho ⟨(Nat.le_of_ble_eq_true rfl), (Nat.le_of_ble_eq_true rfl)⟩ rfl hl.1 rfl (Nat.le_of_ble_eq_true rfl) dX6_burn_22 ⟨Nat.le_refl _, Nat.le_refl _⟩) hw (fun H locs hw => ?_)
    refine lv_iadd hx hb dX6_burn_25 ?_
    refine lv_aload_n hx hb dX6_burn_26 rfl (lv_at hl 0 rfl) ?_
    refine lv_iload_n hx hb dX6_burn_27 rfl (lv_at hl 1 rfl) ?_
    refine lv_iconst (v := 5) hx hb dX6_burn_28 (by decide) ?_
    refine fk_di (fcV X hw (c_ho l g ad M hM (h0 := h0) (k := 5) hh rfl (by omega)) hMo rfl wq865 kVX6_ho ⟨(Nat.le_of_ble_eq_true rfl), (Nat.le_of_ble_eq_true rfl)⟩ rfl hl.1 rfl (Nat.le_of_ble_eq_true rfl) dX6_burn_29 ⟨Nat.le_refl _, Nat.le_refl _⟩) hw (fun H locs hw => ?_)
    refine lv_iconst (v := 4) hx hb dX6_burn_32 (by decide) ?_
    refine lv_idiv hx hb dX6_burn_33 (by decide) ?_
    refine lv_isub hx hb dX6_burn_34 ?_
    refine va_mmin hx hb (X.2.2.1.trans hl.1.symm) X.2.2.2.1 (X.2.2.2.2.1 _ wq996) (X.2.2.2.2.1 _ wq204) (X.2.2.2.2.1 _ wq18) (X.2.2.2.2.1 _ wq205) (Nat.le_of_ble_eq_true rfl) (Nat.le_of_ble_eq_true rfl) (Nat.zero_le _) (Nat.zero_le _) dX6_burn_35 ?_
    refine lv_istore_n (lv' := [(2, .int (if (((tH U h0 4) + (tH U h0 1)) - ((tH U h0 5) / 4)) < 99 then (((tH U h0 4) + (tH U h0 1)) - ((tH U h0 5) / 4)) else 99)), (0, .ref (ad 5)), (1, .int (nI h0))]) hx hb dX6_burn_38 rfl hl (by decide) rfl (fun ls hl => ?_)
    have hl : lv_has ls 3 [(2, .int (mHt (tH U h0))), (0, .ref (ad 5)), (1, .int (nI h0))] := hl
    refine lv_aload_n hx hb dX6_burn_39 rfl (lv_at hl 1 rfl) ?_
    refine lv_iload_n hx hb dX6_burn_40 rfl (lv_at hl 2 rfl) ?_
    refine lv_iconst (v := 4) hx hb dX6_burn_41 (by decide) ?_
    refine lv_iconst (v := 0) hx hb dX6_burn_42 (by decide) ?_
    refine lv_iload_n hx hb dX6_burn_43 rfl (lv_at hl 0 rfl) ?_
    refine va_mmax hx hb (X.2.2.1.trans hl.1.symm) X.2.2.2.1 (X.2.2.2.2.1 _ wq995) (X.2.2.2.2.1 _ wq173) (X.2.2.2.2.1 _ wq18) (X.2.2.2.2.1 _ wq174) (Nat.le_of_ble_eq_true rfl) (Nat.le_of_ble_eq_true rfl) (Nat.zero_le _) (Nat.zero_le _) dX6_burn_44 ?_
    refine fk_mv (fcV X hw (c_setHo l g ad M hM (h0 := h0) (k := 4) hh rfl (by omega) (iMax 0 (mHt (tH U h0)))) hMo rfl wq890 kVX6_setHo ⟨(Nat.le_of_ble_eq_true rfl), (Nat.le_of_ble_eq_true rfl)⟩ rfl hl.1 rfl (Nat.le_of_ble_eq_true rfl) dX6_burn_47 ⟨Nat.le_refl _, Nat.le_refl _⟩) hw (fun M1 H locs hM hr1 hw => ?_)
    have hrA := fReg_tr hrA hr1
    obtain ⟨pcs, wa, ht, et, mi, co, as, hMo, ⟨hm6, hm7, hm8, hm9, hm10, hm11, hm12, hm13, hm14⟩, hRel, hCnt⟩ := id hM
    obtain ⟨hn1, hn2, hn3⟩ := id hCnt
    have hn1 : tHn U ≤ 30 := hn1
    have hn2 : tPn U ≤ 6 := hn2
    have hn3 : tEn U ≤ 6 := hn3
    have hMo : M1 5 = some (.inr (7, [.int th, .int (nI (tHn U)), .int (nI (tPn U)), .int (nI (tEn U)), .ref (ad 6), .ref (ad 7), .ref (ad 8), .ref (ad 9), .ref (ad 10), .ref (ad 11), .ref (ad 12), .ref (ad 13), .ref (ad 14)])) := hMo
    obtain ⟨rH, rP, rE, rM⟩ := id hRel
    refine lv_iload_n hx hb dX6_burn_50 rfl (lv_at hl 0 rfl) ?_
    refine lv_if_gt (tgt := 62) hx hb dX6_burn_51 (by decide) (fun c_2 => ?_) (fun c_2 => ?_)
    · refine lv_aload_n hx hb dX6_burn_62 rfl (lv_at hl 1 rfl) ?_
      refine lv_iload_n hx hb dX6_burn_63 rfl (lv_at hl 2 rfl) ?_
      refine lv_iconst (v := 2) hx hb dX6_burn_64 (by decide) ?_
      refine lv_iconst (v := 0) hx hb dX6_burn_65 (by decide) ?_
      refine lv_aload_n hx hb dX6_burn_66 rfl (lv_at hl 1 rfl) ?_
      refine lv_iload_n hx hb dX6_burn_67 rfl (lv_at hl 2 rfl) ?_
      refine lv_iconst (v := 2) hx hb dX6_burn_68 (by decide) ?_
      refine fk_di (fcV X hw (c_ho l g ad M1 hM (h0 := h0) (k := 2) hh rfl (by omega)) hMo rfl wq865 kVX6_ho ⟨(Nat.le_of_ble_eq_true rfl), (Nat.le_of_ble_eq_true rfl)⟩ rfl hl.1 rfl (Nat.le_of_ble_eq_true rfl) dX6_burn_69 ⟨Nat.le_refl _, Nat.le_refl _⟩) hw (fun H locs hw => ?_)
      refine f_top (y := tH U h0 2) (by rw [tH_sH]; rfl) ?_
      refine lv_iconst (v := 1) hx hb dX6_burn_72 (by decide) ?_
      refine lv_isub hx hb dX6_burn_73 ?_
      refine lv_iload_n hx hb dX6_burn_74 rfl (lv_at hl 0 rfl) ?_
      refine lv_bipush (v := 25) hx hb dX6_burn_75 (by decide) ?_
      refine lv_idiv hx hb dX6_burn_77 (by decide) ?_
      refine lv_isub hx hb dX6_burn_78 ?_
      refine va_mmax hx hb (X.2.2.1.trans hl.1.symm) X.2.2.2.1 (X.2.2.2.2.1 _ wq995) (X.2.2.2.2.1 _ wq173) (X.2.2.2.2.1 _ wq18) (X.2.2.2.2.1 _ wq174) (Nat.le_of_ble_eq_true rfl) (Nat.le_of_ble_eq_true rfl) (Nat.zero_le _) (Nat.zero_le _) dX6_burn_79 ?_
      refine fk_mv (fcV X hw (c_setHo l g ad M1 hM (h0 := h0) (k := 2) hh rfl (by omega) (iMax 0 (tH U h0 2 - 1 - mHt (tH U h0) / 25))) hMo rfl wq890 kVX6_setHo ⟨(Nat.le_of_ble_eq_true rfl), (Nat.le_of_ble_eq_true rfl)⟩ rfl hl.1 rfl (Nat.le_of_ble_eq_true rfl) dX6_burn_82 ⟨Nat.le_refl _, Nat.le_refl _⟩) hw (fun M2 H locs hM hr2 hw => ?_)
      have hrA := fReg_tr hrA hr2
      rw [show sH (sH U h0 (upd (tH U h0) 4 (iMax 0 (mHt (tH U h0))))) h0 (upd (tH (sH U h0 (upd (tH U h0) 4 (iMax 0 (mHt (tH U h0))))) h0) 2 (iMax 0 (tH U h0 2 - 1 - mHt (tH U h0) / 25))) = sH U h0 (upd (upd (tH U h0) 4 (iMax 0 (mHt (tH U h0)))) 2 (iMax 0 (tH U h0 2 - 1 - mHt (tH U h0) / 25))) from by rw [sH_sH, tH_sH]] at hM
      obtain ⟨pcs, wa, ht, et, mi, co, as, hMo, ⟨hm6, hm7, hm8, hm9, hm10, hm11, hm12, hm13, hm14⟩, hRel, hCnt⟩ := id hM
      obtain ⟨hn1, hn2, hn3⟩ := id hCnt
      have hn1 : tHn U ≤ 30 := hn1
      have hn2 : tPn U ≤ 6 := hn2
      have hn3 : tEn U ≤ 6 := hn3
      have hMo : M2 5 = some (.inr (7, [.int th, .int (nI (tHn U)), .int (nI (tPn U)), .int (nI (tEn U)), .ref (ad 6), .ref (ad 7), .ref (ad 8), .ref (ad 9), .ref (ad 10), .ref (ad 11), .ref (ad 12), .ref (ad 13), .ref (ad 14)])) := hMo
      obtain ⟨rH, rP, rE, rM⟩ := id hRel
      refine lv_aload_n hx hb dX6_burn_85 rfl (lv_at hl 1 rfl) ?_
      refine lv_iload_n hx hb dX6_burn_86 rfl (lv_at hl 2 rfl) ?_
      refine lv_iconst (v := 2) hx hb dX6_burn_87 (by decide) ?_
      refine fk_di (fcV X hw (c_ho l g ad M2 hM (h0 := h0) (k := 2) hh rfl (by omega)) hMo rfl wq865 kVX6_ho ⟨(Nat.le_of_ble_eq_true rfl), (Nat.le_of_ble_eq_true rfl)⟩ rfl hl.1 rfl (Nat.le_of_ble_eq_true rfl) dX6_burn_88 ⟨Nat.le_refl _, Nat.le_refl _⟩) hw (fun H locs hw => ?_)
      refine f_top (y := iMax 0 (tH U h0 2 - 1 - mHt (tH U h0) / 25)) (by rw [tH_sH]; rfl) ?_
      refine lv_if_le (tgt := 95) hx hb dX6_burn_91 (by decide) (fun c_3 => ?_) (fun c_3 => ?_)
      · refine lv_aload_n hx hb dX6_burn_95 rfl (lv_at hl 1 rfl) ?_
        refine lv_iload_n hx hb dX6_burn_96 rfl (lv_at hl 2 rfl) ?_
        refine lv_iconst (v := 3) hx hb dX6_burn_97 (by decide) ?_
        refine lv_iconst (v := 3) hx hb dX6_burn_98 (by decide) ?_
        refine fk_mv (fcV X hw (c_setHo l g ad M2 hM (h0 := h0) (k := 3) hh rfl (by omega) (3)) hMo rfl wq890 kVX6_setHo ⟨(Nat.le_of_ble_eq_true rfl), (Nat.le_of_ble_eq_true rfl)⟩ rfl hl.1 rfl (Nat.le_of_ble_eq_true rfl) dX6_burn_99 ⟨Nat.le_refl _, Nat.le_refl _⟩) hw (fun M3 H locs hM hr3 hw => ?_)
        have hrA := fReg_tr hrA hr3
        rw [show sH (sH U h0 (upd (upd (tH U h0) 4 (iMax 0 (mHt (tH U h0)))) 2 (iMax 0 (tH U h0 2 - 1 - mHt (tH U h0) / 25)))) h0 (upd (tH (sH U h0 (upd (upd (tH U h0) 4 (iMax 0 (mHt (tH U h0)))) 2 (iMax 0 (tH U h0 2 - 1 - mHt (tH U h0) / 25)))) h0) 3 (3)) = sH U h0 (upd (upd (upd (tH U h0) 4 (iMax 0 (mHt (tH U h0)))) 2 (iMax 0 (tH U h0 2 - 1 - mHt (tH U h0) / 25))) 3 3) from by rw [sH_sH, tH_sH]] at hM
        obtain ⟨pcs, wa, ht, et, mi, co, as, hMo, ⟨hm6, hm7, hm8, hm9, hm10, hm11, hm12, hm13, hm14⟩, hRel, hCnt⟩ := id hM
        obtain ⟨hn1, hn2, hn3⟩ := id hCnt
        have hn1 : tHn U ≤ 30 := hn1
        have hn2 : tPn U ≤ 6 := hn2
        have hn3 : tEn U ≤ 6 := hn3
        have hMo : M3 5 = some (.inr (7, [.int th, .int (nI (tHn U)), .int (nI (tPn U)), .int (nI (tEn U)), .ref (ad 6), .ref (ad 7), .ref (ad 8), .ref (ad 9), .ref (ad 10), .ref (ad 11), .ref (ad 12), .ref (ad 13), .ref (ad 14)])) := hMo
        obtain ⟨rH, rP, rE, rM⟩ := id hRel
        refine lv_aload_n hx hb dX6_burn_102 rfl (lv_at hl 1 rfl) ?_
        refine lv_iload_n hx hb dX6_burn_103 rfl (lv_at hl 2 rfl) ?_
        refine lv_iconst (v := 4) hx hb dX6_burn_104 (by decide) ?_
        refine lv_iconst (v := 0) hx hb dX6_burn_105 (by decide) ?_
        refine fk_mv (fcV X hw (c_setHo l g ad M3 hM (h0 := h0) (k := 4) hh rfl (by omega) (0)) hMo rfl wq890 kVX6_setHo ⟨(Nat.le_of_ble_eq_true rfl), (Nat.le_of_ble_eq_true rfl)⟩ rfl hl.1 rfl (Nat.le_of_ble_eq_true rfl) dX6_burn_106 ⟨Nat.le_refl _, Nat.le_refl _⟩) hw (fun M4 H locs hM hr4 hw => ?_)
        have hrA := fReg_tr hrA hr4
        rw [show sH (sH U h0 (upd (upd (upd (tH U h0) 4 (iMax 0 (mHt (tH U h0)))) 2 (iMax 0 (tH U h0 2 - 1 - mHt (tH U h0) / 25))) 3 3)) h0 (upd (tH (sH U h0 (upd (upd (upd (tH U h0) 4 (iMax 0 (mHt (tH U h0)))) 2 (iMax 0 (tH U h0 2 - 1 - mHt (tH U h0) / 25))) 3 3)) h0) 4 (0)) = sH U h0 (upd (upd (upd (upd (tH U h0) 4 (iMax 0 (mHt (tH U h0)))) 2 (iMax 0 (tH U h0 2 - 1 - mHt (tH U h0) / 25))) 3 3) 4 0) from by rw [sH_sH, tH_sH]] at hM
        obtain ⟨pcs, wa, ht, et, mi, co, as, hMo, ⟨hm6, hm7, hm8, hm9, hm10, hm11, hm12, hm13, hm14⟩, hRel, hCnt⟩ := id hM
        obtain ⟨hn1, hn2, hn3⟩ := id hCnt
        have hn1 : tHn U ≤ 30 := hn1
        have hn2 : tPn U ≤ 6 := hn2
        have hn3 : tEn U ≤ 6 := hn3
        have hMo : M4 5 = some (.inr (7, [.int th, .int (nI (tHn U)), .int (nI (tPn U)), .int (nI (tEn U)), .ref (ad 6), .ref (ad 7), .ref (ad 8), .ref (ad 9), .ref (ad 10), .ref (ad 11), .ref (ad 12), .ref (ad 13), .ref (ad 14)])) := hMo
        obtain ⟨rH, rP, rE, rM⟩ := id hRel
        rw [hQ9, ← hMq]
        rw [show mBurn (tH U h0) = _ from (if_pos c_1).trans ((if_pos c_2).trans (if_pos c_3))]
        exact f_vret X hw ⟨rfl, hM, hrA⟩ (Nat.le_refl _) (Nat.le_refl _) dX6_burn_109
      · rw [hQ9, ← hMq]
        rw [show mBurn (tH U h0) = _ from (if_pos c_1).trans ((if_pos c_2).trans (if_neg c_3))]
        exact f_vret X hw ⟨rfl, hM, hrA⟩ (Nat.le_refl _) (Nat.le_refl _) dX6_burn_94
    · refine lv_aload_n hx hb dX6_burn_54 rfl (lv_at hl 1 rfl) ?_
      refine lv_iload_n hx hb dX6_burn_55 rfl (lv_at hl 2 rfl) ?_
      refine lv_iconst (v := 3) hx hb dX6_burn_56 (by decide) ?_
      refine lv_iconst (v := 2) hx hb dX6_burn_57 (by decide) ?_
      refine fk_mv (fcV X hw (c_setHo l g ad M1 hM (h0 := h0) (k := 3) hh rfl (by omega) (2)) hMo rfl wq890 kVX6_setHo ⟨(Nat.le_of_ble_eq_true rfl), (Nat.le_of_ble_eq_true rfl)⟩ rfl hl.1 rfl (Nat.le_of_ble_eq_true rfl) dX6_burn_58 ⟨Nat.le_refl _, Nat.le_refl _⟩) hw (fun M5 H locs hM hr5 hw => ?_)
      have hrA := fReg_tr hrA hr5
      rw [show sH (sH U h0 (upd (tH U h0) 4 (iMax 0 (mHt (tH U h0))))) h0 (upd (tH (sH U h0 (upd (tH U h0) 4 (iMax 0 (mHt (tH U h0))))) h0) 3 (2)) = sH U h0 (upd (upd (tH U h0) 4 (iMax 0 (mHt (tH U h0)))) 3 2) from by rw [sH_sH, tH_sH]] at hM
      obtain ⟨pcs, wa, ht, et, mi, co, as, hMo, ⟨hm6, hm7, hm8, hm9, hm10, hm11, hm12, hm13, hm14⟩, hRel, hCnt⟩ := id hM
      obtain ⟨hn1, hn2, hn3⟩ := id hCnt
      have hn1 : tHn U ≤ 30 := hn1
      have hn2 : tPn U ≤ 6 := hn2
      have hn3 : tEn U ≤ 6 := hn3
      have hMo : M5 5 = some (.inr (7, [.int th, .int (nI (tHn U)), .int (nI (tPn U)), .int (nI (tEn U)), .ref (ad 6), .ref (ad 7), .ref (ad 8), .ref (ad 9), .ref (ad 10), .ref (ad 11), .ref (ad 12), .ref (ad 13), .ref (ad 14)])) := hMo
      obtain ⟨rH, rP, rE, rM⟩ := id hRel
      rw [hQ9, ← hMq]
      rw [show mBurn (tH U h0) = _ from (if_pos c_1).trans (if_neg c_2)]
      exact f_vret X hw ⟨rfl, hM, hrA⟩ (Nat.le_refl _) (Nat.le_refl _) dX6_burn_61
  · rw [hQ9, ← hMq]
    rw [show sH U h0 (mBurn (tH U h0)) = U from by rw [show mBurn (tH U h0) = tH U h0 from if_neg c_1]; exact sH_same]
    exact f_vret X hw ⟨rfl, hM, hrA⟩ (Nat.le_refl _) (Nat.le_refl _) dX6_burn_10
