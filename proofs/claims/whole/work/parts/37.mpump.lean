theorem sub100 {h : Nat} : nI (100 + h) - 100 = nI h := by
  have e : nI (100 + h) - nI 100 = nI (100 + h - 100) := pk_sub (by omega)
  rw [show (100 : Int32) = nI 100 from rfl, e, Nat.add_sub_cancel_left]
theorem nI_m1 {n : Nat} (h : n < 2 ^ 31) : ¬ nI n = -1 := by
  intro z
  have e := congrArg Int32.toInt z
  rw [toInt_nI h, show (-1 : Int32).toInt = -1 from rfl] at e
  omega
/-! an engine's turn, as the reference does it -/
abbrev pm1 (U : fTn) (e : Nat) : fTn := sE U e (upd (tE U e) 9 0)
abbrev pmS (U : fTn) (e i : Nat) : Int32 := iMin (tP U i 1) (iMax 0 (ePump (tE (pm1 U e) e) - tE (pm1 U e) e 8))
abbrev pmW (U : fTn) (e i : Nat) : fTn := sP (pm1 U e) i (upd (tP (pm1 U e) i) 1 (tP U i 1 - pmS U e i))
abbrev pmG (U : fTn) (e : Nat) (x : Int32) : Int32 := iMin (ePump (tE (pm1 U e) e)) (tE (pm1 U e) e 8 + x)
abbrev pm3 (V : fTn) (e : Nat) (gv : Int32) : fTn := sE V e (upd (tE V e) 9 gv)
abbrev pmE (V : fTn) (e i : Nat) (gv : Int32) : fTn := sE (pm3 V e gv) i (upd (tE (pm3 V e gv) i) 8 (tE (pm3 V e gv) i 8 + arrivesI gv (aDist (tE V e 0) (tE V i 0))))
abbrev pmH (V : fTn) (e h : Nat) (gv : Int32) : fTn := sH (pm3 V e gv) h (upd (tH V h) 5 (tH V h 5 + arrivesI gv (aDist (tE V e 0) (tH V h 0))))
set_option maxHeartbeats 4000000 in
set_option maxRecDepth 100000 in
theorem c_m_pump_N (l : Launch) (g : fG) (ad : Nat → Nat) (M : fM) {th : Int32} {U : fTn} {sp ca : Nat → Int32} (hM : isMo g ad M th U sp ca) {e0 : Nat} (he : e0 < tEn U) (hz : tE U e0 7 = -1)  : fCv l g yX6_pump cX6_pump 10 4 90 0 0 ad M [.ref (ad 5), .int (nI e0)] (fMw g ad M th (pm1 U e0) sp ca) := by
  refine f_body (own := RX6) (by decide +kernel) rfl (Nat.le_of_ble_eq_true rfl) ?_
  intro p e s m args below meth c ls X hw hin hl
  have hx := X.1
  have hb := X.2.1
  have hl : lv_has ls 10 [(0, .ref (ad 5)), (1, .int (nI e0))] := hl
  obtain ⟨pcs, wa, ht, et, mi, co, as, hMo, ⟨hm6, hm7, hm8, hm9, hm10, hm11, hm12, hm13, hm14⟩, hRel, hCnt⟩ := id hM
  obtain ⟨hn1, hn2, hn3⟩ := id hCnt
  have hn1 : tHn U ≤ 30 := hn1
  have hn2 : tPn U ≤ 6 := hn2
  have hn3 : tEn U ≤ 6 := hn3
  have hMo : M 5 = some (.inr (7, [.int th, .int (nI (tHn U)), .int (nI (tPn U)), .int (nI (tEn U)), .ref (ad 6), .ref (ad 7), .ref (ad 8), .ref (ad 9), .ref (ad 10), .ref (ad 11), .ref (ad 12), .ref (ad 13), .ref (ad 14)])) := hMo
  obtain ⟨rH, rP, rE, rM⟩ := id hRel
  obtain ⟨Mo, hMq⟩ : ∃ z, z = M := ⟨_, rfl⟩
  have hrA : fReg 5 15 ad Mo ad M := by rw [hMq]; exact fReg_rf
  obtain ⟨Q9, hQ9⟩ : ∃ z, z = MQ below (fQv g (fMw g ad M th (pm1 U e0) sp ca)) args s 0 0 (fA g) := ⟨_, rfl⟩
  show W p l e (fR 4 90 0 0) s m args below meth c _ _ 0 0 (MQ below (fQv g (fMw g ad M th (pm1 U e0) sp ca)) args s 0 0 (fA g)) (F0 m 0 ls [])
  rw [← hQ9]
  refine lv_aload_n hx hb dX6_pump_0 rfl (lv_at hl 0 rfl) ?_
  refine lv_iload_n hx hb dX6_pump_1 rfl (lv_at hl 1 rfl) ?_
  refine lv_bipush (v := 7) hx hb dX6_pump_2 (by decide) ?_
  refine fk_di (fcV X hw (c_en l g ad M hM (e0 := e0) (k := 7) he rfl (by omega)) hMo rfl wq873 kVX6_en ⟨(Nat.le_of_ble_eq_true rfl), (Nat.le_of_ble_eq_true rfl)⟩ rfl hl.1 rfl (Nat.le_of_ble_eq_true rfl) dX6_pump_4 ⟨Nat.le_refl _, Nat.le_refl _⟩) hw (fun H locs hw => ?_)
  refine f_top (y := (-1)) hz ?_
  refine lv_istore_n (lv' := [(2, .int (-1)), (0, .ref (ad 5)), (1, .int (nI e0))]) hx hb dX6_pump_7 rfl hl (by decide) rfl (fun ls hl => ?_)
  refine lv_aload_n hx hb dX6_pump_8 rfl (lv_at hl 1 rfl) ?_
  refine lv_iload_n hx hb dX6_pump_9 rfl (lv_at hl 2 rfl) ?_
  refine lv_bipush (v := 8) hx hb dX6_pump_10 (by decide) ?_
  refine lv_iconst (v := 0) hx hb dX6_pump_12 (by decide) ?_
  refine fk_mv (fcV X hw (c_setEn8 l g ad M hM (e0 := e0) he 0) hMo rfl wq932 kVX6_setEn ⟨(Nat.le_of_ble_eq_true rfl), (Nat.le_of_ble_eq_true rfl)⟩ rfl hl.1 rfl (Nat.le_of_ble_eq_true rfl) dX6_pump_13 ⟨Nat.le_refl _, Nat.le_refl _⟩) hw (fun M1 H locs hM hr1 hw => ?_)
  have hrA := fReg_tr hrA hr1
  obtain ⟨pcs, wa, ht, et, mi, co, as, hMo, ⟨hm6, hm7, hm8, hm9, hm10, hm11, hm12, hm13, hm14⟩, hRel, hCnt⟩ := id hM
  obtain ⟨hn1, hn2, hn3⟩ := id hCnt
  have hn1 : tHn U ≤ 30 := hn1
  have hn2 : tPn U ≤ 6 := hn2
  have hn3 : tEn U ≤ 6 := hn3
  have hMo : M1 5 = some (.inr (7, [.int th, .int (nI (tHn U)), .int (nI (tPn U)), .int (nI (tEn U)), .ref (ad 6), .ref (ad 7), .ref (ad 8), .ref (ad 9), .ref (ad 10), .ref (ad 11), .ref (ad 12), .ref (ad 13), .ref (ad 14)])) := hMo
  obtain ⟨rH, rP, rE, rM⟩ := id hRel
  refine lv_iload_n hx hb dX6_pump_16 rfl (lv_at hl 0 rfl) ?_
  refine lv_iconst (v := (-1)) hx hb dX6_pump_17 (by decide) ?_
  refine lv_icmp_ne (tgt := 22) hx hb dX6_pump_18 (by decide) (fun c_1 => absurd rfl c_1) (fun c_1 => ?_)
  rw [hQ9, ← hMq]
  exact f_vret X hw ⟨rfl, hM, hrA⟩ (Nat.le_refl _) (Nat.le_refl _) dX6_pump_21
set_option maxHeartbeats 4000000 in
set_option maxRecDepth 100000 in
theorem c_m_pump_EN (l : Launch) (g : fG) (ad : Nat → Nat) (M : fM) {th : Int32} {U : fTn} {sp ca : Nat → Int32} (hM : isMo g ad M th U sp ca) {e0 : Nat} (he : e0 < tEn U) {i0 : Nat} (hz : tE U e0 7 = nI i0) (hi : i0 < tEn U) (hs : mSrc (pm1 U e0) (tE (pm1 U e0) e0) = -1) : fCv l g yX6_pump cX6_pump 10 4 90 0 0 ad M [.ref (ad 5), .int (nI e0)] (fMw g ad M th (pmE (pm1 U e0) e0 i0 (pmG U e0 (0))) sp ca) := by
  refine f_body (own := RX6) (by decide +kernel) rfl (Nat.le_of_ble_eq_true rfl) ?_
  intro p e s m args below meth c ls X hw hin hl
  have hx := X.1
  have hb := X.2.1
  have hl : lv_has ls 10 [(0, .ref (ad 5)), (1, .int (nI e0))] := hl
  obtain ⟨pcs, wa, ht, et, mi, co, as, hMo, ⟨hm6, hm7, hm8, hm9, hm10, hm11, hm12, hm13, hm14⟩, hRel, hCnt⟩ := id hM
  obtain ⟨hn1, hn2, hn3⟩ := id hCnt
  have hn1 : tHn U ≤ 30 := hn1
  have hn2 : tPn U ≤ 6 := hn2
  have hn3 : tEn U ≤ 6 := hn3
  have hMo : M 5 = some (.inr (7, [.int th, .int (nI (tHn U)), .int (nI (tPn U)), .int (nI (tEn U)), .ref (ad 6), .ref (ad 7), .ref (ad 8), .ref (ad 9), .ref (ad 10), .ref (ad 11), .ref (ad 12), .ref (ad 13), .ref (ad 14)])) := hMo
  obtain ⟨rH, rP, rE, rM⟩ := id hRel
  obtain ⟨Mo, hMq⟩ : ∃ z, z = M := ⟨_, rfl⟩
  have hrA : fReg 5 15 ad Mo ad M := by rw [hMq]; exact fReg_rf
  obtain ⟨Q9, hQ9⟩ : ∃ z, z = MQ below (fQv g (fMw g ad M th (pmE (pm1 U e0) e0 i0 (pmG U e0 (0))) sp ca)) args s 0 0 (fA g) := ⟨_, rfl⟩
  show W p l e (fR 4 90 0 0) s m args below meth c _ _ 0 0 (MQ below (fQv g (fMw g ad M th (pmE (pm1 U e0) e0 i0 (pmG U e0 (0))) sp ca)) args s 0 0 (fA g)) (F0 m 0 ls [])
  rw [← hQ9]
  refine lv_aload_n hx hb dX6_pump_0 rfl (lv_at hl 0 rfl) ?_
  refine lv_iload_n hx hb dX6_pump_1 rfl (lv_at hl 1 rfl) ?_
  refine lv_bipush (v := 7) hx hb dX6_pump_2 (by decide) ?_
  refine fk_di (fcV X hw (c_en l g ad M hM (e0 := e0) (k := 7) he rfl (by omega)) hMo rfl wq873 kVX6_en ⟨(Nat.le_of_ble_eq_true rfl), (Nat.le_of_ble_eq_true rfl)⟩ rfl hl.1 rfl (Nat.le_of_ble_eq_true rfl) dX6_pump_4 ⟨Nat.le_refl _, Nat.le_refl _⟩) hw (fun H locs hw => ?_)
  refine f_top (y := nI i0) hz ?_
  refine lv_istore_n (lv' := [(2, .int (nI i0)), (0, .ref (ad 5)), (1, .int (nI e0))]) hx hb dX6_pump_7 rfl hl (by decide) rfl (fun ls hl => ?_)
  refine lv_aload_n hx hb dX6_pump_8 rfl (lv_at hl 1 rfl) ?_
  refine lv_iload_n hx hb dX6_pump_9 rfl (lv_at hl 2 rfl) ?_
  refine lv_bipush (v := 8) hx hb dX6_pump_10 (by decide) ?_
  refine lv_iconst (v := 0) hx hb dX6_pump_12 (by decide) ?_
  refine fk_mv (fcV X hw (c_setEn8 l g ad M hM (e0 := e0) he 0) hMo rfl wq932 kVX6_setEn ⟨(Nat.le_of_ble_eq_true rfl), (Nat.le_of_ble_eq_true rfl)⟩ rfl hl.1 rfl (Nat.le_of_ble_eq_true rfl) dX6_pump_13 ⟨Nat.le_refl _, Nat.le_refl _⟩) hw (fun M2 H locs hM hr2 hw => ?_)
  have hrA := fReg_tr hrA hr2
  obtain ⟨pcs, wa, ht, et, mi, co, as, hMo, ⟨hm6, hm7, hm8, hm9, hm10, hm11, hm12, hm13, hm14⟩, hRel, hCnt⟩ := id hM
  obtain ⟨hn1, hn2, hn3⟩ := id hCnt
  have hn1 : tHn U ≤ 30 := hn1
  have hn2 : tPn U ≤ 6 := hn2
  have hn3 : tEn U ≤ 6 := hn3
  have hMo : M2 5 = some (.inr (7, [.int th, .int (nI (tHn U)), .int (nI (tPn U)), .int (nI (tEn U)), .ref (ad 6), .ref (ad 7), .ref (ad 8), .ref (ad 9), .ref (ad 10), .ref (ad 11), .ref (ad 12), .ref (ad 13), .ref (ad 14)])) := hMo
  obtain ⟨rH, rP, rE, rM⟩ := id hRel
  refine lv_iload_n hx hb dX6_pump_16 rfl (lv_at hl 0 rfl) ?_
  refine lv_iconst (v := (-1)) hx hb dX6_pump_17 (by decide) ?_
  refine lv_icmp_ne (tgt := 22) hx hb dX6_pump_18 (by decide) (fun c_1 => ?_) (fun c_1 => absurd c_1 (nI_m1 (by omega)))
  refine lv_aload_n hx hb dX6_pump_22 rfl (lv_at hl 1 rfl) ?_
  refine lv_iload_n hx hb dX6_pump_23 rfl (lv_at hl 2 rfl) ?_
  refine fk_di (fcV X hw (c_m_canPump l g ad M2 hM (e0 := e0) he) hMo rfl wq979 kVX6_canPump ⟨(Nat.le_of_ble_eq_true rfl), (Nat.le_of_ble_eq_true rfl)⟩ rfl hl.1 rfl (Nat.le_of_ble_eq_true rfl) dX6_pump_24 ⟨Nat.le_refl _, Nat.le_refl _⟩) hw (fun H locs hw => ?_)
  refine lv_istore_n (lv' := [(3, .int (ePump (tE (pm1 U e0) e0))), (2, .int (nI i0)), (0, .ref (ad 5)), (1, .int (nI e0))]) hx hb dX6_pump_27 rfl hl (by decide) rfl (fun ls hl => ?_)
  refine lv_aload_n hx hb dX6_pump_28 rfl (lv_at hl 2 rfl) ?_
  refine lv_iload_n hx hb dX6_pump_29 rfl (lv_at hl 3 rfl) ?_
  refine fk_di (fcV X hw (c_m_source l g ad M2 hM (e0 := e0) he) hMo rfl wq975 kVX6_source ⟨(Nat.le_of_ble_eq_true rfl), (Nat.le_of_ble_eq_true rfl)⟩ rfl hl.1 rfl (Nat.le_of_ble_eq_true rfl) dX6_pump_30 ⟨Nat.le_refl _, Nat.le_refl _⟩) hw (fun H locs hw => ?_)
  refine f_top (y := (-1)) hs ?_
  refine lv_istore (lv' := [(4, .int (-1)), (3, .int (ePump (tE (pm1 U e0) e0))), (2, .int (nI i0)), (0, .ref (ad 5)), (1, .int (nI e0))]) hx hb dX6_pump_33 hl (by decide) rfl (fun ls hl => ?_)
  refine lv_iload hx hb dX6_pump_35 (lv_at hl 0 rfl) ?_
  refine lv_iconst (v := (-1)) hx hb dX6_pump_37 (by decide) ?_
  refine lv_icmp_ne (tgt := 45) hx hb dX6_pump_38 (by decide) (fun c_2 => absurd rfl c_2) (fun c_2 => ?_)
  refine lv_iconst (v := 0) hx hb dX6_pump_41 (by decide) ?_
  refine lv_goto (tgt := 67) hx hb dX6_pump_42 (by decide) ?_
  refine lv_istore (lv' := [(5, .int 0), (4, .int (-1)), (3, .int (ePump (tE (pm1 U e0) e0))), (2, .int (nI i0)), (0, .ref (ad 5)), (1, .int (nI e0))]) hx hb dX6_pump_67 hl (by decide) rfl (fun ls hl => ?_)
  have hl : lv_has ls 10 [(5, .int 0), (4, .int (-1)), (3, .int (ePump (tE (pm1 U e0) e0))), (2, .int (nI i0)), (0, .ref (ad 5)), (1, .int (nI e0))] := hl
  refine lv_iload hx hb dX6_pump_69 (lv_at hl 1 rfl) ?_
  refine lv_iconst (v := (-1)) hx hb dX6_pump_71 (by decide) ?_
  refine lv_icmp_eq (tgt := 87) hx hb dX6_pump_72 (by decide) (fun c_3 => ?_) (fun c_3 => absurd rfl c_3)
  refine lv_iload_n hx hb dX6_pump_87 rfl (lv_at hl 2 rfl) ?_
  refine lv_aload_n hx hb dX6_pump_88 rfl (lv_at hl 4 rfl) ?_
  refine f_get X hw hMo fc7 9 (by decide) wq803 rfl (v := .ref (ad 11)) rfl dX6_pump_89 ?_
  refine lv_iload_n hx hb dX6_pump_92 rfl (lv_at hl 5 rfl) ?_
  refine f_iald X hw hm11 (vp_in_nI (n := e0) (by omega) (by omega)) dX6_pump_93 ?_
  rw [nI_clamp (n := e0) (by omega)]
  refine f_top (y := tE (pm1 U e0) e0 8) (rE e0 he).2.2.1 ?_
  refine lv_iload hx hb dX6_pump_94 (lv_at hl 0 rfl) ?_
  refine lv_iadd hx hb dX6_pump_96 ?_
  refine va_mmin hx hb (X.2.2.1.trans hl.1.symm) X.2.2.2.1 (X.2.2.2.2.1 _ wq996) (X.2.2.2.2.1 _ wq204) (X.2.2.2.2.1 _ wq18) (X.2.2.2.2.1 _ wq205) (Nat.le_of_ble_eq_true rfl) (Nat.le_of_ble_eq_true rfl) (Nat.zero_le _) (Nat.zero_le _) dX6_pump_97 ?_
  refine lv_istore (lv' := [(6, .int (if ((tE (pm1 U e0) e0 8) + 0) < (ePump (tE (pm1 U e0) e0)) then ((tE (pm1 U e0) e0 8) + 0) else (ePump (tE (pm1 U e0) e0)))), (5, .int 0), (4, .int (-1)), (3, .int (ePump (tE (pm1 U e0) e0))), (2, .int (nI i0)), (0, .ref (ad 5)), (1, .int (nI e0))]) hx hb dX6_pump_100 hl (by decide) rfl (fun ls hl => ?_)
  have hl : lv_has ls 10 [(6, .int (pmG U e0 (0))), (5, .int 0), (4, .int (-1)), (3, .int (ePump (tE (pm1 U e0) e0))), (2, .int (nI i0)), (0, .ref (ad 5)), (1, .int (nI e0))] := hl
  refine lv_iload_n hx hb dX6_pump_102 rfl (lv_at hl 4 rfl) ?_
  refine lv_bipush (v := 100) hx hb dX6_pump_103 (by decide) ?_
  refine lv_icmp_lt (tgt := 112) hx hb dX6_pump_105 (by decide) (fun c_4 => ?_) (fun c_4 => absurd (nI_nlt' (a := i0) (b := 100) c_4 (by omega) (by omega)) (by omega))
  have c_4 := nI_lt' (a := i0) (b := 100) c_4 (by omega) (by omega)
  refine lv_iconst (v := 0) hx hb dX6_pump_112 (by decide) ?_
  refine lv_istore (lv' := [(7, .int 0), (6, .int (pmG U e0 (0))), (5, .int 0), (4, .int (-1)), (3, .int (ePump (tE (pm1 U e0) e0))), (2, .int (nI i0)), (0, .ref (ad 5)), (1, .int (nI e0))]) hx hb dX6_pump_113 hl (by decide) rfl (fun ls hl => ?_)
  refine lv_aload_n hx hb dX6_pump_115 rfl (lv_at hl 6 rfl) ?_
  refine lv_iload_n hx hb dX6_pump_116 rfl (lv_at hl 7 rfl) ?_
  refine lv_iconst (v := 0) hx hb dX6_pump_117 (by decide) ?_
  refine fk_di (fcV X hw (c_en l g ad M2 hM (e0 := e0) (k := 0) he rfl (by omega)) hMo rfl wq873 kVX6_en ⟨(Nat.le_of_ble_eq_true rfl), (Nat.le_of_ble_eq_true rfl)⟩ rfl hl.1 rfl (Nat.le_of_ble_eq_true rfl) dX6_pump_118 ⟨Nat.le_refl _, Nat.le_refl _⟩) hw (fun H locs hw => ?_)
  refine lv_iload hx hb dX6_pump_121 (lv_at hl 0 rfl) ?_
  refine lv_if_eq (tgt := 138) hx hb dX6_pump_123 (by decide) (fun c_5 => ?_) (fun c_5 => absurd rfl c_5)
  refine lv_aload_n hx hb dX6_pump_138 rfl (lv_at hl 6 rfl) ?_
  refine lv_iload_n hx hb dX6_pump_139 rfl (lv_at hl 5 rfl) ?_
  refine lv_iconst (v := 0) hx hb dX6_pump_140 (by decide) ?_
  refine fk_di (fcV X hw (c_en l g ad M2 hM (e0 := i0) (k := 0) hi rfl (by omega)) hMo rfl wq873 kVX6_en ⟨(Nat.le_of_ble_eq_true rfl), (Nat.le_of_ble_eq_true rfl)⟩ rfl hl.1 rfl (Nat.le_of_ble_eq_true rfl) dX6_pump_141 ⟨Nat.le_refl _, Nat.le_refl _⟩) hw (fun H locs hw => ?_)
  refine fk_di (fcS X hw (c_far l g ad M2 (tE (pm1 U e0) e0 0) (tE (pm1 U e0) i0 0)) wq948 kSX6_far ⟨(Nat.le_of_ble_eq_true rfl), (Nat.le_of_ble_eq_true rfl)⟩ rfl hl.1 rfl (Nat.le_of_ble_eq_true rfl) dX6_pump_144 ⟨Nat.le_refl _, Nat.le_refl _⟩) hw (fun H locs hw => ?_)
  refine lv_istore (lv' := [(8, .int (aDist (tE (pm1 U e0) e0 0) (tE (pm1 U e0) i0 0))), (7, .int 0), (6, .int (pmG U e0 (0))), (5, .int 0), (4, .int (-1)), (3, .int (ePump (tE (pm1 U e0) e0))), (2, .int (nI i0)), (0, .ref (ad 5)), (1, .int (nI e0))]) hx hb dX6_pump_147 hl (by decide) rfl (fun ls hl => ?_)
  refine lv_iload hx hb dX6_pump_149 (lv_at hl 2 rfl) ?_
  refine lv_iload hx hb dX6_pump_151 (lv_at hl 2 rfl) ?_
  refine lv_iload hx hb dX6_pump_153 (lv_at hl 0 rfl) ?_
  refine lv_iconst (v := 2) hx hb dX6_pump_155 (by decide) ?_
  refine lv_idiv hx hb dX6_pump_156 (by decide) ?_
  refine lv_imul hx hb dX6_pump_157 ?_
  refine lv_bipush (v := 10) hx hb dX6_pump_158 (by decide) ?_
  refine lv_idiv hx hb dX6_pump_160 (by decide) ?_
  refine lv_isub hx hb dX6_pump_161 ?_
  refine lv_istore (lv' := [(9, .int ((pmG U e0 (0)) - (((pmG U e0 (0)) * ((aDist (tE (pm1 U e0) e0 0) (tE (pm1 U e0) i0 0)) / 2)) / 10))), (8, .int (aDist (tE (pm1 U e0) e0 0) (tE (pm1 U e0) i0 0))), (7, .int 0), (6, .int (pmG U e0 (0))), (5, .int 0), (4, .int (-1)), (3, .int (ePump (tE (pm1 U e0) e0))), (2, .int (nI i0)), (0, .ref (ad 5)), (1, .int (nI e0))]) hx hb dX6_pump_162 hl (by decide) rfl (fun ls hl => ?_)
  have hl : lv_has ls 10 [(9, .int (arrivesI (pmG U e0 (0)) (aDist (tE (pm1 U e0) e0 0) (tE (pm1 U e0) i0 0)))), (8, .int (aDist (tE (pm1 U e0) e0 0) (tE (pm1 U e0) i0 0))), (7, .int 0), (6, .int (pmG U e0 (0))), (5, .int 0), (4, .int (-1)), (3, .int (ePump (tE (pm1 U e0) e0))), (2, .int (nI i0)), (0, .ref (ad 5)), (1, .int (nI e0))] := hl
  refine lv_aload_n hx hb dX6_pump_164 rfl (lv_at hl 8 rfl) ?_
  refine lv_iload_n hx hb dX6_pump_165 rfl (lv_at hl 9 rfl) ?_
  refine lv_bipush (v := 8) hx hb dX6_pump_166 (by decide) ?_
  refine lv_iload hx hb dX6_pump_168 (lv_at hl 3 rfl) ?_
  refine fk_mv (fcV X hw (c_setEn8 l g ad M2 hM (e0 := e0) he (pmG U e0 (0))) hMo rfl wq932 kVX6_setEn ⟨(Nat.le_of_ble_eq_true rfl), (Nat.le_of_ble_eq_true rfl)⟩ rfl hl.1 rfl (Nat.le_of_ble_eq_true rfl) dX6_pump_170 ⟨Nat.le_refl _, Nat.le_refl _⟩) hw (fun M3 H locs hM hr3 hw => ?_)
  have hrA := fReg_tr hrA hr3
  obtain ⟨pcs, wa, ht, et, mi, co, as, hMo, ⟨hm6, hm7, hm8, hm9, hm10, hm11, hm12, hm13, hm14⟩, hRel, hCnt⟩ := id hM
  obtain ⟨hn1, hn2, hn3⟩ := id hCnt
  have hn1 : tHn U ≤ 30 := hn1
  have hn2 : tPn U ≤ 6 := hn2
  have hn3 : tEn U ≤ 6 := hn3
  have hMo : M3 5 = some (.inr (7, [.int th, .int (nI (tHn U)), .int (nI (tPn U)), .int (nI (tEn U)), .ref (ad 6), .ref (ad 7), .ref (ad 8), .ref (ad 9), .ref (ad 10), .ref (ad 11), .ref (ad 12), .ref (ad 13), .ref (ad 14)])) := hMo
  obtain ⟨rH, rP, rE, rM⟩ := id hRel
  refine lv_iload hx hb dX6_pump_173 (lv_at hl 2 rfl) ?_
  refine lv_if_eq (tgt := 202) hx hb dX6_pump_175 (by decide) (fun c_6 => ?_) (fun c_6 => absurd rfl c_6)
  refine lv_aload_n hx hb dX6_pump_202 rfl (lv_at hl 8 rfl) ?_
  refine f_get X hw hMo fc7 9 (by decide) wq803 rfl (v := .ref (ad 11)) rfl dX6_pump_203 ?_
  refine lv_iload_n hx hb dX6_pump_206 rfl (lv_at hl 7 rfl) ?_
  refine lv_dup2_11 hx hb dX6_pump_207 rfl rfl ?_
  refine f_iald X hw hm11 (vp_in_nI (n := i0) (by omega) (by omega)) dX6_pump_208 ?_
  rw [nI_clamp (n := i0) (by omega)]
  refine f_top (y := tE (pm3 (pm1 U e0) e0 (pmG U e0 (0))) i0 8) (rE i0 hi).2.2.1 ?_
  refine lv_iload hx hb dX6_pump_209 (lv_at hl 0 rfl) ?_
  refine lv_iadd hx hb dX6_pump_211 ?_
  refine f_iast X hw hm11 (vp_in_nI (n := i0) (by omega) (by omega)) dX6_pump_212 (fun H locs hw => ?_)
  rw [nI_clamp (n := i0) (by omega)] at hw
  have hw : fw g ad (fU M3 11 (.inl (gI g, 6, .inl (upd co i0 ((tE (pm3 (pm1 U e0) e0 (pmG U e0 (0))) i0 8) + (arrivesI (pmG U e0 (0)) (aDist (tE (pm1 U e0) e0 0) (tE (pm1 U e0) i0 0)))))))) s H locs := hw
  have hMo : (fU M3 11 (.inl (gI g, 6, .inl (upd co i0 ((tE (pm3 (pm1 U e0) e0 (pmG U e0 (0))) i0 8) + (arrivesI (pmG U e0 (0)) (aDist (tE (pm1 U e0) e0 0) (tE (pm1 U e0) i0 0)))))))) 5 = some (.inr (7, [.int th, .int (nI (tHn U)), .int (nI (tPn U)), .int (nI (tEn U)), .ref (ad 6), .ref (ad 7), .ref (ad 8), .ref (ad 9), .ref (ad 10), .ref (ad 11), .ref (ad 12), .ref (ad 13), .ref (ad 14)])) := (fU_n (by omega)).trans hMo
  have hm6 : (fU M3 11 (.inl (gI g, 6, .inl (upd co i0 ((tE (pm3 (pm1 U e0) e0 (pmG U e0 (0))) i0 8) + (arrivesI (pmG U e0 (0)) (aDist (tE (pm1 U e0) e0 0) (tE (pm1 U e0) i0 0)))))))) 6 = some (.inl (gI g, 6, .inl pcs)) := (fU_n (by omega)).trans hm6
  have hm7 : (fU M3 11 (.inl (gI g, 6, .inl (upd co i0 ((tE (pm3 (pm1 U e0) e0 (pmG U e0 (0))) i0 8) + (arrivesI (pmG U e0 (0)) (aDist (tE (pm1 U e0) e0 0) (tE (pm1 U e0) i0 0)))))))) 7 = some (.inl (gI g, 6, .inl wa)) := (fU_n (by omega)).trans hm7
  have hm8 : (fU M3 11 (.inl (gI g, 6, .inl (upd co i0 ((tE (pm3 (pm1 U e0) e0 (pmG U e0 (0))) i0 8) + (arrivesI (pmG U e0 (0)) (aDist (tE (pm1 U e0) e0 0) (tE (pm1 U e0) i0 0)))))))) 8 = some (.inl (gI g, 210, .inl ht)) := (fU_n (by omega)).trans hm8
  have hm9 : (fU M3 11 (.inl (gI g, 6, .inl (upd co i0 ((tE (pm3 (pm1 U e0) e0 (pmG U e0 (0))) i0 8) + (arrivesI (pmG U e0 (0)) (aDist (tE (pm1 U e0) e0 0) (tE (pm1 U e0) i0 0)))))))) 9 = some (.inl (gI g, 54, .inl et)) := (fU_n (by omega)).trans hm9
  have hm10 : (fU M3 11 (.inl (gI g, 6, .inl (upd co i0 ((tE (pm3 (pm1 U e0) e0 (pmG U e0 (0))) i0 8) + (arrivesI (pmG U e0 (0)) (aDist (tE (pm1 U e0) e0 0) (tE (pm1 U e0) i0 0)))))))) 10 = some (.inl (gI g, 1, .inl mi)) := (fU_n (by omega)).trans hm10
  have hm12 : (fU M3 11 (.inl (gI g, 6, .inl (upd co i0 ((tE (pm3 (pm1 U e0) e0 (pmG U e0 (0))) i0 8) + (arrivesI (pmG U e0 (0)) (aDist (tE (pm1 U e0) e0 0) (tE (pm1 U e0) i0 0)))))))) 12 = some (.inl (gZ g, 6, .inl as)) := (fU_n (by omega)).trans hm12
  have hm13 : (fU M3 11 (.inl (gI g, 6, .inl (upd co i0 ((tE (pm3 (pm1 U e0) e0 (pmG U e0 (0))) i0 8) + (arrivesI (pmG U e0 (0)) (aDist (tE (pm1 U e0) e0 0) (tE (pm1 U e0) i0 0)))))))) 13 = some (.inl (gI g, 140, .inl sp)) := (fU_n (by omega)).trans hm13
  have hm14 : (fU M3 11 (.inl (gI g, 6, .inl (upd co i0 ((tE (pm3 (pm1 U e0) e0 (pmG U e0 (0))) i0 8) + (arrivesI (pmG U e0 (0)) (aDist (tE (pm1 U e0) e0 0) (tE (pm1 U e0) i0 0)))))))) 14 = some (.inl (gZ g, 30, .inl ca)) := (fU_n (by omega)).trans hm14
  have hm11 : (fU M3 11 (.inl (gI g, 6, .inl (upd co i0 ((tE (pm3 (pm1 U e0) e0 (pmG U e0 (0))) i0 8) + (arrivesI (pmG U e0 (0)) (aDist (tE (pm1 U e0) e0 0) (tE (pm1 U e0) i0 0)))))))) 11 = some (.inl (gI g, 6, .inl (upd co i0 ((tE (pm3 (pm1 U e0) e0 (pmG U e0 (0))) i0 8) + (arrivesI (pmG U e0 (0)) (aDist (tE (pm1 U e0) e0 0) (tE (pm1 U e0) i0 0))))))) := fU_s
  have hM : isMo g ad (fU M3 11 (.inl (gI g, 6, .inl (upd co i0 ((tE (pm3 (pm1 U e0) e0 (pmG U e0 (0))) i0 8) + (arrivesI (pmG U e0 (0)) (aDist (tE (pm1 U e0) e0 0) (tE (pm1 U e0) i0 0)))))))) th (pmE (pm1 U e0) e0 i0 (pmG U e0 (0))) sp ca := ⟨_, _, _, _, _, _, _, (fU_n (by omega)).trans (hMo), ⟨(fU_n (by omega)).trans (hm6), (fU_n (by omega)).trans (hm7), (fU_n (by omega)).trans (hm8), (fU_n (by omega)).trans (hm9), (fU_n (by omega)).trans (hm10), fU_s, (fU_n (by omega)).trans (hm12), (fU_n (by omega)).trans (hm13), (fU_n (by omega)).trans (hm14)⟩, mRel_C hRel hi, hCnt⟩
  have hrA : fReg 5 15 ad Mo ad (fU M3 11 (.inl (gI g, 6, .inl (upd co i0 ((tE (pm3 (pm1 U e0) e0 (pmG U e0 (0))) i0 8) + (arrivesI (pmG U e0 (0)) (aDist (tE (pm1 U e0) e0 0) (tE (pm1 U e0) i0 0)))))))) := fReg_U hrA (by omega)
  obtain ⟨M4, eM4⟩ : ∃ z, z = (fU M3 11 (.inl (gI g, 6, .inl (upd co i0 ((tE (pm3 (pm1 U e0) e0 (pmG U e0 (0))) i0 8) + (arrivesI (pmG U e0 (0)) (aDist (tE (pm1 U e0) e0 0) (tE (pm1 U e0) i0 0)))))))) := ⟨_, rfl⟩
  rw [← eM4] at hM hw hrA
  obtain ⟨pcs, wa, ht, et, mi, co, as, hMo, ⟨hm6, hm7, hm8, hm9, hm10, hm11, hm12, hm13, hm14⟩, hRel, hCnt⟩ := id hM
  obtain ⟨hn1, hn2, hn3⟩ := id hCnt
  have hn1 : tHn U ≤ 30 := hn1
  have hn2 : tPn U ≤ 6 := hn2
  have hn3 : tEn U ≤ 6 := hn3
  have hMo : M4 5 = some (.inr (7, [.int th, .int (nI (tHn U)), .int (nI (tPn U)), .int (nI (tEn U)), .ref (ad 6), .ref (ad 7), .ref (ad 8), .ref (ad 9), .ref (ad 10), .ref (ad 11), .ref (ad 12), .ref (ad 13), .ref (ad 14)])) := hMo
  obtain ⟨rH, rP, rE, rM⟩ := id hRel
  rw [hQ9, ← hMq]
  exact f_vret X hw ⟨rfl, hM, hrA⟩ (Nat.le_refl _) (Nat.le_refl _) dX6_pump_213
set_option maxHeartbeats 4000000 in
set_option maxRecDepth 100000 in
theorem c_m_pump_EP (l : Launch) (g : fG) (ad : Nat → Nat) (M : fM) {th : Int32} {U : fTn} {sp ca : Nat → Int32} (hM : isMo g ad M th U sp ca) {e0 : Nat} (he : e0 < tEn U) {i0 : Nat} (hz : tE U e0 7 = nI i0) (hi : i0 < tEn U) {p0 : Nat} (hs : mSrc (pm1 U e0) (tE (pm1 U e0) e0) = nI p0) (hp : p0 < tPn U) : fCv l g yX6_pump cX6_pump 10 4 90 0 0 ad M [.ref (ad 5), .int (nI e0)] (fMw g ad M th (pmE (pmW U e0 p0) e0 i0 (pmG U e0 (pmS U e0 p0))) sp ca) := by
  refine f_body (own := RX6) (by decide +kernel) rfl (Nat.le_of_ble_eq_true rfl) ?_
  intro p e s m args below meth c ls X hw hin hl
  have hx := X.1
  have hb := X.2.1
  have hl : lv_has ls 10 [(0, .ref (ad 5)), (1, .int (nI e0))] := hl
  obtain ⟨pcs, wa, ht, et, mi, co, as, hMo, ⟨hm6, hm7, hm8, hm9, hm10, hm11, hm12, hm13, hm14⟩, hRel, hCnt⟩ := id hM
  obtain ⟨hn1, hn2, hn3⟩ := id hCnt
  have hn1 : tHn U ≤ 30 := hn1
  have hn2 : tPn U ≤ 6 := hn2
  have hn3 : tEn U ≤ 6 := hn3
  have hMo : M 5 = some (.inr (7, [.int th, .int (nI (tHn U)), .int (nI (tPn U)), .int (nI (tEn U)), .ref (ad 6), .ref (ad 7), .ref (ad 8), .ref (ad 9), .ref (ad 10), .ref (ad 11), .ref (ad 12), .ref (ad 13), .ref (ad 14)])) := hMo
  obtain ⟨rH, rP, rE, rM⟩ := id hRel
  obtain ⟨Mo, hMq⟩ : ∃ z, z = M := ⟨_, rfl⟩
  have hrA : fReg 5 15 ad Mo ad M := by rw [hMq]; exact fReg_rf
  obtain ⟨Q9, hQ9⟩ : ∃ z, z = MQ below (fQv g (fMw g ad M th (pmE (pmW U e0 p0) e0 i0 (pmG U e0 (pmS U e0 p0))) sp ca)) args s 0 0 (fA g) := ⟨_, rfl⟩
  show W p l e (fR 4 90 0 0) s m args below meth c _ _ 0 0 (MQ below (fQv g (fMw g ad M th (pmE (pmW U e0 p0) e0 i0 (pmG U e0 (pmS U e0 p0))) sp ca)) args s 0 0 (fA g)) (F0 m 0 ls [])
  rw [← hQ9]
  refine lv_aload_n hx hb dX6_pump_0 rfl (lv_at hl 0 rfl) ?_
  refine lv_iload_n hx hb dX6_pump_1 rfl (lv_at hl 1 rfl) ?_
  refine lv_bipush (v := 7) hx hb dX6_pump_2 (by decide) ?_
  refine fk_di (fcV X hw (c_en l g ad M hM (e0 := e0) (k := 7) he rfl (by omega)) hMo rfl wq873 kVX6_en ⟨(Nat.le_of_ble_eq_true rfl), (Nat.le_of_ble_eq_true rfl)⟩ rfl hl.1 rfl (Nat.le_of_ble_eq_true rfl) dX6_pump_4 ⟨Nat.le_refl _, Nat.le_refl _⟩) hw (fun H locs hw => ?_)
  refine f_top (y := nI i0) hz ?_
  refine lv_istore_n (lv' := [(2, .int (nI i0)), (0, .ref (ad 5)), (1, .int (nI e0))]) hx hb dX6_pump_7 rfl hl (by decide) rfl (fun ls hl => ?_)
  refine lv_aload_n hx hb dX6_pump_8 rfl (lv_at hl 1 rfl) ?_
  refine lv_iload_n hx hb dX6_pump_9 rfl (lv_at hl 2 rfl) ?_
  refine lv_bipush (v := 8) hx hb dX6_pump_10 (by decide) ?_
  refine lv_iconst (v := 0) hx hb dX6_pump_12 (by decide) ?_
  refine fk_mv (fcV X hw (c_setEn8 l g ad M hM (e0 := e0) he 0) hMo rfl wq932 kVX6_setEn ⟨(Nat.le_of_ble_eq_true rfl), (Nat.le_of_ble_eq_true rfl)⟩ rfl hl.1 rfl (Nat.le_of_ble_eq_true rfl) dX6_pump_13 ⟨Nat.le_refl _, Nat.le_refl _⟩) hw (fun M5 H locs hM hr5 hw => ?_)
  have hrA := fReg_tr hrA hr5
  obtain ⟨pcs, wa, ht, et, mi, co, as, hMo, ⟨hm6, hm7, hm8, hm9, hm10, hm11, hm12, hm13, hm14⟩, hRel, hCnt⟩ := id hM
  obtain ⟨hn1, hn2, hn3⟩ := id hCnt
  have hn1 : tHn U ≤ 30 := hn1
  have hn2 : tPn U ≤ 6 := hn2
  have hn3 : tEn U ≤ 6 := hn3
  have hMo : M5 5 = some (.inr (7, [.int th, .int (nI (tHn U)), .int (nI (tPn U)), .int (nI (tEn U)), .ref (ad 6), .ref (ad 7), .ref (ad 8), .ref (ad 9), .ref (ad 10), .ref (ad 11), .ref (ad 12), .ref (ad 13), .ref (ad 14)])) := hMo
  obtain ⟨rH, rP, rE, rM⟩ := id hRel
  refine lv_iload_n hx hb dX6_pump_16 rfl (lv_at hl 0 rfl) ?_
  refine lv_iconst (v := (-1)) hx hb dX6_pump_17 (by decide) ?_
  refine lv_icmp_ne (tgt := 22) hx hb dX6_pump_18 (by decide) (fun c_1 => ?_) (fun c_1 => absurd c_1 (nI_m1 (by omega)))
  refine lv_aload_n hx hb dX6_pump_22 rfl (lv_at hl 1 rfl) ?_
  refine lv_iload_n hx hb dX6_pump_23 rfl (lv_at hl 2 rfl) ?_
  refine fk_di (fcV X hw (c_m_canPump l g ad M5 hM (e0 := e0) he) hMo rfl wq979 kVX6_canPump ⟨(Nat.le_of_ble_eq_true rfl), (Nat.le_of_ble_eq_true rfl)⟩ rfl hl.1 rfl (Nat.le_of_ble_eq_true rfl) dX6_pump_24 ⟨Nat.le_refl _, Nat.le_refl _⟩) hw (fun H locs hw => ?_)
  refine lv_istore_n (lv' := [(3, .int (ePump (tE (pm1 U e0) e0))), (2, .int (nI i0)), (0, .ref (ad 5)), (1, .int (nI e0))]) hx hb dX6_pump_27 rfl hl (by decide) rfl (fun ls hl => ?_)
  refine lv_aload_n hx hb dX6_pump_28 rfl (lv_at hl 2 rfl) ?_
  refine lv_iload_n hx hb dX6_pump_29 rfl (lv_at hl 3 rfl) ?_
  refine fk_di (fcV X hw (c_m_source l g ad M5 hM (e0 := e0) he) hMo rfl wq975 kVX6_source ⟨(Nat.le_of_ble_eq_true rfl), (Nat.le_of_ble_eq_true rfl)⟩ rfl hl.1 rfl (Nat.le_of_ble_eq_true rfl) dX6_pump_30 ⟨Nat.le_refl _, Nat.le_refl _⟩) hw (fun H locs hw => ?_)
  refine f_top (y := nI p0) hs ?_
  refine lv_istore (lv' := [(4, .int (nI p0)), (3, .int (ePump (tE (pm1 U e0) e0))), (2, .int (nI i0)), (0, .ref (ad 5)), (1, .int (nI e0))]) hx hb dX6_pump_33 hl (by decide) rfl (fun ls hl => ?_)
  refine lv_iload hx hb dX6_pump_35 (lv_at hl 0 rfl) ?_
  refine lv_iconst (v := (-1)) hx hb dX6_pump_37 (by decide) ?_
  refine lv_icmp_ne (tgt := 45) hx hb dX6_pump_38 (by decide) (fun c_2 => ?_) (fun c_2 => absurd c_2 (nI_m1 (by omega)))
  refine lv_aload_n hx hb dX6_pump_45 rfl (lv_at hl 3 rfl) ?_
  refine f_get X hw hMo fc7 5 (by decide) wq799 rfl (v := .ref (ad 7)) rfl dX6_pump_46 ?_
  refine lv_iload hx hb dX6_pump_49 (lv_at hl 0 rfl) ?_
  refine f_iald X hw hm7 (vp_in_nI (n := p0) (by omega) (by omega)) dX6_pump_51 ?_
  rw [nI_clamp (n := p0) (by omega)]
  refine f_top (y := tP U p0 1) (rP p0 hp).2 ?_
  refine lv_iconst (v := 0) hx hb dX6_pump_52 (by decide) ?_
  refine lv_iload_n hx hb dX6_pump_53 rfl (lv_at hl 1 rfl) ?_
  refine lv_aload_n hx hb dX6_pump_54 rfl (lv_at hl 3 rfl) ?_
  refine f_get X hw hMo fc7 9 (by decide) wq803 rfl (v := .ref (ad 11)) rfl dX6_pump_55 ?_
  refine lv_iload_n hx hb dX6_pump_58 rfl (lv_at hl 4 rfl) ?_
  refine f_iald X hw hm11 (vp_in_nI (n := e0) (by omega) (by omega)) dX6_pump_59 ?_
  rw [nI_clamp (n := e0) (by omega)]
  refine f_top (y := tE (pm1 U e0) e0 8) (rE e0 he).2.2.1 ?_
  refine lv_isub hx hb dX6_pump_60 ?_
  refine va_mmax hx hb (X.2.2.1.trans hl.1.symm) X.2.2.2.1 (X.2.2.2.2.1 _ wq995) (X.2.2.2.2.1 _ wq173) (X.2.2.2.2.1 _ wq18) (X.2.2.2.2.1 _ wq174) (Nat.le_of_ble_eq_true rfl) (Nat.le_of_ble_eq_true rfl) (Nat.zero_le _) (Nat.zero_le _) dX6_pump_61 ?_
  refine va_mmin hx hb (X.2.2.1.trans hl.1.symm) X.2.2.2.1 (X.2.2.2.2.1 _ wq996) (X.2.2.2.2.1 _ wq204) (X.2.2.2.2.1 _ wq18) (X.2.2.2.2.1 _ wq205) (Nat.le_of_ble_eq_true rfl) (Nat.le_of_ble_eq_true rfl) (Nat.zero_le _) (Nat.zero_le _) dX6_pump_64 ?_
  refine lv_istore (lv' := [(5, .int (if (if 0 < ((ePump (tE (pm1 U e0) e0)) - (tE (pm1 U e0) e0 8)) then ((ePump (tE (pm1 U e0) e0)) - (tE (pm1 U e0) e0 8)) else 0) < (tP U p0 1) then (if 0 < ((ePump (tE (pm1 U e0) e0)) - (tE (pm1 U e0) e0 8)) then ((ePump (tE (pm1 U e0) e0)) - (tE (pm1 U e0) e0 8)) else 0) else (tP U p0 1))), (4, .int (nI p0)), (3, .int (ePump (tE (pm1 U e0) e0))), (2, .int (nI i0)), (0, .ref (ad 5)), (1, .int (nI e0))]) hx hb dX6_pump_67 hl (by decide) rfl (fun ls hl => ?_)
  have hl : lv_has ls 10 [(5, .int (pmS U e0 p0)), (4, .int (nI p0)), (3, .int (ePump (tE (pm1 U e0) e0))), (2, .int (nI i0)), (0, .ref (ad 5)), (1, .int (nI e0))] := hl
  refine lv_iload hx hb dX6_pump_69 (lv_at hl 1 rfl) ?_
  refine lv_iconst (v := (-1)) hx hb dX6_pump_71 (by decide) ?_
  refine lv_icmp_eq (tgt := 87) hx hb dX6_pump_72 (by decide) (fun c_3 => absurd c_3 (nI_m1 (by omega))) (fun c_3 => ?_)
  refine lv_aload_n hx hb dX6_pump_75 rfl (lv_at hl 4 rfl) ?_
  refine f_get X hw hMo fc7 5 (by decide) wq799 rfl (v := .ref (ad 7)) rfl dX6_pump_76 ?_
  refine lv_iload hx hb dX6_pump_79 (lv_at hl 1 rfl) ?_
  refine lv_dup2_11 hx hb dX6_pump_81 rfl rfl ?_
  refine f_iald X hw hm7 (vp_in_nI (n := p0) (by omega) (by omega)) dX6_pump_82 ?_
  rw [nI_clamp (n := p0) (by omega)]
  refine f_top (y := tP U p0 1) (rP p0 hp).2 ?_
  refine lv_iload hx hb dX6_pump_83 (lv_at hl 0 rfl) ?_
  refine lv_isub hx hb dX6_pump_85 ?_
  refine f_iast X hw hm7 (vp_in_nI (n := p0) (by omega) (by omega)) dX6_pump_86 (fun H locs hw => ?_)
  rw [nI_clamp (n := p0) (by omega)] at hw
  have hw : fw g ad (fU M5 7 (.inl (gI g, 6, .inl (upd wa p0 ((tP U p0 1) - (pmS U e0 p0)))))) s H locs := hw
  have hMo : (fU M5 7 (.inl (gI g, 6, .inl (upd wa p0 ((tP U p0 1) - (pmS U e0 p0)))))) 5 = some (.inr (7, [.int th, .int (nI (tHn U)), .int (nI (tPn U)), .int (nI (tEn U)), .ref (ad 6), .ref (ad 7), .ref (ad 8), .ref (ad 9), .ref (ad 10), .ref (ad 11), .ref (ad 12), .ref (ad 13), .ref (ad 14)])) := (fU_n (by omega)).trans hMo
  have hm6 : (fU M5 7 (.inl (gI g, 6, .inl (upd wa p0 ((tP U p0 1) - (pmS U e0 p0)))))) 6 = some (.inl (gI g, 6, .inl pcs)) := (fU_n (by omega)).trans hm6
  have hm8 : (fU M5 7 (.inl (gI g, 6, .inl (upd wa p0 ((tP U p0 1) - (pmS U e0 p0)))))) 8 = some (.inl (gI g, 210, .inl ht)) := (fU_n (by omega)).trans hm8
  have hm9 : (fU M5 7 (.inl (gI g, 6, .inl (upd wa p0 ((tP U p0 1) - (pmS U e0 p0)))))) 9 = some (.inl (gI g, 54, .inl et)) := (fU_n (by omega)).trans hm9
  have hm10 : (fU M5 7 (.inl (gI g, 6, .inl (upd wa p0 ((tP U p0 1) - (pmS U e0 p0)))))) 10 = some (.inl (gI g, 1, .inl mi)) := (fU_n (by omega)).trans hm10
  have hm11 : (fU M5 7 (.inl (gI g, 6, .inl (upd wa p0 ((tP U p0 1) - (pmS U e0 p0)))))) 11 = some (.inl (gI g, 6, .inl co)) := (fU_n (by omega)).trans hm11
  have hm12 : (fU M5 7 (.inl (gI g, 6, .inl (upd wa p0 ((tP U p0 1) - (pmS U e0 p0)))))) 12 = some (.inl (gZ g, 6, .inl as)) := (fU_n (by omega)).trans hm12
  have hm13 : (fU M5 7 (.inl (gI g, 6, .inl (upd wa p0 ((tP U p0 1) - (pmS U e0 p0)))))) 13 = some (.inl (gI g, 140, .inl sp)) := (fU_n (by omega)).trans hm13
  have hm14 : (fU M5 7 (.inl (gI g, 6, .inl (upd wa p0 ((tP U p0 1) - (pmS U e0 p0)))))) 14 = some (.inl (gZ g, 30, .inl ca)) := (fU_n (by omega)).trans hm14
  have hm7 : (fU M5 7 (.inl (gI g, 6, .inl (upd wa p0 ((tP U p0 1) - (pmS U e0 p0)))))) 7 = some (.inl (gI g, 6, .inl (upd wa p0 ((tP U p0 1) - (pmS U e0 p0))))) := fU_s
  have hM : isMo g ad (fU M5 7 (.inl (gI g, 6, .inl (upd wa p0 ((tP U p0 1) - (pmS U e0 p0)))))) th (pmW U e0 p0) sp ca := ⟨_, _, _, _, _, _, _, (fU_n (by omega)).trans (hMo), ⟨(fU_n (by omega)).trans (hm6), fU_s, (fU_n (by omega)).trans (hm8), (fU_n (by omega)).trans (hm9), (fU_n (by omega)).trans (hm10), (fU_n (by omega)).trans (hm11), (fU_n (by omega)).trans (hm12), (fU_n (by omega)).trans (hm13), (fU_n (by omega)).trans (hm14)⟩, mRel_W hRel hp, hCnt⟩
  have hrA : fReg 5 15 ad Mo ad (fU M5 7 (.inl (gI g, 6, .inl (upd wa p0 ((tP U p0 1) - (pmS U e0 p0)))))) := fReg_U hrA (by omega)
  obtain ⟨M6, eM6⟩ : ∃ z, z = (fU M5 7 (.inl (gI g, 6, .inl (upd wa p0 ((tP U p0 1) - (pmS U e0 p0)))))) := ⟨_, rfl⟩
  rw [← eM6] at hM hw hrA
  obtain ⟨pcs, wa, ht, et, mi, co, as, hMo, ⟨hm6, hm7, hm8, hm9, hm10, hm11, hm12, hm13, hm14⟩, hRel, hCnt⟩ := id hM
  obtain ⟨hn1, hn2, hn3⟩ := id hCnt
  have hn1 : tHn U ≤ 30 := hn1
  have hn2 : tPn U ≤ 6 := hn2
  have hn3 : tEn U ≤ 6 := hn3
  have hMo : M6 5 = some (.inr (7, [.int th, .int (nI (tHn U)), .int (nI (tPn U)), .int (nI (tEn U)), .ref (ad 6), .ref (ad 7), .ref (ad 8), .ref (ad 9), .ref (ad 10), .ref (ad 11), .ref (ad 12), .ref (ad 13), .ref (ad 14)])) := hMo
  obtain ⟨rH, rP, rE, rM⟩ := id hRel
  refine lv_iload_n hx hb dX6_pump_87 rfl (lv_at hl 2 rfl) ?_
  refine lv_aload_n hx hb dX6_pump_88 rfl (lv_at hl 4 rfl) ?_
  refine f_get X hw hMo fc7 9 (by decide) wq803 rfl (v := .ref (ad 11)) rfl dX6_pump_89 ?_
  refine lv_iload_n hx hb dX6_pump_92 rfl (lv_at hl 5 rfl) ?_
  refine f_iald X hw hm11 (vp_in_nI (n := e0) (by omega) (by omega)) dX6_pump_93 ?_
  rw [nI_clamp (n := e0) (by omega)]
  refine f_top (y := tE (pm1 U e0) e0 8) (rE e0 he).2.2.1 ?_
  refine lv_iload hx hb dX6_pump_94 (lv_at hl 0 rfl) ?_
  refine lv_iadd hx hb dX6_pump_96 ?_
  refine va_mmin hx hb (X.2.2.1.trans hl.1.symm) X.2.2.2.1 (X.2.2.2.2.1 _ wq996) (X.2.2.2.2.1 _ wq204) (X.2.2.2.2.1 _ wq18) (X.2.2.2.2.1 _ wq205) (Nat.le_of_ble_eq_true rfl) (Nat.le_of_ble_eq_true rfl) (Nat.zero_le _) (Nat.zero_le _) dX6_pump_97 ?_
  refine lv_istore (lv' := [(6, .int (if ((tE (pm1 U e0) e0 8) + (pmS U e0 p0)) < (ePump (tE (pm1 U e0) e0)) then ((tE (pm1 U e0) e0 8) + (pmS U e0 p0)) else (ePump (tE (pm1 U e0) e0)))), (5, .int (pmS U e0 p0)), (4, .int (nI p0)), (3, .int (ePump (tE (pm1 U e0) e0))), (2, .int (nI i0)), (0, .ref (ad 5)), (1, .int (nI e0))]) hx hb dX6_pump_100 hl (by decide) rfl (fun ls hl => ?_)
  have hl : lv_has ls 10 [(6, .int (pmG U e0 (pmS U e0 p0))), (5, .int (pmS U e0 p0)), (4, .int (nI p0)), (3, .int (ePump (tE (pm1 U e0) e0))), (2, .int (nI i0)), (0, .ref (ad 5)), (1, .int (nI e0))] := hl
  refine lv_iload_n hx hb dX6_pump_102 rfl (lv_at hl 4 rfl) ?_
  refine lv_bipush (v := 100) hx hb dX6_pump_103 (by decide) ?_
  refine lv_icmp_lt (tgt := 112) hx hb dX6_pump_105 (by decide) (fun c_4 => ?_) (fun c_4 => absurd (nI_nlt' (a := i0) (b := 100) c_4 (by omega) (by omega)) (by omega))
  have c_4 := nI_lt' (a := i0) (b := 100) c_4 (by omega) (by omega)
  refine lv_iconst (v := 0) hx hb dX6_pump_112 (by decide) ?_
  refine lv_istore (lv' := [(7, .int 0), (6, .int (pmG U e0 (pmS U e0 p0))), (5, .int (pmS U e0 p0)), (4, .int (nI p0)), (3, .int (ePump (tE (pm1 U e0) e0))), (2, .int (nI i0)), (0, .ref (ad 5)), (1, .int (nI e0))]) hx hb dX6_pump_113 hl (by decide) rfl (fun ls hl => ?_)
  refine lv_aload_n hx hb dX6_pump_115 rfl (lv_at hl 6 rfl) ?_
  refine lv_iload_n hx hb dX6_pump_116 rfl (lv_at hl 7 rfl) ?_
  refine lv_iconst (v := 0) hx hb dX6_pump_117 (by decide) ?_
  refine fk_di (fcV X hw (c_en l g ad M6 hM (e0 := e0) (k := 0) he rfl (by omega)) hMo rfl wq873 kVX6_en ⟨(Nat.le_of_ble_eq_true rfl), (Nat.le_of_ble_eq_true rfl)⟩ rfl hl.1 rfl (Nat.le_of_ble_eq_true rfl) dX6_pump_118 ⟨Nat.le_refl _, Nat.le_refl _⟩) hw (fun H locs hw => ?_)
  refine lv_iload hx hb dX6_pump_121 (lv_at hl 0 rfl) ?_
  refine lv_if_eq (tgt := 138) hx hb dX6_pump_123 (by decide) (fun c_5 => ?_) (fun c_5 => absurd rfl c_5)
  refine lv_aload_n hx hb dX6_pump_138 rfl (lv_at hl 6 rfl) ?_
  refine lv_iload_n hx hb dX6_pump_139 rfl (lv_at hl 5 rfl) ?_
  refine lv_iconst (v := 0) hx hb dX6_pump_140 (by decide) ?_
  refine fk_di (fcV X hw (c_en l g ad M6 hM (e0 := i0) (k := 0) hi rfl (by omega)) hMo rfl wq873 kVX6_en ⟨(Nat.le_of_ble_eq_true rfl), (Nat.le_of_ble_eq_true rfl)⟩ rfl hl.1 rfl (Nat.le_of_ble_eq_true rfl) dX6_pump_141 ⟨Nat.le_refl _, Nat.le_refl _⟩) hw (fun H locs hw => ?_)
  refine fk_di (fcS X hw (c_far l g ad M6 (tE (pmW U e0 p0) e0 0) (tE (pmW U e0 p0) i0 0)) wq948 kSX6_far ⟨(Nat.le_of_ble_eq_true rfl), (Nat.le_of_ble_eq_true rfl)⟩ rfl hl.1 rfl (Nat.le_of_ble_eq_true rfl) dX6_pump_144 ⟨Nat.le_refl _, Nat.le_refl _⟩) hw (fun H locs hw => ?_)
  refine lv_istore (lv' := [(8, .int (aDist (tE (pmW U e0 p0) e0 0) (tE (pmW U e0 p0) i0 0))), (7, .int 0), (6, .int (pmG U e0 (pmS U e0 p0))), (5, .int (pmS U e0 p0)), (4, .int (nI p0)), (3, .int (ePump (tE (pm1 U e0) e0))), (2, .int (nI i0)), (0, .ref (ad 5)), (1, .int (nI e0))]) hx hb dX6_pump_147 hl (by decide) rfl (fun ls hl => ?_)
  refine lv_iload hx hb dX6_pump_149 (lv_at hl 2 rfl) ?_
  refine lv_iload hx hb dX6_pump_151 (lv_at hl 2 rfl) ?_
  refine lv_iload hx hb dX6_pump_153 (lv_at hl 0 rfl) ?_
  refine lv_iconst (v := 2) hx hb dX6_pump_155 (by decide) ?_
  refine lv_idiv hx hb dX6_pump_156 (by decide) ?_
  refine lv_imul hx hb dX6_pump_157 ?_
  refine lv_bipush (v := 10) hx hb dX6_pump_158 (by decide) ?_
  refine lv_idiv hx hb dX6_pump_160 (by decide) ?_
  refine lv_isub hx hb dX6_pump_161 ?_
  refine lv_istore (lv' := [(9, .int ((pmG U e0 (pmS U e0 p0)) - (((pmG U e0 (pmS U e0 p0)) * ((aDist (tE (pmW U e0 p0) e0 0) (tE (pmW U e0 p0) i0 0)) / 2)) / 10))), (8, .int (aDist (tE (pmW U e0 p0) e0 0) (tE (pmW U e0 p0) i0 0))), (7, .int 0), (6, .int (pmG U e0 (pmS U e0 p0))), (5, .int (pmS U e0 p0)), (4, .int (nI p0)), (3, .int (ePump (tE (pm1 U e0) e0))), (2, .int (nI i0)), (0, .ref (ad 5)), (1, .int (nI e0))]) hx hb dX6_pump_162 hl (by decide) rfl (fun ls hl => ?_)
  have hl : lv_has ls 10 [(9, .int (arrivesI (pmG U e0 (pmS U e0 p0)) (aDist (tE (pmW U e0 p0) e0 0) (tE (pmW U e0 p0) i0 0)))), (8, .int (aDist (tE (pmW U e0 p0) e0 0) (tE (pmW U e0 p0) i0 0))), (7, .int 0), (6, .int (pmG U e0 (pmS U e0 p0))), (5, .int (pmS U e0 p0)), (4, .int (nI p0)), (3, .int (ePump (tE (pm1 U e0) e0))), (2, .int (nI i0)), (0, .ref (ad 5)), (1, .int (nI e0))] := hl
  refine lv_aload_n hx hb dX6_pump_164 rfl (lv_at hl 8 rfl) ?_
  refine lv_iload_n hx hb dX6_pump_165 rfl (lv_at hl 9 rfl) ?_
  refine lv_bipush (v := 8) hx hb dX6_pump_166 (by decide) ?_
  refine lv_iload hx hb dX6_pump_168 (lv_at hl 3 rfl) ?_
  refine fk_mv (fcV X hw (c_setEn8 l g ad M6 hM (e0 := e0) he (pmG U e0 (pmS U e0 p0))) hMo rfl wq932 kVX6_setEn ⟨(Nat.le_of_ble_eq_true rfl), (Nat.le_of_ble_eq_true rfl)⟩ rfl hl.1 rfl (Nat.le_of_ble_eq_true rfl) dX6_pump_170 ⟨Nat.le_refl _, Nat.le_refl _⟩) hw (fun M7 H locs hM hr7 hw => ?_)
  have hrA := fReg_tr hrA hr7
  obtain ⟨pcs, wa, ht, et, mi, co, as, hMo, ⟨hm6, hm7, hm8, hm9, hm10, hm11, hm12, hm13, hm14⟩, hRel, hCnt⟩ := id hM
  obtain ⟨hn1, hn2, hn3⟩ := id hCnt
  have hn1 : tHn U ≤ 30 := hn1
  have hn2 : tPn U ≤ 6 := hn2
  have hn3 : tEn U ≤ 6 := hn3
  have hMo : M7 5 = some (.inr (7, [.int th, .int (nI (tHn U)), .int (nI (tPn U)), .int (nI (tEn U)), .ref (ad 6), .ref (ad 7), .ref (ad 8), .ref (ad 9), .ref (ad 10), .ref (ad 11), .ref (ad 12), .ref (ad 13), .ref (ad 14)])) := hMo
  obtain ⟨rH, rP, rE, rM⟩ := id hRel
  refine lv_iload hx hb dX6_pump_173 (lv_at hl 2 rfl) ?_
  refine lv_if_eq (tgt := 202) hx hb dX6_pump_175 (by decide) (fun c_6 => ?_) (fun c_6 => absurd rfl c_6)
  refine lv_aload_n hx hb dX6_pump_202 rfl (lv_at hl 8 rfl) ?_
  refine f_get X hw hMo fc7 9 (by decide) wq803 rfl (v := .ref (ad 11)) rfl dX6_pump_203 ?_
  refine lv_iload_n hx hb dX6_pump_206 rfl (lv_at hl 7 rfl) ?_
  refine lv_dup2_11 hx hb dX6_pump_207 rfl rfl ?_
  refine f_iald X hw hm11 (vp_in_nI (n := i0) (by omega) (by omega)) dX6_pump_208 ?_
  rw [nI_clamp (n := i0) (by omega)]
  refine f_top (y := tE (pm3 (pmW U e0 p0) e0 (pmG U e0 (pmS U e0 p0))) i0 8) (rE i0 hi).2.2.1 ?_
  refine lv_iload hx hb dX6_pump_209 (lv_at hl 0 rfl) ?_
  refine lv_iadd hx hb dX6_pump_211 ?_
  refine f_iast X hw hm11 (vp_in_nI (n := i0) (by omega) (by omega)) dX6_pump_212 (fun H locs hw => ?_)
  rw [nI_clamp (n := i0) (by omega)] at hw
  have hw : fw g ad (fU M7 11 (.inl (gI g, 6, .inl (upd co i0 ((tE (pm3 (pmW U e0 p0) e0 (pmG U e0 (pmS U e0 p0))) i0 8) + (arrivesI (pmG U e0 (pmS U e0 p0)) (aDist (tE (pmW U e0 p0) e0 0) (tE (pmW U e0 p0) i0 0)))))))) s H locs := hw
  have hMo : (fU M7 11 (.inl (gI g, 6, .inl (upd co i0 ((tE (pm3 (pmW U e0 p0) e0 (pmG U e0 (pmS U e0 p0))) i0 8) + (arrivesI (pmG U e0 (pmS U e0 p0)) (aDist (tE (pmW U e0 p0) e0 0) (tE (pmW U e0 p0) i0 0)))))))) 5 = some (.inr (7, [.int th, .int (nI (tHn U)), .int (nI (tPn U)), .int (nI (tEn U)), .ref (ad 6), .ref (ad 7), .ref (ad 8), .ref (ad 9), .ref (ad 10), .ref (ad 11), .ref (ad 12), .ref (ad 13), .ref (ad 14)])) := (fU_n (by omega)).trans hMo
  have hm6 : (fU M7 11 (.inl (gI g, 6, .inl (upd co i0 ((tE (pm3 (pmW U e0 p0) e0 (pmG U e0 (pmS U e0 p0))) i0 8) + (arrivesI (pmG U e0 (pmS U e0 p0)) (aDist (tE (pmW U e0 p0) e0 0) (tE (pmW U e0 p0) i0 0)))))))) 6 = some (.inl (gI g, 6, .inl pcs)) := (fU_n (by omega)).trans hm6
  have hm7 : (fU M7 11 (.inl (gI g, 6, .inl (upd co i0 ((tE (pm3 (pmW U e0 p0) e0 (pmG U e0 (pmS U e0 p0))) i0 8) + (arrivesI (pmG U e0 (pmS U e0 p0)) (aDist (tE (pmW U e0 p0) e0 0) (tE (pmW U e0 p0) i0 0)))))))) 7 = some (.inl (gI g, 6, .inl wa)) := (fU_n (by omega)).trans hm7
  have hm8 : (fU M7 11 (.inl (gI g, 6, .inl (upd co i0 ((tE (pm3 (pmW U e0 p0) e0 (pmG U e0 (pmS U e0 p0))) i0 8) + (arrivesI (pmG U e0 (pmS U e0 p0)) (aDist (tE (pmW U e0 p0) e0 0) (tE (pmW U e0 p0) i0 0)))))))) 8 = some (.inl (gI g, 210, .inl ht)) := (fU_n (by omega)).trans hm8
  have hm9 : (fU M7 11 (.inl (gI g, 6, .inl (upd co i0 ((tE (pm3 (pmW U e0 p0) e0 (pmG U e0 (pmS U e0 p0))) i0 8) + (arrivesI (pmG U e0 (pmS U e0 p0)) (aDist (tE (pmW U e0 p0) e0 0) (tE (pmW U e0 p0) i0 0)))))))) 9 = some (.inl (gI g, 54, .inl et)) := (fU_n (by omega)).trans hm9
  have hm10 : (fU M7 11 (.inl (gI g, 6, .inl (upd co i0 ((tE (pm3 (pmW U e0 p0) e0 (pmG U e0 (pmS U e0 p0))) i0 8) + (arrivesI (pmG U e0 (pmS U e0 p0)) (aDist (tE (pmW U e0 p0) e0 0) (tE (pmW U e0 p0) i0 0)))))))) 10 = some (.inl (gI g, 1, .inl mi)) := (fU_n (by omega)).trans hm10
  have hm12 : (fU M7 11 (.inl (gI g, 6, .inl (upd co i0 ((tE (pm3 (pmW U e0 p0) e0 (pmG U e0 (pmS U e0 p0))) i0 8) + (arrivesI (pmG U e0 (pmS U e0 p0)) (aDist (tE (pmW U e0 p0) e0 0) (tE (pmW U e0 p0) i0 0)))))))) 12 = some (.inl (gZ g, 6, .inl as)) := (fU_n (by omega)).trans hm12
  have hm13 : (fU M7 11 (.inl (gI g, 6, .inl (upd co i0 ((tE (pm3 (pmW U e0 p0) e0 (pmG U e0 (pmS U e0 p0))) i0 8) + (arrivesI (pmG U e0 (pmS U e0 p0)) (aDist (tE (pmW U e0 p0) e0 0) (tE (pmW U e0 p0) i0 0)))))))) 13 = some (.inl (gI g, 140, .inl sp)) := (fU_n (by omega)).trans hm13
  have hm14 : (fU M7 11 (.inl (gI g, 6, .inl (upd co i0 ((tE (pm3 (pmW U e0 p0) e0 (pmG U e0 (pmS U e0 p0))) i0 8) + (arrivesI (pmG U e0 (pmS U e0 p0)) (aDist (tE (pmW U e0 p0) e0 0) (tE (pmW U e0 p0) i0 0)))))))) 14 = some (.inl (gZ g, 30, .inl ca)) := (fU_n (by omega)).trans hm14
  have hm11 : (fU M7 11 (.inl (gI g, 6, .inl (upd co i0 ((tE (pm3 (pmW U e0 p0) e0 (pmG U e0 (pmS U e0 p0))) i0 8) + (arrivesI (pmG U e0 (pmS U e0 p0)) (aDist (tE (pmW U e0 p0) e0 0) (tE (pmW U e0 p0) i0 0)))))))) 11 = some (.inl (gI g, 6, .inl (upd co i0 ((tE (pm3 (pmW U e0 p0) e0 (pmG U e0 (pmS U e0 p0))) i0 8) + (arrivesI (pmG U e0 (pmS U e0 p0)) (aDist (tE (pmW U e0 p0) e0 0) (tE (pmW U e0 p0) i0 0))))))) := fU_s
  have hM : isMo g ad (fU M7 11 (.inl (gI g, 6, .inl (upd co i0 ((tE (pm3 (pmW U e0 p0) e0 (pmG U e0 (pmS U e0 p0))) i0 8) + (arrivesI (pmG U e0 (pmS U e0 p0)) (aDist (tE (pmW U e0 p0) e0 0) (tE (pmW U e0 p0) i0 0)))))))) th (pmE (pmW U e0 p0) e0 i0 (pmG U e0 (pmS U e0 p0))) sp ca := ⟨_, _, _, _, _, _, _, (fU_n (by omega)).trans (hMo), ⟨(fU_n (by omega)).trans (hm6), (fU_n (by omega)).trans (hm7), (fU_n (by omega)).trans (hm8), (fU_n (by omega)).trans (hm9), (fU_n (by omega)).trans (hm10), fU_s, (fU_n (by omega)).trans (hm12), (fU_n (by omega)).trans (hm13), (fU_n (by omega)).trans (hm14)⟩, mRel_C hRel hi, hCnt⟩
  have hrA : fReg 5 15 ad Mo ad (fU M7 11 (.inl (gI g, 6, .inl (upd co i0 ((tE (pm3 (pmW U e0 p0) e0 (pmG U e0 (pmS U e0 p0))) i0 8) + (arrivesI (pmG U e0 (pmS U e0 p0)) (aDist (tE (pmW U e0 p0) e0 0) (tE (pmW U e0 p0) i0 0)))))))) := fReg_U hrA (by omega)
  obtain ⟨M8, eM8⟩ : ∃ z, z = (fU M7 11 (.inl (gI g, 6, .inl (upd co i0 ((tE (pm3 (pmW U e0 p0) e0 (pmG U e0 (pmS U e0 p0))) i0 8) + (arrivesI (pmG U e0 (pmS U e0 p0)) (aDist (tE (pmW U e0 p0) e0 0) (tE (pmW U e0 p0) i0 0)))))))) := ⟨_, rfl⟩
  rw [← eM8] at hM hw hrA
  obtain ⟨pcs, wa, ht, et, mi, co, as, hMo, ⟨hm6, hm7, hm8, hm9, hm10, hm11, hm12, hm13, hm14⟩, hRel, hCnt⟩ := id hM
  obtain ⟨hn1, hn2, hn3⟩ := id hCnt
  have hn1 : tHn U ≤ 30 := hn1
  have hn2 : tPn U ≤ 6 := hn2
  have hn3 : tEn U ≤ 6 := hn3
  have hMo : M8 5 = some (.inr (7, [.int th, .int (nI (tHn U)), .int (nI (tPn U)), .int (nI (tEn U)), .ref (ad 6), .ref (ad 7), .ref (ad 8), .ref (ad 9), .ref (ad 10), .ref (ad 11), .ref (ad 12), .ref (ad 13), .ref (ad 14)])) := hMo
  obtain ⟨rH, rP, rE, rM⟩ := id hRel
  rw [hQ9, ← hMq]
  exact f_vret X hw ⟨rfl, hM, hrA⟩ (Nat.le_refl _) (Nat.le_refl _) dX6_pump_213
set_option maxHeartbeats 4000000 in
set_option maxRecDepth 100000 in
theorem c_m_pump_HN (l : Launch) (g : fG) (ad : Nat → Nat) (M : fM) {th : Int32} {U : fTn} {sp ca : Nat → Int32} (hM : isMo g ad M th U sp ca) {e0 : Nat} (he : e0 < tEn U) {h0 : Nat} (hz : tE U e0 7 = nI (100 + h0)) (hh : h0 < tHn U) (hs : mSrc (pm1 U e0) (tE (pm1 U e0) e0) = -1) : fCv l g yX6_pump cX6_pump 10 4 90 0 0 ad M [.ref (ad 5), .int (nI e0)] (fMw g ad M th (pmH (pm1 U e0) e0 h0 (pmG U e0 (0))) sp ca) := by
  refine f_body (own := RX6) (by decide +kernel) rfl (Nat.le_of_ble_eq_true rfl) ?_
  intro p e s m args below meth c ls X hw hin hl
  have hx := X.1
  have hb := X.2.1
  have hl : lv_has ls 10 [(0, .ref (ad 5)), (1, .int (nI e0))] := hl
  obtain ⟨pcs, wa, ht, et, mi, co, as, hMo, ⟨hm6, hm7, hm8, hm9, hm10, hm11, hm12, hm13, hm14⟩, hRel, hCnt⟩ := id hM
  obtain ⟨hn1, hn2, hn3⟩ := id hCnt
  have hn1 : tHn U ≤ 30 := hn1
  have hn2 : tPn U ≤ 6 := hn2
  have hn3 : tEn U ≤ 6 := hn3
  have hMo : M 5 = some (.inr (7, [.int th, .int (nI (tHn U)), .int (nI (tPn U)), .int (nI (tEn U)), .ref (ad 6), .ref (ad 7), .ref (ad 8), .ref (ad 9), .ref (ad 10), .ref (ad 11), .ref (ad 12), .ref (ad 13), .ref (ad 14)])) := hMo
  obtain ⟨rH, rP, rE, rM⟩ := id hRel
  obtain ⟨Mo, hMq⟩ : ∃ z, z = M := ⟨_, rfl⟩
  have hrA : fReg 5 15 ad Mo ad M := by rw [hMq]; exact fReg_rf
  obtain ⟨Q9, hQ9⟩ : ∃ z, z = MQ below (fQv g (fMw g ad M th (pmH (pm1 U e0) e0 h0 (pmG U e0 (0))) sp ca)) args s 0 0 (fA g) := ⟨_, rfl⟩
  show W p l e (fR 4 90 0 0) s m args below meth c _ _ 0 0 (MQ below (fQv g (fMw g ad M th (pmH (pm1 U e0) e0 h0 (pmG U e0 (0))) sp ca)) args s 0 0 (fA g)) (F0 m 0 ls [])
  rw [← hQ9]
  refine lv_aload_n hx hb dX6_pump_0 rfl (lv_at hl 0 rfl) ?_
  refine lv_iload_n hx hb dX6_pump_1 rfl (lv_at hl 1 rfl) ?_
  refine lv_bipush (v := 7) hx hb dX6_pump_2 (by decide) ?_
  refine fk_di (fcV X hw (c_en l g ad M hM (e0 := e0) (k := 7) he rfl (by omega)) hMo rfl wq873 kVX6_en ⟨(Nat.le_of_ble_eq_true rfl), (Nat.le_of_ble_eq_true rfl)⟩ rfl hl.1 rfl (Nat.le_of_ble_eq_true rfl) dX6_pump_4 ⟨Nat.le_refl _, Nat.le_refl _⟩) hw (fun H locs hw => ?_)
  refine f_top (y := nI (100 + h0)) hz ?_
  refine lv_istore_n (lv' := [(2, .int (nI (100 + h0))), (0, .ref (ad 5)), (1, .int (nI e0))]) hx hb dX6_pump_7 rfl hl (by decide) rfl (fun ls hl => ?_)
  refine lv_aload_n hx hb dX6_pump_8 rfl (lv_at hl 1 rfl) ?_
  refine lv_iload_n hx hb dX6_pump_9 rfl (lv_at hl 2 rfl) ?_
  refine lv_bipush (v := 8) hx hb dX6_pump_10 (by decide) ?_
  refine lv_iconst (v := 0) hx hb dX6_pump_12 (by decide) ?_
  refine fk_mv (fcV X hw (c_setEn8 l g ad M hM (e0 := e0) he 0) hMo rfl wq932 kVX6_setEn ⟨(Nat.le_of_ble_eq_true rfl), (Nat.le_of_ble_eq_true rfl)⟩ rfl hl.1 rfl (Nat.le_of_ble_eq_true rfl) dX6_pump_13 ⟨Nat.le_refl _, Nat.le_refl _⟩) hw (fun M9 H locs hM hr9 hw => ?_)
  have hrA := fReg_tr hrA hr9
  obtain ⟨pcs, wa, ht, et, mi, co, as, hMo, ⟨hm6, hm7, hm8, hm9, hm10, hm11, hm12, hm13, hm14⟩, hRel, hCnt⟩ := id hM
  obtain ⟨hn1, hn2, hn3⟩ := id hCnt
  have hn1 : tHn U ≤ 30 := hn1
  have hn2 : tPn U ≤ 6 := hn2
  have hn3 : tEn U ≤ 6 := hn3
  have hMo : M9 5 = some (.inr (7, [.int th, .int (nI (tHn U)), .int (nI (tPn U)), .int (nI (tEn U)), .ref (ad 6), .ref (ad 7), .ref (ad 8), .ref (ad 9), .ref (ad 10), .ref (ad 11), .ref (ad 12), .ref (ad 13), .ref (ad 14)])) := hMo
  obtain ⟨rH, rP, rE, rM⟩ := id hRel
  refine lv_iload_n hx hb dX6_pump_16 rfl (lv_at hl 0 rfl) ?_
  refine lv_iconst (v := (-1)) hx hb dX6_pump_17 (by decide) ?_
  refine lv_icmp_ne (tgt := 22) hx hb dX6_pump_18 (by decide) (fun c_1 => ?_) (fun c_1 => absurd c_1 (nI_m1 (by omega)))
  refine lv_aload_n hx hb dX6_pump_22 rfl (lv_at hl 1 rfl) ?_
  refine lv_iload_n hx hb dX6_pump_23 rfl (lv_at hl 2 rfl) ?_
  refine fk_di (fcV X hw (c_m_canPump l g ad M9 hM (e0 := e0) he) hMo rfl wq979 kVX6_canPump ⟨(Nat.le_of_ble_eq_true rfl), (Nat.le_of_ble_eq_true rfl)⟩ rfl hl.1 rfl (Nat.le_of_ble_eq_true rfl) dX6_pump_24 ⟨Nat.le_refl _, Nat.le_refl _⟩) hw (fun H locs hw => ?_)
  refine lv_istore_n (lv' := [(3, .int (ePump (tE (pm1 U e0) e0))), (2, .int (nI (100 + h0))), (0, .ref (ad 5)), (1, .int (nI e0))]) hx hb dX6_pump_27 rfl hl (by decide) rfl (fun ls hl => ?_)
  refine lv_aload_n hx hb dX6_pump_28 rfl (lv_at hl 2 rfl) ?_
  refine lv_iload_n hx hb dX6_pump_29 rfl (lv_at hl 3 rfl) ?_
  refine fk_di (fcV X hw (c_m_source l g ad M9 hM (e0 := e0) he) hMo rfl wq975 kVX6_source ⟨(Nat.le_of_ble_eq_true rfl), (Nat.le_of_ble_eq_true rfl)⟩ rfl hl.1 rfl (Nat.le_of_ble_eq_true rfl) dX6_pump_30 ⟨Nat.le_refl _, Nat.le_refl _⟩) hw (fun H locs hw => ?_)
  refine f_top (y := (-1)) hs ?_
  refine lv_istore (lv' := [(4, .int (-1)), (3, .int (ePump (tE (pm1 U e0) e0))), (2, .int (nI (100 + h0))), (0, .ref (ad 5)), (1, .int (nI e0))]) hx hb dX6_pump_33 hl (by decide) rfl (fun ls hl => ?_)
  refine lv_iload hx hb dX6_pump_35 (lv_at hl 0 rfl) ?_
  refine lv_iconst (v := (-1)) hx hb dX6_pump_37 (by decide) ?_
  refine lv_icmp_ne (tgt := 45) hx hb dX6_pump_38 (by decide) (fun c_2 => absurd rfl c_2) (fun c_2 => ?_)
  refine lv_iconst (v := 0) hx hb dX6_pump_41 (by decide) ?_
  refine lv_goto (tgt := 67) hx hb dX6_pump_42 (by decide) ?_
  refine lv_istore (lv' := [(5, .int 0), (4, .int (-1)), (3, .int (ePump (tE (pm1 U e0) e0))), (2, .int (nI (100 + h0))), (0, .ref (ad 5)), (1, .int (nI e0))]) hx hb dX6_pump_67 hl (by decide) rfl (fun ls hl => ?_)
  have hl : lv_has ls 10 [(5, .int 0), (4, .int (-1)), (3, .int (ePump (tE (pm1 U e0) e0))), (2, .int (nI (100 + h0))), (0, .ref (ad 5)), (1, .int (nI e0))] := hl
  refine lv_iload hx hb dX6_pump_69 (lv_at hl 1 rfl) ?_
  refine lv_iconst (v := (-1)) hx hb dX6_pump_71 (by decide) ?_
  refine lv_icmp_eq (tgt := 87) hx hb dX6_pump_72 (by decide) (fun c_3 => ?_) (fun c_3 => absurd rfl c_3)
  refine lv_iload_n hx hb dX6_pump_87 rfl (lv_at hl 2 rfl) ?_
  refine lv_aload_n hx hb dX6_pump_88 rfl (lv_at hl 4 rfl) ?_
  refine f_get X hw hMo fc7 9 (by decide) wq803 rfl (v := .ref (ad 11)) rfl dX6_pump_89 ?_
  refine lv_iload_n hx hb dX6_pump_92 rfl (lv_at hl 5 rfl) ?_
  refine f_iald X hw hm11 (vp_in_nI (n := e0) (by omega) (by omega)) dX6_pump_93 ?_
  rw [nI_clamp (n := e0) (by omega)]
  refine f_top (y := tE (pm1 U e0) e0 8) (rE e0 he).2.2.1 ?_
  refine lv_iload hx hb dX6_pump_94 (lv_at hl 0 rfl) ?_
  refine lv_iadd hx hb dX6_pump_96 ?_
  refine va_mmin hx hb (X.2.2.1.trans hl.1.symm) X.2.2.2.1 (X.2.2.2.2.1 _ wq996) (X.2.2.2.2.1 _ wq204) (X.2.2.2.2.1 _ wq18) (X.2.2.2.2.1 _ wq205) (Nat.le_of_ble_eq_true rfl) (Nat.le_of_ble_eq_true rfl) (Nat.zero_le _) (Nat.zero_le _) dX6_pump_97 ?_
  refine lv_istore (lv' := [(6, .int (if ((tE (pm1 U e0) e0 8) + 0) < (ePump (tE (pm1 U e0) e0)) then ((tE (pm1 U e0) e0 8) + 0) else (ePump (tE (pm1 U e0) e0)))), (5, .int 0), (4, .int (-1)), (3, .int (ePump (tE (pm1 U e0) e0))), (2, .int (nI (100 + h0))), (0, .ref (ad 5)), (1, .int (nI e0))]) hx hb dX6_pump_100 hl (by decide) rfl (fun ls hl => ?_)
  have hl : lv_has ls 10 [(6, .int (pmG U e0 (0))), (5, .int 0), (4, .int (-1)), (3, .int (ePump (tE (pm1 U e0) e0))), (2, .int (nI (100 + h0))), (0, .ref (ad 5)), (1, .int (nI e0))] := hl
  refine lv_iload_n hx hb dX6_pump_102 rfl (lv_at hl 4 rfl) ?_
  refine lv_bipush (v := 100) hx hb dX6_pump_103 (by decide) ?_
  refine lv_icmp_lt (tgt := 112) hx hb dX6_pump_105 (by decide) (fun c_4 => absurd (nI_lt' (a := 100 + h0) (b := 100) c_4 (by omega) (by omega)) (by omega)) (fun c_4 => ?_)
  have c_4 := nI_nlt' (a := (100 + h0)) (b := 100) c_4 (by omega) (by omega)
  refine lv_iconst (v := 1) hx hb dX6_pump_108 (by decide) ?_
  refine lv_goto (tgt := 113) hx hb dX6_pump_109 (by decide) ?_
  refine lv_istore (lv' := [(7, .int 1), (6, .int (pmG U e0 (0))), (5, .int 0), (4, .int (-1)), (3, .int (ePump (tE (pm1 U e0) e0))), (2, .int (nI (100 + h0))), (0, .ref (ad 5)), (1, .int (nI e0))]) hx hb dX6_pump_113 hl (by decide) rfl (fun ls hl => ?_)
  refine lv_aload_n hx hb dX6_pump_115 rfl (lv_at hl 6 rfl) ?_
  refine lv_iload_n hx hb dX6_pump_116 rfl (lv_at hl 7 rfl) ?_
  refine lv_iconst (v := 0) hx hb dX6_pump_117 (by decide) ?_
  refine fk_di (fcV X hw (c_en l g ad M9 hM (e0 := e0) (k := 0) he rfl (by omega)) hMo rfl wq873 kVX6_en ⟨(Nat.le_of_ble_eq_true rfl), (Nat.le_of_ble_eq_true rfl)⟩ rfl hl.1 rfl (Nat.le_of_ble_eq_true rfl) dX6_pump_118 ⟨Nat.le_refl _, Nat.le_refl _⟩) hw (fun H locs hw => ?_)
  refine lv_iload hx hb dX6_pump_121 (lv_at hl 0 rfl) ?_
  refine lv_if_eq (tgt := 138) hx hb dX6_pump_123 (by decide) (fun c_5 => absurd c_5 (by decide)) (fun c_5 => ?_)
  refine lv_aload_n hx hb dX6_pump_126 rfl (lv_at hl 6 rfl) ?_
  refine lv_iload_n hx hb dX6_pump_127 rfl (lv_at hl 5 rfl) ?_
  refine lv_bipush (v := 100) hx hb dX6_pump_128 (by decide) ?_
  refine lv_isub hx hb dX6_pump_130 ?_
  refine f_top (y := nI h0) sub100 ?_
  refine lv_iconst (v := 0) hx hb dX6_pump_131 (by decide) ?_
  refine fk_di (fcV X hw (c_ho l g ad M9 hM (h0 := h0) (k := 0) hh rfl (by omega)) hMo rfl wq865 kVX6_ho ⟨(Nat.le_of_ble_eq_true rfl), (Nat.le_of_ble_eq_true rfl)⟩ rfl hl.1 rfl (Nat.le_of_ble_eq_true rfl) dX6_pump_132 ⟨Nat.le_refl _, Nat.le_refl _⟩) hw (fun H locs hw => ?_)
  refine lv_goto (tgt := 144) hx hb dX6_pump_135 (by decide) ?_
  refine fk_di (fcS X hw (c_far l g ad M9 (tE (pm1 U e0) e0 0) (tH (pm1 U e0) h0 0)) wq948 kSX6_far ⟨(Nat.le_of_ble_eq_true rfl), (Nat.le_of_ble_eq_true rfl)⟩ rfl hl.1 rfl (Nat.le_of_ble_eq_true rfl) dX6_pump_144 ⟨Nat.le_refl _, Nat.le_refl _⟩) hw (fun H locs hw => ?_)
  refine lv_istore (lv' := [(8, .int (aDist (tE (pm1 U e0) e0 0) (tH (pm1 U e0) h0 0))), (7, .int 1), (6, .int (pmG U e0 (0))), (5, .int 0), (4, .int (-1)), (3, .int (ePump (tE (pm1 U e0) e0))), (2, .int (nI (100 + h0))), (0, .ref (ad 5)), (1, .int (nI e0))]) hx hb dX6_pump_147 hl (by decide) rfl (fun ls hl => ?_)
  refine lv_iload hx hb dX6_pump_149 (lv_at hl 2 rfl) ?_
  refine lv_iload hx hb dX6_pump_151 (lv_at hl 2 rfl) ?_
  refine lv_iload hx hb dX6_pump_153 (lv_at hl 0 rfl) ?_
  refine lv_iconst (v := 2) hx hb dX6_pump_155 (by decide) ?_
  refine lv_idiv hx hb dX6_pump_156 (by decide) ?_
  refine lv_imul hx hb dX6_pump_157 ?_
  refine lv_bipush (v := 10) hx hb dX6_pump_158 (by decide) ?_
  refine lv_idiv hx hb dX6_pump_160 (by decide) ?_
  refine lv_isub hx hb dX6_pump_161 ?_
  refine lv_istore (lv' := [(9, .int ((pmG U e0 (0)) - (((pmG U e0 (0)) * ((aDist (tE (pm1 U e0) e0 0) (tH (pm1 U e0) h0 0)) / 2)) / 10))), (8, .int (aDist (tE (pm1 U e0) e0 0) (tH (pm1 U e0) h0 0))), (7, .int 1), (6, .int (pmG U e0 (0))), (5, .int 0), (4, .int (-1)), (3, .int (ePump (tE (pm1 U e0) e0))), (2, .int (nI (100 + h0))), (0, .ref (ad 5)), (1, .int (nI e0))]) hx hb dX6_pump_162 hl (by decide) rfl (fun ls hl => ?_)
  have hl : lv_has ls 10 [(9, .int (arrivesI (pmG U e0 (0)) (aDist (tE (pm1 U e0) e0 0) (tH (pm1 U e0) h0 0)))), (8, .int (aDist (tE (pm1 U e0) e0 0) (tH (pm1 U e0) h0 0))), (7, .int 1), (6, .int (pmG U e0 (0))), (5, .int 0), (4, .int (-1)), (3, .int (ePump (tE (pm1 U e0) e0))), (2, .int (nI (100 + h0))), (0, .ref (ad 5)), (1, .int (nI e0))] := hl
  refine lv_aload_n hx hb dX6_pump_164 rfl (lv_at hl 8 rfl) ?_
  refine lv_iload_n hx hb dX6_pump_165 rfl (lv_at hl 9 rfl) ?_
  refine lv_bipush (v := 8) hx hb dX6_pump_166 (by decide) ?_
  refine lv_iload hx hb dX6_pump_168 (lv_at hl 3 rfl) ?_
  refine fk_mv (fcV X hw (c_setEn8 l g ad M9 hM (e0 := e0) he (pmG U e0 (0))) hMo rfl wq932 kVX6_setEn ⟨(Nat.le_of_ble_eq_true rfl), (Nat.le_of_ble_eq_true rfl)⟩ rfl hl.1 rfl (Nat.le_of_ble_eq_true rfl) dX6_pump_170 ⟨Nat.le_refl _, Nat.le_refl _⟩) hw (fun M10 H locs hM hr10 hw => ?_)
  have hrA := fReg_tr hrA hr10
  obtain ⟨pcs, wa, ht, et, mi, co, as, hMo, ⟨hm6, hm7, hm8, hm9, hm10, hm11, hm12, hm13, hm14⟩, hRel, hCnt⟩ := id hM
  obtain ⟨hn1, hn2, hn3⟩ := id hCnt
  have hn1 : tHn U ≤ 30 := hn1
  have hn2 : tPn U ≤ 6 := hn2
  have hn3 : tEn U ≤ 6 := hn3
  have hMo : M10 5 = some (.inr (7, [.int th, .int (nI (tHn U)), .int (nI (tPn U)), .int (nI (tEn U)), .ref (ad 6), .ref (ad 7), .ref (ad 8), .ref (ad 9), .ref (ad 10), .ref (ad 11), .ref (ad 12), .ref (ad 13), .ref (ad 14)])) := hMo
  obtain ⟨rH, rP, rE, rM⟩ := id hRel
  refine lv_iload hx hb dX6_pump_173 (lv_at hl 2 rfl) ?_
  refine lv_if_eq (tgt := 202) hx hb dX6_pump_175 (by decide) (fun c_6 => absurd c_6 (by decide)) (fun c_6 => ?_)
  refine lv_aload_n hx hb dX6_pump_178 rfl (lv_at hl 8 rfl) ?_
  refine lv_iload_n hx hb dX6_pump_179 rfl (lv_at hl 7 rfl) ?_
  refine lv_bipush (v := 100) hx hb dX6_pump_180 (by decide) ?_
  refine lv_isub hx hb dX6_pump_182 ?_
  refine f_top (y := nI h0) sub100 ?_
  refine lv_iconst (v := 5) hx hb dX6_pump_183 (by decide) ?_
  refine lv_aload_n hx hb dX6_pump_184 rfl (lv_at hl 8 rfl) ?_
  refine lv_iload_n hx hb dX6_pump_185 rfl (lv_at hl 7 rfl) ?_
  refine lv_bipush (v := 100) hx hb dX6_pump_186 (by decide) ?_
  refine lv_isub hx hb dX6_pump_188 ?_
  refine f_top (y := nI h0) sub100 ?_
  refine lv_iconst (v := 5) hx hb dX6_pump_189 (by decide) ?_
  refine fk_di (fcV X hw (c_ho l g ad M10 hM (h0 := h0) (k := 5) hh rfl (by omega)) hMo rfl wq865 kVX6_ho ⟨(Nat.le_of_ble_eq_true rfl), (Nat.le_of_ble_eq_true rfl)⟩ rfl hl.1 rfl (Nat.le_of_ble_eq_true rfl) dX6_pump_190 ⟨Nat.le_refl _, Nat.le_refl _⟩) hw (fun H locs hw => ?_)
  refine lv_iload hx hb dX6_pump_193 (lv_at hl 0 rfl) ?_
  refine lv_iadd hx hb dX6_pump_195 ?_
  refine fk_mv (fcV X hw (c_setHo l g ad M10 hM (h0 := h0) (k := 5) hh rfl (by omega) (tH (pm1 U e0) h0 5 + arrivesI (pmG U e0 (0)) (aDist (tE (pm1 U e0) e0 0) (tH (pm1 U e0) h0 0)))) hMo rfl wq890 kVX6_setHo ⟨(Nat.le_of_ble_eq_true rfl), (Nat.le_of_ble_eq_true rfl)⟩ rfl hl.1 rfl (Nat.le_of_ble_eq_true rfl) dX6_pump_196 ⟨Nat.le_refl _, Nat.le_refl _⟩) hw (fun M11 H locs hM hr11 hw => ?_)
  have hrA := fReg_tr hrA hr11
  obtain ⟨pcs, wa, ht, et, mi, co, as, hMo, ⟨hm6, hm7, hm8, hm9, hm10, hm11, hm12, hm13, hm14⟩, hRel, hCnt⟩ := id hM
  obtain ⟨hn1, hn2, hn3⟩ := id hCnt
  have hn1 : tHn U ≤ 30 := hn1
  have hn2 : tPn U ≤ 6 := hn2
  have hn3 : tEn U ≤ 6 := hn3
  have hMo : M11 5 = some (.inr (7, [.int th, .int (nI (tHn U)), .int (nI (tPn U)), .int (nI (tEn U)), .ref (ad 6), .ref (ad 7), .ref (ad 8), .ref (ad 9), .ref (ad 10), .ref (ad 11), .ref (ad 12), .ref (ad 13), .ref (ad 14)])) := hMo
  obtain ⟨rH, rP, rE, rM⟩ := id hRel
  refine lv_goto (tgt := 213) hx hb dX6_pump_199 (by decide) ?_
  rw [hQ9, ← hMq]
  exact f_vret X hw ⟨rfl, hM, hrA⟩ (Nat.le_refl _) (Nat.le_refl _) dX6_pump_213
set_option maxHeartbeats 4000000 in
set_option maxRecDepth 100000 in
theorem c_m_pump_HP (l : Launch) (g : fG) (ad : Nat → Nat) (M : fM) {th : Int32} {U : fTn} {sp ca : Nat → Int32} (hM : isMo g ad M th U sp ca) {e0 : Nat} (he : e0 < tEn U) {h0 : Nat} (hz : tE U e0 7 = nI (100 + h0)) (hh : h0 < tHn U) {p0 : Nat} (hs : mSrc (pm1 U e0) (tE (pm1 U e0) e0) = nI p0) (hp : p0 < tPn U) : fCv l g yX6_pump cX6_pump 10 4 90 0 0 ad M [.ref (ad 5), .int (nI e0)] (fMw g ad M th (pmH (pmW U e0 p0) e0 h0 (pmG U e0 (pmS U e0 p0))) sp ca) := by
  refine f_body (own := RX6) (by decide +kernel) rfl (Nat.le_of_ble_eq_true rfl) ?_
  intro p e s m args below meth c ls X hw hin hl
  have hx := X.1
  have hb := X.2.1
  have hl : lv_has ls 10 [(0, .ref (ad 5)), (1, .int (nI e0))] := hl
  obtain ⟨pcs, wa, ht, et, mi, co, as, hMo, ⟨hm6, hm7, hm8, hm9, hm10, hm11, hm12, hm13, hm14⟩, hRel, hCnt⟩ := id hM
  obtain ⟨hn1, hn2, hn3⟩ := id hCnt
  have hn1 : tHn U ≤ 30 := hn1
  have hn2 : tPn U ≤ 6 := hn2
  have hn3 : tEn U ≤ 6 := hn3
  have hMo : M 5 = some (.inr (7, [.int th, .int (nI (tHn U)), .int (nI (tPn U)), .int (nI (tEn U)), .ref (ad 6), .ref (ad 7), .ref (ad 8), .ref (ad 9), .ref (ad 10), .ref (ad 11), .ref (ad 12), .ref (ad 13), .ref (ad 14)])) := hMo
  obtain ⟨rH, rP, rE, rM⟩ := id hRel
  obtain ⟨Mo, hMq⟩ : ∃ z, z = M := ⟨_, rfl⟩
  have hrA : fReg 5 15 ad Mo ad M := by rw [hMq]; exact fReg_rf
  obtain ⟨Q9, hQ9⟩ : ∃ z, z = MQ below (fQv g (fMw g ad M th (pmH (pmW U e0 p0) e0 h0 (pmG U e0 (pmS U e0 p0))) sp ca)) args s 0 0 (fA g) := ⟨_, rfl⟩
  show W p l e (fR 4 90 0 0) s m args below meth c _ _ 0 0 (MQ below (fQv g (fMw g ad M th (pmH (pmW U e0 p0) e0 h0 (pmG U e0 (pmS U e0 p0))) sp ca)) args s 0 0 (fA g)) (F0 m 0 ls [])
  rw [← hQ9]
  refine lv_aload_n hx hb dX6_pump_0 rfl (lv_at hl 0 rfl) ?_
  refine lv_iload_n hx hb dX6_pump_1 rfl (lv_at hl 1 rfl) ?_
  refine lv_bipush (v := 7) hx hb dX6_pump_2 (by decide) ?_
  refine fk_di (fcV X hw (c_en l g ad M hM (e0 := e0) (k := 7) he rfl (by omega)) hMo rfl wq873 kVX6_en ⟨(Nat.le_of_ble_eq_true rfl), (Nat.le_of_ble_eq_true rfl)⟩ rfl hl.1 rfl (Nat.le_of_ble_eq_true rfl) dX6_pump_4 ⟨Nat.le_refl _, Nat.le_refl _⟩) hw (fun H locs hw => ?_)
  refine f_top (y := nI (100 + h0)) hz ?_
  refine lv_istore_n (lv' := [(2, .int (nI (100 + h0))), (0, .ref (ad 5)), (1, .int (nI e0))]) hx hb dX6_pump_7 rfl hl (by decide) rfl (fun ls hl => ?_)
  refine lv_aload_n hx hb dX6_pump_8 rfl (lv_at hl 1 rfl) ?_
  refine lv_iload_n hx hb dX6_pump_9 rfl (lv_at hl 2 rfl) ?_
  refine lv_bipush (v := 8) hx hb dX6_pump_10 (by decide) ?_
  refine lv_iconst (v := 0) hx hb dX6_pump_12 (by decide) ?_
  refine fk_mv (fcV X hw (c_setEn8 l g ad M hM (e0 := e0) he 0) hMo rfl wq932 kVX6_setEn ⟨(Nat.le_of_ble_eq_true rfl), (Nat.le_of_ble_eq_true rfl)⟩ rfl hl.1 rfl (Nat.le_of_ble_eq_true rfl) dX6_pump_13 ⟨Nat.le_refl _, Nat.le_refl _⟩) hw (fun M12 H locs hM hr12 hw => ?_)
  have hrA := fReg_tr hrA hr12
  obtain ⟨pcs, wa, ht, et, mi, co, as, hMo, ⟨hm6, hm7, hm8, hm9, hm10, hm11, hm12, hm13, hm14⟩, hRel, hCnt⟩ := id hM
  obtain ⟨hn1, hn2, hn3⟩ := id hCnt
  have hn1 : tHn U ≤ 30 := hn1
  have hn2 : tPn U ≤ 6 := hn2
  have hn3 : tEn U ≤ 6 := hn3
  have hMo : M12 5 = some (.inr (7, [.int th, .int (nI (tHn U)), .int (nI (tPn U)), .int (nI (tEn U)), .ref (ad 6), .ref (ad 7), .ref (ad 8), .ref (ad 9), .ref (ad 10), .ref (ad 11), .ref (ad 12), .ref (ad 13), .ref (ad 14)])) := hMo
  obtain ⟨rH, rP, rE, rM⟩ := id hRel
  refine lv_iload_n hx hb dX6_pump_16 rfl (lv_at hl 0 rfl) ?_
  refine lv_iconst (v := (-1)) hx hb dX6_pump_17 (by decide) ?_
  refine lv_icmp_ne (tgt := 22) hx hb dX6_pump_18 (by decide) (fun c_1 => ?_) (fun c_1 => absurd c_1 (nI_m1 (by omega)))
  refine lv_aload_n hx hb dX6_pump_22 rfl (lv_at hl 1 rfl) ?_
  refine lv_iload_n hx hb dX6_pump_23 rfl (lv_at hl 2 rfl) ?_
  refine fk_di (fcV X hw (c_m_canPump l g ad M12 hM (e0 := e0) he) hMo rfl wq979 kVX6_canPump ⟨(Nat.le_of_ble_eq_true rfl), (Nat.le_of_ble_eq_true rfl)⟩ rfl hl.1 rfl (Nat.le_of_ble_eq_true rfl) dX6_pump_24 ⟨Nat.le_refl _, Nat.le_refl _⟩) hw (fun H locs hw => ?_)
  refine lv_istore_n (lv' := [(3, .int (ePump (tE (pm1 U e0) e0))), (2, .int (nI (100 + h0))), (0, .ref (ad 5)), (1, .int (nI e0))]) hx hb dX6_pump_27 rfl hl (by decide) rfl (fun ls hl => ?_)
  refine lv_aload_n hx hb dX6_pump_28 rfl (lv_at hl 2 rfl) ?_
  refine lv_iload_n hx hb dX6_pump_29 rfl (lv_at hl 3 rfl) ?_
  refine fk_di (fcV X hw (c_m_source l g ad M12 hM (e0 := e0) he) hMo rfl wq975 kVX6_source ⟨(Nat.le_of_ble_eq_true rfl), (Nat.le_of_ble_eq_true rfl)⟩ rfl hl.1 rfl (Nat.le_of_ble_eq_true rfl) dX6_pump_30 ⟨Nat.le_refl _, Nat.le_refl _⟩) hw (fun H locs hw => ?_)
  refine f_top (y := nI p0) hs ?_
  refine lv_istore (lv' := [(4, .int (nI p0)), (3, .int (ePump (tE (pm1 U e0) e0))), (2, .int (nI (100 + h0))), (0, .ref (ad 5)), (1, .int (nI e0))]) hx hb dX6_pump_33 hl (by decide) rfl (fun ls hl => ?_)
  refine lv_iload hx hb dX6_pump_35 (lv_at hl 0 rfl) ?_
  refine lv_iconst (v := (-1)) hx hb dX6_pump_37 (by decide) ?_
  refine lv_icmp_ne (tgt := 45) hx hb dX6_pump_38 (by decide) (fun c_2 => ?_) (fun c_2 => absurd c_2 (nI_m1 (by omega)))
  refine lv_aload_n hx hb dX6_pump_45 rfl (lv_at hl 3 rfl) ?_
  refine f_get X hw hMo fc7 5 (by decide) wq799 rfl (v := .ref (ad 7)) rfl dX6_pump_46 ?_
  refine lv_iload hx hb dX6_pump_49 (lv_at hl 0 rfl) ?_
  refine f_iald X hw hm7 (vp_in_nI (n := p0) (by omega) (by omega)) dX6_pump_51 ?_
  rw [nI_clamp (n := p0) (by omega)]
  refine f_top (y := tP U p0 1) (rP p0 hp).2 ?_
  refine lv_iconst (v := 0) hx hb dX6_pump_52 (by decide) ?_
  refine lv_iload_n hx hb dX6_pump_53 rfl (lv_at hl 1 rfl) ?_
  refine lv_aload_n hx hb dX6_pump_54 rfl (lv_at hl 3 rfl) ?_
  refine f_get X hw hMo fc7 9 (by decide) wq803 rfl (v := .ref (ad 11)) rfl dX6_pump_55 ?_
  refine lv_iload_n hx hb dX6_pump_58 rfl (lv_at hl 4 rfl) ?_
  refine f_iald X hw hm11 (vp_in_nI (n := e0) (by omega) (by omega)) dX6_pump_59 ?_
  rw [nI_clamp (n := e0) (by omega)]
  refine f_top (y := tE (pm1 U e0) e0 8) (rE e0 he).2.2.1 ?_
  refine lv_isub hx hb dX6_pump_60 ?_
  refine va_mmax hx hb (X.2.2.1.trans hl.1.symm) X.2.2.2.1 (X.2.2.2.2.1 _ wq995) (X.2.2.2.2.1 _ wq173) (X.2.2.2.2.1 _ wq18) (X.2.2.2.2.1 _ wq174) (Nat.le_of_ble_eq_true rfl) (Nat.le_of_ble_eq_true rfl) (Nat.zero_le _) (Nat.zero_le _) dX6_pump_61 ?_
  refine va_mmin hx hb (X.2.2.1.trans hl.1.symm) X.2.2.2.1 (X.2.2.2.2.1 _ wq996) (X.2.2.2.2.1 _ wq204) (X.2.2.2.2.1 _ wq18) (X.2.2.2.2.1 _ wq205) (Nat.le_of_ble_eq_true rfl) (Nat.le_of_ble_eq_true rfl) (Nat.zero_le _) (Nat.zero_le _) dX6_pump_64 ?_
  refine lv_istore (lv' := [(5, .int (if (if 0 < ((ePump (tE (pm1 U e0) e0)) - (tE (pm1 U e0) e0 8)) then ((ePump (tE (pm1 U e0) e0)) - (tE (pm1 U e0) e0 8)) else 0) < (tP U p0 1) then (if 0 < ((ePump (tE (pm1 U e0) e0)) - (tE (pm1 U e0) e0 8)) then ((ePump (tE (pm1 U e0) e0)) - (tE (pm1 U e0) e0 8)) else 0) else (tP U p0 1))), (4, .int (nI p0)), (3, .int (ePump (tE (pm1 U e0) e0))), (2, .int (nI (100 + h0))), (0, .ref (ad 5)), (1, .int (nI e0))]) hx hb dX6_pump_67 hl (by decide) rfl (fun ls hl => ?_)
  have hl : lv_has ls 10 [(5, .int (pmS U e0 p0)), (4, .int (nI p0)), (3, .int (ePump (tE (pm1 U e0) e0))), (2, .int (nI (100 + h0))), (0, .ref (ad 5)), (1, .int (nI e0))] := hl
  refine lv_iload hx hb dX6_pump_69 (lv_at hl 1 rfl) ?_
  refine lv_iconst (v := (-1)) hx hb dX6_pump_71 (by decide) ?_
  refine lv_icmp_eq (tgt := 87) hx hb dX6_pump_72 (by decide) (fun c_3 => absurd c_3 (nI_m1 (by omega))) (fun c_3 => ?_)
  refine lv_aload_n hx hb dX6_pump_75 rfl (lv_at hl 4 rfl) ?_
  refine f_get X hw hMo fc7 5 (by decide) wq799 rfl (v := .ref (ad 7)) rfl dX6_pump_76 ?_
  refine lv_iload hx hb dX6_pump_79 (lv_at hl 1 rfl) ?_
  refine lv_dup2_11 hx hb dX6_pump_81 rfl rfl ?_
  refine f_iald X hw hm7 (vp_in_nI (n := p0) (by omega) (by omega)) dX6_pump_82 ?_
  rw [nI_clamp (n := p0) (by omega)]
  refine f_top (y := tP U p0 1) (rP p0 hp).2 ?_
  refine lv_iload hx hb dX6_pump_83 (lv_at hl 0 rfl) ?_
  refine lv_isub hx hb dX6_pump_85 ?_
  refine f_iast X hw hm7 (vp_in_nI (n := p0) (by omega) (by omega)) dX6_pump_86 (fun H locs hw => ?_)
  rw [nI_clamp (n := p0) (by omega)] at hw
  have hw : fw g ad (fU M12 7 (.inl (gI g, 6, .inl (upd wa p0 ((tP U p0 1) - (pmS U e0 p0)))))) s H locs := hw
  have hMo : (fU M12 7 (.inl (gI g, 6, .inl (upd wa p0 ((tP U p0 1) - (pmS U e0 p0)))))) 5 = some (.inr (7, [.int th, .int (nI (tHn U)), .int (nI (tPn U)), .int (nI (tEn U)), .ref (ad 6), .ref (ad 7), .ref (ad 8), .ref (ad 9), .ref (ad 10), .ref (ad 11), .ref (ad 12), .ref (ad 13), .ref (ad 14)])) := (fU_n (by omega)).trans hMo
  have hm6 : (fU M12 7 (.inl (gI g, 6, .inl (upd wa p0 ((tP U p0 1) - (pmS U e0 p0)))))) 6 = some (.inl (gI g, 6, .inl pcs)) := (fU_n (by omega)).trans hm6
  have hm8 : (fU M12 7 (.inl (gI g, 6, .inl (upd wa p0 ((tP U p0 1) - (pmS U e0 p0)))))) 8 = some (.inl (gI g, 210, .inl ht)) := (fU_n (by omega)).trans hm8
  have hm9 : (fU M12 7 (.inl (gI g, 6, .inl (upd wa p0 ((tP U p0 1) - (pmS U e0 p0)))))) 9 = some (.inl (gI g, 54, .inl et)) := (fU_n (by omega)).trans hm9
  have hm10 : (fU M12 7 (.inl (gI g, 6, .inl (upd wa p0 ((tP U p0 1) - (pmS U e0 p0)))))) 10 = some (.inl (gI g, 1, .inl mi)) := (fU_n (by omega)).trans hm10
  have hm11 : (fU M12 7 (.inl (gI g, 6, .inl (upd wa p0 ((tP U p0 1) - (pmS U e0 p0)))))) 11 = some (.inl (gI g, 6, .inl co)) := (fU_n (by omega)).trans hm11
  have hm12 : (fU M12 7 (.inl (gI g, 6, .inl (upd wa p0 ((tP U p0 1) - (pmS U e0 p0)))))) 12 = some (.inl (gZ g, 6, .inl as)) := (fU_n (by omega)).trans hm12
  have hm13 : (fU M12 7 (.inl (gI g, 6, .inl (upd wa p0 ((tP U p0 1) - (pmS U e0 p0)))))) 13 = some (.inl (gI g, 140, .inl sp)) := (fU_n (by omega)).trans hm13
  have hm14 : (fU M12 7 (.inl (gI g, 6, .inl (upd wa p0 ((tP U p0 1) - (pmS U e0 p0)))))) 14 = some (.inl (gZ g, 30, .inl ca)) := (fU_n (by omega)).trans hm14
  have hm7 : (fU M12 7 (.inl (gI g, 6, .inl (upd wa p0 ((tP U p0 1) - (pmS U e0 p0)))))) 7 = some (.inl (gI g, 6, .inl (upd wa p0 ((tP U p0 1) - (pmS U e0 p0))))) := fU_s
  have hM : isMo g ad (fU M12 7 (.inl (gI g, 6, .inl (upd wa p0 ((tP U p0 1) - (pmS U e0 p0)))))) th (pmW U e0 p0) sp ca := ⟨_, _, _, _, _, _, _, (fU_n (by omega)).trans (hMo), ⟨(fU_n (by omega)).trans (hm6), fU_s, (fU_n (by omega)).trans (hm8), (fU_n (by omega)).trans (hm9), (fU_n (by omega)).trans (hm10), (fU_n (by omega)).trans (hm11), (fU_n (by omega)).trans (hm12), (fU_n (by omega)).trans (hm13), (fU_n (by omega)).trans (hm14)⟩, mRel_W hRel hp, hCnt⟩
  have hrA : fReg 5 15 ad Mo ad (fU M12 7 (.inl (gI g, 6, .inl (upd wa p0 ((tP U p0 1) - (pmS U e0 p0)))))) := fReg_U hrA (by omega)
  obtain ⟨M13, eM13⟩ : ∃ z, z = (fU M12 7 (.inl (gI g, 6, .inl (upd wa p0 ((tP U p0 1) - (pmS U e0 p0)))))) := ⟨_, rfl⟩
  rw [← eM13] at hM hw hrA
  obtain ⟨pcs, wa, ht, et, mi, co, as, hMo, ⟨hm6, hm7, hm8, hm9, hm10, hm11, hm12, hm13, hm14⟩, hRel, hCnt⟩ := id hM
  obtain ⟨hn1, hn2, hn3⟩ := id hCnt
  have hn1 : tHn U ≤ 30 := hn1
  have hn2 : tPn U ≤ 6 := hn2
  have hn3 : tEn U ≤ 6 := hn3
  have hMo : M13 5 = some (.inr (7, [.int th, .int (nI (tHn U)), .int (nI (tPn U)), .int (nI (tEn U)), .ref (ad 6), .ref (ad 7), .ref (ad 8), .ref (ad 9), .ref (ad 10), .ref (ad 11), .ref (ad 12), .ref (ad 13), .ref (ad 14)])) := hMo
  obtain ⟨rH, rP, rE, rM⟩ := id hRel
  refine lv_iload_n hx hb dX6_pump_87 rfl (lv_at hl 2 rfl) ?_
  refine lv_aload_n hx hb dX6_pump_88 rfl (lv_at hl 4 rfl) ?_
  refine f_get X hw hMo fc7 9 (by decide) wq803 rfl (v := .ref (ad 11)) rfl dX6_pump_89 ?_
  refine lv_iload_n hx hb dX6_pump_92 rfl (lv_at hl 5 rfl) ?_
  refine f_iald X hw hm11 (vp_in_nI (n := e0) (by omega) (by omega)) dX6_pump_93 ?_
  rw [nI_clamp (n := e0) (by omega)]
  refine f_top (y := tE (pm1 U e0) e0 8) (rE e0 he).2.2.1 ?_
  refine lv_iload hx hb dX6_pump_94 (lv_at hl 0 rfl) ?_
  refine lv_iadd hx hb dX6_pump_96 ?_
  refine va_mmin hx hb (X.2.2.1.trans hl.1.symm) X.2.2.2.1 (X.2.2.2.2.1 _ wq996) (X.2.2.2.2.1 _ wq204) (X.2.2.2.2.1 _ wq18) (X.2.2.2.2.1 _ wq205) (Nat.le_of_ble_eq_true rfl) (Nat.le_of_ble_eq_true rfl) (Nat.zero_le _) (Nat.zero_le _) dX6_pump_97 ?_
  refine lv_istore (lv' := [(6, .int (if ((tE (pm1 U e0) e0 8) + (pmS U e0 p0)) < (ePump (tE (pm1 U e0) e0)) then ((tE (pm1 U e0) e0 8) + (pmS U e0 p0)) else (ePump (tE (pm1 U e0) e0)))), (5, .int (pmS U e0 p0)), (4, .int (nI p0)), (3, .int (ePump (tE (pm1 U e0) e0))), (2, .int (nI (100 + h0))), (0, .ref (ad 5)), (1, .int (nI e0))]) hx hb dX6_pump_100 hl (by decide) rfl (fun ls hl => ?_)
  have hl : lv_has ls 10 [(6, .int (pmG U e0 (pmS U e0 p0))), (5, .int (pmS U e0 p0)), (4, .int (nI p0)), (3, .int (ePump (tE (pm1 U e0) e0))), (2, .int (nI (100 + h0))), (0, .ref (ad 5)), (1, .int (nI e0))] := hl
  refine lv_iload_n hx hb dX6_pump_102 rfl (lv_at hl 4 rfl) ?_
  refine lv_bipush (v := 100) hx hb dX6_pump_103 (by decide) ?_
  refine lv_icmp_lt (tgt := 112) hx hb dX6_pump_105 (by decide) (fun c_4 => absurd (nI_lt' (a := 100 + h0) (b := 100) c_4 (by omega) (by omega)) (by omega)) (fun c_4 => ?_)
  have c_4 := nI_nlt' (a := (100 + h0)) (b := 100) c_4 (by omega) (by omega)
  refine lv_iconst (v := 1) hx hb dX6_pump_108 (by decide) ?_
  refine lv_goto (tgt := 113) hx hb dX6_pump_109 (by decide) ?_
  refine lv_istore (lv' := [(7, .int 1), (6, .int (pmG U e0 (pmS U e0 p0))), (5, .int (pmS U e0 p0)), (4, .int (nI p0)), (3, .int (ePump (tE (pm1 U e0) e0))), (2, .int (nI (100 + h0))), (0, .ref (ad 5)), (1, .int (nI e0))]) hx hb dX6_pump_113 hl (by decide) rfl (fun ls hl => ?_)
  refine lv_aload_n hx hb dX6_pump_115 rfl (lv_at hl 6 rfl) ?_
  refine lv_iload_n hx hb dX6_pump_116 rfl (lv_at hl 7 rfl) ?_
  refine lv_iconst (v := 0) hx hb dX6_pump_117 (by decide) ?_
  refine fk_di (fcV X hw (c_en l g ad M13 hM (e0 := e0) (k := 0) he rfl (by omega)) hMo rfl wq873 kVX6_en ⟨(Nat.le_of_ble_eq_true rfl), (Nat.le_of_ble_eq_true rfl)⟩ rfl hl.1 rfl (Nat.le_of_ble_eq_true rfl) dX6_pump_118 ⟨Nat.le_refl _, Nat.le_refl _⟩) hw (fun H locs hw => ?_)
  refine lv_iload hx hb dX6_pump_121 (lv_at hl 0 rfl) ?_
  refine lv_if_eq (tgt := 138) hx hb dX6_pump_123 (by decide) (fun c_5 => absurd c_5 (by decide)) (fun c_5 => ?_)
  refine lv_aload_n hx hb dX6_pump_126 rfl (lv_at hl 6 rfl) ?_
  refine lv_iload_n hx hb dX6_pump_127 rfl (lv_at hl 5 rfl) ?_
  refine lv_bipush (v := 100) hx hb dX6_pump_128 (by decide) ?_
  refine lv_isub hx hb dX6_pump_130 ?_
  refine f_top (y := nI h0) sub100 ?_
  refine lv_iconst (v := 0) hx hb dX6_pump_131 (by decide) ?_
  refine fk_di (fcV X hw (c_ho l g ad M13 hM (h0 := h0) (k := 0) hh rfl (by omega)) hMo rfl wq865 kVX6_ho ⟨(Nat.le_of_ble_eq_true rfl), (Nat.le_of_ble_eq_true rfl)⟩ rfl hl.1 rfl (Nat.le_of_ble_eq_true rfl) dX6_pump_132 ⟨Nat.le_refl _, Nat.le_refl _⟩) hw (fun H locs hw => ?_)
  refine lv_goto (tgt := 144) hx hb dX6_pump_135 (by decide) ?_
  refine fk_di (fcS X hw (c_far l g ad M13 (tE (pmW U e0 p0) e0 0) (tH (pmW U e0 p0) h0 0)) wq948 kSX6_far ⟨(Nat.le_of_ble_eq_true rfl), (Nat.le_of_ble_eq_true rfl)⟩ rfl hl.1 rfl (Nat.le_of_ble_eq_true rfl) dX6_pump_144 ⟨Nat.le_refl _, Nat.le_refl _⟩) hw (fun H locs hw => ?_)
  refine lv_istore (lv' := [(8, .int (aDist (tE (pmW U e0 p0) e0 0) (tH (pmW U e0 p0) h0 0))), (7, .int 1), (6, .int (pmG U e0 (pmS U e0 p0))), (5, .int (pmS U e0 p0)), (4, .int (nI p0)), (3, .int (ePump (tE (pm1 U e0) e0))), (2, .int (nI (100 + h0))), (0, .ref (ad 5)), (1, .int (nI e0))]) hx hb dX6_pump_147 hl (by decide) rfl (fun ls hl => ?_)
  refine lv_iload hx hb dX6_pump_149 (lv_at hl 2 rfl) ?_
  refine lv_iload hx hb dX6_pump_151 (lv_at hl 2 rfl) ?_
  refine lv_iload hx hb dX6_pump_153 (lv_at hl 0 rfl) ?_
  refine lv_iconst (v := 2) hx hb dX6_pump_155 (by decide) ?_
  refine lv_idiv hx hb dX6_pump_156 (by decide) ?_
  refine lv_imul hx hb dX6_pump_157 ?_
  refine lv_bipush (v := 10) hx hb dX6_pump_158 (by decide) ?_
  refine lv_idiv hx hb dX6_pump_160 (by decide) ?_
  refine lv_isub hx hb dX6_pump_161 ?_
  refine lv_istore (lv' := [(9, .int ((pmG U e0 (pmS U e0 p0)) - (((pmG U e0 (pmS U e0 p0)) * ((aDist (tE (pmW U e0 p0) e0 0) (tH (pmW U e0 p0) h0 0)) / 2)) / 10))), (8, .int (aDist (tE (pmW U e0 p0) e0 0) (tH (pmW U e0 p0) h0 0))), (7, .int 1), (6, .int (pmG U e0 (pmS U e0 p0))), (5, .int (pmS U e0 p0)), (4, .int (nI p0)), (3, .int (ePump (tE (pm1 U e0) e0))), (2, .int (nI (100 + h0))), (0, .ref (ad 5)), (1, .int (nI e0))]) hx hb dX6_pump_162 hl (by decide) rfl (fun ls hl => ?_)
  have hl : lv_has ls 10 [(9, .int (arrivesI (pmG U e0 (pmS U e0 p0)) (aDist (tE (pmW U e0 p0) e0 0) (tH (pmW U e0 p0) h0 0)))), (8, .int (aDist (tE (pmW U e0 p0) e0 0) (tH (pmW U e0 p0) h0 0))), (7, .int 1), (6, .int (pmG U e0 (pmS U e0 p0))), (5, .int (pmS U e0 p0)), (4, .int (nI p0)), (3, .int (ePump (tE (pm1 U e0) e0))), (2, .int (nI (100 + h0))), (0, .ref (ad 5)), (1, .int (nI e0))] := hl
  refine lv_aload_n hx hb dX6_pump_164 rfl (lv_at hl 8 rfl) ?_
  refine lv_iload_n hx hb dX6_pump_165 rfl (lv_at hl 9 rfl) ?_
  refine lv_bipush (v := 8) hx hb dX6_pump_166 (by decide) ?_
  refine lv_iload hx hb dX6_pump_168 (lv_at hl 3 rfl) ?_
  refine fk_mv (fcV X hw (c_setEn8 l g ad M13 hM (e0 := e0) he (pmG U e0 (pmS U e0 p0))) hMo rfl wq932 kVX6_setEn ⟨(Nat.le_of_ble_eq_true rfl), (Nat.le_of_ble_eq_true rfl)⟩ rfl hl.1 rfl (Nat.le_of_ble_eq_true rfl) dX6_pump_170 ⟨Nat.le_refl _, Nat.le_refl _⟩) hw (fun M14 H locs hM hr14 hw => ?_)
  have hrA := fReg_tr hrA hr14
  obtain ⟨pcs, wa, ht, et, mi, co, as, hMo, ⟨hm6, hm7, hm8, hm9, hm10, hm11, hm12, hm13, hm14⟩, hRel, hCnt⟩ := id hM
  obtain ⟨hn1, hn2, hn3⟩ := id hCnt
  have hn1 : tHn U ≤ 30 := hn1
  have hn2 : tPn U ≤ 6 := hn2
  have hn3 : tEn U ≤ 6 := hn3
  have hMo : M14 5 = some (.inr (7, [.int th, .int (nI (tHn U)), .int (nI (tPn U)), .int (nI (tEn U)), .ref (ad 6), .ref (ad 7), .ref (ad 8), .ref (ad 9), .ref (ad 10), .ref (ad 11), .ref (ad 12), .ref (ad 13), .ref (ad 14)])) := hMo
  obtain ⟨rH, rP, rE, rM⟩ := id hRel
  refine lv_iload hx hb dX6_pump_173 (lv_at hl 2 rfl) ?_
  refine lv_if_eq (tgt := 202) hx hb dX6_pump_175 (by decide) (fun c_6 => absurd c_6 (by decide)) (fun c_6 => ?_)
  refine lv_aload_n hx hb dX6_pump_178 rfl (lv_at hl 8 rfl) ?_
  refine lv_iload_n hx hb dX6_pump_179 rfl (lv_at hl 7 rfl) ?_
  refine lv_bipush (v := 100) hx hb dX6_pump_180 (by decide) ?_
  refine lv_isub hx hb dX6_pump_182 ?_
  refine f_top (y := nI h0) sub100 ?_
  refine lv_iconst (v := 5) hx hb dX6_pump_183 (by decide) ?_
  refine lv_aload_n hx hb dX6_pump_184 rfl (lv_at hl 8 rfl) ?_
  refine lv_iload_n hx hb dX6_pump_185 rfl (lv_at hl 7 rfl) ?_
  refine lv_bipush (v := 100) hx hb dX6_pump_186 (by decide) ?_
  refine lv_isub hx hb dX6_pump_188 ?_
  refine f_top (y := nI h0) sub100 ?_
  refine lv_iconst (v := 5) hx hb dX6_pump_189 (by decide) ?_
  refine fk_di (fcV X hw (c_ho l g ad M14 hM (h0 := h0) (k := 5) hh rfl (by omega)) hMo rfl wq865 kVX6_ho ⟨(Nat.le_of_ble_eq_true rfl), (Nat.le_of_ble_eq_true rfl)⟩ rfl hl.1 rfl (Nat.le_of_ble_eq_true rfl) dX6_pump_190 ⟨Nat.le_refl _, Nat.le_refl _⟩) hw (fun H locs hw => ?_)
  refine lv_iload hx hb dX6_pump_193 (lv_at hl 0 rfl) ?_
  refine lv_iadd hx hb dX6_pump_195 ?_
  refine fk_mv (fcV X hw (c_setHo l g ad M14 hM (h0 := h0) (k := 5) hh rfl (by omega) (tH (pmW U e0 p0) h0 5 + arrivesI (pmG U e0 (pmS U e0 p0)) (aDist (tE (pmW U e0 p0) e0 0) (tH (pmW U e0 p0) h0 0)))) hMo rfl wq890 kVX6_setHo ⟨(Nat.le_of_ble_eq_true rfl), (Nat.le_of_ble_eq_true rfl)⟩ rfl hl.1 rfl (Nat.le_of_ble_eq_true rfl) dX6_pump_196 ⟨Nat.le_refl _, Nat.le_refl _⟩) hw (fun M15 H locs hM hr15 hw => ?_)
  have hrA := fReg_tr hrA hr15
  obtain ⟨pcs, wa, ht, et, mi, co, as, hMo, ⟨hm6, hm7, hm8, hm9, hm10, hm11, hm12, hm13, hm14⟩, hRel, hCnt⟩ := id hM
  obtain ⟨hn1, hn2, hn3⟩ := id hCnt
  have hn1 : tHn U ≤ 30 := hn1
  have hn2 : tPn U ≤ 6 := hn2
  have hn3 : tEn U ≤ 6 := hn3
  have hMo : M15 5 = some (.inr (7, [.int th, .int (nI (tHn U)), .int (nI (tPn U)), .int (nI (tEn U)), .ref (ad 6), .ref (ad 7), .ref (ad 8), .ref (ad 9), .ref (ad 10), .ref (ad 11), .ref (ad 12), .ref (ad 13), .ref (ad 14)])) := hMo
  obtain ⟨rH, rP, rE, rM⟩ := id hRel
  refine lv_goto (tgt := 213) hx hb dX6_pump_199 (by decide) ?_
  rw [hQ9, ← hMq]
  exact f_vret X hw ⟨rfl, hM, hrA⟩ (Nat.le_refl _) (Nat.le_refl _) dX6_pump_213
